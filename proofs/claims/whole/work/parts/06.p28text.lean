/-! PURE: reading a text, both sides -/
section TEXT
variable {B : Int} {w v va w1 : Wd} {t a i : Nat} {T : Nat → Int} {L q : Nat}
def TT (T : Nat → Int) (L : Nat) : Prop := L ≤ 80 ∧ (∀ i, i < L → 1 ≤ T i ∧ T i ≤ 255) ∧ ∀ i, L ≤ i → T i = 0
def TX (w : Wd) (T : Nat → Int) (L : Nat) : Prop := w 17 0 0 = L ∧ ∀ i, i < L → w 18 0 i = T i
def TM (v : Wd) (T : Nat → Int) (L : Nat) : Prop := v 21 0 2 = L ∧ ∀ i, i < L → v 25 0 i = T i
def FrP (w w' : Wd) : Prop := ∀ c t i, c ≠ 19 → c ≠ 20 → w' c t i = w c t i
def FrQ (v v' : Wd) : Prop := ∀ c t i, c ≠ 26 → ¬ (c = 21 ∧ t = 0 ∧ i = 3) → v' c t i = v c t i
theorem FrP.rf : FrP w w := fun _ _ _ _ _ => rfl
theorem FrQ.rf : FrQ w w := fun _ _ _ _ _ => rfl
theorem FrP.tr {w2 : Wd} (h1 : FrP w w1) (h2 : FrP w1 w2) : FrP w w2 := fun c t i h h' => (h2 c t i h h').trans (h1 c t i h h')
theorem FrQ.tr {w2 : Wd} (h1 : FrQ w w1) (h2 : FrQ w1 w2) : FrQ w w2 := fun c t i h h' => (h2 c t i h h').trans (h1 c t i h h')
theorem FrP.ups {c : Nat} {x : Int} (h : FrP w w1) (hc : c = 19 ∨ c = 20) : FrP w (up w1 c t i x) := fun c' t' j h1 h2 => by
  rw [up_c (by omega)]
  exact h c' t' j h1 h2
theorem FrQ.u26 {x : Int} (h : FrQ w w1) : FrQ w (up w1 26 t i x) := fun c' t' j h1 h2 => by
  rw [up_c h1]
  exact h c' t' j h1 h2
theorem FrQ.u3 {x : Int} (h : FrQ w w1) : FrQ w (up w1 21 0 3 x) := fun c' t' j h1 h2 => by
  unfold up
  rw [if_neg h2]
  exact h c' t' j h1 h2
theorem TX.fr (h : TX w T L) (hf : FrP w w1) : TX w1 T L := ⟨by rw [hf 17 0 0 (by decide) (by decide)]; exact h.1, fun i hi => by rw [hf 18 0 i (by decide) (by decide)]; exact h.2 i hi⟩
theorem TM.fr (h : TM v T L) (hf : FrQ v w1) : TM w1 T L := ⟨by rw [hf 21 0 2 (by decide) (by decide)]; exact h.1, fun i hi => by rw [hf 25 0 i (by decide) (by omega)]; exact h.2 i hi⟩
theorem TT.in (h : TT T L) (hq : T q ≠ 0) : q < L := by
  by_cases e : q < L
  · exact e
  · exact absurd (h.2.2 q (by omega)) hq
theorem TT.b (h : TT T L) (q : Nat) : 0 ≤ T q ∧ T q ≤ 255 := by
  by_cases e : q < L
  · have := h.2.1 q e; omega
  · have := h.2.2 q (by omega); omega
theorem at_e (hT : TT T L) (hX : TX w T L) (q : Nat) : X6_at q w = some (T q, w) := by
  have h80 := hT.1
  have hx := hX.1
  unfold X6_at
  rw [if_neg (by omega)]
  by_cases h : q < L
  · rw [if_pos (by omega), if_pos (by omega), gd_t ⟨by omega, by omega⟩, show ((q : Nat) : Int).toNat = q from rfl, hX.2 q h]
  · rw [if_neg (by omega), hT.2.2 q (by omega)]
theorem dig_e (hT : TT T L) (hX : TX w T L) (q : Nat) : X6_hasDigitAt q w = some (if 48 ≤ T q ∧ T q ≤ 57 then 1 else 0, w) := by
  unfold X6_hasDigitAt
  rw [at_e hT hX, bd_t]
  by_cases h : T q < 48
  · rw [if_pos h, if_neg (by omega)]
  · rw [if_neg h, at_e hT hX, bd_t]
    by_cases h2 : 57 < T q
    · rw [if_pos h2, if_neg (by omega)]
    · rw [if_neg h2, if_pos (by omega)]
theorem passes_e (hT : TT T L) (hX : TX w T L) (hq : w 19 0 1 = q) (hqL : q ≤ L) (s : Int) : X1_passes s w = if T q = s then some (1, up w 19 0 1 (q + 1)) else some (0, w) := by
  have h80 := hT.1
  unfold X1_passes
  rw [hq, at_e hT hX, bd_t]
  by_cases h : T q = s
  · rw [if_pos h, if_pos h, hq, gd_t ⟨by omega, by omega⟩]
  · rw [if_neg h, if_neg h]
theorem up_up {c : Nat} {x y : Int} : up (up w c t i x) c t i y = up w c t i y := by
  funext c' t' i'
  unfold up
  split <;> rfl
/-- a number of one or two digits: its worth and its end -/
def nva (T : Nat → Int) (q : Nat) : Int := if 0 < T q - 48 ∧ 48 ≤ T (q + 1) ∧ T (q + 1) ≤ 57 then (T q - 48) * 10 + T (q + 1) - 48 else T q - 48
def nxt (T : Nat → Int) (q : Nat) : Nat := if 0 < T q - 48 ∧ 48 ≤ T (q + 1) ∧ T (q + 1) ≤ 57 then q + 2 else q + 1
theorem readNumber_e (hT : TT T L) (hX : TX w T L) (hq : w 19 0 1 = q) (hd : 48 ≤ T q ∧ T q ≤ 57) : X1_readNumber w = some (nva T q, up w 19 0 1 (nxt T q)) := by
  have h80 := hT.1
  have hqL := hT.in (q := q) (by omega)
  have hb := hT.b (q + 1)
  have hX2 : TX (up w 19 0 1 (q + 1)) T L := hX.fr (FrP.rf.ups (Or.inl rfl))
  unfold X1_readNumber nva nxt
  rw [hq, at_e hT hX, bd_t, hq, gd_t ⟨by omega, by omega⟩, gd_t ⟨by omega, by omega⟩]
  by_cases h0 : 0 < T q - 48
  · rw [if_pos h0, up_h rfl, show ((q : Nat) : Int) + 1 = ((q + 1 : Nat) : Int) by omega]
    rw [show ((q : Nat) : Int) + 1 = ((q + 1 : Nat) : Int) by omega] at hX2
    rw [dig_e hT hX2, bd_t]
    by_cases h1 : 48 ≤ T (q + 1) ∧ T (q + 1) ≤ 57
    · rw [if_pos h1, if_neg (by decide), gd_t ⟨by omega, by omega⟩, up_h rfl, at_e hT hX2, bd_t, up_h rfl, gd_t ⟨by omega, by omega⟩, gd_t ⟨by omega, by omega⟩, gd_t ⟨by omega, by omega⟩, up_up, if_pos ⟨h0, h1⟩, if_pos ⟨h0, h1⟩, show ((q + 1 : Nat) : Int) + 1 = ((q + 2 : Nat) : Int) by omega]
    · rw [if_neg h1, if_pos rfl, if_neg (fun z => h1 z.2), if_neg (fun z => h1 z.2)]
  · rw [if_neg h0, if_neg (fun z => h0 z.1), if_neg (fun z => h0 z.1)]
    rfl
theorem isAt8_e (hT : TT T L) (hM : TM v T L) (hq : v 21 0 3 = q) {x y : Int} (hx : 1 ≤ x) : X8_isAt x y v = some (if x ≤ T q ∧ T q ≤ y then 1 else 0, v) := by
  have h80 := hT.1
  unfold X8_isAt
  rw [hq, hM.1]
  by_cases h : q < L
  · rw [if_pos (by omega), gd_t ⟨by omega, by omega⟩, show ((q : Nat) : Int).toNat = q from rfl, hM.2 q h, in8_e, bd_t]
    by_cases h2 : x ≤ T q ∧ T q ≤ y
    · rw [if_pos h2, if_neg (by decide)]
    · rw [if_neg h2, if_pos rfl]
  · have := hT.2.2 q (by omega)
    rw [if_neg (by omega), if_neg (by omega)]
/-- behind the digits -/
theorem b91_e (hT : TT T L) (hM : TM v T L) {e : Nat} (he : v 21 0 3 = e) (heL : e ≤ L) (hne : e ≠ q) {s : Int} (hs : 1 ≤ s) : X8_number_b91 s q v = if T e = s then some (1, up v 21 0 3 (e + 1)) else some (0, v) := by
  have h80 := hT.1
  unfold X8_number_b91
  rw [if_neg (by omega), isAt8_e hT hM he hs, bd_t]
  by_cases h : T e = s
  · rw [if_pos (show s ≤ T e ∧ T e ≤ s by omega), if_neg (show ¬ (1 : Int) = 0 by decide), he, gd_t ⟨by omega, by omega⟩, if_pos h]
  · rw [if_neg (show ¬ (s ≤ T e ∧ T e ≤ s) by omega), if_pos rfl, if_neg h]
theorem number8_e (hT : TT T L) (hM : TM v T L) (hq : v 21 0 3 = q) (hqL : q ≤ L) {x : Nat} (hx : x < 3) {s : Int} (hs : 1 ≤ s ∧ ¬ (48 ≤ s ∧ s ≤ 57)) : ∃ v', FrQ v v' ∧ (∀ j, j ≠ x → v' 26 0 j = v 26 0 j) ∧ ((¬ (48 ≤ T q ∧ T q ≤ 57) ∧ X8_number x s v = some (0, v') ∧ v' 21 0 3 = q) ∨ ((48 ≤ T q ∧ T q ≤ 57) ∧ v' 26 0 x = nva T q ∧ ((T (nxt T q) = s ∧ X8_number x s v = some (1, v') ∧ v' 21 0 3 = (nxt T q : Nat) + 1) ∨ (T (nxt T q) ≠ s ∧ X8_number x s v = some (0, v') ∧ v' 21 0 3 = (nxt T q : Nat))))) := by
  have h80 := hT.1
  obtain ⟨v0, hv0⟩ : ∃ v0, v0 = up v 26 0 x 0 := ⟨_, rfl⟩
  have f0 : FrQ v v0 := by rw [hv0]; exact FrQ.rf.u26
  have q0 : v0 21 0 3 = q := by rw [hv0, up_c (by decide)]; exact hq
  have n0 : ∀ j, j ≠ x → v0 26 0 j = v 26 0 j := fun j hj => by rw [hv0, up_n hj]
  have z0 : v0 26 0 x = 0 := by rw [hv0, up_h rfl]
  have hM0 := hM.fr f0
  have st : X8_number x s v = X8_number_b12 LF x s q v0 := by
    unfold X8_number
    rw [gd_t ⟨by omega, by omega⟩, hq, show ((x : Nat) : Int).toNat = x from rfl, ← hv0]
  rw [show LF = 9997 + 1 + 1 + 1 from rfl] at st
  by_cases hd : 48 ≤ T q ∧ T q ≤ 57
  case neg =>
    refine ⟨v0, f0, n0, Or.inl ⟨hd, ?_, q0⟩⟩
    rw [st, X8_number_b12, isAt8_e hT hM0 q0 (by decide), if_neg hd, bd_t, if_pos rfl]
    unfold X8_number_b91
    rw [if_pos q0]
  have hqL2 := hT.in (q := q) (by omega)
  have hb := hT.b (q + 1)
  obtain ⟨v1, hv1⟩ : ∃ v1, v1 = up (up v0 26 0 x (T q - 48)) 21 0 3 (q + 1) := ⟨_, rfl⟩
  have f1 : FrQ v0 v1 := by rw [hv1]; exact FrQ.rf.u26.u3
  have q1 : v1 21 0 3 = ((q + 1 : Nat) : Int) := by rw [hv1, up_h rfl]; omega
  have n1 : ∀ j, j ≠ x → v1 26 0 j = v 26 0 j := fun j hj => by rw [hv1, up_c (by decide), up_n hj, n0 j hj]
  have z1 : v1 26 0 x = T q - 48 := by rw [hv1, up_c (by decide), up_h rfl]
  have hM1 := hM0.fr f1
  have s1 : X8_number x s v = X8_number_b12 (9997 + 1 + 1) x s q v1 := by
    rw [st, X8_number_b12, isAt8_e hT hM0 q0 (by decide), if_pos hd, bd_t, if_neg (by decide), q0, gd_t ⟨by omega, by omega⟩, if_pos (by omega), if_pos rfl]
    unfold X8_number_b50
    rw [show ((x : Nat) : Int).toNat = x from rfl, z0, q0, show ((q : Nat) : Int).toNat = q from rfl, hM0.2 q hqL2]
    rw [up_c (show (21 : Nat) ≠ 26 by decide), q0]
    rw [gd_t ⟨by omega, by omega⟩, gd_t ⟨by omega, by omega⟩, gd_t ⟨by omega, by omega⟩, gd_t ⟨by omega, by omega⟩, gd_t ⟨by omega, by omega⟩, gd_t ⟨by omega, by omega⟩]
    rw [show 10 * 0 + T q - 48 = T q - 48 by omega, ← hv1]
  by_cases h2 : 0 < T q - 48 ∧ 48 ≤ T (q + 1) ∧ T (q + 1) ≤ 57
  · have hqL3 := hT.in (q := q + 1) (by omega)
    have enx : nxt T q = q + 2 := if_pos h2
    have env : nva T q = (T q - 48) * 10 + T (q + 1) - 48 := if_pos h2
    obtain ⟨v2, hv2⟩ : ∃ v2, v2 = up (up v1 26 0 x (10 * (T q - 48) + T (q + 1) - 48)) 21 0 3 (((q + 1 : Nat) : Int) + 1) := ⟨_, rfl⟩
    have f2 : FrQ v1 v2 := by rw [hv2]; exact FrQ.rf.u26.u3
    have q2 : v2 21 0 3 = ((q + 2 : Nat) : Int) := by rw [hv2, up_h rfl]; omega
    have n2 : ∀ j, j ≠ x → v2 26 0 j = v 26 0 j := fun j hj => by rw [hv2, up_c (by decide), up_n hj, n1 j hj]
    have z2 : v2 26 0 x = nva T q := by rw [hv2, up_c (by decide), up_h rfl, env]; omega
    have hM2 := hM1.fr f2
    have s2 : X8_number x s v = X8_number_b12 (9997 + 1) x s q v2 := by
      rw [s1, X8_number_b12, isAt8_e hT hM1 q1 (by decide), if_pos h2.2, bd_t, if_neg (by decide), q1, gd_t ⟨by omega, by omega⟩, if_pos (by omega), if_neg (by omega), gd_t ⟨by omega, by omega⟩, show ((x : Nat) : Int).toNat = x from rfl, z1, if_pos h2.1]
      unfold X8_number_b50
      rw [show ((x : Nat) : Int).toNat = x from rfl, z1, q1, show ((q + 1 : Nat) : Int).toNat = q + 1 from rfl, hM1.2 (q + 1) hqL3]
      rw [up_c (show (21 : Nat) ≠ 26 by decide), q1]
      rw [gd_t ⟨by omega, by omega⟩, gd_t ⟨by omega, by omega⟩, gd_t ⟨by omega, by omega⟩, gd_t ⟨by omega, by omega⟩, gd_t ⟨by omega, by omega⟩, gd_t ⟨by omega, by omega⟩, ← hv2]
    have s3 : X8_number x s v = X8_number_b91 s q v2 := by
      rw [s2, X8_number_b12, isAt8_e hT hM2 q2 (by decide), bd_t]
      by_cases h3 : 48 ≤ T (q + 2) ∧ T (q + 2) ≤ 57
      · rw [if_pos h3, if_neg (by decide), q2, gd_t ⟨by omega, by omega⟩, if_neg (by omega)]
      · rw [if_neg h3, if_pos rfl]
    rw [b91_e hT hM2 q2 (by omega) (by omega) hs.1] at s3
    rw [enx]
    by_cases h4 : T (q + 2) = s
    · rw [if_pos h4] at s3
      refine ⟨_, (f0.tr (f1.tr f2)).u3, fun j hj => by rw [up_c (by decide)]; exact n2 j hj, Or.inr ⟨hd, by rw [up_c (by decide)]; exact z2, Or.inl ⟨h4, s3, up_h rfl⟩⟩⟩
    · rw [if_neg h4] at s3
      exact ⟨v2, f0.tr (f1.tr f2), n2, Or.inr ⟨hd, z2, Or.inr ⟨h4, s3, q2⟩⟩⟩
  · have enx : nxt T q = q + 1 := if_neg h2
    have env : nva T q = T q - 48 := if_neg h2
    have s3 : X8_number x s v = X8_number_b91 s q v1 := by
      rw [s1, X8_number_b12, isAt8_e hT hM1 q1 (by decide), bd_t]
      by_cases h3 : 48 ≤ T (q + 1) ∧ T (q + 1) ≤ 57
      · rw [if_pos h3, if_neg (by decide), q1, gd_t ⟨by omega, by omega⟩, if_pos (by omega), if_neg (by omega), gd_t ⟨by omega, by omega⟩, show ((x : Nat) : Int).toNat = x from rfl, z1, if_neg (fun z => h2 ⟨z, h3⟩)]
      · rw [if_neg h3, if_pos rfl]
    rw [b91_e hT hM1 q1 (by omega) (by omega) hs.1] at s3
    rw [enx, env]
    by_cases h4 : T (q + 1) = s
    · rw [if_pos h4] at s3
      refine ⟨_, (f0.tr f1).u3, fun j hj => by rw [up_c (by decide)]; exact n1 j hj, Or.inr ⟨hd, by rw [up_c (by decide)]; exact z1, Or.inl ⟨h4, s3, up_h rfl⟩⟩⟩
    · rw [if_neg h4] at s3
      exact ⟨v1, f0.tr f1, n1, Or.inr ⟨hd, z1, Or.inr ⟨h4, s3, q1⟩⟩⟩
theorem nxt_b (hT : TT T L) (hd : 48 ≤ T q ∧ T q ≤ 57) : q < nxt T q ∧ nxt T q ≤ L := by
  have h1 := hT.in (q := q) (by omega)
  unfold nxt
  split
  · rename_i h
    have := hT.in (q := q + 1) (by omega)
    omega
  · omega
/-- numbers read on both sides; then the call -/
def dW (st lt : Int) (v : Wd) : Option (Int × Wd) := bd (X8_does lt v) fun r13 w14 => if r13 < 0 then (some (st, w14)) else (some ((-9), w14))
theorem nums_l (hT : TT T L) {st lt : Int} {x3 : Nat} (h3 : x3 ≤ 3) : ∀ (r n n' x4 q : Nat) (w v : Wd), x4 + r + 1 = x3 → r < n → r + 1 < n' → TX w T L → TM v T L → w 19 0 1 = q → v 21 0 3 = q → q ≤ L → (∀ j, j < x4 → v 26 0 j = w 20 0 j) → ∃ (w' v' : Wd) (e : Nat), FrP w w' ∧ FrQ v v' ∧ w' 19 0 1 = e ∧ v' 21 0 3 = e ∧ w' 19 0 0 = w 19 0 0 ∧ q ≤ e ∧ e ≤ L ∧ ((X1_readFrom_b67 (X1_readFrom_b38 n) x3 x4 w = some (0, w') ∧ X8_doesOne_b71 n' st lt x3 x4 v = some ((e : Int), v')) ∨ (X1_readFrom_b67 (X1_readFrom_b38 n) x3 x4 w = some (1, w') ∧ X8_doesOne_b71 n' st lt x3 x4 v = dW st lt v' ∧ q < e ∧ ∀ j, j < x3 → v' 26 0 j = w' 20 0 j)) := by
  have h80 := hT.1
  intro r
  induction r with
  | zero =>
    intro n n' x4 q w v hr hn hn' hX hM hq hq' hqL hj
    match n, n', hn, hn' with
    | n + 1, n' + 2, _, _ =>
      obtain ⟨v1, k1, k2, k3⟩ := number8_e hT hM hq' hqL (x := x4) (by omega) (s := 59) (by decide)
      rw [X8_doesOne_b71]
      unfold X1_readFrom_b67
      rw [if_pos (show (x4 : Int) < x3 by omega), gd_t ⟨by omega, by omega⟩, if_pos (by omega), hq, dig_e hT hX, bd_t]
      rcases k3 with ⟨m1, m2, m3⟩ | ⟨m1, m2, m3⟩
      · refine ⟨w, v1, q, FrP.rf, k1, hq, m3, rfl, Nat.le_refl _, hqL, Or.inl ⟨?_, ?_⟩⟩
        · rw [if_neg m1, if_pos rfl]
        · rw [m2, bd_t, if_pos rfl, m3]
      · obtain ⟨b1, b2⟩ := nxt_b hT m1
        obtain ⟨wa, hwa⟩ : ∃ wa, wa = up (up w 19 0 1 (nxt T q)) 20 0 x4 (nva T q) := ⟨_, rfl⟩
        have fa : FrP w wa := by rw [hwa]; exact (FrP.rf.ups (Or.inl rfl)).ups (Or.inr rfl)
        have qa : wa 19 0 1 = (nxt T q : Nat) := by rw [hwa, up_c (by decide), up_h rfl]
        have la : wa 19 0 0 = w 19 0 0 := by rw [hwa, up_c (by decide), up_n (by decide)]
        have na : ∀ j, j < x3 → v1 26 0 j = wa 20 0 j := fun j hjj => by
          rw [hwa]
          by_cases e : j = x4
          · rw [up_h e, e, m2]
          · rw [up_n e, up_c (by decide), k2 j e, hj j (by omega)]
        have cl : X1_readFrom_b67 (X1_readFrom_b38 (n + 1)) x3 x4 w = if T (nxt T q) = 59 then some (1, up wa 19 0 1 ((nxt T q : Nat) + 1)) else some (0, wa) := by
          unfold X1_readFrom_b67
          rw [hq, dig_e hT hX, if_pos m1, bd_t, if_neg (by decide), readNumber_e hT hX hq m1, bd_t, gd_t ⟨by omega, by omega⟩, gd_t ⟨by omega, by omega⟩, show ((x4 : Nat) : Int).toNat = x4 from rfl, ← hwa, X1_readFrom_b38, if_neg (by omega), passes_e hT (hX.fr fa) qa b2]
          by_cases h : T (nxt T q) = 59
          · rw [if_pos h, bd_t, gd_t (Or.inr rfl)]
          · rw [if_neg h, bd_t, gd_t (Or.inl rfl)]
        unfold X1_readFrom_b67 at cl
        rw [hq, dig_e hT hX, bd_t] at cl
        rw [cl]
        rcases m3 with ⟨y1, y2, y3⟩ | ⟨y1, y2, y3⟩
        · refine ⟨up wa 19 0 1 ((nxt T q : Nat) + 1), v1, nxt T q + 1, fa.ups (Or.inl rfl), k1, by rw [up_h rfl]; rfl, by rw [y3]; rfl, by rw [up_n (by decide), la], by omega, ?_, Or.inr ⟨by rw [if_pos y1], ?_, by omega, fun j hjj => by rw [up_c (by decide)]; exact na j hjj⟩⟩
          · have := hT.in (q := nxt T q) (by omega)
            omega
          · rw [y2, bd_t, if_neg (by decide), gd_t ⟨by omega, by omega⟩, X8_doesOne_b71, if_neg (by omega)]
            rfl
        · refine ⟨wa, v1, nxt T q, fa, k1, qa, y3, la, by omega, b2, Or.inl ⟨by rw [if_neg y1], ?_⟩⟩
          rw [y2, bd_t, if_pos rfl, y3]
  | succ r ih =>
    intro n n' x4 q w v hr hn hn' hX hM hq hq' hqL hj
    match n, n', hn, hn' with
    | n + 1, n' + 1, hn, hn' =>
      obtain ⟨v1, k1, k2, k3⟩ := number8_e hT hM hq' hqL (x := x4) (by omega) (s := 44) (by decide)
      rw [X8_doesOne_b71]
      rw [if_pos (show (x4 : Int) < x3 by omega), gd_t ⟨by omega, by omega⟩, if_neg (by omega)]
      rcases k3 with ⟨m1, m2, m3⟩ | ⟨m1, m2, m3⟩
      · refine ⟨w, v1, q, FrP.rf, k1, hq, m3, rfl, Nat.le_refl _, hqL, Or.inl ⟨?_, ?_⟩⟩
        · unfold X1_readFrom_b67
          rw [hq, dig_e hT hX, bd_t, if_neg m1, if_pos rfl]
        · rw [m2, bd_t, if_pos rfl, m3]
      · obtain ⟨b1, b2⟩ := nxt_b hT m1
        obtain ⟨wa, hwa⟩ : ∃ wa, wa = up (up w 19 0 1 (nxt T q)) 20 0 x4 (nva T q) := ⟨_, rfl⟩
        have fa : FrP w wa := by rw [hwa]; exact (FrP.rf.ups (Or.inl rfl)).ups (Or.inr rfl)
        have qa : wa 19 0 1 = (nxt T q : Nat) := by rw [hwa, up_c (by decide), up_h rfl]
        have la : wa 19 0 0 = w 19 0 0 := by rw [hwa, up_c (by decide), up_n (by decide)]
        have na : ∀ j, j < x4 + 1 → v1 26 0 j = wa 20 0 j := fun j hjj => by
          rw [hwa]
          by_cases e : j = x4
          · rw [up_h e, e, m2]
          · rw [up_n e, up_c (by decide), k2 j e, hj j (by omega)]
        have hXa := hX.fr fa
        have cl : X1_readFrom_b67 (X1_readFrom_b38 (n + 1)) x3 x4 w = if T (nxt T q) = 44 then X1_readFrom_b67 (X1_readFrom_b38 n) x3 ((x4 + 1 : Nat) : Int) (up wa 19 0 1 ((nxt T q : Nat) + 1)) else some (0, wa) := by
          rw [show X1_readFrom_b67 (X1_readFrom_b38 (n + 1)) x3 x4 w = X1_readFrom_b38 (n + 1) x3 ((x4 : Int) + 1) wa by
            unfold X1_readFrom_b67
            rw [hq, dig_e hT hX, if_pos m1, bd_t, if_neg (by decide), readNumber_e hT hX hq m1, bd_t, gd_t ⟨by omega, by omega⟩, gd_t ⟨by omega, by omega⟩, show ((x4 : Nat) : Int).toNat = x4 from rfl, ← hwa]]
          rw [X1_readFrom_b38, if_pos (by omega), if_pos (by omega), if_pos (by omega), passes_e hT hXa qa b2]
          by_cases h : T (nxt T q) = 44
          · rw [if_pos h, bd_t, if_neg (by decide), if_pos h]
            rfl
          · rw [if_neg h, bd_t, if_pos rfl, if_neg h]
        rw [cl]
        rcases m3 with ⟨y1, y2, y3⟩ | ⟨y1, y2, y3⟩
        · have hin := hT.in (q := nxt T q) (by omega)
          obtain ⟨w', v', e, g1, g2, g3, g4, g5, g6, g7, g8⟩ := ih n n' (x4 + 1) (nxt T q + 1) (up wa 19 0 1 ((nxt T q : Nat) + 1)) v1 (by omega) (by omega) (by omega) (hXa.fr (FrP.rf.ups (Or.inl rfl))) (hM.fr k1) (by rw [up_h rfl]; rfl) (by rw [y3]; rfl) (by omega) (fun j hjj => by rw [up_c (by decide)]; exact na j hjj)
          refine ⟨w', v', e, (fa.ups (Or.inl rfl)).tr g1, k1.tr g2, g3, g4, by rw [g5, up_n (by decide), la], by omega, g7, ?_⟩
          rw [if_pos y1, y2, bd_t, if_neg (by decide), gd_t ⟨by omega, by omega⟩]
          rw [show ((x4 + 1 : Nat) : Int) = (x4 : Int) + 1 by omega] at g8 ⊢
          exact g8.imp (fun z => z) (fun z => ⟨z.1, z.2.1, by omega, z.2.2.2⟩)
        · refine ⟨wa, v1, nxt T q, fa, k1, qa, y3, la, by omega, b2, Or.inl ⟨by rw [if_neg y1], ?_⟩⟩
          rw [y2, bd_t, if_pos rfl, y3]
end TEXT
