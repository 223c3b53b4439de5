/-! PURE: named and garbage, both sides -/
section NAMED
variable {B : Int} {w v va w1 : Wd} {t a i : Nat}
def sn (T : Nat → Int) (y : Int) : Nat → Int
  | 0 => 1
  | i + 1 => if T i = y then 0 else sn T y i
theorem sn_01 (T : Nat → Int) (y : Int) : ∀ i, sn T y i = 0 ∨ sn T y i = 1
  | 0 => Or.inr rfl
  | i + 1 => by
    show (if T i = y then 0 else sn T y i) = 0 ∨ (if T i = y then 0 else sn T y i) = 1
    split
    · exact Or.inl rfl
    · exact sn_01 T y i
def Tg (w : Wd) (j : Nat) : Int := w 3 0 (w 15 0 j).toNat
theorem sn_sum (T : Nat → Int) (n : Nat) : 0 ≤ sm (fun j => sn T (T j) j) n ∧ sm (fun j => sn T (T j) j) n ≤ n := by
  refine ⟨sm_nonneg n (fun i _ => ?_), ?_⟩
  · show 0 ≤ sn T (T i) i
    rcases sn_01 T (T i) i with e | e <;> omega
  · have := sm_le (f := fun j => sn T (T j) j) (b := 1) n (fun i _ => by
      show sn T (T i) i ≤ 1
      rcases sn_01 T (T i) i with e | e <;> omega)
    omega
theorem diff_c : ∀ (n p : Nat) (w : Wd), p ≤ 40 → 40 - p < n → ∃ w1, X4_differentThings_b2 0 n p w = X4_differentThings_b25 0 LF 0 0 w1 ∧ (∀ c t i, ¬ (c = 16) → w1 c t i = w c t i) ∧ ∀ i, w1 16 0 i = if p ≤ i ∧ i < 40 then 0 else w 16 0 i := by
  intro n
  induction n with
  | zero => intro p w h1 h2; omega
  | succ n ih =>
    intro p w h1 h2
    rw [X4_differentThings_b2]
    by_cases h3 : p < 40
    · obtain ⟨w1, g1, g2, g3⟩ := ih (p + 1) (up w 16 0 p 0) (by omega) (by omega)
      refine ⟨w1, ?_, fun c t i hn => ?_, fun i => ?_⟩
      · rw [if_pos (by omega), gd_t ⟨by omega, by omega⟩, gd_t ⟨by omega, by omega⟩]
        exact g1
      · rw [g2 c t i hn, up_c hn]
      · rw [g3]
        by_cases e : p + 1 ≤ i ∧ i < 40
        · rw [if_pos e, if_pos ⟨by omega, e.2⟩]
        · rw [if_neg e]
          by_cases e2 : i = p
          · rw [up_h e2, if_pos (by omega)]
          · rw [up_n e2, if_neg (by omega)]
    · refine ⟨w, ?_, fun _ _ _ _ => rfl, fun i => ?_⟩
      · rw [if_neg (by omega)]
      · rw [if_neg (by omega)]
theorem diff_l {m : Nat} (hm : m ≤ 188) : ∀ (n p : Nat) (w : Wd), Iv B 8 (-1) w 0 → w 13 0 0 = m → (∀ j, j < m → prs w 0 (w 15 0 j)) → (∀ y : Nat, y < 40 → w 16 0 y = 1 - sn (Tg w) y p) → p ≤ m → m - p < n → ∃ w1, X4_differentThings_b25 0 n (sm (fun j => sn (Tg w) (Tg w j) j) p) p w = some (sm (fun j => sn (Tg w) (Tg w j) j) m, w1) ∧ ∀ c t i, ¬ (c = 16) → w1 c t i = w c t i := by
  intro n
  induction n with
  | zero => intro p w hI h13 h15 h16 h1 h2; omega
  | succ n ih =>
    intro p w hI h13 h15 h16 h1 h2
    have hA := hI.A
    unfold IvA at hA
    rw [X4_differentThings_b25]
    by_cases h3 : p < m
    · have hp := h15 p h3
      have hl := hp.lt
      have hS := ((hI.S (w 15 0 p).toNat (by omega)).2.2 hp.2.2).2
      obtain ⟨q, hq⟩ : ∃ q : Nat, (q : Int) = Tg w p := ⟨(Tg w p).toNat, by unfold Tg; omega⟩
      have hq40 : q < 40 := by unfold Tg at hq; omega
      have h16q := h16 q hq40
      have hsum := sn_sum (Tg w) p
      have hs : sm (fun j => sn (Tg w) (Tg w j) j) (p + 1) = sm (fun j => sn (Tg w) (Tg w j) j) p + sn (Tg w) (Tg w p) p := rfl
      have hsn : ∀ y : Int, sn (Tg w) y (p + 1) = if Tg w p = y then 0 else sn (Tg w) y p := fun y => rfl
      have e3 : w 3 0 (w 15 0 p).toNat = q := by rw [hq]; rfl
      rw [if_pos (by omega), if_pos (by omega), gd_t ⟨by omega, by omega⟩, show ((p : Nat) : Int).toNat = p from rfl, thingAt_1 hl hp.2.2, bd_t, e3, if_neg (by omega), if_pos (by omega), gd_t ⟨by omega, by omega⟩, show ((q : Nat) : Int).toNat = q from rfl]
      rw [← hq] at hs
      have hno : ∀ {w' : Wd}, (∀ c t i, ¬ (c = 16) → w' c t i = w c t i) → Tg w' = Tg w ∧ Iv B 8 (-1) w' 0 ∧ w' 13 0 0 = m ∧ ∀ j, j < m → prs w' 0 (w' 15 0 j) := fun {w'} h => by
        have hag : Ag w 0 w' 0 := Ag.of (fun c hc i => h c 0 i (by omega))
        refine ⟨?_, hI.cg hag, by rw [h 13 0 0 (by decide)]; exact h13, fun j hj => ?_⟩
        · funext j
          unfold Tg
          rw [h 15 0 j (by decide), h 3 0 _ (by decide)]
        · rw [h 15 0 j (by decide), hag.pr]
          exact h15 j hj
      by_cases h5 : w 16 0 q = 0
      · have s1 : sn (Tg w) q p = 1 := by omega
        have hup : ∀ c t i, ¬ (c = 16) → (up w 16 0 q 1) c t i = w c t i := fun c t i hc => up_c hc
        obtain ⟨u1, u2, u3, u4⟩ := hno hup
        obtain ⟨w1, g1, g2⟩ := ih (p + 1) (up w 16 0 q 1) u2 u3 u4 (fun y hy => by
          rw [u1, hsn]
          by_cases e : y = q
          · rw [up_h e, if_pos (by rw [← hq, e])]
            decide
          · rw [up_n e, if_neg (by omega)]
            exact h16 y hy) (by omega) (by omega)
        rw [u1, hs, s1, show ((p + 1 : Nat) : Int) = (p : Int) + 1 by omega] at g1
        refine ⟨w1, ?_, fun c t i hc => (g2 c t i hc).trans (hup c t i hc)⟩
        rw [if_pos h5, gd_t ⟨by omega, by omega⟩, gd_t ⟨by omega, by omega⟩]
        exact g1
      · have s0 : sn (Tg w) q p = 0 := by
          rcases sn_01 (Tg w) q p with e | e
          · exact e
          · omega
        obtain ⟨w1, g1, g2⟩ := ih (p + 1) w hI h13 h15 (fun y hy => by
          rw [hsn]
          by_cases e : y = q
          · rw [if_pos (by rw [← hq, e]), e, h16q, s0]
          · rw [if_neg (by omega)]
            exact h16 y hy) (by omega) (by omega)
        rw [hs, s0, Int.add_zero, show ((p + 1 : Nat) : Int) = (p : Int) + 1 by omega] at g1
        refine ⟨w1, ?_, g2⟩
        rw [if_neg h5, gd_t ⟨by omega, by omega⟩]
        exact g1
    · refine ⟨w, ?_, fun _ _ _ _ => rfl⟩
      rw [if_neg (by omega), show p = m by omega]
theorem named_i {T : Nat → Int} {m : Nat} (hm : m ≤ 188) (hT : ∀ j, j < m → 0 ≤ v 28 0 j ∧ v 28 0 j < 188 ∧ v 22 0 (185 + 5 * (v 28 0 j).toNat) = T j + 1) {K : Int → Int → Wd → Option (Int × Wd)} {x2 : Int} (hx2 : 0 ≤ x2 ∧ x2 ≤ 1000) {q : Nat} (hq : q < m) : ∀ (n p : Nat), p ≤ q → q - p < n → X8_named_b48 K n x2 q (sn T (T q) p) p v = K (x2 + sn T (T q) q) (q + 1) v := by
  intro n
  induction n with
  | zero => intro p h1 h2; omega
  | succ n ih =>
    intro p h1 h2
    have hsn : sn T (T q) (p + 1) = if T p = T q then 0 else sn T (T q) p := rfl
    rw [X8_named_b48]
    by_cases h3 : p < q
    · have ih2 := ih (p + 1) (by omega) (by omega)
      rw [hsn, show ((p + 1 : Nat) : Int) = (p : Int) + 1 by omega] at ih2
      rw [if_pos (by omega)]
      rcases sn_01 T (T q) p with e | e
      · rw [e, if_pos rfl, gd_t ⟨by omega, by omega⟩]
        rw [e] at ih2
        rw [← ih2]
        congr 1
        split <;> rfl
      · obtain ⟨a1, a2, a3⟩ := hT p (by omega)
        obtain ⟨b1, b2, b3⟩ := hT q hq
        have z : ∀ j, 185 + 5 * (v 28 0 j).toNat + (0 : Int).toNat = 185 + 5 * (v 28 0 j).toNat := fun j => rfl
        rw [e, if_neg (by decide), gd_t ⟨by omega, by omega⟩, show ((p : Nat) : Int).toNat = p from rfl, ofCopy8_e ⟨a1, a2⟩ (by decide), bd_t, gd_t ⟨by omega, by omega⟩, show ((q : Nat) : Int).toNat = q from rfl, ofCopy8_e ⟨b1, b2⟩ (by decide), bd_t, z, z, a3, b3]
        rw [e] at ih2
        by_cases h5 : T p = T q
        · rw [if_pos h5] at ih2
          rw [if_pos (by omega), gd_t ⟨by omega, by omega⟩]
          exact ih2
        · rw [if_neg h5] at ih2
          rw [if_neg (by omega), gd_t ⟨by omega, by omega⟩]
          exact ih2
    · rw [if_neg (by omega), show p = q by omega]
      rcases sn_01 T (T q) q with e | e
      · rw [e, if_pos rfl, gd_t ⟨by omega, by omega⟩, gd_t ⟨by omega, by omega⟩]
      · rw [e, if_neg (by decide), gd_t ⟨by omega, by omega⟩, gd_t ⟨by omega, by omega⟩]
theorem named_o {T : Nat → Int} {m : Nat} (hm : m ≤ 188) (h4 : v 21 0 4 = m) (hT : ∀ j, j < m → 0 ≤ v 28 0 j ∧ v 28 0 j < 188 ∧ v 22 0 (185 + 5 * (v 28 0 j).toNat) = T j + 1) : ∀ (n p : Nat), p ≤ m → m - p < n → X8_named_b34 n (sm (fun j => sn T (T j) j) p) p v = some (sm (fun j => sn T (T j) j) m, v) := by
  intro n
  induction n with
  | zero => intro p h1 h2; omega
  | succ n ih =>
    intro p h1 h2
    have hsum := sn_sum T p
    rw [X8_named_b34]
    by_cases h3 : p < m
    · have ih2 := ih (p + 1) (by omega) (by omega)
      rw [show ((p + 1 : Nat) : Int) = (p : Int) + 1 by omega] at ih2
      rw [if_pos (by omega)]
      have := named_i hm hT (K := X8_named_b34 n) (x2 := sm (fun j => sn T (T j) j) p) (by omega) h3 LF 0 (by omega) (by rw [show LF = 10000 from rfl]; omega)
      have e0 : sn T (T p) 0 = 1 := rfl
      rw [e0] at this
      exact this.trans ih2
    · rw [if_neg (by omega), show p = m by omega]
/-- found on both sides, from hooks -/
theorem reach0 (hS : Si B w v 0) : ∃ w1 v1, X4_clear w = some (0, w1) ∧ X8_forgets v = some (0, v1) ∧ RS w1 v1 ∧ FrX w w1 ∧ FrY v v1 := by
  obtain ⟨w1, g1, g2, g3, g4⟩ := clear_l LF 0 w (by omega) (by rw [show LF = 10000 from rfl]; omega)
  obtain ⟨v1, k1, k2, k3, k4⟩ := forgets_l LF 0 v (by omega) (by rw [show LF = 10000 from rfl]; omega)
  exact ⟨w1, v1, g1, k1, RS.new g3 k3 (fun i hi => by rw [g4, if_pos ⟨by omega, hi⟩]) (fun i hi => by rw [k4, if_pos ⟨by omega, hi⟩]), g2, k2⟩
theorem named_k (hS : Si B w v 0) {x : Int} (hx : 0 ≤ x ∧ x < 8) : ∃ (r : Int) (w' v' : Wd), X7_named x w = some (r, w') ∧ X8_named x v = some (r, v') ∧ InR r ∧ FrX w w' ∧ FrY v v' := by
  obtain ⟨wa, va, a1, a2, a3, a4, a5⟩ := reach0 hS
  have hSa := hS.xy a4 a5
  have hH := (hSa.1.H x.toNat (by omega)).imp (fun q => q) (fun q => q.1)
  obtain ⟨wb, vb, b1, b2, b3, b4, b5, _⟩ := add_b hSa a3 hH
  have hSb := hSa.xy b4 b5
  obtain ⟨wc, vc, c1, c2, c3, c4, c5⟩ := spread_l LF LF 0 wb vb hSb b3 (by omega) (by rw [show LF = 10000 from rfl]; omega) (by rw [show LF = 10000 from rfl]; omega)
  have hSc := hSb.xy c4 c5
  have hm := c3.m
  obtain ⟨m, hmm⟩ : ∃ m : Nat, wc 13 0 0 = m := ⟨(wc 13 0 0).toNat, by omega⟩
  obtain ⟨wd, d1, d2, d3⟩ := diff_c LF 0 wc (by omega) (by rw [show LF = 10000 from rfl]; omega)
  have hag : Ag wc 0 wd 0 := Ag.of (fun c hc i => d2 c 0 i (by omega))
  obtain ⟨we, e1, e2⟩ := diff_l (B := B) (m := m) (by omega) LF 0 wd (hSc.1.cg hag) (by rw [d2 13 0 0 (by decide), hmm]) (fun j hj => by
    rw [d2 15 0 j (by decide), hag.pr]
    exact (c3.2.2.2.2 j (by omega)).1) (fun y hy => by
    rw [d3, if_pos ⟨by omega, hy⟩]
    rfl) (by omega) (by rw [show LF = 10000 from rfl]; omega)
  have hTg : Tg wd = Tg wc := by
    funext j
    unfold Tg
    rw [d2 15 0 j (by decide), d2 3 0 _ (by decide)]
  rw [hTg] at e1
  have o1 := named_o (T := Tg wc) (v := vc) (m := m) (by omega) (by rw [c3.1, hmm]) (fun j hj => by
    obtain ⟨p1, p2⟩ := c3.2.2.2.2 j (by omega)
    obtain ⟨z1, z2, z3, z4, _⟩ := hSc.2.2.cell hSc.1 p1
    rw [p2]
    refine ⟨z1, z2, ?_⟩
    rw [z3, z4]
    rfl) LF 0 (by omega) (by rw [show LF = 10000 from rfl]; omega)
  have hsum := sn_sum (Tg wc) m
  refine ⟨sm (fun j => sn (Tg wc) (Tg wc j) j) m, we, vc, ?_, ?_, ⟨by omega, by omega⟩, ?_, a5.tr (b5.tr c5)⟩
  · unfold X7_named X4_spread X4_differentThings
    have e0 : ((0 : Nat) : Int) = 0 := rfl
    rw [e0] at c1 d1
    rw [isHook_e, if_pos hx, bd_t, if_neg (by decide), a1, bd_t, hungOn_e, if_pos hx, bd_t, b1, bd_t, c1, bd_t, d1]
    have e1' : X4_differentThings_b25 0 LF 0 0 wd = some (sm (fun j => sn (Tg wc) (Tg wc j) j) m, we) := e1
    rw [e1', bd_t]
  · unfold X8_named X8_reaches
    have e0 : ((0 : Nat) : Int) = 0 := rfl
    rw [e0] at c2
    rw [isHook8_e, if_pos hx, bd_t, if_neg (by decide), a2, bd_t, gd_t ⟨by omega, by omega⟩, gd_t ⟨by omega, by omega⟩, show (9 + x).toNat = 9 + x.toNat by omega, hSa.2.2.2.1 _ (by omega), b2, bd_t, c2, bd_t]
    exact o1
  · exact a4.tr (b4.tr (c4.tr (FrX.tr (show FrX wc wd from fun c t i hn => d2 c t i (by omega)) (fun c t i hn => e2 c t i (by omega)))))
theorem named_g (hG : GR B w) (x : Int) : ∃ (r : Int) (w2 w3 : Wd), X7_named x w = some (r, w2) ∧ X8_named x w2 = some (r, w3) ∧ InR r ∧ GR B w3 := by
  by_cases hx : 0 ≤ x ∧ x < 8
  · obtain ⟨r, w2, _, a1, _, a3, a4, _⟩ := named_k hG.1 hx
    have hS2 : Si B w w2 0 := hG.1.cg Ag.rf (fun i _ => a4 22 0 i (by decide))
    obtain ⟨r', w2', w3, b1, b2, b3, b4, b5⟩ := named_k hS2 hx
    rw [a1] at b1
    obtain ⟨er, ew⟩ := Prod.mk.inj (Option.some.inj b1)
    subst er ew
    refine ⟨r, w2, w3, a1, b2, a3, hG.fr (fun c t i hn => ?_)⟩
    unfold Ir at hn
    rw [b5 c t i (by omega), a4 c t i (by omega)]
  · refine ⟨-1, w, w, ?_, ?_, ⟨by decide, by decide⟩, hG⟩
    · unfold X7_named
      rw [isHook_e, if_neg hx, bd_t, if_pos rfl]
    · unfold X8_named
      rw [isHook8_e, if_neg hx, bd_t, if_pos rfl]
/-- garbage -/
def gb (w : Wd) (d : Nat) : Int := if 0 < w 4 0 d ∧ w 14 0 d = 0 ∧ w 5 0 d = 300 then w 4 0 d else 0
theorem gb_b (hI : Iv B 8 (-1) w 0) {d : Nat} (hd : d < 260) : 0 ≤ gb w d ∧ gb w d ≤ 12 := by
  have := hI.S d hd
  unfold gb
  split <;> omega
theorem gb_s (hI : Iv B 8 (-1) w 0) (n : Nat) (hn : n ≤ 260) : 0 ≤ sm (gb w) n ∧ sm (gb w) n ≤ 12 * n := by
  refine ⟨sm_nonneg n (fun i hi => (gb_b hI (by omega)).1), ?_⟩
  exact sm_le (f := gb w) (b := 12) n (fun i hi => (gb_b hI (by omega)).2)
theorem out_l (hI : Iv B 8 (-1) w 0) : ∀ (n p : Nat), p ≤ 260 → 260 - p < n → X4_placesOutside_b4 0 n (sm (gb w) p) p w = some (sm (gb w) 260, w) := by
  intro n
  induction n with
  | zero => intro p h1 h2; omega
  | succ n ih =>
    intro p h1 h2
    have hb := gb_s hI p h1
    have hs : sm (gb w) (p + 1) = sm (gb w) p + gb w p := rfl
    rw [X4_placesOutside_b4]
    by_cases h3 : p < 260
    · have ih2 := ih (p + 1) (by omega) (by omega)
      rw [hs, show ((p + 1 : Nat) : Int) = (p : Int) + 1 by omega] at ih2
      have hS := hI.S p h3
      have hr : X4_isReached p w = some (if w 14 0 p = 0 then 0 else 1, w) := by
        unfold X4_isReached
        rw [if_neg (by omega), if_pos (by omega), gd_t ⟨by omega, by omega⟩, show ((p : Nat) : Int).toNat = p from rfl]
        by_cases h : w 14 0 p = 0
        · rw [if_pos h, if_pos h]
        · rw [if_neg h, if_neg h]
      rw [if_pos (by omega), hr, bd_t]
      by_cases h14 : w 14 0 p = 0
      · rw [if_pos h14, if_pos rfl]
        by_cases h4 : 0 < w 4 0 p
        · rw [noteAt_1 ⟨by omega, by omega⟩ h4, bd_t, show ((p : Nat) : Int).toNat = p from rfl]
          by_cases h5 : w 5 0 p = 300
          · rw [show gb w p = w 4 0 p from if_pos ⟨h4, h14, h5⟩] at ih2
            rw [if_pos h5, sizeAt_e ⟨by omega, by omega⟩ hS.1, bd_t, show ((p : Nat) : Int).toNat = p from rfl, gd_t ⟨by omega, by omega⟩, gd_t ⟨by omega, by omega⟩]
            exact ih2
          · rw [show gb w p = 0 from if_neg (fun q => h5 q.2.2), Int.add_zero] at ih2
            rw [if_neg h5, gd_t ⟨by omega, by omega⟩]
            exact ih2
        · rw [show gb w p = 0 from if_neg (fun q => h4 q.1)] at ih2
          rw [noteAt_0 (fun q => h4 q.2.2), bd_t, if_pos rfl, sizeAt_e ⟨by omega, by omega⟩ hS.1, bd_t, show ((p : Nat) : Int).toNat = p from rfl, show w 4 0 p = 0 by omega, gd_t ⟨by omega, by omega⟩, gd_t ⟨by omega, by omega⟩]
          exact ih2
      · rw [show gb w p = 0 from if_neg (fun q => h14 q.2.1), Int.add_zero] at ih2
        rw [if_neg h14, if_neg (by decide), gd_t ⟨by omega, by omega⟩]
        exact ih2
    · rw [if_neg (by omega), show p = 260 by omega]
theorem garb_l (hI : Iv B 8 (-1) w 0) (hR : Re w v 0) (h : RS w v) : ∀ (n c : Nat), c ≤ 188 → 188 - c < n → X8_garbage_b39 n (sm (fun c => gb w (100 * (c / 64) + c % 64)) c) c v = some (sm (fun c => gb w (100 * (c / 64) + c % 64)) 188, v) := by
  intro n
  induction n with
  | zero => intro c h1 h2; omega
  | succ n ih =>
    intro c h1 h2
    have hb1 := sm_nonneg (f := fun c => gb w (100 * (c / 64) + c % 64)) c (fun i _ => (gb_b hI (by omega)).1)
    have hb2 := sm_le (f := fun c => gb w (100 * (c / 64) + c % 64)) (b := 12) c (fun i _ => (gb_b hI (by omega)).2)
    have hs : sm (fun c => gb w (100 * (c / 64) + c % 64)) (c + 1) = sm (fun c => gb w (100 * (c / 64) + c % 64)) c + gb w (100 * (c / 64) + c % 64) := rfl
    rw [X8_garbage_b39]
    by_cases h3 : c < 188
    · have ih2 := ih (c + 1) (by omega) (by omega)
      rw [hs, show ((c + 1 : Nat) : Int) = (c : Int) + 1 by omega] at ih2
      have hcp := copy8 hR hI h3
      have h27 := h.2.2.2.1 (100 * (c / 64) + c % 64) (by omega)
      have hD := hR.2.2.2.2 (100 * (c / 64) + c % 64) (by omega)
      have hn := hI.note_c (d := 100 * (c / 64) + c % 64) (by omega)
      have hS := hI.S (100 * (c / 64) + c % 64) (by omega)
      rw [show 64 * ((100 * (c / 64) + c % 64) / 100) + (100 * (c / 64) + c % 64) % 100 = c by omega] at h27 hD
      obtain ⟨d, hd⟩ : ∃ d, d = 100 * (c / 64) + c % 64 := ⟨_, rfl⟩
      rw [← hd] at ih2 hcp h27 hD hn hS
      rw [if_pos (by omega), hcp.2, bd_t]
      by_cases h4 : 0 < w 4 0 d
      · rw [if_pos h4, if_neg (by decide), gd_t ⟨by omega, by omega⟩, show ((c : Nat) : Int).toNat = c from rfl, h27]
        by_cases h14 : w 14 0 d = 0
        · rw [if_pos h14, ofCopy8_e ⟨by omega, by omega⟩ (by decide), bd_t]
          rw [show 185 + 5 * ((c : Nat) : Int).toNat + (3 : Int).toNat = 185 + 5 * c + 3 from rfl, (hD h4).2.2.2.1]
          by_cases h5 : w 5 0 d = 300
          · rw [show gb w d = w 4 0 d from if_pos ⟨h4, h14, h5⟩] at ih2
            rw [if_pos ((hn h4).mpr h5), hcp.1, bd_t, gd_t ⟨by omega, by omega⟩, gd_t ⟨by omega, by omega⟩]
            exact ih2
          · rw [show gb w d = 0 from if_neg (fun q => h5 q.2.2)] at ih2
            rw [if_neg (fun q => h5 ((hn h4).mp q)), gd_t ⟨by omega, by omega⟩, gd_t ⟨by omega, by omega⟩]
            exact ih2
        · rw [show gb w d = 0 from if_neg (fun q => h14 q.2.1)] at ih2
          rw [if_neg h14, gd_t ⟨by omega, by omega⟩, gd_t ⟨by omega, by omega⟩]
          exact ih2
      · rw [show gb w d = 0 from if_neg (fun q => h4 q.1)] at ih2
        rw [if_neg h4, if_pos rfl, gd_t ⟨by omega, by omega⟩, gd_t ⟨by omega, by omega⟩]
        exact ih2
    · rw [if_neg (by omega), show c = 188 by omega]
theorem garb_h : ∀ (n n' p : Nat) (w v : Wd), Si B w v 0 → RS w v → p ≤ 8 → 8 - p < n → 8 - p < n' → ∃ w' v', X7_garbage_b9 n p w = (bd (X4_spread 0 w') fun _ w8 => bd (X4_placesOutside 0 w8) fun r12 w13 => some (r12, w13)) ∧ X8_garbage_b6 n' p v = (bd (X8_reaches v') fun _ w8 => X8_garbage_b39 LF 0 0 w8) ∧ RS w' v' ∧ FrX w w' ∧ FrY v v' := by
  intro n
  induction n with
  | zero => intro n' p w v hS h h1 h2; omega
  | succ n ih =>
    intro n' p w v hS h h1 h2 h3
    match n', h3 with
    | 0, h3 => omega
    | n' + 1, h3 =>
      rw [X7_garbage_b9, X8_garbage_b6]
      by_cases h4 : p < 8
      · have hH := (hS.1.H p h4).imp (fun q => q) (fun q => q.1)
        obtain ⟨wb, vb, b1, b2, b3, b4, b5, _⟩ := add_b hS h hH
        obtain ⟨wc, vc, g1, g2, g3, g4, g5⟩ := ih n' (p + 1) wb vb (hS.xy b4 b5) b3 (by omega) (by omega) (by omega)
        rw [show ((p + 1 : Nat) : Int) = (p : Int) + 1 by omega] at g1 g2
        refine ⟨wc, vc, ?_, ?_, g3, b4.tr g4, b5.tr g5⟩
        · rw [if_pos (by omega), hungOn_e, if_pos ⟨by omega, by omega⟩, bd_t, show ((p : Nat) : Int).toNat = p from rfl, b1, bd_t, gd_t ⟨by omega, by omega⟩, g1]
        · rw [if_pos (by omega), gd_t ⟨by omega, by omega⟩, gd_t ⟨by omega, by omega⟩, show (9 + (p : Int)).toNat = 9 + p by omega, hS.2.2.2.1 p h4, b2, bd_t, gd_t ⟨by omega, by omega⟩, g2]
      · refine ⟨w, v, ?_, ?_, h, FrX.rf, FrY.rf⟩
        · rw [if_neg (by omega)]
        · rw [if_neg (by omega)]
theorem garbage_k (hS : Si B w v 0) : ∃ (r : Int) (w' v' : Wd), X7_garbage w = some (r, w') ∧ X8_garbage v = some (r, v') ∧ InR r ∧ FrX w w' ∧ FrY v v' := by
  obtain ⟨wa, va, a1, a2, a3, a4, a5⟩ := reach0 hS
  have hSa := hS.xy a4 a5
  obtain ⟨wb, vb, b1, b2, b3, b4, b5⟩ := garb_h LF LF 0 wa va hSa a3 (by omega) (by rw [show LF = 10000 from rfl]; omega) (by rw [show LF = 10000 from rfl]; omega)
  have hSb := hSa.xy b4 b5
  obtain ⟨wc, vc, c1, c2, c3, c4, c5⟩ := spread_l LF LF 0 wb vb hSb b3 (by omega) (by rw [show LF = 10000 from rfl]; omega) (by rw [show LF = 10000 from rfl]; omega)
  have hSc := hSb.xy c4 c5
  have o1 : X4_placesOutside 0 wc = some (sm (gb wc) 260, wc) := out_l hSc.1 LF 0 (by omega) (by rw [show LF = 10000 from rfl]; omega)
  have o2 : X8_garbage_b39 LF 0 0 vc = some (sm (fun c => gb wc (100 * (c / 64) + c % 64)) 188, vc) := garb_l hSc.1 hSc.2.2 c3 LF 0 (by omega) (by rw [show LF = 10000 from rfl]; omega)
  rw [← sm_cells (f := gb wc) (fun d hd hn => if_neg (fun q => hn ((hSc.1.S d hd).2.2 q.1).1))] at o2
  have hsum := gb_s hSc.1 260 (by omega)
  have e0 : ((0 : Nat) : Int) = 0 := rfl
  rw [e0] at b1 b2 c1 c2
  refine ⟨sm (gb wc) 260, wc, vc, ?_, ?_, ⟨by omega, by omega⟩, a4.tr (b4.tr c4), a5.tr (b5.tr c5)⟩
  · unfold X7_garbage
    rw [a1, bd_t, b1]
    unfold X4_spread
    rw [c1, bd_t, o1, bd_t]
  · unfold X8_garbage
    rw [a2, bd_t, b2]
    unfold X8_reaches
    rw [c2, bd_t, o2]
theorem garbage_g (hG : GR B w) : ∃ (r : Int) (w2 w3 : Wd), X7_garbage w = some (r, w2) ∧ X8_garbage w2 = some (r, w3) ∧ InR r ∧ GR B w3 := by
  obtain ⟨r, w2, _, a1, _, a3, a4, _⟩ := garbage_k hG.1
  have hS2 : Si B w w2 0 := hG.1.cg Ag.rf (fun i _ => a4 22 0 i (by decide))
  obtain ⟨r', w2', w3, b1, b2, b3, b4, b5⟩ := garbage_k hS2
  rw [a1] at b1
  obtain ⟨er, ew⟩ := Prod.mk.inj (Option.some.inj b1)
  subst er ew
  refine ⟨r, w2, w3, a1, b2, a3, hG.fr (fun c t i hn => ?_)⟩
  unfold Ir at hn
  rw [b5 c t i (by omega), a4 c t i (by omega)]
end NAMED
