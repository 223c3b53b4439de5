/-! PURE: a note is lost, both sides -/
section LOSE
variable {B : Int} {k : Nat} {ex : Int} {w v va : Wd} {t a i b h : Nat} {s m tk : Int}
/-- a copy of the thing x at d with a note -/
def Pn (w : Wd) (t : Nat) (x : Int) (d : Nat) : Prop := 0 < w 4 t d ∧ w 3 t d = x ∧ w 5 t d ≠ 300
theorem first_l {x : Int} : ∀ (n : Nat) (p : Int), 0 ≤ p ∧ p ≤ 260 → 260 - p < n → ∃ r : Int, X5_firstWithNote_b2 t n x p w = some (r, w) ∧ ((r = 300 ∧ ∀ d : Nat, p ≤ d → d < 260 → ¬ Pn w t x d) ∨ (p ≤ r ∧ r < 260 ∧ Pn w t x r.toNat ∧ ∀ d : Nat, p ≤ d → (d : Int) < r → ¬ Pn w t x d)) := by
  intro n
  induction n with
  | zero => intro p h1 h2; omega
  | succ n ih =>
    intro p h1 h2
    rw [X5_firstWithNote_b2]
    by_cases h3 : p < 260
    case neg =>
      refine ⟨300, by rw [if_neg h3], Or.inl ⟨rfl, fun d d1 d2 => by omega⟩⟩
    by_cases h4 : Pn w t x p.toNat
    · refine ⟨p, ?_, Or.inr ⟨by omega, h3, h4, fun d d1 d2 => by omega⟩⟩
      rw [if_pos h3, isOf_e ⟨h1.1, h3⟩, if_pos ⟨h4.1, h4.2.1⟩, bd_t, if_neg (by decide), noteAt_1 ⟨h1.1, h3⟩ h4.1, bd_t, if_neg h4.2.2]
    · obtain ⟨r, g1, g2⟩ := ih (p + 1) (by omega) (by omega)
      refine ⟨r, ?_, ?_⟩
      · rw [if_pos h3, isOf_e ⟨h1.1, h3⟩]
        by_cases h5 : 0 < w 4 t p.toNat ∧ w 3 t p.toNat = x
        · rw [if_pos h5, bd_t, if_neg (by decide), noteAt_1 ⟨h1.1, h3⟩ h5.1, bd_t, if_pos (Decidable.byContradiction fun q => h4 ⟨h5.1, h5.2, q⟩), gd_t ⟨by omega, by omega⟩, g1]
        · rw [if_neg h5, bd_t, if_pos rfl, gd_t ⟨by omega, by omega⟩, g1]
      · have key : ∀ d : Nat, p ≤ d → (p + 1 ≤ (d : Int) → ¬ Pn w t x d) → ¬ Pn w t x d := fun d d1 d2 q => by
          by_cases e : (d : Int) = p
          · rw [show p.toNat = d by omega] at h4
            exact h4 q
          · exact d2 (by omega) q
        refine g2.imp (fun q => ⟨q.1, fun d d1 d2 => key d d1 (fun z => q.2 d z d2)⟩) (fun q => ⟨by omega, q.2.1, q.2.2.1, fun d d1 d2 => key d d1 (fun z => q.2.2.2 d z d2)⟩)
theorem noted_l (hR : Re w v t) (hI : Iv B k ex w t) {x : Int} (hx : 0 ≤ x ∧ x < 40) : ∀ (n : Nat) (acc p : Int), -1 ≤ p ∧ p ≤ 63 → p + 1 < n → ∃ r : Int, X8_noted_b6 n x acc p v = some (r, v) ∧ ((r = acc ∧ ∀ q : Nat, (q : Int) ≤ p → ¬ Pn w t x ((100 - 100 * (w 0 t 3).toNat) + q)) ∨ (∃ q : Nat, (q : Int) ≤ p ∧ r = 64 * (1 - w 0 t 3) + q ∧ Pn w t x ((100 - 100 * (w 0 t 3).toNat) + q) ∧ ∀ z : Nat, z < q → ¬ Pn w t x ((100 - 100 * (w 0 t 3).toNat) + z))) := by
  have hA := hI.A
  unfold IvA at hA
  have a3 := hR.1.2.2.2.1
  intro n
  induction n with
  | zero => intro acc p h1 h2; omega
  | succ n ih =>
    intro acc p h1 h2
    rw [X8_noted_b6]
    by_cases h3 : p < 0
    · refine ⟨acc, by rw [if_pos h3], Or.inl ⟨rfl, fun q q1 => by omega⟩⟩
    obtain ⟨d, hd⟩ : ∃ d : Nat, d = (100 - 100 * (w 0 t 3).toNat) + p.toNat := ⟨_, rfl⟩
    have hia : (d < 64 ∨ (100 ≤ d ∧ d < 164) ∨ (200 ≤ d ∧ d < 260)) := by omega
    have ec : 64 * (1 - w 0 t 3) + p = 64 * ((d : Int) / 100) + (d : Int) % 100 := by omega
    have ecn : (64 * (1 - w 0 t 3) + p).toNat = (64 * (d / 100) + d % 100) := by omega
    have hC := hR.2.2.2.1 d hia
    have hS := hI.S d (by omega)
    rw [if_neg h3, old8_e (by omega), bd_t, a3, gd_t ⟨by omega, by omega⟩, gd_t ⟨by omega, by omega⟩, ofCopy8_e (by omega) (by omega), bd_t, ecn, gd_t ⟨by omega, by omega⟩]
    simp only [show (0 : Int).toNat = 0 from rfl, show (3 : Int).toNat = 3 from rfl, Nat.add_zero]
    rw [hC]
    have last : ∀ z : Nat, (z : Int) ≤ p → ((z : Int) ≤ p + -1 → ¬ Pn w t x ((100 - 100 * (w 0 t 3).toNat) + z)) → ¬ Pn w t x d → ¬ Pn w t x ((100 - 100 * (w 0 t 3).toNat) + z) := fun z z1 z2 z3 q => by
      by_cases e : (z : Int) = p
      · rw [hd, show p.toNat = z by omega] at z3
        exact z3 q
      · exact z2 (by omega) q
    have hPD : 0 < w 4 t d → v 22 0 (185 + 5 * (64 * (d / 100) + d % 100) + 3) = nn (w 5 t d) := fun q => (hR.2.2.2.2 d hia q).2.2.2.1
    by_cases h4 : 0 < w 4 t d ∧ w 3 t d = x
    · rw [if_pos h4.1, if_pos (by omega), ofCopy8_e (by omega) (by omega), bd_t, ecn]
      simp only [show (3 : Int).toNat = 3 from rfl]
      rw [hPD h4.1]
      have hn := hI.note_c (by omega) h4.1
      by_cases h5 : w 5 t d = 300
      · obtain ⟨r, g1, g2⟩ := ih acc (p + -1) (by omega) (by omega)
        have hnp : ¬ Pn w t x d := fun q => q.2.2 h5
        refine ⟨r, ?_, ?_⟩
        · rw [if_pos (hn.mpr h5), gd_t ⟨by omega, by omega⟩, g1]
        · exact g2.imp (fun q => ⟨q.1, fun z z1 => last z z1 (fun y => q.2 z y) hnp⟩) (fun ⟨q, q1, q2⟩ => ⟨q, by omega, q2⟩)
      · obtain ⟨r, g1, g2⟩ := ih (64 * (1 - w 0 t 3) + p) (p + -1) (by omega) (by omega)
        refine ⟨r, ?_, Or.inr ?_⟩
        · rw [if_neg (fun q => h5 (hn.mp q)), gd_t ⟨by omega, by omega⟩, g1]
        · rcases g2 with q | ⟨q, q1, q2⟩
          · refine ⟨p.toNat, by omega, by omega, ?_, fun z z1 => q.2 z (by omega)⟩
            rw [← hd]
            exact ⟨h4.1, h4.2, h5⟩
          · exact ⟨q, by omega, q2⟩
    · obtain ⟨r, g1, g2⟩ := ih acc (p + -1) (by omega) (by omega)
      have hnp : ¬ Pn w t x d := fun q => h4 ⟨q.1, q.2.1⟩
      have hne : ¬ ((if 0 < w 4 t d then w 3 t d + 1 else 0) = x + 1) := by
        by_cases e : 0 < w 4 t d
        · rw [if_pos e]; omega
        · rw [if_neg e]; omega
      refine ⟨r, ?_, ?_⟩
      · rw [if_neg hne, gd_t ⟨by omega, by omega⟩, g1]
      · exact g2.imp (fun q => ⟨q.1, fun z z1 => last z z1 (fun y => q.2 z y) hnp⟩) (fun ⟨q, q1, q2⟩ => ⟨q, by omega, q2⟩)
/-- behind a lost note -/
def loW (w : Wd) (t a : Nat) : Wd := up (up w 5 t a 300) 0 t 5 (w 0 t 5 + 1)
def lo8 (v : Wd) (c : Nat) (z : Int) : Wd := up (up v 22 0 (185 + 5 * c + 3) (-9)) 22 0 6 z
theorem lo_05 : loW w t a 0 t 5 = w 0 t 5 + 1 := by simp [loW, up]
theorem lo_0 (h : i ≠ 5) : loW w t a 0 t i = w 0 t i := by simp [loW, up, h]
theorem lo_5 : loW w t a 5 t i = if i = a then 300 else w 5 t i := by simp [loW, up]
theorem lo_c {c : Nat} (h : c ≠ 0) (h5 : c ≠ 5) : loW w t a c t i = w c t i := by simp [loW, up, h, h5]
theorem Iv.lo (hI : Iv B 8 (-1) w t) (ha : a < 260) (hp : Pn w t (w 3 t a) a) (hf : w 0 t 4 + kp w t + w 4 t a ≤ 64) : Iv (B + 1) 8 (-1) (loW w t a) t := by
  have hA := hI.A
  unfold IvA at hA
  have hE := hI.E
  have hT := hI.T
  obtain ⟨r1, r2, r3⟩ := hI.R
  have hTa := (hT a ha hp.1).resolve_left hp.2.2
  have h' := hI
  refine ⟨?_, ?_, ?_, ?_, ?_, ?_, ?_, ?_, ?_, ?_, ?_⟩
  · unfold IvA
    rw [lo_05]
    simp (disch := decide) only [lo_0]
    omega
  · have := hI.S
    unfold IvS at *
    simp (disch := decide) only [lo_0, lo_c]
    exact this
  · have := hI.H
    unfold IvH liv prs at *
    simp (disch := decide) only [lo_0, lo_c]
    exact this
  · have := hI.N
    unfold IvN prs at *
    simp (disch := decide) only [lo_0, lo_c]
    exact this
  · have := hI.Bk
    unfold IvB inQ liv prs at *
    simp (disch := decide) only [lo_0, lo_c]
    exact this
  · have := hI.Q
    unfold IvQ liv prs at *
    simp (disch := decide) only [lo_0, lo_c]
    exact this
  · unfold IvE at *
    simp (disch := decide) only [lo_0, lo_c]
    exact hE
  · intro c hc hpc
    rw [lo_c (by decide) (by decide)] at hpc
    rw [lo_5]
    by_cases e : c = a
    · exact Or.inl (if_pos e)
    · rw [if_neg e]
      have := hT c hc hpc
      unfold prs at *
      simp (disch := decide) only [lo_0, lo_c]
      exact this
  · have := hI.F
    unfold IvF at *
    simp (disch := decide) only [lo_0, lo_c]
    exact this
  · have hsm := sm_chg (f := fun p => if loW w t a 5 t ((100 - 100 * (w 0 t 3).toNat) + p) = 300 then w 4 t ((100 - 100 * (w 0 t 3).toNat) + p) else 0) (g := fun p => if w 5 t ((100 - 100 * (w 0 t 3).toNat) + p) = 300 then w 4 t ((100 - 100 * (w 0 t 3).toNat) + p) else 0) (k := a - (100 - 100 * (w 0 t 3).toNat)) 64 (by omega) (fun i hi hne => by
      show (if loW w t a 5 t ((100 - 100 * (w 0 t 3).toNat) + i) = 300 then w 4 t ((100 - 100 * (w 0 t 3).toNat) + i) else 0) = _
      rw [lo_5, if_neg (show (100 - 100 * (w 0 t 3).toNat) + i ≠ a by omega)])
    have e : (100 - 100 * (w 0 t 3).toNat) + (a - (100 - 100 * (w 0 t 3).toNat)) = a := by omega
    simp only [e] at hsm
    rw [lo_5, if_pos rfl, if_pos rfl, if_neg hp.2.2] at hsm
    unfold IvR
    have hkp : kp (loW w t a) t = kp w t + w 4 t a := by
      unfold kp
      simp (disch := decide) only [lo_0, lo_c]
      omega
    rw [hkp]
    simp (disch := decide) only [lo_0, lo_c]
    exact ⟨r1, fun _ => by omega, r3⟩
  · have := hI.O
    unfold IvO at *
    simp (disch := decide) only [lo_0, lo_c]
    exact this
theorem Re.lo (hR : Re w v t) (hI : Iv B 8 (-1) w t) (ha : (a < 64 ∨ (100 ≤ a ∧ a < 164) ∨ (200 ≤ a ∧ a < 260))) : Re (loW w t a) (lo8 v (64 * (a / 100) + a % 100) (w 0 t 5 + 1)) t := by
  obtain ⟨a0, a1, a2, a3, a4, a5, a6, a7, a8⟩ := hR.1
  have hA := hI.A
  unfold IvA at hA
  obtain ⟨q1, q2, q3, q4⟩ := hI.Q
  obtain ⟨ca, hca⟩ : ∃ n : Nat, n = (64 * (a / 100) + a % 100) := ⟨_, rfl⟩
  have hca2 : ca < 188 := by omega
  have hf : (w 0 t 3).toNat < 2 := by omega
  rw [← hca]
  have R6 : lo8 v ca (w 0 t 5 + 1) 22 0 6 = w 0 t 5 + 1 := up_h rfl
  have Rc : lo8 v ca (w 0 t 5 + 1) 22 0 (185 + 5 * ca + 3) = -9 := by
    unfold lo8
    rw [up_n (by omega), up_h rfl]
  have Rf : ∀ j, j ≠ 6 → j ≠ 185 + 5 * ca + 3 → lo8 v ca (w 0 t 5 + 1) 22 0 j = v 22 0 j := fun j h1 h2 => by
    unfold lo8
    rw [up_n h1, up_n h2]
  refine ⟨?_, ?_, ?_, ?_, ?_⟩
  · unfold ReA
    rw [lo_05]
    simp (disch := decide) only [lo_0, lo_c]
    rw [R6, Rf 0 (by omega) (by omega), Rf 1 (by omega) (by omega), Rf 2 (by omega) (by omega), Rf 3 (by omega) (by omega), Rf (4 + _) (by omega) (by omega), Rf (5 - _) (by omega) (by omega), Rf 7 (by omega) (by omega), Rf 8 (by omega) (by omega)]
    exact ⟨a0, a1, a2, a3, a4, a5, rfl, a7, a8⟩
  · intro h hh
    rw [Rf _ (by omega) (by omega), lo_c (by decide) (by decide)]
    exact hR.2.1 h hh
  · intro j hj
    rw [lo_c (by decide) (by decide), lo_c (by decide) (by decide)] at hj
    rw [Rf _ (by omega) (by omega), lo_c (by decide) (by decide), lo_c (by decide) (by decide)]
    exact hR.2.2.1 j hj
  · intro d hd
    rw [Rf _ (by omega) (by omega), lo_c (by decide) (by decide), lo_c (by decide) (by decide)]
    exact hR.2.2.2.1 d hd
  · intro d hd hpd
    rw [lo_c (by decide) (by decide)] at hpd
    have hD := hR.2.2.2.2 d hd hpd
    have hS2 := ((hI.S d (by omega)).2.2 hpd).2
    simp (disch := decide) only [lo_c]
    rw [lo_5]
    obtain ⟨cd, hcd⟩ : ∃ z : Nat, z = (64 * (d / 100) + d % 100) := ⟨_, rfl⟩
    rw [← hcd] at hD ⊢
    rw [Rf (17 + _) (by omega) (by omega), Rf _ (by omega) (by omega), Rf (185 + 5 * cd + 2) (by omega) (by omega), Rf (185 + 5 * cd + 4) (by omega) (by omega)]
    by_cases e : d = a
    · have e2 : cd = ca := by rw [hcd, hca, e]
      rw [if_pos e, e2, Rc, ← e2]
      exact ⟨hD.1, hD.2.1, hD.2.2.1, rfl, hD.2.2.2.2⟩
    · rw [if_neg e, Rf _ (by omega) (by omega)]
      exact hD
theorem IvW.lo (hW : IvW w t) : IvW (loW w t a) t := by
  unfold IvW at *
  simp (disch := decide) only [lo_0, lo_c]
  exact hW
theorem isThing_e {x : Int} : X5_isThing t x w = some (if 0 ≤ x ∧ x < w 0 t 1 then 1 else 0, w) := by
  unfold X5_isThing
  by_cases h1 : x < 0
  · rw [if_pos h1, if_neg (by omega)]
  · by_cases h2 : x < w 0 t 1
    · rw [if_neg h1, if_pos h2, if_pos (by omega)]
    · rw [if_neg h1, if_neg h2, if_neg (by omega)]
theorem lose_b (hS : Si B w v t) (ha : X8_acts v = some (0, va)) (hra : ∀ i, va 22 0 i = v 22 0 i) (hB : 0 ≤ B ∧ B ≤ 1000000) (x : Int) : OpR B w v va t (X5_loseNote t x w) (X8_lose x v) := by
  obtain ⟨hI, hW, hR⟩ := hS
  have hA := hI.A
  unfold IvA at hA
  have hRa := hR.same hra
  obtain ⟨a0, a1, a2, a3, a4, a5, a6, a7, a8⟩ := hR.1
  by_cases hx : 0 ≤ x ∧ x < w 0 t 1
  case neg =>
    refine OpR.err (r := -1) ?_ ?_ (by decide)
    · unfold X5_loseNote
      rw [isThing_e, if_neg hx, bd_t, if_pos rfl]
    · unfold X8_lose
      rw [isThing8_e, a0, if_neg hx, bd_t, if_pos rfl]
  obtain ⟨r, f1, f2⟩ := first_l (w := w) (t := t) (x := x) LF 0 (by omega) (by rw [show LF = 10000 from rfl]; omega)
  obtain ⟨c, e1, e2⟩ := noted_l hR hI (x := x) (by omega) LF (-9) 63 (by omega) (by rw [show LF = 10000 from rfl]; omega)
  by_cases hr : r = 300
  · have hno : ∀ d : Nat, d < 260 → ¬ Pn w t x d := fun d hd q => by
      rcases f2 with z | z
      · exact z.2 d (by omega) hd q
      · omega
    refine OpR.err (r := -2) ?_ ?_ (by decide)
    · unfold X5_loseNote X5_firstWithNote
      rw [isThing_e, if_pos hx, bd_t, if_neg (by decide), f1, bd_t, if_pos hr]
    · unfold X8_lose X8_noted
      rw [isThing8_e, a0, if_pos hx, bd_t, if_neg (by decide), isMoving8_e, a2]
      by_cases hm : w 0 t 2 = 1
      · have hc9 : c = -9 := by
          rcases e2 with z | ⟨q, z1, z2, z3, z4⟩
          · exact z.1
          · exact absurd z3 (hno _ (by omega))
        rw [if_pos hm, bd_t, if_neg (by decide), e1, bd_t]
        unfold X8_lose_b27
        rw [if_pos hc9]
      · rw [if_neg hm, bd_t, if_pos rfl]
        unfold X8_lose_b27
        rw [if_pos rfl]
  have f3 := f2.resolve_left (fun q => hr q.1)
  obtain ⟨f4, f5, f6, f7⟩ := f3
  obtain ⟨a, rfl⟩ : ∃ a : Nat, r = a := ⟨r.toNat, by omega⟩
  have f6' : Pn w t x a := f6
  have hT := (hI.T a (by omega) f6'.1).resolve_left f6'.2.2
  have hm := hT.1
  have hOL := hT.2.1
  have hia : (a < 64 ∨ (100 ≤ a ∧ a < 164) ∨ (200 ≤ a ∧ a < 260)) := by omega
  have hca : c = 64 * ((a : Int) / 100) + (a : Int) % 100 ∧ c ≠ -9 := by
    rcases e2 with z | ⟨q, z1, z2, z3, z4⟩
    · have := z.2 (a - (100 - 100 * (w 0 t 3).toNat)) (by omega)
      rw [show (100 - 100 * (w 0 t 3).toNat) + (a - (100 - 100 * (w 0 t 3).toNat)) = a by omega] at this
      exact absurd f6' this
    · by_cases g1 : (100 - 100 * (w 0 t 3).toNat) + q < a
      · exact absurd z3 (f7 _ (by omega) (by omega))
      · by_cases g2 : a < (100 - 100 * (w 0 t 3).toNat) + q
        · have := z4 (a - (100 - 100 * (w 0 t 3).toNat)) (by omega)
          rw [show (100 - 100 * (w 0 t 3).toNat) + (a - (100 - 100 * (w 0 t 3).toNat)) = a by omega] at this
          exact absurd f6' this
        · omega
  have hD := hR.2.2.2.2 a hia f6'.1
  have h12 := hI.S a (by omega)
  have hkn := hI.kp_nn
  have hsz : v 22 0 (17 + x.toNat) = w 4 t a := by rw [← f6'.2.1]; exact hD.1
  have hc0 : X5_loseNote t x w = if 64 - w 0 t 4 < kp w t + w 4 t a then some (-3, w) else some ((a : Int), loW w t a) := by
    unfold X5_loseNote X5_firstWithNote
    rw [isThing_e, if_pos hx, bd_t, if_neg (by decide), f1, bd_t, if_neg hr, free_e hA.2.2.2.2.1, bd_t, roomKept_e hI, bd_t, if_pos hm, sizeAt_e ⟨by omega, f5⟩ (h12.1), bd_t, gd_t ⟨by have := h12.1; have := h12.2.1; show -2147483648 ≤ kp w t + w 4 t a; omega, by have := h12.2.1; show kp w t + w 4 t a ≤ 2147483647; omega⟩]
    have hla : X0_loseNoteAt t a w = some (0, up w 5 t a 300) := by
      unfold X0_loseNoteAt
      rw [isAt_1 ⟨by omega, f5⟩ f6'.1, bd_t, if_neg (by decide), gd_t ⟨by omega, f5⟩]
      rfl
    rw [hla, bd_t, up_c (by decide), gd_t ⟨by omega, by omega⟩]
    rfl
  have hm0 : X8_lose x v = if 64 - w 0 t 4 < kp w t + w 4 t a then some (-3, v) else some ((a : Int), lo8 va (64 * (a / 100) + a % 100) (w 0 t 5 + 1)) := by
    unfold X8_lose X8_noted X8_lose_b27
    have ht : (17 + x).toNat = 17 + x.toNat := by omega
    rw [isThing8_e, a0, if_pos hx, bd_t, if_neg (by decide), isMoving8_e, a2, if_pos hm, bd_t, if_neg (by decide), e1, bd_t, if_neg hca.2, a3, free8_e hA.2.2.2.1 (by rw [a4]; omega), bd_t, kept8_e hR hI, bd_t, if_pos hm, ht, hsz, a4, gd_t ⟨by omega, by omega⟩, gd_t ⟨by omega, by omega⟩, gd_t ⟨by omega, by omega⟩]
    by_cases hq : 64 - w 0 t 4 < kp w t + w 4 t a
    · rw [if_pos hq, if_pos hq]
    · rw [if_neg hq, if_neg hq, ha, bd_t, gd_t ⟨by omega, by omega⟩, gd_t ⟨by omega, by omega⟩, gd_t ⟨by omega, by omega⟩, gd_t ⟨by omega, by omega⟩]
      rw [show (185 + 5 * c + 3).toNat = 185 + 5 * (64 * (a / 100) + a % 100) + 3 by omega, up_n (by omega), hRa.1.2.2.2.2.2.2.1, gd_t ⟨by omega, by omega⟩, address8_e (by omega), bd_t]
      rw [show 100 * (c / 64) + c % 64 = (a : Int) by omega]
      rfl
  rw [hc0, hm0]
  by_cases hq : 64 - w 0 t 4 < kp w t + w 4 t a
  · rw [if_pos hq, if_pos hq]
    exact OpR.err rfl rfl (by decide)
  · rw [if_neg hq, if_neg hq]
    refine ⟨a, _, _, rfl, rfl, ⟨by omega, by omega⟩, Or.inr ⟨by omega, ⟨hI.lo (by omega) (by rw [f6'.2.1]; exact f6') (by omega), hW.lo, hRa.lo hI hia⟩, (FrC.rf.ups (by decide)).ups (by decide), FrM.rf.ups.ups⟩⟩
end LOSE
