/-! PURE: mend, the call -/
section MEND2
variable {B : Int} {k : Nat} {ex : Int} {w v va : Wd} {t a i b h : Nat}
theorem rp_le {x y : Int} {p : Nat} : rp w t x p a y = y ∨ rp w t x p a y = a := by
  unfold rp
  split
  · exact Or.inr rfl
  · exact Or.inl rfl
/-- an address turned on both sides -/
theorem rp_tn {x : Int} (hR : Re w v t) (hI : Iv B k ex w t) (ha : a < 260) (hCa : 0 < w 4 t a ∧ w 3 t a = x) (hl : ∀ d, d < a → ¬ (0 < w 4 t d ∧ w 3 t d = x)) (hx : 0 ≤ x) {y : Int} (hy : y = 300 ∨ prs w t y) : nn (rp w t x (a + 1) a y) = tn v x a (nn y) := by
  rcases hy with e | e
  · have : rp w t x (a + 1) a y = y := if_neg (by omega)
    rw [this, e, nn_300]
    exact (if_neg (fun q => q.1 rfl)).symm
  · have hl2 := e.lt
    have hia := e.2.1
    have hC := hR.2.2.2.1 y.toNat hia
    rw [if_pos e.2.2] at hC
    rw [nn_ne (show y ≠ 300 by omega)]
    unfold tn
    rw [hC]
    by_cases h1 : w 3 t y.toNat = x
    · rw [if_pos ⟨by omega, by omega⟩]
      by_cases h2 : (a : Int) < y
      · have : rp w t x (a + 1) a y = a := if_pos ⟨by omega, by omega, e.2.2, h1⟩
        rw [this, nn_ne (by omega)]
      · by_cases h3 : y.toNat = a
        · have : rp w t x (a + 1) a y = y := if_neg (by omega)
          rw [this, nn_ne (by omega)]
          omega
        · exact absurd ⟨e.2.2, h1⟩ (hl y.toNat (by omega))
    · have : rp w t x (a + 1) a y = y := if_neg (fun q => h1 q.2.2.2)
      rw [if_neg (by omega), this, nn_ne (by omega)]
theorem Iv.md {x : Int} (hI : Iv B 8 (-1) w t) (hm : w 0 t 2 = 0) (hq : w 8 t 0 = w 8 t 1) (ha : a < 260) (hCa : 0 < w 4 t a ∧ w 3 t a = x) {w1 : Wd} (m2 : ∀ c t' i, ¬ ((c = 4 ∨ c = 7 ∨ c = 1) ∧ t' = t) → w1 c t' i = w c t' i) (m3 : ∀ d, w1 4 t d = if a + 1 ≤ d ∧ d < 260 ∧ 0 < w 4 t d ∧ w 3 t d = x then 0 else w 4 t d) (m4 : ∀ h, h < 8 → w1 1 t h = rp w t x (a + 1) a (w 1 t h)) (m5 : ∀ i, i < 520 → w1 7 t i = rp w t x (a + 1) a (w 7 t i)) : Iv B 8 (-1) w1 t := by
  have hA := hI.A
  unfold IvA at hA
  have o : ∀ c, c ≠ 4 → c ≠ 7 → c ≠ 1 → ∀ i, w1 c t i = w c t i := fun c h1 h2 h3 i => m2 c t i (by omega)
  have o0 : ∀ i, w1 0 t i = w 0 t i := o 0 (by decide) (by decide) (by decide)
  have ha4 : w1 4 t a = w 4 t a := by rw [m3, if_neg (by omega)]
  have hle : ∀ d, w1 4 t d = 0 ∨ w1 4 t d = w 4 t d := fun d => by
    rw [m3]
    split
    · exact Or.inl rfl
    · exact Or.inr rfl
  have hup : ∀ d, 0 < w1 4 t d → 0 < w 4 t d := fun d q => by
    rcases hle d with e | e <;> omega
  have hiaa := (hI.S a ha).2.2 hCa.1
  have hpa : prs w1 t a := ⟨by omega, hiaa.1, by rw [show ((a : Nat) : Int).toNat = a from rfl, ha4]; exact hCa.1⟩
  have hpr : ∀ y : Int, prs w t y → prs w1 t (rp w t x (a + 1) a y) := fun y hy => by
    have hl := hy.lt
    unfold rp
    split
    · exact hpa
    · rename_i hn
      refine ⟨hy.1, hy.2.1, ?_⟩
      rw [m3, if_neg (fun q => hn ⟨by omega, by omega, q.2.2⟩)]
      exact hy.2.2
  have hrp : ∀ y : Int, y = 300 ∨ prs w t y → rp w t x (a + 1) a y = 300 ∨ prs w1 t (rp w t x (a + 1) a y) := fun y hy => by
    rcases hy with e | e
    · have : rp w t x (a + 1) a y = y := if_neg (by omega)
      rw [this]
      exact Or.inl e
    · exact Or.inr (hpr y e)
  refine ⟨?_, ?_, ?_, ?_, ?_, ?_, ?_, ?_, ?_, ?_, ?_⟩
  · unfold IvA
    simp only [o0]
    exact hI.A
  · intro d hd
    have hS := hI.S d hd
    rw [o 3 (by decide) (by decide) (by decide), o0]
    rcases hle d with e | e
    · rw [e]; exact ⟨by decide, by decide, fun q => absurd q (by decide)⟩
    · rw [e]; exact hS
  · intro h hh
    rw [m4 h hh]
    have := hrp _ ((hI.H h hh).imp (fun q => q) (fun q => q.1))
    refine this.imp (fun q => q) (fun q => ⟨q, fun _ => ⟨q, fun z => ?_⟩⟩)
    rw [o0] at z
    omega
  · intro d hd hpd j hj
    rw [m5 _ (by omega)]
    exact hrp _ (hI.N d hd (hup d hpd) j hj)
  · intro q
    rw [o0] at q
    omega
  · obtain ⟨q1, q2, q3, q4⟩ := hI.Q
    unfold IvQ
    simp only [o 8 (by decide) (by decide) (by decide)]
    exact ⟨q1, q2, q3, fun j j1 j2 => by omega⟩
  · obtain ⟨e1, e2, e3, e4⟩ := hI.E
    unfold IvE
    simp only [o 8 (by decide) (by decide) (by decide), o 6 (by decide) (by decide) (by decide), o0]
    exact ⟨e1, e2, e3, fun d hd hpd => e4 d hd (hup d hpd)⟩
  · intro d hd hpd
    rw [o 5 (by decide) (by decide) (by decide)]
    have := hI.T d hd (hup d hpd)
    exact this.imp (fun q => q) (fun q => by omega)
  · intro p hp hpp
    have h1 := hup _ hpp
    obtain ⟨f1, f2⟩ := hI.F p hp h1
    have e : w1 4 t (200 + p) = w 4 t (200 + p) := (hle _).resolve_left (by omega)
    rw [e]
    refine ⟨f1, fun q q1 q2 => ?_⟩
    rcases hle (200 + q) with e | e
    · exact e
    · rw [e]; exact f2 q q1 q2
  · obtain ⟨r1, r2, r3⟩ := hI.R
    unfold IvR
    simp only [o0]
    refine ⟨?_, fun q => by omega, fun p hp hpp => ?_⟩
    · have := sm_mono (f := fun p => w1 4 t ((100 * (w 0 t 3).toNat) + p)) (g := fun p => w 4 t ((100 * (w 0 t 3).toNat) + p)) 64 (fun p hp => by
        show w1 4 t _ ≤ w 4 t _
        have := (hI.S ((100 * (w 0 t 3).toNat) + p) (by omega)).1
        rcases hle ((100 * (w 0 t 3).toNat) + p) with e | e <;> omega)
      omega
    · have h1 := hup _ hpp
      have e : w1 4 t ((100 * (w 0 t 3).toNat) + p) = w 4 t ((100 * (w 0 t 3).toNat) + p) := (hle _).resolve_left (by omega)
      rw [e]
      exact r3 p hp h1
  · intro q p hp
    simp only [o0] at q ⊢
    have := hI.O q p hp
    rcases hle ((100 - 100 * (w 0 t 3).toNat) + p) with e | e
    · exact e
    · rw [e]; exact this
theorem mend_b (hS : Si B w v t) (ha : X8_acts v = some (0, va)) (hra : ∀ i, va 22 0 i = v 22 0 i) (x : Int) : OpR B w v va t (X5_mendTwins t x w) (X8_mend x v) := by
  obtain ⟨hI, hW, hR⟩ := hS
  have hA := hI.A
  unfold IvA at hA
  have hRa := hR.same hra
  obtain ⟨a0, a1, a2, a3, a4, a5, a6, a7, a8⟩ := hR.1
  by_cases hx : 0 ≤ x ∧ x < w 0 t 1
  case neg =>
    refine OpR.err (r := -1) ?_ ?_ (by decide)
    · unfold X5_mendTwins
      rw [isThing_e, if_neg hx, bd_t, if_pos rfl]
    · unfold X8_mend
      rw [isThing8_e, a0, if_neg hx, bd_t, if_pos rfl]
  by_cases hm : w 0 t 2 = 0
  case neg =>
    refine OpR.err (r := -2) ?_ ?_ (by decide)
    · unfold X5_mendTwins
      rw [isThing_e, if_pos hx, bd_t, if_neg (by decide), if_neg hm]
    · unfold X8_mend
      rw [isThing8_e, a0, if_pos hx, bd_t, if_neg (by decide), copies8_e hR hI (by omega), bd_t, isMoving8_e, a2, if_pos (by omega), bd_t, if_neg (by decide)]
  by_cases h2 : 1 < sm (tw w t x) 260
  case neg =>
    refine OpR.err (r := -2) ?_ ?_ (by decide)
    · unfold X5_mendTwins
      rw [isThing_e, if_pos hx, bd_t, if_neg (by decide), if_pos hm, hasTwins_e hI, if_neg h2, bd_t, if_pos rfl]
    · unfold X8_mend
      rw [isThing8_e, a0, if_pos hx, bd_t, if_neg (by decide), copies8_e hR hI (by omega), bd_t, isMoving8_e, a2, if_neg (by omega), bd_t, if_pos rfl, if_pos (by omega)]
  have etc : ∀ n, sm (tw w t x) n = sm (cp w t x) n := fun n => sm_congr n (fun i _ => by
    unfold tw cp
    by_cases e : 0 < w 4 t i ∧ w 3 t i = x
    · rw [if_pos e, if_pos ⟨e.1, e.2, by omega⟩]
    · rw [if_neg e, if_neg (fun q => e ⟨q.1, q.2.1⟩)])
  obtain ⟨r, f1, f2⟩ := addressOf_e (w := w) (t := t) (x := x) (y := 0) (by decide)
  have hcnt := sm_tw (w := w) (t := t) x 260
  have f3 := f2.resolve_left (fun q => by
    have := q.2
    rw [← etc] at this
    omega)
  obtain ⟨f4, f5, f6, f7, f8⟩ := f3
  obtain ⟨a, rfl⟩ : ∃ a : Nat, r = a := ⟨r.toNat, by omega⟩
  rw [show ((a : Nat) : Int).toNat = a from rfl] at f6 f7 f8
  have ha260 : a < 260 := by omega
  have hia := ((hI.S a ha260).2.2 f6).1
  have hl : ∀ d, d < a → ¬ (0 < w 4 t d ∧ w 3 t d = x) := fun d hd q => by
    have := sm_ge (f := cp w t x) a hd (fun i _ => (cp_01 x i).1)
    have e : cp w t x d = 1 := if_pos q
    omega
  have hs1 : sm (cp w t x) (a + 1) = 1 := by
    show sm (cp w t x) a + cp w t x a = 1
    rw [f8, show cp w t x a = 1 from if_pos ⟨f6, f7⟩]
    rfl
  obtain ⟨w1, m1, m2, m3, m4, m5⟩ := mend_l (t := t) (a := a) (x := x) LF (a + 1) 0 w (by omega) (by rw [show LF = 10000 from rfl]; omega) (by omega) (by omega)
  rw [hs1, ← etc, Int.zero_add] at m1
  rw [show ((a + 1 : Nat) : Int) = (a : Int) + 1 by omega] at m1
  have hc : X5_mendTwins t x w = some (sm (tw w t x) 260 - 1, w1) := by
    unfold X5_mendTwins
    rw [isThing_e, if_pos hx, bd_t, if_neg (by decide), if_pos hm, hasTwins_e hI, if_pos h2, bd_t, if_neg (by decide), f1, bd_t, gd_t ⟨by omega, by omega⟩, m1]
  obtain ⟨ca, hca⟩ : ∃ n : Nat, n = (64 * (a / 100) + a % 100) := ⟨_, rfl⟩
  have hca2 : ca < 188 := by omega
  have had : 100 * ((ca : Int) / 64) + (ca : Int) % 64 = a := by omega
  have th : ∀ c, c < 188 → va 22 0 (185 + 5 * c) = if 0 < w 4 t (100 * (c / 64) + c % 64) then w 3 t (100 * (c / 64) + c % 64) + 1 else 0 := fun c hc => thing8 hRa c hc
  have okP : ∀ y : Int, y = 300 ∨ prs w t y → okA (nn y) := fun y hy => by
    rcases hy with e | e
    · rw [e]; exact Or.inl rfl
    · rw [nn_ne (by have := e.lt; omega)]; exact Or.inr ⟨e.1, e.2.1⟩
  have hHp : ∀ h, h < 8 → w 1 t h = 300 ∨ prs w t (w 1 t h) := fun h hh => (hI.H h hh).imp (fun q => q) (fun q => q.1)
  obtain ⟨v1, g1, g2, g3, g4⟩ := mendH_l (x := x) (c0 := sm (tw w t x) 260) (c1 := ca) (by omega) (by omega) LF 0 va (by omega) (by rw [show LF = 10000 from rfl]; omega) (fun h _ hh => by rw [hRa.2.1 h hh]; exact okP _ (hHp h hh))
  have r1 : ∀ j, 17 ≤ j → v1 22 0 j = va 22 0 j := fun j hj => g3 j (by omega)
  have hNm : ∀ c, c < 188 → 0 < va 22 0 (185 + 5 * c) → ((100 * (c / 64) + c % 64) < 64 ∨ (100 ≤ (100 * (c / 64) + c % 64) ∧ (100 * (c / 64) + c % 64) < 164) ∨ (200 ≤ (100 * (c / 64) + c % 64) ∧ (100 * (c / 64) + c % 64) < 260)) ∧ 0 < w 4 t (100 * (c / 64) + c % 64) ∧ va 22 0 (185 + 5 * c + 1) = nn (w 7 t (2 * (100 * (c / 64) + c % 64))) ∧ va 22 0 (185 + 5 * c + 2) = nn (w 7 t (2 * (100 * (c / 64) + c % 64) + 1)) := fun c hc hp => by
    rw [th c hc] at hp
    have hp2 : 0 < w 4 t (100 * (c / 64) + c % 64) := by
      by_cases e : 0 < w 4 t (100 * (c / 64) + c % 64)
      · exact e
      · rw [if_neg e] at hp; omega
    have hia : ((100 * (c / 64) + c % 64) < 64 ∨ (100 ≤ (100 * (c / 64) + c % 64) ∧ (100 * (c / 64) + c % 64) < 164) ∨ (200 ≤ (100 * (c / 64) + c % 64) ∧ (100 * (c / 64) + c % 64) < 260)) := by omega
    have hD := hRa.2.2.2.2 _ hia hp2
    rw [show 64 * ((100 * (c / 64) + c % 64) / 100) + (100 * (c / 64) + c % 64) % 100 = c by omega] at hD
    exact ⟨hia, hp2, hD.2.1, hD.2.2.1⟩
  obtain ⟨v2, k1, k2, k3, k4⟩ := mendN_l (x := x) (c0 := sm (tw w t x) 260) (c1 := ca) (by omega) (by omega) LF 0 v1 (by omega) (by rw [show LF = 10000 from rfl]; omega) (fun c _ hc hp => by
    rw [r1 _ (by omega)] at hp
    obtain ⟨z1, z2, z3, z4⟩ := hNm c hc hp
    rw [r1 _ (by omega), r1 _ (by omega), z3, z4]
    exact ⟨okP _ (hI.N _ (by omega) z2 0 (by decide)), okP _ (hI.N _ (by omega) z2 1 (by decide))⟩)
  obtain ⟨v3, l1, l2, l3, l4⟩ := mendC_l (x := x) (c0 := sm (tw w t x) 260) (by omega) (by omega) LF (ca + 1) v2 (by omega) (by rw [show LF = 10000 from rfl]; omega)
  have r2 : ∀ j, (∀ c, c < 188 → j ≠ 185 + 5 * c + 1 ∧ j ≠ 185 + 5 * c + 2) → v2 22 0 j = v1 22 0 j := fun j hj => k3 j (fun c _ hc => hj c hc)
  have hmd : X8_mend x v = some (sm (tw w t x) 260 - 1, v3) := by
    unfold X8_mend
    have hf8 : X8_first x va = some ((ca : Int), va) := by
      refine first8_l (x := x) (by omega) hca2 ?_ (fun c hc e => ?_) LF 0 (by omega) (by rw [show LF = 10000 from rfl]; omega)
      · rw [th ca hca2, show 100 * (ca / 64) + ca % 64 = a by omega, if_pos f6, f7]
      · rw [th c (by omega)] at e
        by_cases e2 : 0 < w 4 t (100 * (c / 64) + c % 64)
        · rw [if_pos e2] at e
          exact hl _ (by omega) ⟨e2, by omega⟩
        · rw [if_neg e2] at e
          omega
    rw [isThing8_e, a0, if_pos hx, bd_t, if_neg (by decide), copies8_e hR hI (by omega), bd_t, isMoving8_e, a2, if_neg (by omega), bd_t, if_pos rfl, if_neg (by omega), ha, bd_t, hf8, bd_t]
    have e0 : ((0 : Nat) : Int) = 0 := rfl
    rw [e0] at g1 k1
    rw [g1, k1]
    rw [show ((ca + 1 : Nat) : Int) = (ca : Int) + 1 by omega] at l1
    exact l1
  have hI2 := hI.md hm (hW.2 hm) ha260 ⟨f6, f7⟩ m2 m3 m4 m5
  have o : ∀ c, c ≠ 4 → c ≠ 7 → c ≠ 1 → ∀ i, w1 c t i = w c t i := fun c h1 h2 h3 i => m2 c t i (by omega)
  refine ⟨_, _, _, hc, hmd, ⟨by omega, by omega⟩, Or.inr ⟨by omega, ⟨hI2.mono (by omega), ?_, ?_⟩, ?_, FrM.tr g2 (FrM.tr k2 l2)⟩⟩
  · unfold IvW
    rw [o 0 (by decide) (by decide) (by decide), o 8 (by decide) (by decide) (by decide), o 8 (by decide) (by decide) (by decide)]
    exact hW
  · have lo : ∀ j, j < 185 → v3 22 0 j = v1 22 0 j := fun j hj => by
      rw [l3 j (fun c _ _ => by omega), r2 j (fun c _ => by omega)]
    have lo2 : ∀ j, j < 185 → (j < 9 ∨ 17 ≤ j) → v3 22 0 j = va 22 0 j := fun j hj h2 => by
      rw [lo j hj, g3 j (by omega)]
    have hf : (w 0 t 3).toNat < 2 := by omega
    obtain ⟨q1, q2, q3, q4⟩ := hI.Q
    refine ⟨?_, ?_, ?_, ?_, ?_⟩
    · have hRA := hRa.1
      unfold ReA at hRA ⊢
      simp only [o 0 (by decide) (by decide) (by decide), o 8 (by decide) (by decide) (by decide)]
      rw [lo2 0 (by omega) (by omega), lo2 1 (by omega) (by omega), lo2 2 (by omega) (by omega), lo2 3 (by omega) (by omega), lo2 (4 + _) (by omega) (by omega), lo2 (5 - _) (by omega) (by omega), lo2 6 (by omega) (by omega), lo2 7 (by omega) (by omega), lo2 8 (by omega) (by omega)]
      exact hRA
    · intro h hh
      rw [lo _ (by omega), g4 h (by omega) hh, had, m4 h hh, hRa.2.1 h hh]
      exact (rp_tn hRa hI ha260 ⟨f6, f7⟩ hl hx.1 (hHp h hh)).symm
    · intro j hj
      rw [o 8 (by decide) (by decide) (by decide), o 8 (by decide) (by decide) (by decide), hW.2 hm] at hj
      omega
    · intro d hd
      rw [o 3 (by decide) (by decide) (by decide), m3]
      have hC := hRa.2.2.2.1 d hd
      obtain ⟨cd, hcd⟩ : ∃ z : Nat, z = (64 * (d / 100) + d % 100) := ⟨_, rfl⟩
      rw [← hcd] at hC ⊢
      have e2 : v2 22 0 (185 + 5 * cd) = va 22 0 (185 + 5 * cd) := by
        rw [r2 _ (fun c _ => by omega), r1 _ (by omega)]
      by_cases e : ca + 1 ≤ cd
      · rw [l4 cd e (by omega), e2, hC]
        by_cases h4 : 0 < w 4 t d ∧ w 3 t d = x
        · rw [if_pos (show a + 1 ≤ d ∧ d < 260 ∧ 0 < w 4 t d ∧ w 3 t d = x from ⟨by omega, by omega, h4⟩), if_neg (show ¬ (0 : Int) < 0 by decide), if_pos h4.1, if_pos (by omega)]
        · rw [if_neg (show ¬ (a + 1 ≤ d ∧ d < 260 ∧ 0 < w 4 t d ∧ w 3 t d = x) from fun q => h4 q.2.2)]
          by_cases h5 : 0 < w 4 t d
          · rw [if_pos h5, if_neg (by omega)]
          · rw [if_neg h5, if_neg (by omega)]
      · rw [l3 _ (fun c c1 c2 => by omega), e2, hC, if_neg (show ¬ (a + 1 ≤ d ∧ d < 260 ∧ 0 < w 4 t d ∧ w 3 t d = x) by omega)]
    · intro d hd hpd
      have hd260 : d < 260 := by omega
      have hne : ¬ (a + 1 ≤ d ∧ d < 260 ∧ 0 < w 4 t d ∧ w 3 t d = x) := fun q => by
        rw [m3, if_pos q] at hpd
        omega
      rw [m3, if_neg hne] at hpd ⊢
      have hD := hRa.2.2.2.2 d hd hpd
      have hC := hRa.2.2.2.1 d hd
      rw [if_pos hpd] at hC
      have hS2 := ((hI.S d hd260).2.2 hpd).2
      rw [o 3 (by decide) (by decide) (by decide), o 5 (by decide) (by decide) (by decide), o 6 (by decide) (by decide) (by decide), m5 _ (by omega), m5 _ (by omega)]
      have hN0 : w 7 t (2 * d) = 300 ∨ prs w t (w 7 t (2 * d)) := hI.N d hd260 hpd 0 (by decide)
      rw [rp_tn hRa hI ha260 ⟨f6, f7⟩ hl hx.1 hN0, rp_tn hRa hI ha260 ⟨f6, f7⟩ hl hx.1 (hI.N d hd260 hpd 1 (by decide))]
      have ht0 : 0 ≤ w 3 t d ∧ w 3 t d < 40 := by omega
      obtain ⟨cd, hcd⟩ : ∃ z : Nat, z = (64 * (d / 100) + d % 100) := ⟨_, rfl⟩
      rw [← hcd] at hC hD ⊢
      have hp1 : 0 < v1 22 0 (185 + 5 * cd) := by rw [r1 _ (by omega), hC]; omega
      obtain ⟨n1, n2⟩ := k4 cd (by omega) (by omega) hp1
      rw [had, r1 _ (by omega), hD.2.1, tn_eq (v := va) (fun c => r1 _ (by omega))] at n1
      rw [had, r1 _ (by omega), hD.2.2.1, tn_eq (v := va) (fun c => r1 _ (by omega))] at n2
      have z : ∀ j, (∀ c, c < 188 → j ≠ 185 + 5 * c ∧ j ≠ 185 + 5 * c + 1 ∧ j ≠ 185 + 5 * c + 2) → 17 ≤ j → v3 22 0 j = va 22 0 j := fun j hj h17 => by
        rw [l3 j (fun c _ hc => (hj c hc).1), r2 j (fun c hc => (hj c hc).2), r1 j h17]
      rw [l3 (185 + 5 * cd + 1) (fun c _ _ => by omega), n1, l3 (185 + 5 * cd + 2) (fun c _ _ => by omega), n2]
      rw [z _ (fun c _ => by omega) (by omega), z (185 + 5 * cd + 3) (fun c _ => by omega) (by omega), z (185 + 5 * cd + 4) (fun c _ => by omega) (by omega)]
      exact ⟨hD.1, rfl, rfl, hD.2.2.2.1, hD.2.2.2.2⟩
  · intro c t' j hn
    exact m2 c t' j (by omega)
end MEND2
