/-! PURE: what names lead to, both sides -/
section REACH
variable {B : Int} {w v va w1 : Wd} {t a i : Nat}
def FrX (w w1 : Wd) : Prop := ∀ c t i, ¬ (13 ≤ c ∧ c ≤ 16) → w1 c t i = w c t i
def FrY (v v1 : Wd) : Prop := ∀ c t i, ¬ (c = 27 ∨ c = 28 ∨ (c = 21 ∧ 3 ≤ i)) → v1 c t i = v c t i
theorem FrX.rf : FrX w w := fun _ _ _ _ => rfl
theorem FrX.tr {w2 : Wd} (h1 : FrX w w1) (h2 : FrX w1 w2) : FrX w w2 := fun c t i h => (h2 c t i h).trans (h1 c t i h)
theorem FrX.ups {c : Nat} {x : Int} (h : FrX w w1) (hc : 13 ≤ c ∧ c ≤ 16) : FrX w (up w1 c t i x) := fun c' t' j hn => by
  rw [up_c (by omega)]
  exact h c' t' j hn
theorem FrY.rf : FrY w w := fun _ _ _ _ => rfl
theorem FrY.tr {w2 : Wd} (h1 : FrY w w1) (h2 : FrY w1 w2) : FrY w w2 := fun c t i h => (h2 c t i h).trans (h1 c t i h)
theorem FrY.ups {c : Nat} {x : Int} (h : FrY w w1) (hc : c = 27 ∨ c = 28) : FrY w (up w1 c t i x) := fun c' t' j hn => by
  rw [up_c (by omega)]
  exact h c' t' j hn
theorem FrY.up4 {x : Int} (h : FrY w w1) : FrY w (up w1 21 0 4 x) := fun c' t' j hn => by
  unfold up
  rw [if_neg (by omega)]
  exact h c' t' j hn
theorem Si.xy {v1 : Wd} (hS : Si B w v 0) (hx : FrX w w1) (hy : FrY v v1) : Si B w1 v1 0 := hS.cg (Ag.of (fun c hc i => hx c 0 i (by omega))) (fun i _ => hy 22 0 i (by omega))
/-- what was found, on both sides -/
def RS (w v : Wd) : Prop := v 21 0 4 = w 13 0 0 ∧ w 13 0 0 = sm (fun c => v 27 0 c) 188 ∧ (∀ c, c < 188 → v 27 0 c = 0 ∨ v 27 0 c = 1) ∧ (∀ a : Nat, (a < 64 ∨ (100 ≤ a ∧ a < 164) ∨ (200 ≤ a ∧ a < 260)) → v 27 0 (64 * (a / 100) + a % 100) = w 14 0 a) ∧ ∀ j : Nat, (j : Int) < w 13 0 0 → prs w 0 (w 15 0 j) ∧ v 28 0 j = (64 * ((w 15 0 j) / 100) + (w 15 0 j) % 100)
theorem RS.m (h : RS w v) : 0 ≤ w 13 0 0 ∧ w 13 0 0 ≤ 188 := by
  obtain ⟨h1, h2, h3, _⟩ := h
  have z1 := sm_nonneg (f := fun c => v 27 0 c) 188 (fun i hi => by
    show 0 ≤ v 27 0 i
    rcases h3 i hi with e | e <;> omega)
  have z2 := sm_le (f := fun c => v 27 0 c) (b := 1) 188 (fun i hi => by
    show v 27 0 i ≤ 1
    rcases h3 i hi with e | e <;> omega)
  omega
theorem RS.m2 (h : RS w v) {c : Nat} (hc : c < 188) (h0 : v 27 0 c = 0) : w 13 0 0 < 188 := by
  obtain ⟨h1, h2, h3, _⟩ := h
  have z1 := sm_chg (f := fun d => if d = c then 1 else v 27 0 d) (g := fun d => v 27 0 d) (k := c) 188 hc (fun i _ hne => by simp [hne])
  have z2 := sm_le (f := fun d => if d = c then 1 else v 27 0 d) (b := 1) 188 (fun i hi => by
    show (if i = c then (1 : Int) else v 27 0 i) ≤ 1
    split
    · decide
    · rcases h3 i hi with e | e <;> omega)
  simp only [if_true, h0] at z1
  omega
theorem clear_l : ∀ (n p : Nat) (w : Wd), p ≤ 260 → 260 - p < n → ∃ w1, X4_clear_b2 n p w = some (0, w1) ∧ FrX w w1 ∧ w1 13 0 0 = 0 ∧ ∀ i, w1 14 0 i = if p ≤ i ∧ i < 260 then 0 else w 14 0 i := by
  intro n
  induction n with
  | zero => intro p w h1 h2; omega
  | succ n ih =>
    intro p w h1 h2
    rw [X4_clear_b2]
    by_cases h3 : p < 260
    · obtain ⟨w1, g1, g2, g3, g4⟩ := ih (p + 1) (up w 14 0 p 0) (by omega) (by omega)
      refine ⟨w1, ?_, FrX.tr (FrX.rf.ups (by decide)) g2, g3, fun i => ?_⟩
      · rw [if_pos (by omega), gd_t ⟨by omega, by omega⟩, gd_t ⟨by omega, by omega⟩]
        exact g1
      · rw [g4]
        by_cases e : p + 1 ≤ i ∧ i < 260
        · rw [if_pos e, if_pos ⟨by omega, e.2⟩]
        · rw [if_neg e]
          by_cases e2 : i = p
          · rw [up_h e2, if_pos (by omega)]
          · rw [up_n e2, if_neg (by omega)]
    · refine ⟨up w 13 0 0 0, ?_, FrX.rf.ups (by decide), up_h rfl, fun i => ?_⟩
      · rw [if_neg (by omega)]
      · rw [if_neg (by omega), up_c (by decide)]
theorem forgets_l : ∀ (n p : Nat) (v : Wd), p ≤ 188 → 188 - p < n → ∃ v1, X8_forgets_b2 n p v = some (0, v1) ∧ FrY v v1 ∧ v1 21 0 4 = 0 ∧ ∀ i, v1 27 0 i = if p ≤ i ∧ i < 188 then 0 else v 27 0 i := by
  intro n
  induction n with
  | zero => intro p v h1 h2; omega
  | succ n ih =>
    intro p v h1 h2
    rw [X8_forgets_b2]
    by_cases h3 : p < 188
    · obtain ⟨v1, g1, g2, g3, g4⟩ := ih (p + 1) (up v 27 0 p 0) (by omega) (by omega)
      refine ⟨v1, ?_, FrY.tr (FrY.rf.ups (by decide)) g2, g3, fun i => ?_⟩
      · rw [if_pos (by omega), gd_t ⟨by omega, by omega⟩, gd_t ⟨by omega, by omega⟩]
        exact g1
      · rw [g4]
        by_cases e : p + 1 ≤ i ∧ i < 188
        · rw [if_pos e, if_pos ⟨by omega, e.2⟩]
        · rw [if_neg e]
          by_cases e2 : i = p
          · rw [up_h e2, if_pos (by omega)]
          · rw [up_n e2, if_neg (by omega)]
    · refine ⟨up v 21 0 4 0, ?_, FrY.rf.up4, up_h rfl, fun i => ?_⟩
      · rw [if_neg (by omega)]
      · rw [if_neg (by omega), up_c (by decide)]
theorem RS.new (h1 : w 13 0 0 = 0) (h2 : v 21 0 4 = 0) (h3 : ∀ i, i < 260 → w 14 0 i = 0) (h4 : ∀ i, i < 188 → v 27 0 i = 0) : RS w v := by
  refine ⟨by omega, ?_, fun c hc => Or.inl (h4 c hc), fun a ha => ?_, fun j hj => by omega⟩
  · rw [h1, sm_zero 188 (fun i hi => h4 i hi)]
  · rw [h4 _ (by omega), h3 _ (by omega)]
/-- a place is found -/
theorem RS.ad (h : RS w v) {z : Int} (hz : prs w 0 z) (h0 : w 14 0 z.toNat = 0) : RS (up (up (up w 14 0 z.toNat 1) 15 0 (w 13 0 0).toNat z) 13 0 0 (w 13 0 0 + 1)) (up (up (up v 27 0 (64 * (z.toNat / 100) + z.toNat % 100) 1) 28 0 (w 13 0 0).toNat (64 * (z / 100) + z % 100)) 21 0 4 (w 13 0 0 + 1)) := by
  have hm := h.m
  obtain ⟨r1, r2, r3, r4, r5⟩ := h
  have hl := hz.lt
  have hia := hz.2.1
  have hc0 : v 27 0 (64 * (z.toNat / 100) + z.toNat % 100) = 0 := by rw [r4 _ hia, h0]
  have e27 : ∀ c, (up (up (up v 27 0 (64 * (z.toNat / 100) + z.toNat % 100) 1) 28 0 (w 13 0 0).toNat (64 * (z / 100) + z % 100)) 21 0 4 (w 13 0 0 + 1)) 27 0 c = if c = (64 * (z.toNat / 100) + z.toNat % 100) then 1 else v 27 0 c := fun c => by
    rw [up_c (by decide), up_c (by decide)]
    by_cases e : c = (64 * (z.toNat / 100) + z.toNat % 100)
    · rw [up_h e, if_pos e]
    · rw [up_n e, if_neg e]
  have e13 : (up (up (up w 14 0 z.toNat 1) 15 0 (w 13 0 0).toNat z) 13 0 0 (w 13 0 0 + 1)) 13 0 0 = w 13 0 0 + 1 := up_h rfl
  refine ⟨?_, ?_, fun c hc => ?_, fun a ha => ?_, fun j hj => ?_⟩
  · rw [up_h rfl, e13]
  · have z1 := sm_chg (f := fun c => (up (up (up v 27 0 (64 * (z.toNat / 100) + z.toNat % 100) 1) 28 0 (w 13 0 0).toNat (64 * (z / 100) + z % 100)) 21 0 4 (w 13 0 0 + 1)) 27 0 c) (g := fun c => v 27 0 c) (k := (64 * (z.toNat / 100) + z.toNat % 100)) 188 (by omega) (fun i _ hne => by
      show (up (up (up v 27 0 (64 * (z.toNat / 100) + z.toNat % 100) 1) 28 0 (w 13 0 0).toNat (64 * (z / 100) + z % 100)) 21 0 4 (w 13 0 0 + 1)) 27 0 i = v 27 0 i
      rw [e27, if_neg hne])
    simp only [e27, if_true] at z1
    rw [hc0] at z1
    rw [e13]
    simp only [e27]
    omega
  · rw [e27]
    split
    · exact Or.inr rfl
    · exact r3 c hc
  · rw [e27, up_c (by decide), up_c (by decide)]
    by_cases e : a = z.toNat
    · rw [up_h e, if_pos (by rw [e])]
    · rw [up_n e, if_neg (by omega), r4 a ha]
  · rw [e13] at hj
    have hp : ∀ y, prs (up (up (up w 14 0 z.toNat 1) 15 0 (w 13 0 0).toNat z) 13 0 0 (w 13 0 0 + 1)) 0 y ↔ prs w 0 y := fun y => by
      unfold prs
      rw [up_c (by decide), up_c (by decide), up_c (by decide)]
    have e15 : (up (up (up w 14 0 z.toNat 1) 15 0 (w 13 0 0).toNat z) 13 0 0 (w 13 0 0 + 1)) 15 0 j = if j = (w 13 0 0).toNat then z else w 15 0 j := by
      rw [up_c (by decide)]
      by_cases e : j = (w 13 0 0).toNat
      · rw [up_h e, if_pos e]
      · rw [up_n e, if_neg e, up_c (by decide)]
    have e28 : (up (up (up v 27 0 (64 * (z.toNat / 100) + z.toNat % 100) 1) 28 0 (w 13 0 0).toNat (64 * (z / 100) + z % 100)) 21 0 4 (w 13 0 0 + 1)) 28 0 j = if j = (w 13 0 0).toNat then (64 * (z / 100) + z % 100) else v 28 0 j := by
      rw [up_c (by decide)]
      by_cases e : j = (w 13 0 0).toNat
      · rw [up_h e, if_pos e]
      · rw [up_n e, if_neg e, up_c (by decide)]
    rw [e15, e28, hp]
    by_cases e : j = (w 13 0 0).toNat
    · rw [if_pos e, if_pos e]
      exact ⟨hz, rfl⟩
    · rw [if_neg e, if_neg e]
      exact r5 j (by omega)
theorem add_b (hS : Si B w v 0) (h : RS w v) {y : Int} (hy : y = 300 ∨ prs w 0 y) : ∃ w' v', X4_add 0 y w = some (0, w') ∧ X8_leads (nn y) v = some (0, v') ∧ RS w' v' ∧ FrX w w' ∧ FrY v v' ∧ w 13 0 0 ≤ w' 13 0 0 := by
  obtain ⟨hI, hW, hR⟩ := hS
  rcases hy with e | hp
  · subst e
    refine ⟨w, v, ?_, ?_, h, FrX.rf, FrY.rf, Int.le_refl _⟩
    · unfold X4_add X0_leadsTo
      rw [noteAt_0 (by omega), bd_t, if_pos rfl, bd_t, isAt_0 (by omega), bd_t, if_pos rfl]
    · unfold X8_leads
      rw [nn_300, if_pos rfl]
  · have hl := hp.lt
    have hm := h.m
    have hn := hI.note_c (d := y.toNat) (by omega) hp.2.2
    obtain ⟨d1, d2, d3, d4, d5, d6, d7, d8, d9, d10, d11⟩ := hR.cell hI hp
    obtain ⟨z, hz, hzc, hzm⟩ : ∃ z : Int, prs w 0 z ∧ X0_leadsTo 0 y w = some (z, w) ∧ X8_leads (nn y) v = X8_leads_b36 (64 * (z / 100) + z % 100) v := by
      unfold X0_leadsTo X8_leads
      rw [noteAt_1 hl hp.2.2, bd_t, nn_ne (by omega), if_neg (show ¬ y = -9 by omega), cell8_e (by omega), bd_t, ofCopy8_e ⟨d1, d2⟩ (by decide), bd_t, d3]
      rw [show 185 + 5 * (64 * (y.toNat / 100) + y.toNat % 100) + (3 : Int).toNat = 185 + 5 * (64 * (y.toNat / 100) + y.toNat % 100) + 3 from rfl, d10]
      by_cases h5 : w 5 0 y.toNat = 300
      · refine ⟨y, hp, by rw [if_pos h5], ?_⟩
        rw [if_pos (hn.mpr h5)]
      · have hT := ((hI.T y.toNat (by omega) hp.2.2).resolve_left h5).2.2.1
        have hTl := hT.lt
        refine ⟨w 5 0 y.toNat, hT, by rw [if_neg h5], ?_⟩
        rw [if_neg (fun q => h5 (hn.mp q)), ofCopy8_e ⟨d1, d2⟩ (by decide), bd_t, d3, show 185 + 5 * (64 * (y.toNat / 100) + y.toNat % 100) + (3 : Int).toNat = 185 + 5 * (64 * (y.toNat / 100) + y.toNat % 100) + 3 from rfl, d10, nn_ne h5, cell8_e (by omega), bd_t]
    have hzl := hz.lt
    have hia := hz.2.1
    have hr4 := h.2.2.2.1 z.toNat hia
    have hcn : ((64 * (z / 100) + z % 100)).toNat = (64 * (z.toNat / 100) + z.toNat % 100) := by omega
    have hcb : 0 ≤ (64 * (z / 100) + z % 100) ∧ (64 * (z / 100) + z % 100) < 188 := by omega
    by_cases h0 : w 14 0 z.toNat = 0
    · have hlt := h.m2 (c := (64 * (z.toNat / 100) + z.toNat % 100)) (by omega) (by rw [hr4, h0])
      refine ⟨_, _, ?_, ?_, h.ad hz h0, ((FrX.rf.ups (by decide)).ups (by decide)).ups (by decide), ((FrY.rf.ups (by decide)).ups (by decide)).up4, ?_⟩
      · unfold X4_add X4_isReached
        rw [hzc, bd_t, isAt_1 hzl hz.2.2, bd_t, if_neg (by decide), if_neg (by omega), if_pos hzl.2, gd_t hzl, if_pos h0, bd_t, if_pos rfl, if_pos (by omega), gd_t hzl]
        have e13 : (up w 14 0 z.toNat 1) 13 0 0 = w 13 0 0 := up_c (by decide)
        have e13b : (up (up w 14 0 z.toNat 1) 15 0 (w 13 0 0).toNat z) 13 0 0 = w 13 0 0 := by rw [up_c (by decide), up_c (by decide)]
        rw [e13, e13b, gd_t ⟨by omega, by omega⟩, gd_t ⟨by omega, by omega⟩]
      · rw [hzm]
        unfold X8_leads_b36
        have e4 : (up v 27 0 ((64 * (z / 100) + z % 100)).toNat 1) 21 0 4 = w 13 0 0 := by rw [up_c (by decide), h.1]
        have e4b : (up (up v 27 0 ((64 * (z / 100) + z % 100)).toNat 1) 28 0 (w 13 0 0).toNat (64 * (z / 100) + z % 100)) 21 0 4 = w 13 0 0 := by rw [up_c (by decide), e4]
        rw [gd_t hcb, if_pos (by rw [hcn, hr4, h0]), e4, e4b, gd_t ⟨by omega, by omega⟩, gd_t ⟨by omega, by omega⟩, hcn]
      · rw [up_h rfl]
        omega
    · refine ⟨w, v, ?_, ?_, h, FrX.rf, FrY.rf, Int.le_refl _⟩
      · unfold X4_add X4_isReached
        rw [hzc, bd_t, isAt_1 hzl hz.2.2, bd_t, if_neg (by decide), if_neg (by omega), if_pos hzl.2, gd_t hzl, if_neg h0, bd_t, if_neg (by decide)]
      · rw [hzm]
        unfold X8_leads_b36
        rw [gd_t hcb, if_neg (by rw [hcn, hr4]; exact h0)]
theorem spread_l : ∀ (n n' p : Nat) (w v : Wd), Si B w v 0 → RS w v → p ≤ 188 → 188 - p < n → 188 - p < n' → ∃ w' v', X4_spread_b2 0 n p w = some (0, w') ∧ X8_reaches_b2 n' p v = some (0, v') ∧ RS w' v' ∧ FrX w w' ∧ FrY v v' := by
  intro n
  induction n with
  | zero => intro n' p w v hS hR h1 h2; omega
  | succ n ih =>
    intro n' p w v hS h h1 h2 h3
    match n', h3 with
    | 0, h3 => omega
    | n' + 1, h3 =>
      have hm := h.m
      rw [X4_spread_b2, X8_reaches_b2]
      by_cases h4 : (p : Int) < w 13 0 0
      · have hp := h.2.2.2.2 p h4
        have hI := hS.1
        obtain ⟨d1, d2, d3, d4, d5, d6, d7, d8, d9, d10, d11⟩ := hS.2.2.cell hI hp.1
        have hl := hp.1.lt
        have hN : w 7 0 (2 * (w 15 0 p).toNat) = 300 ∨ prs w 0 (w 7 0 (2 * (w 15 0 p).toNat)) := hI.N _ (by omega) hp.1.2.2 0 (by decide)
        obtain ⟨wa, va, a1, a2, a3, a4, a5, a6⟩ := add_b hS h hN
        have hS2 := hS.xy a4 a5
        have hp2 := a3.2.2.2.2 p (by omega)
        obtain ⟨c1, c2, c3, c4, c5, c6, c7, c8, c9, c10, c11⟩ := hS2.2.2.cell hS2.1 hp2.1
        have hl2 := hp2.1.lt
        obtain ⟨wb, vb, b1, b2, b3, b4, b5, b6⟩ := add_b hS2 a3 (hS2.1.N _ (by omega) hp2.1.2.2 1 (by decide))
        obtain ⟨wc, vc, g1, g2, g3, g4, g5⟩ := ih n' (p + 1) wb vb (hS2.xy b4 b5) b3 (by omega) (by omega) (by omega)
        rw [show ((p + 1 : Nat) : Int) = (p : Int) + 1 by omega] at g1 g2
        refine ⟨wc, vc, ?_, ?_, g3, a4.tr (b4.tr g4), a5.tr (b5.tr g5)⟩
        · have e0 : 2 * (w 15 0 p).toNat + (0 : Int).toNat = 2 * (w 15 0 p).toNat := rfl
          have e1 : 2 * (wa 15 0 p).toNat + (1 : Int).toNat = 2 * (wa 15 0 p).toNat + 1 := rfl
          rw [if_pos h4, if_pos (by omega), gd_t ⟨by omega, by omega⟩, show ((p : Nat) : Int).toNat = p from rfl, nameAt_1 hl hp.1.2.2 (Or.inl rfl), bd_t, e0, a1, bd_t, nameAt_1 hl2 hp2.1.2.2 (Or.inr rfl), bd_t, e1, b1, bd_t, gd_t ⟨by omega, by omega⟩, g1]
        · rw [h.1, if_pos h4, gd_t ⟨by omega, by omega⟩, show ((p : Nat) : Int).toNat = p from rfl, hp.2, ofCopy8_e ⟨d1, d2⟩ (by decide), bd_t, d3]
          rw [show 185 + 5 * (64 * (((w 15 0 p).toNat) / 100) + ((w 15 0 p).toNat) % 100) + (1 : Int).toNat = 185 + 5 * (64 * (((w 15 0 p).toNat) / 100) + ((w 15 0 p).toNat) % 100) + 1 from rfl, d8, a2, bd_t, hp2.2, ofCopy8_e ⟨c1, c2⟩ (by decide), bd_t, c3]
          rw [show 185 + 5 * (64 * (((wa 15 0 p).toNat) / 100) + ((wa 15 0 p).toNat) % 100) + (2 : Int).toNat = 185 + 5 * (64 * (((wa 15 0 p).toNat) / 100) + ((wa 15 0 p).toNat) % 100) + 2 from rfl, c9, b2, bd_t, gd_t ⟨by omega, by omega⟩, g2]
      · refine ⟨w, v, ?_, ?_, h, FrX.rf, FrY.rf⟩
        · rw [if_neg h4]
        · rw [if_neg (by rw [h.1]; exact h4)]
end REACH
