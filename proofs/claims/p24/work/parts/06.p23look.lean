/-! PURE: looking, both sides -/
section LOOK
variable {B : Int} {k : Nat} {ex : Int} {w v va w1 : Wd} {t a i : Nat}
theorem sm_mn {f : Nat → Int} {n m : Nat} (h : n ≤ m) (hf : ∀ i, i < m → 0 ≤ f i) : sm f n ≤ sm f m := by
  have e := sm_add (f := f) n (m - n)
  rw [show n + (m - n) = m by omega] at e
  have := sm_nonneg (f := fun i => f (n + i)) (m - n) (fun i hi => hf _ (by omega))
  omega
theorem sm_upto {f : Nat → Int} (h0 : ∀ d, d < 260 → ¬ (d < 64 ∨ (100 ≤ d ∧ d < 164) ∨ (200 ≤ d ∧ d < 260)) → f d = 0) : ∀ c, c ≤ 188 → sm f (100 * (c / 64) + c % 64) = sm (fun c => f (100 * (c / 64) + c % 64)) c := by
  intro c
  induction c with
  | zero => intro _; rfl
  | succ c ih =>
    intro hc
    have e := ih (by omega)
    show _ = sm (fun c => f (100 * (c / 64) + c % 64)) c + f (100 * (c / 64) + c % 64)
    rw [← e]
    obtain ⟨d, hd⟩ : ∃ d, d = 100 * (c / 64) + c % 64 := ⟨_, rfl⟩
    rw [← hd]
    show _ = sm f (d + 1)
    by_cases h : (c + 1) % 64 = 0
    · rw [show 100 * ((c + 1) / 64) + (c + 1) % 64 = d + 1 + 36 by omega, sm_add, sm_zero 36 (fun i hi => h0 _ (by omega) (by omega)), Int.add_zero]
    · rw [show 100 * ((c + 1) / 64) + (c + 1) % 64 = d + 1 by omega]
theorem cp_out (hI : Iv B k ex w t) (x : Int) : ∀ d, d < 260 → ¬ (d < 64 ∨ (100 ≤ d ∧ d < 164) ∨ (200 ≤ d ∧ d < 260)) → cp w t x d = 0 := fun d hd hn => if_neg (fun q => hn ((hI.S d hd).2.2 q.1).1)
theorem cp_one {x : Int} {d1 d2 : Nat} (h1 : 0 < w 4 t d1 ∧ w 3 t d1 = x) (h2 : 0 < w 4 t d2 ∧ w 3 t d2 = x) (he : sm (cp w t x) d1 = sm (cp w t x) d2) : d1 = d2 := by
  have key : ∀ p q : Nat, 0 < w 4 t p ∧ w 3 t p = x → sm (cp w t x) p = sm (cp w t x) q → ¬ p < q := fun p q hp he hl => by
    have e : sm (cp w t x) (p + 1) = sm (cp w t x) p + cp w t x p := rfl
    rw [show cp w t x p = 1 from if_pos hp] at e
    have := sm_mn (f := cp w t x) (n := p + 1) (m := q) hl (fun i _ => (cp_01 x i).1)
    omega
  have a1 := key d1 d2 h1 he
  have a2 := key d2 d1 h2 he.symm
  omega
theorem where_l (hR : Re w v t) (hI : Iv B k ex w t) {x y : Int} (hx : 0 ≤ x ∧ x ≤ 1000) : ∀ (n c : Nat), c ≤ 188 → 188 - c < n → sm (cp w t x) (100 * (c / 64) + c % 64) ≤ y → ∃ r : Int, X8_where_b19 n x y (sm (cp w t x) (100 * (c / 64) + c % 64)) c v = some (r, v) ∧ ((r = -9 ∧ sm (cp w t x) 260 ≤ y) ∨ (0 ≤ r ∧ r < 260 ∧ 0 < w 4 t r.toNat ∧ w 3 t r.toNat = x ∧ sm (cp w t x) r.toNat = y)) := by
  have hu := sm_upto (cp_out hI x)
  intro n
  induction n with
  | zero => intro c h1 h2; omega
  | succ n ih =>
    intro c h1 h2 hy
    have hb := sm_cp (w := w) (t := t) x (100 * (c / 64) + c % 64)
    rw [X8_where_b19]
    by_cases h3 : c < 188
    · have hth := thing8 hR c h3
      have hs : sm (cp w t x) (100 * ((c + 1) / 64) + (c + 1) % 64) = sm (cp w t x) (100 * (c / 64) + c % 64) + cp w t x (100 * (c / 64) + c % 64) := by
        rw [hu (c + 1) (by omega), hu c (by omega)]
        rfl
      have ih2 := ih (c + 1) (by omega) (by omega)
      rw [hs, show ((c + 1 : Nat) : Int) = (c : Int) + 1 by omega] at ih2
      obtain ⟨d, hd⟩ : ∃ d, d = 100 * (c / 64) + c % 64 := ⟨_, rfl⟩
      rw [← hd] at hth ih2 hy hb ⊢
      have hS := hI.S d (by omega)
      rw [if_pos (by omega), ofCopy8_e (by omega) (by omega), bd_t, gd_t ⟨by omega, by omega⟩]
      have e0 : 185 + 5 * ((c : Nat) : Int).toNat + (0 : Int).toNat = 185 + 5 * c := rfl
      rw [e0, hth]
      by_cases h4 : 0 < w 4 t d ∧ w 3 t d = x
      · have e : cp w t x d = 1 := if_pos h4
        rw [e] at ih2
        rw [if_pos h4.1, if_pos (by omega)]
        unfold X8_where_b45
        rw [if_neg (by decide)]
        by_cases h5 : sm (cp w t x) d = y
        · refine ⟨d, ?_, Or.inr ⟨by omega, by omega, h4.1, h4.2, h5⟩⟩
          rw [if_pos h5, address8_e (by omega), bd_t]
          exact some_eq (by omega)
        · obtain ⟨r, g1, g2⟩ := ih2 (by omega)
          refine ⟨r, ?_, g2⟩
          rw [if_neg h5]
          unfold X8_where_b63
          rw [if_neg (by decide), gd_t ⟨by omega, by omega⟩, gd_t ⟨by omega, by omega⟩]
          exact g1
      · have e : cp w t x d = 0 := if_neg h4
        rw [e] at ih2
        have hne : ¬ ((if 0 < w 4 t d then w 3 t d + 1 else 0) = x + 1) := by
          by_cases e : 0 < w 4 t d
          · rw [if_pos e]; omega
          · rw [if_neg e]; omega
        obtain ⟨r, g1, g2⟩ := ih2 (by omega)
        refine ⟨r, ?_, g2⟩
        rw [if_neg hne]
        unfold X8_where_b45 X8_where_b63
        rw [if_pos rfl, if_pos rfl, gd_t ⟨by omega, by omega⟩, gd_t ⟨by omega, by omega⟩]
        exact g1
    · refine ⟨-9, by rw [if_neg (by omega)], Or.inl ⟨rfl, ?_⟩⟩
      rw [show 100 * (c / 64) + c % 64 = 260 by omega] at hy
      exact hy
theorem orNone_e {x : Int} : X7_orNone x w = some (nn x, w) := by
  unfold X7_orNone nn
  by_cases h : x = 300
  · rw [if_pos h, if_pos h]
  · rw [if_neg h, if_neg h]
theorem where_b (hS : Si B w v 0) (x y : Int) : ∃ r, X7_where x y w = some (r, w) ∧ X8_where x y v = some (r, v) ∧ InR r := by
  obtain ⟨hI, hW, hR⟩ := hS
  have hA := hI.A
  unfold IvA at hA
  have a0 := hR.1.1
  by_cases hx : 0 ≤ x ∧ x < w 0 0 1
  case neg =>
    refine ⟨-1, ?_, ?_, ⟨by decide, by decide⟩⟩
    · unfold X7_where
      rw [isThing_e, if_neg hx, bd_t, if_pos rfl]
    · unfold X8_where
      rw [isThing8_e, a0, if_neg hx, bd_t, if_pos rfl]
  by_cases hy : y < 0
  · refine ⟨-1, ?_, ?_, ⟨by decide, by decide⟩⟩
    · unfold X7_where
      rw [isThing_e, if_pos hx, bd_t, if_neg (by decide), if_pos hy]
    · unfold X8_where
      rw [isThing8_e, a0, if_pos hx, bd_t, if_neg (by decide), if_pos hy]
  obtain ⟨r, g1, g2⟩ := addressOf_e (w := w) (t := 0) (x := x) (y := y) (by omega)
  obtain ⟨r2, k1, k2⟩ := where_l hR hI (x := x) (y := y) (by omega) LF 0 (by omega) (by rw [show LF = 10000 from rfl]; omega) (by show (0 : Int) ≤ y; omega)
  have hc : X7_where x y w = some (nn r, w) := by
    unfold X7_where
    rw [isThing_e, if_pos hx, bd_t, if_neg (by decide), if_neg hy, g1, bd_t, orNone_e, bd_t]
  have hm : X8_where x y v = some (r2, v) := by
    unfold X8_where
    rw [isThing8_e, a0, if_pos hx, bd_t, if_neg (by decide), if_neg hy]
    exact k1
  have e : nn r = r2 := by
    rcases g2 with q | ⟨q1, q2, q3, q4, q5⟩
    · rcases k2 with z | ⟨z1, z2, z3, z4, z5⟩
      · rw [q.1, z.1, nn_300]
      · exfalso
        have e : sm (cp w 0 x) (r2.toNat + 1) = sm (cp w 0 x) r2.toNat + cp w 0 x r2.toNat := rfl
        rw [show cp w 0 x r2.toNat = 1 from if_pos ⟨z3, z4⟩] at e
        have := sm_mn (f := cp w 0 x) (n := r2.toNat + 1) (m := 260) (by omega) (fun i _ => (cp_01 x i).1)
        omega
    · rw [nn_ne (by omega)]
      rcases k2 with z | ⟨z1, z2, z3, z4, z5⟩
      · exfalso
        have e : sm (cp w 0 x) (r.toNat + 1) = sm (cp w 0 x) r.toNat + cp w 0 x r.toNat := rfl
        rw [show cp w 0 x r.toNat = 1 from if_pos ⟨q3, q4⟩] at e
        have := sm_mn (f := cp w 0 x) (n := r.toNat + 1) (m := 260) (by omega) (fun i _ => (cp_01 x i).1)
        omega
      · have := cp_one ⟨q3, q4⟩ ⟨z3, z4⟩ (by omega)
        omega
  refine ⟨r2, by rw [hc, e], hm, ?_⟩
  rcases k2 with z | z
  · rw [z.1]; exact ⟨by decide, by decide⟩
  · exact ⟨by omega, by omega⟩
theorem hungOn_e {x : Int} : X5_hungOn t x w = some (if 0 ≤ x ∧ x < 8 then w 1 t x.toNat else 300, w) := by
  unfold X5_hungOn
  rw [isHook_e, bd_t]
  by_cases h : 0 ≤ x ∧ x < 8
  · rw [if_pos h, if_neg (by decide), gd_t h, if_pos h]
  · rw [if_neg h, if_pos rfl, if_neg h]
theorem nn_inr {y : Int} (h : y = 300 ∨ prs w t y) : InR (nn y) := by
  rcases h with e | e
  · rw [e]; exact ⟨by decide, by decide⟩
  · have := e.lt
    rw [nn_ne (by omega)]
    exact ⟨by omega, by omega⟩
theorem hook_b (hS : Si B w v 0) (x : Int) : ∃ r, X7_hook x w = some (r, w) ∧ X8_hook x v = some (r, v) ∧ InR r := by
  obtain ⟨hI, hW, hR⟩ := hS
  by_cases hx : 0 ≤ x ∧ x < 8
  · refine ⟨nn (w 1 0 x.toNat), ?_, ?_, nn_inr ((hI.H x.toNat (by omega)).imp (fun q => q) (fun q => q.1))⟩
    · unfold X7_hook
      rw [isHook_e, if_pos hx, bd_t, if_neg (by decide), hungOn_e, if_pos hx, bd_t, orNone_e, bd_t]
    · unfold X8_hook
      rw [isHook8_e, if_pos hx, bd_t, if_neg (by decide), gd_t ⟨by omega, by omega⟩, gd_t ⟨by omega, by omega⟩, show (9 + x).toNat = 9 + x.toNat by omega, hR.2.1 _ (by omega)]
  · refine ⟨-1, ?_, ?_, ⟨by decide, by decide⟩⟩
    · unfold X7_hook
      rw [isHook_e, if_neg hx, bd_t, if_pos rfl]
    · unfold X8_hook
      rw [isHook8_e, if_neg hx, bd_t, if_pos rfl]
theorem copy_b (hS : Si B w v 0) (x y : Int) : ∃ r, X7_copy x y w = some (r, w) ∧ X8_copy x y v = some (r, v) ∧ InR r := by
  obtain ⟨hI, hW, hR⟩ := hS
  have hA := hI.A
  unfold IvA at hA
  by_cases hx : 0 ≤ x ∧ x < 260 ∧ 0 < w 4 0 x.toNat
  case neg =>
    refine ⟨-1, ?_, ?_, ⟨by decide, by decide⟩⟩
    · unfold X7_copy
      rw [isAt_0 hx, bd_t, if_pos rfl]
    · unfold X8_copy
      rw [isAddress8_e]
      by_cases h : 0 ≤ x ∧ (x < 64 ∨ (100 ≤ x ∧ x < 164) ∨ (200 ≤ x ∧ x < 260))
      · obtain ⟨z1, z2⟩ := size8 hR hI (d := x.toNat) (by omega)
        rw [show 64 * (((x.toNat : Nat) : Int) / 100) + ((x.toNat : Nat) : Int) % 100 = (64 * (x / 100) + x % 100) by omega] at z2
        rw [if_pos h, bd_t, if_neg (by decide), cell8_e (by omega), bd_t, z2, if_neg (by omega), bd_t, if_pos rfl]
      · rw [if_neg h, bd_t, if_pos rfl]
  have hxl : 0 ≤ x ∧ x < 260 := ⟨hx.1, hx.2.1⟩
  have hp := hx.2.2
  obtain ⟨hia, hth, hth2⟩ := (hI.S x.toNat (by omega)).2.2 hp
  have hsz := (hI.S x.toNat (by omega)).2.1
  obtain ⟨d1, d2, d3, d4, d5, d6, d7, d8, d9, d10, d11⟩ := hR.cell hI (x := x) ⟨hx.1, hia, hp⟩
  obtain ⟨z1, z2⟩ := size8 hR hI (d := x.toNat) hia
  rw [show 64 * (((x.toNat : Nat) : Int) / 100) + ((x.toNat : Nat) : Int) % 100 = (64 * (x / 100) + x % 100) by omega] at z1 z2
  have hN0 : w 7 0 (2 * x.toNat) = 300 ∨ prs w 0 (w 7 0 (2 * x.toNat)) := hI.N x.toNat (by omega) hp 0 (by decide)
  have hN1 := hI.N x.toNat (by omega) hp 1 (by decide)
  have hT : w 5 0 x.toNat = 300 ∨ prs w 0 (w 5 0 x.toNat) := (hI.T x.toNat (by omega) hp).imp (fun q => q) (fun q => q.2.2.1)
  have h6 : w 6 0 x.toNat = 0 ∨ w 6 0 x.toNat = 1 := by
    by_cases h : x < 200
    · exact Or.inl (hI.E.2.2.2 _ (by omega) hp)
    · have := hI.E.1 (x.toNat - 200) (by omega)
      rw [show 200 + (x.toNat - 200) = x.toNat by omega] at this
      exact this
  have hc : X7_copy x y w = some (if y = 0 then w 3 0 x.toNat else if y = 1 then w 4 0 x.toNat else if y = 2 then nn (w 5 0 x.toNat) else if y = 3 then w 6 0 x.toNat else if y = 4 then nn (w 7 0 (2 * x.toNat)) else if y = 5 then nn (w 7 0 (2 * x.toNat + 1)) else -1, w) := by
    unfold X7_copy
    rw [isAt_1 hxl hp, bd_t, if_neg (by decide)]
    by_cases y0 : y = 0
    · rw [if_pos y0, if_pos y0, thingAt_1 hxl hp, bd_t]
    by_cases y1 : y = 1
    · rw [if_neg y0, if_neg y0, if_pos y1, if_pos y1, sizeAt_e hxl (by omega), bd_t]
    by_cases y2 : y = 2
    · rw [if_neg y0, if_neg y0, if_neg y1, if_neg y1, if_pos y2, if_pos y2, noteAt_1 hxl hp, bd_t, orNone_e, bd_t]
    by_cases y3 : y = 3
    · rw [if_neg y0, if_neg y0, if_neg y1, if_neg y1, if_neg y2, if_neg y2, if_pos y3, if_pos y3, isMarked_1 hxl hp, bd_t]
      rcases h6 with e | e
      · rw [e, if_neg (show ¬ (0 : Int) = 1 by decide), if_pos rfl]
      · rw [e, if_pos (show (1 : Int) = 1 by decide), if_neg (by decide)]
    by_cases y4 : y = 4
    · rw [if_neg y0, if_neg y0, if_neg y1, if_neg y1, if_neg y2, if_neg y2, if_neg y3, if_neg y3, if_pos y4, if_pos y4, nameAt_1 hxl hp (by decide), bd_t, orNone_e, bd_t]
      rfl
    by_cases y5 : y = 5
    · rw [if_neg y0, if_neg y0, if_neg y1, if_neg y1, if_neg y2, if_neg y2, if_neg y3, if_neg y3, if_neg y4, if_neg y4, if_pos y5, if_pos y5, nameAt_1 hxl hp (by decide), bd_t, orNone_e, bd_t]
      rfl
    rw [if_neg y0, if_neg y0, if_neg y1, if_neg y1, if_neg y2, if_neg y2, if_neg y3, if_neg y3, if_neg y4, if_neg y4, if_neg y5, if_neg y5]
  have hm : X8_copy x y v = some (if y = 0 then w 3 0 x.toNat else if y = 1 then w 4 0 x.toNat else if y = 2 then nn (w 5 0 x.toNat) else if y = 3 then w 6 0 x.toNat else if y = 4 then nn (w 7 0 (2 * x.toNat)) else if y = 5 then nn (w 7 0 (2 * x.toNat + 1)) else -1, v) := by
    unfold X8_copy
    rw [isAddress8_e, if_pos (by omega), bd_t, if_neg (by decide), cell8_e (by omega), bd_t, z2, if_pos hp, bd_t, if_neg (by decide), in8_e]
    by_cases hy : 0 ≤ y ∧ y ≤ 5
    case neg =>
      rw [if_neg hy, bd_t, if_pos rfl, if_neg (by omega), if_neg (by omega), if_neg (by omega), if_neg (by omega), if_neg (by omega), if_neg (by omega)]
    rw [if_pos hy, bd_t, if_neg (by decide), cell8_e (by omega), bd_t]
    have oc : ∀ y : Int, 0 ≤ y ∧ y ≤ 4 → X8_ofCopy (64 * (x / 100) + x % 100) y v = some (v 22 0 (185 + 5 * (64 * (x.toNat / 100) + x.toNat % 100) + y.toNat), v) := fun y hy => by
      rw [ofCopy8_e ⟨d1, d2⟩ hy, d3]
    by_cases y0 : y = 0
    · rw [if_pos y0, if_pos y0, oc 0 (by decide), bd_t, show 185 + 5 * (64 * (x.toNat / 100) + x.toNat % 100) + (0 : Int).toNat = 185 + 5 * (64 * (x.toNat / 100) + x.toNat % 100) from rfl, d4, gd_t ⟨by omega, by omega⟩]
      exact some_eq (by omega)
    by_cases y1 : y = 1
    · rw [if_neg y0, if_neg y0, if_pos y1, if_pos y1, z1, bd_t]
    by_cases y2 : y = 2
    · rw [if_neg y0, if_neg y0, if_neg y1, if_neg y1, if_pos y2, if_pos y2, oc 3 (by decide), bd_t]
      exact some_eq d10
    by_cases y3 : y = 3
    · rw [if_neg y0, if_neg y0, if_neg y1, if_neg y1, if_neg y2, if_neg y2, if_pos y3, if_pos y3, oc 4 (by decide), bd_t]
      exact some_eq d11
    by_cases y4 : y = 4
    · subst y4
      rw [if_neg y0, if_neg y0, if_neg y1, if_neg y1, if_neg y2, if_neg y2, if_neg y3, if_neg y3, if_pos rfl, gd_t ⟨by decide, by decide⟩, gd_t ⟨by decide, by decide⟩, oc _ (by decide), bd_t]
      exact some_eq d8
    by_cases y5 : y = 5
    · subst y5
      rw [if_neg y0, if_neg y0, if_neg y1, if_neg y1, if_neg y2, if_neg y2, if_neg y3, if_neg y3, if_neg y4, if_pos rfl, gd_t ⟨by decide, by decide⟩, gd_t ⟨by decide, by decide⟩, oc _ (by decide), bd_t]
      exact some_eq d9
    omega
  refine ⟨_, hc, hm, ?_⟩
  split
  · exact ⟨by omega, by omega⟩
  split
  · exact ⟨by omega, by omega⟩
  split
  · exact nn_inr hT
  split
  · exact ⟨by omega, by omega⟩
  split
  · exact nn_inr hN0
  split
  · exact nn_inr hN1
  · exact ⟨by decide, by decide⟩
end LOOK
