/-! PURE: the owner's calls, both sides -/
section OW
variable {B : Int} {k : Nat} {ex : Int} {w v va : Wd} {t a i : Nat}
def Si (B : Int) (w v : Wd) (t : Nat) : Prop := Iv B 8 (-1) w t ∧ IvW w t ∧ Re w v t
/-- a call on a store and the model's call answer alike, and leave what belongs together -/
def OpR (B : Int) (w v va : Wd) (t : Nat) (cl md : Option (Int × Wd)) : Prop := ∃ (r : Int) (w' v' : Wd), cl = some (r, w') ∧ md = some (r, v') ∧ InR r ∧ ((r < 0 ∧ w' = w ∧ v' = v) ∨ (0 ≤ r ∧ Si (B + 1) w' v' t ∧ FrC t w w' ∧ FrM va v'))
theorem OpR.err {cl md : Option (Int × Wd)} {r : Int} (h1 : cl = some (r, w)) (h2 : md = some (r, v)) (h : r < 0 ∧ -10 ≤ r) : OpR B w v va t cl md := ⟨r, w, v, h1, h2, ⟨by omega, by omega⟩, Or.inl ⟨h.1, rfl, rfl⟩⟩
theorem Re.same {v' : Wd} (hR : Re w v t) (h : ∀ i, v' 22 0 i = v 22 0 i) : Re w v' t := by
  unfold Re ReA ReH ReQ ReC ReD at *
  simp only [h]
  exact hR
theorem Iv.of0 {B' : Int} {w' : Wd} (h : Iv B k ex w t) (h0 : ∀ j, j ≠ 0 → j ≠ 5 → j ≠ 6 → w' 0 t j = w 0 t j) (ho : ∀ c j, c ≠ 0 → w' c t j = w c t j) (hA : IvA B' w' t) : Iv B' k ex w' t := by
  have o : ∀ c, c ≠ 0 → ∀ j, w' c t j = w c t j := fun c hc j => ho c j hc
  have o1 := h0 1 (by decide) (by decide) (by decide)
  have o2 := h0 2 (by decide) (by decide) (by decide)
  have o3 := h0 3 (by decide) (by decide) (by decide)
  have o4 := h0 4 (by decide) (by decide) (by decide)
  refine ⟨hA, ?_⟩
  have h' := h.2
  unfold IvS IvH IvN IvB IvQ IvE IvT IvF IvR IvO kp liv prs inQ at *
  simp only [o 1 (by decide), o 3 (by decide), o 4 (by decide), o 5 (by decide), o 6 (by decide), o 7 (by decide), o 8 (by decide), o 9 (by decide), o1, o2, o3, o4]
  exact h'
theorem setHeavy_b (hS : Si B w v t) (ha : X8_acts v = some (0, va)) (hra : ∀ i, va 22 0 i = v 22 0 i) (x : Int) : OpR B w v va t (X5_changeBound t x w) (X8_setHeavy x v) := by
  obtain ⟨hI, hW, hR⟩ := hS
  have hA := hI.A
  unfold IvA at hA
  by_cases h : 2 ≤ x ∧ x ≤ 13
  · have hRa := hR.same hra
    obtain ⟨a0, a1, a2, a3, a4, a5, a6, a7, a8⟩ := hRa.1
    have hc : X5_changeBound t x w = some (w 0 t 0, up w 0 t 0 x) := by
      unfold X5_changeBound
      rw [if_neg (by omega), if_neg (by omega)]
    have hm : X8_setHeavy x v = some (w 0 t 0, up va 22 0 1 x) := by
      unfold X8_setHeavy
      rw [in8_e, if_pos h, bd_t, if_neg (by decide), ha, bd_t, a1]
    refine ⟨w 0 t 0, _, _, hc, hm, ⟨by omega, by omega⟩, Or.inr ⟨by omega, ⟨?_, ?_, ?_⟩, FrC.ups FrC.rf (by decide), FrM.ups FrM.rf⟩⟩
    · refine hI.of0 (fun j h1 _ _ => up_n h1) (fun c j hc => up_c hc) ?_
      unfold IvA
      rw [up_n (show (1 : Nat) ≠ 0 by decide), up_h (show (0 : Nat) = 0 from rfl), up_n (show (2 : Nat) ≠ 0 by decide), up_n (show (3 : Nat) ≠ 0 by decide), up_n (show (4 : Nat) ≠ 0 by decide), up_n (show (5 : Nat) ≠ 0 by decide), up_n (show (6 : Nat) ≠ 0 by decide)]
      omega
    · unfold IvW
      rw [up_n (by decide), up_c (by decide), up_c (by decide)]
      exact hW
    · have hf : (w 0 t 3).toNat < 2 := by omega
      have R : ∀ j, j ≠ 1 → up va 22 0 1 x 22 0 j = va 22 0 j := fun j hj => up_n hj
      refine ⟨?_, ?_, ?_, ?_, ?_⟩
      · unfold ReA
        rw [up_n (show (1 : Nat) ≠ 0 by decide), up_h (show (0 : Nat) = 0 from rfl), up_n (show (2 : Nat) ≠ 0 by decide), up_n (show (3 : Nat) ≠ 0 by decide), up_n (show (4 : Nat) ≠ 0 by decide), up_n (show (5 : Nat) ≠ 0 by decide), up_n (show (6 : Nat) ≠ 0 by decide), up_c (show (8 : Nat) ≠ 0 by decide), up_c (show (8 : Nat) ≠ 0 by decide)]
        rw [R 0 (by decide), up_h (show (1 : Nat) = 1 from rfl), R 2 (by decide), R 3 (by decide), R (4 + _) (by omega), R (5 - _) (by omega), R 6 (by decide), R 7 (by decide), R 8 (by decide)]
        exact ⟨a0, rfl, a2, a3, a4, a5, a6, a7, a8⟩
      · intro h hh
        rw [R _ (by omega), up_c (by decide)]
        exact hRa.2.1 h hh
      · intro j hj
        rw [up_c (by decide), up_c (by decide)] at hj
        rw [R _ (by omega), up_c (by decide), up_c (by decide)]
        exact hRa.2.2.1 j hj
      · intro d hd
        rw [R _ (by omega), up_c (by decide), up_c (by decide)]
        exact hRa.2.2.2.1 d hd
      · intro d hd hpd
        rw [up_c (by decide)] at hpd
        rw [R _ (by omega), R _ (by omega), R _ (by omega), R _ (by omega), R _ (by omega)]
        simp only [up_c (show (3 : Nat) ≠ 0 by decide), up_c (show (4 : Nat) ≠ 0 by decide), up_c (show (5 : Nat) ≠ 0 by decide), up_c (show (6 : Nat) ≠ 0 by decide), up_c (show (7 : Nat) ≠ 0 by decide)]
        exact hRa.2.2.2.2 d hd hpd
  · refine OpR.err (r := -1) ?_ ?_ (by decide)
    · unfold X5_changeBound
      by_cases h1 : x < 2
      · rw [if_pos h1]
      · rw [if_neg h1, if_pos (by omega)]
    · unfold X8_setHeavy
      rw [in8_e, if_neg h, bd_t, if_pos rfl]
theorem told_e {x : Int} (h : x = 300 ∨ 0 ≤ x) : X8_told (nn x) v = some (x, v) := by
  unfold X8_told
  by_cases h3 : x = 300
  · rw [h3, nn_300, if_pos rfl]
  · rw [nn_ne h3, if_neg (by omega)]
theorem isRight_e {x y z : Int} : X8_isRight x y z v = some (if (0 ≤ x ∧ x < 8) ∧ (0 ≤ y ∧ y < 2) ∧ 0 ≤ z ∧ z < 8 then 1 else 0, v) := by
  unfold X8_isRight
  rw [isHook8_e, bd_t]
  by_cases h1 : 0 ≤ x ∧ x < 8
  · rw [if_pos h1, if_neg (by decide), in8_e, bd_t]
    by_cases h2 : 0 ≤ y ∧ y < 2
    · rw [if_pos (show 0 ≤ y ∧ y ≤ 1 by omega), if_neg (by decide), isHook8_e, bd_t]
      by_cases h3 : 0 ≤ z ∧ z < 8
      · rw [if_pos h3, if_neg (by decide), if_pos ⟨h1, h2, h3⟩]
      · rw [if_neg h3, if_pos rfl, if_neg (fun q => h3 q.2.2)]
    · rw [if_neg (show ¬ (0 ≤ y ∧ y ≤ 1) by omega), if_pos rfl, if_neg (fun q => h2 q.2.1)]
  · rw [if_neg h1, if_pos rfl, if_neg (fun q => h1 q.1)]
theorem drop_b (hS : Si B w v t) (ha : X8_acts v = some (0, va)) (hra : ∀ i, va 22 0 i = v 22 0 i) (x : Int) : OpR B w v va t (X5_dropHook t x w) (X8_drop x v) := by
  obtain ⟨hI, hW, hR⟩ := hS
  by_cases h : 0 ≤ x ∧ x < 8
  · have hRa := hR.same hra
    have hx := hI.H x.toNat (by omega)
    have hx2 : w 1 t x.toNat = 300 ∨ 0 ≤ w 1 t x.toNat := hx.imp (fun q => q) (fun q => q.1.1)
    have hx3 : w 1 t x.toNat = 300 ∨ w 1 t x.toNat < 260 := hx.imp (fun q => q) (fun q => q.1.lt.2)
    have hc : X5_dropHook t x w = some (w 1 t x.toNat, up w 1 t x.toNat 300) := by
      unfold X5_dropHook
      rw [isHook_e, if_pos h, bd_t, if_neg (by decide), gd_t h]
    have hm : X8_drop x v = some (w 1 t x.toNat, up va 22 0 (9 + x.toNat) (nn 300)) := by
      unfold X8_drop
      rw [isHook8_e, if_pos h, bd_t, if_neg (by decide), ha, bd_t, gd_t ⟨by omega, by omega⟩, gd_t ⟨by omega, by omega⟩]
      rw [show (9 + x).toNat = 9 + x.toNat by omega, hRa.2.1 x.toNat (by omega), told_e hx2, bd_t]
      rfl
    refine ⟨_, _, _, hc, hm, ⟨by omega, by omega⟩, Or.inr ⟨by omega, ⟨?_, hW.hw, ?_⟩, FrC.ups FrC.rf (by decide), FrM.ups FrM.rf⟩⟩
    · exact (hI.hw (by omega) (fun j hj => Or.inl hj) (Or.inl rfl)).mono (by omega)
    · exact hRa.hw hI (by omega) 300
  · refine OpR.err (r := -1) ?_ ?_ (by decide)
    · unfold X5_dropHook
      rw [isHook_e, if_neg h, bd_t, if_pos rfl]
    · unfold X8_drop
      rw [isHook8_e, if_neg h, bd_t, if_pos rfl]
theorem link_b (hS : Si B w v t) (ha : X8_acts v = some (0, va)) (hra : ∀ i, va 22 0 i = v 22 0 i) (x y z : Int) : OpR B w v va t (X5_linkHooks t x y z w) (X8_link x y z v) := by
  obtain ⟨hI, hW, hR⟩ := hS
  by_cases hx : 0 ≤ x ∧ x < 8
  case neg =>
    refine OpR.err (r := -1) ?_ ?_ (by decide)
    · unfold X5_linkHooks
      rw [isHook_e, if_neg hx, bd_t, if_pos rfl]
    · unfold X8_link
      rw [isRight_e, if_neg (fun q => hx q.1), bd_t, if_pos rfl]
  by_cases hy : 0 ≤ y ∧ y < 2
  case neg =>
    refine OpR.err (r := -1) ?_ ?_ (by decide)
    · unfold X5_linkHooks
      rw [isHook_e, if_pos hx, bd_t, if_neg (by decide), isName_e, if_neg hy, bd_t, if_pos rfl]
    · unfold X8_link
      rw [isRight_e, if_neg (fun q => hy q.2.1), bd_t, if_pos rfl]
  by_cases hz : 0 ≤ z ∧ z < 8
  case neg =>
    refine OpR.err (r := -1) ?_ ?_ (by decide)
    · unfold X5_linkHooks
      rw [isHook_e, if_pos hx, bd_t, if_neg (by decide), isName_e, if_pos hy, bd_t, if_neg (by decide), isHook_e, if_neg hz, bd_t, if_pos rfl]
    · unfold X8_link
      rw [isRight_e, if_neg (fun q => hz q.2.2), bd_t, if_pos rfl]
  have hH := hI.H x.toNat (by omega)
  have hv := hR.2.1 x.toNat (by omega)
  by_cases he : w 1 t x.toNat = 300
  · refine OpR.err (r := -2) ?_ ?_ (by decide)
    · unfold X5_linkHooks
      rw [isHook_e, if_pos hx, bd_t, if_neg (by decide), isName_e, if_pos hy, bd_t, if_neg (by decide), isHook_e, if_pos hz, bd_t, if_neg (by decide), gd_t hx, if_pos he]
    · unfold X8_link
      rw [isRight_e, if_pos ⟨hx, hy, hz⟩, bd_t, if_neg (by decide), gd_t ⟨by omega, by omega⟩, gd_t ⟨by omega, by omega⟩, show (9 + x).toNat = 9 + x.toNat by omega, hv, he, nn_300, if_pos rfl]
  have hp : prs w t (w 1 t x.toNat) := by
    rcases hH with q | q
    · exact absurd q he
    · exact q.1
  have hpl := hp.lt
  rw [nn_ne he] at hv
  obtain ⟨w1, v1, r1, n1, n2, n3, n4, n5, n6, n7, n8, n9, n10⟩ := rd_hook hI (hR.same hra) (h := x.toNat) (by omega) (k' := 8) (fun j hj => Or.inl hj)
  obtain ⟨w2, v2, r2, m1, m2, m3, m4, m5, m6, m7, m8, m9, m10⟩ := rd_hook n3 n4 (h := z.toNat) (by omega) (k' := 8) (fun j hj => Or.inl hj)
  rw [show ((x.toNat : Nat) : Int) = x by omega] at n1 n2
  rw [show ((z.toNat : Nat) : Int) = z by omega] at m1 m2
  have hl1 : liv w1 t r1 := by
    rcases n6 with q | q
    · exact absurd q.1 he
    · exact q
  have hl2 : liv w2 t r1 := m7.2.1 _ hl1
  have hb := hl2.1.lt
  have hr2 : r2 = 300 ∨ liv w2 t r2 := m6.imp (fun q => q.2) (fun q => q)
  have h1x : w2 1 t x.toNat = r1 := by
    by_cases e : x.toNat = z.toNat
    · rw [e] at n5 ⊢
      rw [m5]
      have hid : rv w1 t (w1 1 t z.toNat) = w1 1 t z.toNat := by
        rw [n5]
        unfold rv
        rw [if_neg (fun q => (hl1.2 q.1).1 q.2)]
      have := readH_e n3 (x := z) hz
      rw [m1] at this
      have := (Prod.mk.inj (Option.some.inj this)).1
      rw [this, hid, n5]
    · rw [m8 _ e, n5]
  obtain ⟨d1, d2, d3, d4, d5, d6, d7, d8, d9, d10, d11⟩ := m4.cell m3 hl2.1
  have hyn : y.toNat < 2 := by omega
  have hr20 : r2 = 300 ∨ 0 ≤ r2 := hr2.imp (fun q => q) (fun q => q.1.1)
  have hr21 : r2 = 300 ∨ r2 < 260 := hr2.imp (fun q => q) (fun q => q.1.lt.2)
  have hc : X5_linkHooks t x y z w = some (r2, up w2 7 t (2 * r1.toNat + y.toNat) r2) := by
    unfold X5_linkHooks
    rw [isHook_e, if_pos hx, bd_t, if_neg (by decide), isName_e, if_pos hy, bd_t, if_neg (by decide), isHook_e, if_pos hz, bd_t, if_neg (by decide), gd_t hx, if_neg he, n1, bd_t, m1, bd_t]
    unfold X0_setName
    rw [isAt_1 hb hl2.1.2.2, bd_t, if_neg (by decide), isName_e, if_pos hy, bd_t, if_neg (by decide), gd_t ⟨by omega, by omega⟩, gd_t ⟨by omega, by omega⟩, gd_t ⟨by omega, by omega⟩, bd_t]
    rw [show (r1 * 2 + y).toNat = 2 * r1.toNat + y.toNat by omega]
  have hm : X8_link x y z v = some (r2, up v2 22 0 (185 + 5 * (64 * (r1.toNat / 100) + r1.toNat % 100) + 1 + y.toNat) (nn r2)) := by
    unfold X8_link
    rw [isRight_e, if_pos ⟨hx, hy, hz⟩, bd_t, if_neg (by decide), gd_t ⟨by omega, by omega⟩, gd_t ⟨by omega, by omega⟩, show (9 + x).toNat = 9 + x.toNat by omega, hv, if_neg (by omega), ha, bd_t, n2, bd_t, gd_t ⟨by omega, by omega⟩, m2, bd_t]
    rw [m4.2.1 x.toNat (by omega), h1x, nn_ne (by omega), cell8_e (by omega), bd_t]
    rw [gd_t ⟨by omega, by omega⟩, gd_t ⟨by omega, by omega⟩, gd_t ⟨by omega, by omega⟩, gd_t ⟨by omega, by omega⟩, gd_t ⟨by omega, by omega⟩, gd_t ⟨by omega, by omega⟩]
    rw [show (9 + z).toNat = 9 + z.toNat by omega, show (185 + 5 * (64 * (r1 / 100) + r1 % 100) + 1 + y).toNat = 185 + 5 * (64 * (r1.toNat / 100) + r1.toNat % 100) + 1 + y.toNat by omega]
    rw [up_n (show 9 + z.toNat ≠ 185 + 5 * (64 * (r1.toNat / 100) + r1.toNat % 100) + 1 + y.toNat by omega), m4.2.1 z.toNat (by omega), m5, told_e hr20, bd_t]
  refine ⟨r2, _, _, hc, hm, ⟨by omega, by omega⟩, Or.inr ⟨by omega, ⟨?_, ?_, ?_⟩, FrC.ups (n9.tr m9) (by decide), FrM.ups (n10.tr m10)⟩⟩
  · exact (m3.nw hr2).mono (by omega)
  · exact (m7.2.2.2.2.2 (n7.2.2.2.2.2 hW)).nw
  · exact m4.nw m3 hl2.1.2.1 hyn r2
theorem follow_b (hS : Si B w v t) (ha : X8_acts v = some (0, va)) (hra : ∀ i, va 22 0 i = v 22 0 i) (x y z : Int) : OpR B w v va t (X5_followName t x y z w) (X8_follow x y z v) := by
  obtain ⟨hI, hW, hR⟩ := hS
  by_cases hx : 0 ≤ x ∧ x < 8
  case neg =>
    refine OpR.err (r := -1) ?_ ?_ (by decide)
    · unfold X5_followName
      rw [isHook_e, if_neg hx, bd_t, if_pos rfl]
    · unfold X8_follow
      rw [isRight_e, if_neg (fun q => hx q.1), bd_t, if_pos rfl]
  by_cases hy : 0 ≤ y ∧ y < 2
  case neg =>
    refine OpR.err (r := -1) ?_ ?_ (by decide)
    · unfold X5_followName
      rw [isHook_e, if_pos hx, bd_t, if_neg (by decide), isName_e, if_neg hy, bd_t, if_pos rfl]
    · unfold X8_follow
      rw [isRight_e, if_neg (fun q => hy q.2.1), bd_t, if_pos rfl]
  by_cases hz : 0 ≤ z ∧ z < 8
  case neg =>
    refine OpR.err (r := -1) ?_ ?_ (by decide)
    · unfold X5_followName
      rw [isHook_e, if_pos hx, bd_t, if_neg (by decide), isName_e, if_pos hy, bd_t, if_neg (by decide), isHook_e, if_neg hz, bd_t, if_pos rfl]
    · unfold X8_follow
      rw [isRight_e, if_neg (fun q => hz q.2.2), bd_t, if_pos rfl]
  have hH := hI.H x.toNat (by omega)
  have hv := hR.2.1 x.toNat (by omega)
  by_cases he : w 1 t x.toNat = 300
  · refine OpR.err (r := -2) ?_ ?_ (by decide)
    · unfold X5_followName
      rw [isHook_e, if_pos hx, bd_t, if_neg (by decide), isName_e, if_pos hy, bd_t, if_neg (by decide), isHook_e, if_pos hz, bd_t, if_neg (by decide), gd_t hx, if_pos he]
    · unfold X8_follow
      rw [isRight_e, if_pos ⟨hx, hy, hz⟩, bd_t, if_neg (by decide), gd_t ⟨by omega, by omega⟩, gd_t ⟨by omega, by omega⟩, show (9 + x).toNat = 9 + x.toNat by omega, hv, he, nn_300, if_pos rfl]
  have hp : prs w t (w 1 t x.toNat) := by
    rcases hH with q | q
    · exact absurd q he
    · exact q.1
  have hpl := hp.lt
  rw [nn_ne he] at hv
  obtain ⟨w1, v1, r1, n1, n2, n3, n4, n5, n6, n7, n8, n9, n10⟩ := rd_hook hI (hR.same hra) (h := x.toNat) (by omega) (k' := 8) (fun j hj => Or.inl hj)
  rw [show ((x.toNat : Nat) : Int) = x by omega] at n1 n2
  have hl1 : liv w1 t r1 := by
    rcases n6 with q | q
    · exact absurd q.1 he
    · exact q
  have hb := hl1.1.lt
  have hyn : y.toNat < 2 := by omega
  obtain ⟨w2, v2, r2, m1, m2, m3, m4, m5, m6, m7, m8, m9, m10, m11⟩ := rd_name n3 n4 hl1.1 hyn
  rw [show ((y.toNat : Nat) : Int) = y by omega] at m1 m2
  obtain ⟨d1, d2, d3, d4, d5, d6, d7, d8, d9, d10, d11⟩ := m4.cell m3 (m7.1 _ hl1.1)
  have hnv : v2 22 0 (185 + 5 * (64 * (r1.toNat / 100) + r1.toNat % 100) + 1 + y.toNat) = nn r2 := by
    rw [← m5]
    rcases (show y.toNat = 0 ∨ y.toNat = 1 by omega) with e | e <;> rw [e]
    · exact d8
    · exact d9
  have hr20 : r2 = 300 ∨ 0 ≤ r2 := m6.imp (fun q => q) (fun q => q.1.1)
  have hr21 : r2 = 300 ∨ r2 < 260 := m6.imp (fun q => q) (fun q => q.1.lt.2)
  have hc : X5_followName t x y z w = some (r2, up w2 1 t z.toNat r2) := by
    unfold X5_followName
    rw [isHook_e, if_pos hx, bd_t, if_neg (by decide), isName_e, if_pos hy, bd_t, if_neg (by decide), isHook_e, if_pos hz, bd_t, if_neg (by decide), gd_t hx, if_neg he, n1, bd_t, gd_t ⟨by omega, by omega⟩, gd_t ⟨by omega, by omega⟩, m1, bd_t, gd_t hz, up_h rfl]
  have hm : X8_follow x y z v = some (r2, up v2 22 0 (9 + z.toNat) (nn r2)) := by
    unfold X8_follow
    rw [isRight_e, if_pos ⟨hx, hy, hz⟩, bd_t, if_neg (by decide), gd_t ⟨by omega, by omega⟩, gd_t ⟨by omega, by omega⟩, show (9 + x).toNat = 9 + x.toNat by omega, hv, if_neg (by omega), ha, bd_t, n2, bd_t, n4.2.1 x.toNat (by omega), n5, nn_ne (by omega), cell8_e (by omega), bd_t]
    rw [gd_t ⟨by omega, by omega⟩, gd_t ⟨by omega, by omega⟩, gd_t ⟨by omega, by omega⟩, gd_t ⟨by omega, by omega⟩, m2, bd_t, gd_t ⟨by omega, by omega⟩, gd_t ⟨by omega, by omega⟩, gd_t ⟨by omega, by omega⟩]
    rw [show (9 + z).toNat = 9 + z.toNat by omega, show (185 + 5 * (64 * (r1 / 100) + r1 % 100) + 1 + y).toNat = 185 + 5 * (64 * (r1.toNat / 100) + r1.toNat % 100) + 1 + y.toNat by omega]
    rw [up_n (show 185 + 5 * (64 * (r1.toNat / 100) + r1.toNat % 100) + 1 + y.toNat ≠ 9 + z.toNat by omega), hnv, told_e hr20, bd_t]
  refine ⟨r2, _, _, hc, hm, ⟨by omega, by omega⟩, Or.inr ⟨by omega, ⟨?_, ?_, ?_⟩, FrC.ups (n9.tr m10) (by decide), FrM.ups (n10.tr m11)⟩⟩
  · exact (m3.hw (by omega) (fun j hj => Or.inl hj) m6).mono (by omega)
  · exact (m7.2.2.2.2.2 (n7.2.2.2.2.2 hW)).hw
  · exact m4.hw m3 (by omega) r2
/-- begin and carry, as calls -/
theorem begin_op (hS : Si B w v t) (ha : X8_acts v = some (0, va)) (hra : ∀ i, va 22 0 i = v 22 0 i) (hB : 0 ≤ B ∧ B ≤ 1000000) : OpR B w v va t (X5_beginMove t w) (X8_begin v) := by
  obtain ⟨hI, hW, hR⟩ := hS
  have hA := hI.A
  unfold IvA at hA
  by_cases hm : w 0 t 2 = 0
  · obtain ⟨r, w', v', g1, g2, g3, g4, g5, g6, g7, g8⟩ := begin_b hI hW (hR.same hra) hm hB
    obtain ⟨q1, q2, q3, q4⟩ := g3.I.Q
    have hmd : X8_begin v = some (r, v') := by
      unfold X8_begin
      rw [isMoving8_e, hR.1.2.2.1, if_neg (by omega), bd_t, if_pos rfl, ha, bd_t, g2, bd_t, g5.1.2.2.2.2.2.2.2.2, ← g8]
    exact ⟨r, w', v', g1, hmd, ⟨by omega, by omega⟩, Or.inr ⟨by omega, ⟨g3.I, g4, g5⟩, g6, g7⟩⟩
  · refine OpR.err (r := -2) ?_ ?_ (by decide)
    · unfold X5_beginMove
      rw [if_neg hm]
    · unfold X8_begin
      rw [isMoving8_e, hR.1.2.2.1, if_pos (by omega), bd_t, if_neg (by decide)]
theorem carry_op (hS : Si B w v t) (ha : X8_acts v = some (0, va)) (hra : ∀ i, va 22 0 i = v 22 0 i) (hB : 0 ≤ B ∧ B ≤ 1000000) (x : Int) : OpR B w v va t (X5_carrySteps t x w) (X8_carry x v) := by
  obtain ⟨hI, hW, hR⟩ := hS
  have hA := hI.A
  unfold IvA at hA
  by_cases hx : 1 ≤ x ∧ x ≤ 99
  · by_cases hm : w 0 t 2 = 1
    · obtain ⟨r, w', v', g1, g2, g3, g4, g5, g6, g7, g8, g9⟩ := carry_l hB (x1 := x) (by omega) LF LF 0 w va (Or.inl ⟨hm, hI⟩) hW (hR.same hra) (by omega) (by rw [show LF = 10000 from rfl]; omega) (by rw [show LF = 10000 from rfl]; omega)
      have hc : X5_carrySteps t x w = some (r, w') := by
        unfold X5_carrySteps X5_stepsUpTo
        rw [if_neg (by omega), if_neg (by omega), if_neg (by omega), g1, bd_t]
      have hmd : X8_carry x v = some (r, v') := by
        unfold X8_carry
        rw [in8_e, if_pos hx, bd_t, if_neg (by decide), isMoving8_e, hR.1.2.2.1, if_pos hm, bd_t, if_neg (by decide), ha, bd_t, g2]
      exact ⟨r, w', v', hc, hmd, ⟨by omega, by omega⟩, Or.inr ⟨g8, ⟨g3.I, g4, g5⟩, g6, g7⟩⟩
    · refine OpR.err (r := -2) ?_ ?_ (by decide)
      · unfold X5_carrySteps
        rw [if_neg (by omega), if_neg (by omega), if_pos (by omega)]
      · unfold X8_carry
        rw [in8_e, if_pos hx, bd_t, if_neg (by decide), isMoving8_e, hR.1.2.2.1, if_neg hm, bd_t, if_pos rfl]
  · refine OpR.err (r := -1) ?_ ?_ (by decide)
    · unfold X5_carrySteps
      by_cases h1 : x < 1
      · rw [if_pos h1]
      · rw [if_neg h1, if_pos (by omega)]
    · unfold X8_carry
      rw [in8_e, if_neg hx, bd_t, if_pos rfl]
end OW
