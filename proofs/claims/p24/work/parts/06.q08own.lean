/-! PURE: the owner's acts, and a note lost, the class and the law -/
def Cn (g g1 : Wd) (d : Int) : Prop := Phi g1 ≤ Phi g + d ∧ (Wt g ≤ Pm g → Wt g1 ≤ Pm g1) ∧ Wt g1 ≤ Wt g + 8 * (1 - d) ∧ g1 0 0 1 + g1 0 0 5 = g 0 0 1 + g 0 0 5 + d
/-- an act: it fails and nothing changes, or all that belongs together changes alike -/
def Act (B : Int) (g u : Wd) (r : Int) (g' u' : Wd) : Prop := InR r ∧ ((r < 0 ∧ g' = g ∧ u' = u) ∨ (0 ≤ r ∧ Iv (B + 1) 8 (-1) g' 0 ∧ IvW g' 0 ∧ FrC 0 g g' ∧ FU u u' ∧ Lb g' u' ∧ ∃ d, (d = 0 ∨ d = 1) ∧ Cn g g' d))
def told (z r : Int) (w : Wd) : Option (Int × Wd) := if z < 0 then (if r = 300 then some (1, w) else some (0, w)) else (if r = z then some (1, w) else some (0, w))
section OWL
variable {B : Int} {k : Nat} {ex : Int} {g u : Wd} {a i h o j : Nat}
theorem Mkd.cn {g1 : Wd} {x y : Int} (hM : Mkd g g1 x y) (h : x + y = 1) : Cn g g1 1 := ⟨hM.1, hM.2.1, by have := hM.2.2.1; omega, by have := hM.2.2.2.1; have := hM.2.2.2.2; omega⟩
theorem Mvd.cn {g1 : Wd} {n : Int} (hM : Mvd g g1 n) (h : n ≤ 8) : Cn g g1 0 := ⟨by have := hM.1; omega, hM.2.1, by have := hM.2.2.1; omega, by have := hM.2.2.2.1; have := hM.2.2.2.2; omega⟩
theorem Cn.same {g1 : Wd} (h0 : g1 0 0 1 + g1 0 0 5 = g 0 0 1 + g 0 0 5) (h3 : g1 0 0 3 = g 0 0 3) (h : ∀ c i, c ≠ 0 → c ≠ 1 → c ≠ 7 → g1 c 0 i = g c 0 i) : Cn g g1 0 := by
  have e : Wt g1 = Wt g := by
    unfold Wt
    rw [h 8 _ (by decide) (by decide) (by decide), h 8 _ (by decide) (by decide) (by decide)]
  have p : Pm g1 = Pm g := Pm_cg (fun a _ => ⟨h 4 a (by decide) (by decide) (by decide), h 5 a (by decide) (by decide) (by decide), h 6 a (by decide) (by decide) (by decide)⟩) h3
  have f : Phi g1 = Phi g := Phi_cg (fun a _ => ⟨h 4 a (by decide) (by decide) (by decide), h 5 a (by decide) (by decide) (by decide)⟩)
  exact ⟨by omega, fun q => by omega, by omega, by omega⟩
theorem heavy_L (hI : Iv B 8 (-1) g 0) (hW : IvW g 0) (hL : Lb g u) {x : Int} (h : 2 ≤ x ∧ x ≤ 13) : X5_changeBound 0 x g = some (g 0 0 0, up g 0 0 0 x) ∧ Act B g u (g 0 0 0) (up g 0 0 0 x) (up u 30 0 1 x) := by
  obtain ⟨a0, a1, a2, a3, a4, a5, a6, a7, a8⟩ := hL.1
  have hA := hI.A
  unfold IvA at hA
  refine ⟨?_, ⟨by omega, by omega⟩, Or.inr ⟨by omega, ?_, ?_, FrC.ups FrC.rf (by decide), FU.ups FU.rf (by decide), ⟨?_, ?_, ?_, ⟨fun d hd => ?_, fun z z1 z2 => ?_⟩, fun d hd hp => ?_⟩, 0, Or.inl rfl, Cn.same ?_ (up_n (by decide)) (fun c i h0 _ _ => up_c h0)⟩⟩
  · unfold X5_changeBound
    rw [if_neg (by omega), if_neg (by omega)]
  · refine hI.of0 (fun j h1 _ _ => up_n h1) (fun c j hc => up_c hc) ?_
    unfold IvA
    rw [up_n (show (1 : Nat) ≠ 0 by decide), up_h (show (0 : Nat) = 0 from rfl), up_n (show (2 : Nat) ≠ 0 by decide), up_n (show (3 : Nat) ≠ 0 by decide), up_n (show (4 : Nat) ≠ 0 by decide), up_n (show (5 : Nat) ≠ 0 by decide), up_n (show (6 : Nat) ≠ 0 by decide)]
    omega
  · unfold IvW
    rw [up_n (by decide), up_c (by decide), up_c (by decide)]
    exact hW
  · have hf : (g 0 0 3).toNat < 2 := by omega
    have R : ∀ i, i ≠ 1 → up u 30 0 1 x 30 0 i = u 30 0 i := fun i hi => up_n hi
    unfold LbA
    rw [up_n (show (1 : Nat) ≠ 0 by decide), up_h (show (0 : Nat) = 0 from rfl), up_n (show (2 : Nat) ≠ 0 by decide), up_n (show (3 : Nat) ≠ 0 by decide), up_n (show (4 : Nat) ≠ 0 by decide), up_n (show (5 : Nat) ≠ 0 by decide), up_n (show (6 : Nat) ≠ 0 by decide), up_c (show (8 : Nat) ≠ 0 by decide), up_c (show (8 : Nat) ≠ 0 by decide)]
    rw [R 0 (by omega), up_h (show (1 : Nat) = 1 from rfl), R 2 (by omega), R 3 (by omega), R (4 + _) (by omega), R (5 - _) (by omega), R 6 (by omega), R 7 (by omega), R 8 (by omega)]
    exact ⟨a0, rfl, a2, a3, a4, a5, a6, a7, a8⟩
  · intro h hh
    rw [up_c (by decide), up_c (by decide)]
    exact hL.2.1 h hh
  · intro j hj
    rw [up_c (by decide), up_c (by decide)] at hj
    rw [up_c (by decide), up_c (by decide), up_c (by decide)]
    exact hL.2.2.1 j hj
  · rw [cl_up (by decide), hL.2.2.2.1.1 d hd]
    unfold cv
    simp only [up_c (show (3 : Nat) ≠ 0 by decide), up_c (show (4 : Nat) ≠ 0 by decide), up_c (show (5 : Nat) ≠ 0 by decide), up_c (show (6 : Nat) ≠ 0 by decide), up_c (show (7 : Nat) ≠ 0 by decide)]
  · rw [up_c (by decide)]
    exact hL.2.2.2.1.2 z z1 z2
  · rw [up_c (by decide)] at hp
    rw [up_c (by decide), up_c (by decide), up_c (by decide)]
    exact hL.2.2.2.2 d hd hp
  · rw [up_n (by decide), up_n (by decide)]
theorem drop_L (hI : Iv B 8 (-1) g 0) (hW : IvW g 0) (hL : Lb g u) (hh : h < 8) : X5_dropHook 0 h g = some (g 1 0 h, up g 1 0 h 300) ∧ Act B g u (g 1 0 h) (up g 1 0 h 300) (up u 31 0 h (-9)) ∧ u 31 0 h = nn (g 1 0 h) ∧ (g 1 0 h = 300 ∨ prs g 0 (g 1 0 h)) := by
  have hy : 0 ≤ (h : Int) ∧ (h : Int) < 8 := by omega
  have hx := (hI.H h hh).imp (fun q => q) (fun q => q.1)
  have hx2 : 0 ≤ g 1 0 h ∧ g 1 0 h ≤ 300 := by
    rcases hx with q | q
    · omega
    · have := q.lt; omega
  refine ⟨?_, ⟨⟨by omega, by omega⟩, Or.inr ⟨by omega, (hI.hw hh (fun j hj => Or.inl hj) (Or.inl rfl)).mono (by omega), hW.hw, FrC.ups FrC.rf (by decide), FU.ups FU.rf (by decide), hL.hw hh (r := 300), 0, Or.inl rfl, Cn.same ?_ (up_c (by decide)) (fun c i _ h1 _ => up_c h1)⟩⟩, hL.2.1 h hh, hx⟩
  · unfold X5_dropHook
    rw [isHook_e, if_pos hy, bd_t, if_neg (by decide), gd_t hy]
    rfl
  · rw [up_c (by decide), up_c (by decide)]
theorem link_L (hI : Iv B 8 (-1) g 0) (hW : IvW g 0) (hL : Lb g u) (hC : Cap g 2) (hP : Wt g ≤ Pm g) {v : Int} (hv : 0 ≤ v) (eh : v % 8 = h) (ej : v / 8 % 2 = j) (eo : v / 16 % 8 = o) : ∃ (r : Int) (g' u' : Wd), X5_linkHooks 0 h j o g = some (r, g') ∧ Act B g u r g' u' ∧ ((r = -2 ∧ L_names v 1 u = bd (X7_link h j o u') fun r74 w75 => if r74 = (-2) then (some (1, w75)) else (some (0, w75))) ∨ (0 ≤ r ∧ u' 31 0 o = nn r ∧ L_names v 1 u = bd (X7_link h j o u') fun r64 w65 => told (w65 31 0 o) r64 w65)) := by
  have hh : h < 8 := by omega
  have ho : o < 8 := by omega
  have hj : j < 2 := by omega
  have hx : 0 ≤ (h : Int) ∧ (h : Int) < 8 := by omega
  have hy : 0 ≤ (j : Int) ∧ (j : Int) < 2 := by omega
  have hz : 0 ≤ (o : Int) ∧ (o : Int) < 8 := by omega
  have hH := hI.H h hh
  have hlh := hL.2.1 h hh
  by_cases he : g 1 0 h = 300
  · refine ⟨-2, g, u, ?_, ⟨⟨by decide, by decide⟩, Or.inl ⟨by decide, rfl, rfl⟩⟩, Or.inl ⟨rfl, ?_⟩⟩
    · unfold X5_linkHooks
      rw [isHook_e, if_pos hx, bd_t, if_neg (by decide), isName_e, if_pos hy, bd_t, if_neg (by decide), isHook_e, if_pos hz, bd_t, if_neg (by decide), gd_t hx]
      exact if_pos he
    · unfold L_names
      rw [gd_t hv, gd_t (by omega), gd_t (by omega), gd_t ⟨by omega, by omega⟩, eh, ej, eo, show ((h : Nat) : Int).toNat = h from rfl, hlh, he, nn_300, if_pos (by decide), if_neg (by decide)]
  have hp : prs g 0 (g 1 0 h) := by
    rcases hH with q | q
    · exact absurd q he
    · exact q.1
  have hpl := hp.lt
  obtain ⟨w1, u0, r1, n1, n2, n3, n4, n5, n6, n7, n8, n9, n10, n11⟩ := rdh_L hI hL (hC.imp (fun q => q) (fun q => by omega)) hP hh (k' := 8) (fun j hj => Or.inl hj)
  have hP1 := n11.2.1 hP
  have hC1 : Cap w1 1 := n11.cap (by rw [show (1 : Int) + 1 = 2 by decide]; exact hC)
  obtain ⟨w2, ub, r2, m1, m2, m3, m4, m5, m6, m7, m8, m9, m10, m11⟩ := rdh_L n3 n4 hC1 hP1 ho (k' := 8) (fun j hj => Or.inl hj)
  have hl1 : liv w1 0 r1 := by
    rcases n6 with q | q
    · exact absurd q.1 he
    · exact q
  have hl2 : liv w2 0 r1 := m7.2.1 _ hl1
  have hb := hl2.1.lt
  have hr2 : r2 = 300 ∨ liv w2 0 r2 := m6.imp (fun q => q.2) (fun q => q)
  have hr20 : 0 ≤ r2 ∧ r2 ≤ 300 := by
    rcases hr2 with q | q
    · omega
    · have := q.1.lt; omega
  obtain ⟨ud, f1, f2, f3⟩ := ren_L m4 m3 hl2.1 (j := j) (by omega) (hr2.imp (fun q => q) (fun q => q.1))
  rw [nw_nf hj] at f2
  have hc : X5_linkHooks 0 h j o g = some (r2, up w2 7 0 (2 * r1.toNat + j) r2) := by
    unfold X5_linkHooks
    rw [isHook_e, if_pos hx, bd_t, if_neg (by decide), isName_e, if_pos hy, bd_t, if_neg (by decide), isHook_e, if_pos hz, bd_t, if_neg (by decide), gd_t hx]
    refine (if_neg he).trans ?_
    rw [n1, bd_t, m1, bd_t]
    unfold X0_setName
    rw [isAt_1 hb hl2.1.2.2, bd_t, if_neg (by decide), isName_e, if_pos hy, bd_t, if_neg (by decide), gd_t ⟨by omega, by omega⟩, gd_t ⟨by omega, by omega⟩, gd_t ⟨by omega, by omega⟩, bd_t]
    rw [show (r1 * 2 + (j : Int)).toNat = 2 * r1.toNat + j by omega]
  have hcn : Cn g (up w2 7 0 (2 * r1.toNat + j) r2) 0 := by
    have hm := ((n11.tr m11).tr (rdn_o (g1 := up w2 7 0 (2 * r1.toNat + j) r2) (fun c i _ h7 => up_c h7)))
    have k1 := n7.2.2.1 1 (by decide)
    have k5 := n7.2.2.1 5 (by decide)
    have l1 := m7.2.2.1 1 (by decide)
    have l5 := m7.2.2.1 5 (by decide)
    refine ⟨by have := hm.1; omega, hm.2.1, by have := hm.2.2; omega, ?_⟩
    rw [up_c (by decide), up_c (by decide)]
    omega
  refine ⟨r2, _, ud, hc, ⟨⟨by omega, by omega⟩, Or.inr ⟨hr20.1, (m3.nw hr2).mono (by omega), (m7.2.2.2.2.2 (n7.2.2.2.2.2 hW)).nw, FrC.ups (n9.tr m9) (by decide), n10.tr ((FU.ups FU.rf (by decide)).tr (m10.tr ((FU.ups FU.rf (by decide)).tr f3))), f2, 0, Or.inl rfl, hcn⟩⟩, Or.inr ⟨hr20.1, ?_, ?_⟩⟩
  · rw [f2.2.1 o ho, up_c (by decide), m5]
  · unfold L_names
    rw [gd_t hv, gd_t (by omega), gd_t (by omega), gd_t ⟨by omega, by omega⟩, eh, ej, eo, show ((h : Nat) : Int).toNat = h from rfl, show ((o : Nat) : Int).toNat = o from rfl, if_neg (show ¬ u 31 0 h < 0 by rw [hlh, nn_ne he]; omega), n2, bd_t, if_neg (by decide), gd_t hz, m2, bd_t, up_h rfl, up_h rfl, nn_ne (x := r1) (by omega), f1, bd_t]
    rfl
theorem follow_L (hI : Iv B 8 (-1) g 0) (hW : IvW g 0) (hL : Lb g u) (hC : Cap g 2) (hP : Wt g ≤ Pm g) {v : Int} (hv : 0 ≤ v) (eh : v % 8 = h) (ej : v / 8 % 2 = j) (eo : v / 16 % 8 = o) : ∃ (r : Int) (g' u' : Wd), X5_followName 0 h j o g = some (r, g') ∧ Act B g u r g' u' ∧ ((r = -2 ∧ L_names v 0 u = bd (X7_follow h j o u') fun r74 w75 => if r74 = (-2) then (some (1, w75)) else (some (0, w75))) ∨ (0 ≤ r ∧ u' 31 0 o = nn r ∧ L_names v 0 u = bd (X7_follow h j o u') fun r64 w65 => told (w65 31 0 o) r64 w65)) := by
  have hh : h < 8 := by omega
  have ho : o < 8 := by omega
  have hj : j < 2 := by omega
  have hx : 0 ≤ (h : Int) ∧ (h : Int) < 8 := by omega
  have hy : 0 ≤ (j : Int) ∧ (j : Int) < 2 := by omega
  have hz : 0 ≤ (o : Int) ∧ (o : Int) < 8 := by omega
  have hH := hI.H h hh
  have hlh := hL.2.1 h hh
  by_cases he : g 1 0 h = 300
  · refine ⟨-2, g, u, ?_, ⟨⟨by decide, by decide⟩, Or.inl ⟨by decide, rfl, rfl⟩⟩, Or.inl ⟨rfl, ?_⟩⟩
    · unfold X5_followName
      rw [isHook_e, if_pos hx, bd_t, if_neg (by decide), isName_e, if_pos hy, bd_t, if_neg (by decide), isHook_e, if_pos hz, bd_t, if_neg (by decide), gd_t hx]
      exact if_pos he
    · unfold L_names
      rw [gd_t hv, gd_t (by omega), gd_t (by omega), gd_t ⟨by omega, by omega⟩, eh, ej, eo, show ((h : Nat) : Int).toNat = h from rfl, hlh, he, nn_300, if_pos (by decide), if_pos rfl]
  have hp : prs g 0 (g 1 0 h) := by
    rcases hH with q | q
    · exact absurd q he
    · exact q.1
  have hpl := hp.lt
  obtain ⟨w1, u0, r1, n1, n2, n3, n4, n5, n6, n7, n8, n9, n10, n11⟩ := rdh_L hI hL (hC.imp (fun q => q) (fun q => by omega)) hP hh (k' := 8) (fun j hj => Or.inl hj)
  have hP1 := n11.2.1 hP
  have hC1 : Cap w1 1 := n11.cap (by rw [show (1 : Int) + 1 = 2 by decide]; exact hC)
  have hl1 : liv w1 0 r1 := by
    rcases n6 with q | q
    · exact absurd q.1 he
    · exact q
  have hb := hl1.1.lt
  obtain ⟨w2, u2, r2, m1, m2, m3, m4, m5, m6, m7, m8, m9, m10, m11, m12⟩ := rdn_L n3 n4 hC1 hP1 hl1.1 hj
  have hl2 := m7.1 _ hl1.1
  have ok := m3.okp hl2.2.1 hl2.2.2
  have hr20 : 0 ≤ r2 ∧ r2 ≤ 300 := by
    rcases m6 with q | q
    · omega
    · have := q.1.lt; omega
  have hname : L_name (cl u2 r1.toNat) j u2 = some (nn r2, u2) := by
    rw [m4.cp hl2.2.1 hl2.2.2]
    obtain ⟨p0, p1, -⟩ := name_p (w := u2) ok
    rcases (show j = 0 ∨ j = 1 by omega) with rfl | rfl
    · rw [← m5]; exact p0
    · rw [← m5]; exact p1
  have hc : X5_followName 0 h j o g = some (r2, up w2 1 0 o r2) := by
    unfold X5_followName
    rw [isHook_e, if_pos hx, bd_t, if_neg (by decide), isName_e, if_pos hy, bd_t, if_neg (by decide), isHook_e, if_pos hz, bd_t, if_neg (by decide), gd_t hx]
    refine (if_neg he).trans ?_
    rw [n1, bd_t, gd_t ⟨by omega, by omega⟩, gd_t ⟨by omega, by omega⟩, m1, bd_t, gd_t hz, up_h rfl]
    rfl
  have hcn : Cn g (up w2 1 0 o r2) 0 := by
    have hm := ((n11.tr m12).tr (rdn_o (g1 := up w2 1 0 o r2) (fun c i h1 _ => up_c h1)))
    have k1 := n7.2.2.1 1 (by decide)
    have k5 := n7.2.2.1 5 (by decide)
    have l1 := m7.2.2.1 1 (by decide)
    have l5 := m7.2.2.1 5 (by decide)
    refine ⟨by have := hm.1; omega, hm.2.1, by have := hm.2.2; omega, ?_⟩
    rw [up_c (by decide), up_c (by decide)]
    omega
  refine ⟨r2, _, up u2 31 0 o (nn r2), hc, ⟨⟨by omega, by omega⟩, Or.inr ⟨hr20.1, (m3.hw ho (fun j hj => Or.inl hj) m6).mono (by omega), (m7.2.2.2.2.2 (n7.2.2.2.2.2 hW)).hw, FrC.ups (n9.tr m10) (by decide), n10.tr ((FU.ups FU.rf (by decide)).tr (m11.tr (FU.ups FU.rf (by decide)))), m4.hw ho, 0, Or.inl rfl, hcn⟩⟩, Or.inr ⟨hr20.1, up_h rfl, ?_⟩⟩
  have k0 := m2 (fun w31 => bd (L_at r1 w31) fun r35 w36 => bd (L_name r35 j w36) fun r40 w41 => gd (0 ≤ (o : Int) ∧ (o : Int) < 8) (bd (X7_follow h j o (up w41 31 0 o r40)) fun r47 w48 => told (w48 31 0 o) r47 w48))
  have k1 : (bd (L_at r1 u2) fun r35 w36 => bd (L_name r35 j w36) fun r40 w41 => gd (0 ≤ (o : Int) ∧ (o : Int) < 8) (bd (X7_follow h j o (up w41 31 0 o r40)) fun r47 w48 => told (w48 31 0 o) r47 w48)) = bd (X7_follow h j o (up u2 31 0 o (nn r2))) fun r47 w48 => told (w48 31 0 o) r47 w48 := by
    rw [at_e hl2.1 hl2.2.1, bd_t, hname, bd_t, gd_t hz]
  unfold L_names
  rw [gd_t hv, gd_t (by omega), gd_t (by omega), gd_t ⟨by omega, by omega⟩, eh, ej, eo, show ((h : Nat) : Int).toNat = h from rfl, show ((o : Nat) : Int).toNat = o from rfl, if_neg (show ¬ u 31 0 h < 0 by rw [hlh, nn_ne he]; omega), n2, bd_t, if_pos rfl, up_h rfl, nn_ne (x := r1) (by omega)]
  rw [nn_ne (x := r1) (by omega)] at k0
  exact k0.trans k1
/-! a note is lost -/
theorem lost_l (hL : Lb g u) (hI : Iv B k ex g 0) {x : Int} (hx : 0 ≤ x) : ∀ (n : Nat) (p f : Int), -1 ≤ p ∧ p ≤ 63 → p + 1 < n → ∃ r : Int, L_loses_b7 n x f p u = L_loses_b7 1 x r (-1) u ∧ ((r = f ∧ ∀ q : Nat, (q : Int) ≤ p → ¬ Pn g 0 x ((100 - 100 * (g 0 0 3).toNat) + q)) ∨ (∃ q : Nat, (q : Int) ≤ p ∧ r = 100 - 100 * g 0 0 3 + q ∧ Pn g 0 x ((100 - 100 * (g 0 0 3).toNat) + q) ∧ ∀ z : Nat, z < q → ¬ Pn g 0 x ((100 - 100 * (g 0 0 3).toNat) + z))) := by
  obtain ⟨a0, a1, a2, a3, a4, a5, a6, a7, a8⟩ := hL.1
  have hA := hI.A
  unfold IvA at hA
  intro n
  induction n with
  | zero => intro p f h1 h2; omega
  | succ n ih =>
    intro p f h1 h2
    by_cases hp : p < 0
    · refine ⟨f, ?_, Or.inl ⟨rfl, fun q hq => by omega⟩⟩
      rw [show p = -1 by omega]
      show L_loses_b7 (n + 1) x f (-1) u = L_loses_b7 (0 + 1) x f (-1) u
      rw [L_loses_b7_s, L_loses_b7_s, if_pos (show (-1 : Int) < 0 by decide), if_pos (show (-1 : Int) < 0 by decide)]
    · have hd : ((((100 - 100 * (g 0 0 3).toNat) + p.toNat)) < 64 ∨ (100 ≤ (((100 - 100 * (g 0 0 3).toNat) + p.toNat)) ∧ (((100 - 100 * (g 0 0 3).toNat) + p.toNat)) < 164) ∨ (200 ≤ (((100 - 100 * (g 0 0 3).toNat) + p.toNat)) ∧ (((100 - 100 * (g 0 0 3).toNat) + p.toNat)) < 260)) := by omega
      have hcl : (if g 0 0 3 = 1 then u 34 0 p.toNat else u 35 0 p.toNat) = cl u ((100 - 100 * (g 0 0 3).toNat) + p.toNat) := by
        unfold cl
        by_cases c1 : g 0 0 3 = 1
        · rw [if_pos c1, if_pos (by omega), show (100 - 100 * (g 0 0 3).toNat) + p.toNat = p.toNat by omega]
        · rw [if_neg c1, if_neg (by omega), if_pos (by omega), show (100 - 100 * (g 0 0 3).toNat) + p.toNat - 100 = p.toNat by omega]
      have hstep : L_loses_b7 (n + 1) x f p u = L_loses_b31 (L_loses_b7 n) x f p (cl u ((100 - 100 * (g 0 0 3).toNat) + p.toNat)) u := by
        rw [L_loses_b7_s, if_neg hp, a3, ← hcl]
        by_cases c1 : g 0 0 3 = 1
        · rw [if_pos c1, if_pos c1, gd_t ⟨by omega, by omega⟩]
        · rw [if_neg c1, if_neg c1, gd_t ⟨by omega, by omega⟩]
      have e1 : p + (-1) = p - 1 := by omega
      have skip : ¬ Pn g 0 x ((100 - 100 * (g 0 0 3).toNat) + p.toNat) → L_loses_b31 (L_loses_b7 n) x f p (cl u ((100 - 100 * (g 0 0 3).toNat) + p.toNat)) u = L_loses_b7 n x f (p - 1) u := by
        intro hno
        unfold L_loses_b31
        rw [a2]
        by_cases hm : g 0 0 2 = 1
        · rw [if_pos hm]
          by_cases h4 : 0 < g 4 0 ((100 - 100 * (g 0 0 3).toNat) + p.toNat)
          · have ok := hI.okp hd h4
            have hT : g 5 0 ((100 - 100 * (g 0 0 3).toNat) + p.toNat) = 300 ∨ prs g 0 (g 5 0 ((100 - 100 * (g 0 0 3).toNat) + p.toNat)) := (hI.T _ (by omega) h4).imp (fun q => q) (fun q => q.2.2.1)
            rw [hL.cp hd h4, thing_p ok, bd_t]
            by_cases e : g 3 0 ((100 - 100 * (g 0 0 3).toNat) + p.toNat) = x
            · have h5 : g 5 0 ((100 - 100 * (g 0 0 3).toNat) + p.toNat) = 300 := by
                by_cases z : g 5 0 ((100 - 100 * (g 0 0 3).toNat) + p.toNat) = 300
                · exact z
                · exact absurd ⟨h4, e, z⟩ hno
              rw [if_pos e, (name_p ok).2.2, bd_t, if_pos ((nn_b hT).2.mpr h5), gd_t ⟨by omega, by omega⟩, e1]
            · rw [if_neg e, gd_t ⟨by omega, by omega⟩, e1]
          · rw [hL.no hd h4, thing_0, bd_t, if_neg (by omega), gd_t ⟨by omega, by omega⟩, e1]
        · rw [if_neg hm, gd_t ⟨by omega, by omega⟩, e1]
      by_cases hP : Pn g 0 x ((100 - 100 * (g 0 0 3).toNat) + p.toNat)
      · obtain ⟨p1, p2, p3⟩ := hP
        have ok := hI.okp hd p1
        have hT := (hI.T _ (by omega) p1).resolve_left p3
        have hm := hT.1
        have hn : ¬ nn (g 5 0 ((100 - 100 * (g 0 0 3).toNat) + p.toNat)) < 0 := by
          rw [nn_ne p3]
          have := hT.2.2.1.1
          omega
        obtain ⟨r, r1, r2⟩ := ih (p - 1) (100 - 100 * g 0 0 3 + p) (by omega) (by omega)
        refine ⟨r, ?_, ?_⟩
        · rw [hstep, ← r1]
          unfold L_loses_b31
          rw [a2, if_pos hm, hL.cp hd p1, thing_p ok, bd_t, if_pos p2, (name_p ok).2.2, bd_t, if_neg hn, a3, gd_t ⟨by omega, by omega⟩, gd_t ⟨by omega, by omega⟩, gd_t ⟨by omega, by omega⟩, gd_t ⟨by omega, by omega⟩, e1]
        · rcases r2 with ⟨z1, z2⟩ | ⟨q, z1, z2, z3, z4⟩
          · exact Or.inr ⟨p.toNat, by omega, by omega, ⟨p1, p2, p3⟩, fun z hz => z2 z (by omega)⟩
          · exact Or.inr ⟨q, by omega, z2, z3, z4⟩
      · obtain ⟨r, r1, r2⟩ := ih (p - 1) f (by omega) (by omega)
        refine ⟨r, by rw [hstep, skip hP, r1], ?_⟩
        rcases r2 with ⟨z1, z2⟩ | ⟨q, z1, z2, z3, z4⟩
        · refine Or.inl ⟨z1, fun q hq => ?_⟩
          by_cases e : q = p.toNat
          · rw [e]; exact hP
          · exact z2 q (by omega)
        · exact Or.inr ⟨q, by omega, z2, z3, z4⟩
theorem Lb.lost {u1 : Wd} (hL : Lb (up g 5 0 a 300) u1) (hA : g 0 0 3 = 0 ∨ g 0 0 3 = 1) : Lb (loW g 0 a) (up u1 30 0 6 (g 0 0 5 + 1)) := by
  obtain ⟨a0, a1, a2, a3, a4, a5, a6, a7, a8⟩ := hL.1
  have hf : (g 0 0 3).toNat < 2 := by omega
  have R : ∀ i, i ≠ 6 → up u1 30 0 6 (g 0 0 5 + 1) 30 0 i = u1 30 0 i := fun i h => up_n h
  have e0 : ∀ i, i ≠ 5 → loW g 0 a 0 0 i = (up g 5 0 a 300) 0 0 i := fun i h => by rw [lo_0 h, up_c (by decide)]
  have ec : ∀ c i, c ≠ 0 → loW g 0 a c 0 i = (up g 5 0 a 300) c 0 i := fun c i h => by
    unfold loW
    rw [up_c h]
  have e3 : (up g 5 0 a 300) 0 0 3 = g 0 0 3 := up_c (by decide)
  rw [e3] at a4 a5
  refine ⟨?_, ?_, ?_, ⟨fun d hd => ?_, fun z z1 z2 => ?_⟩, fun d hd hp => ?_⟩
  · unfold LbA
    rw [lo_05, e0 1 (by decide), e0 0 (by decide), e0 2 (by decide), e0 3 (by decide), e0 4 (by decide), e0 6 (by decide), ec 8 1 (by decide), ec 8 0 (by decide), e3, R 0 (by omega), R 1 (by omega), R 2 (by omega), R 3 (by omega), R (4 + _) (by omega), R (5 - _) (by omega), up_h rfl, R 7 (by omega), R 8 (by omega)]
    rw [e3] at a3
    exact ⟨a0, a1, a2, a3, a4, a5, rfl, a7, a8⟩
  · intro h hh
    rw [ec 1 h (by decide), up_c (by decide)]
    exact hL.2.1 h hh
  · intro j hj
    rw [ec 8 1 (by decide), ec 8 0 (by decide)] at hj
    rw [ec 8 0 (by decide), ec 9 _ (by decide), up_c (by decide)]
    exact hL.2.2.1 j hj
  · rw [cl_up (by decide), hL.2.2.2.1.1 d hd]
    unfold cv
    simp only [ec 3 _ (by decide), ec 4 _ (by decide), ec 5 _ (by decide), ec 6 _ (by decide), ec 7 _ (by decide)]
  · rw [up_c (by decide)]
    exact hL.2.2.2.1.2 z z1 z2
  · rw [ec 4 _ (by decide)] at hp
    rw [ec 4 _ (by decide), ec 3 _ (by decide), up_c (by decide)]
    exact hL.2.2.2.2 d hd hp
theorem cnt_lo (hI : Iv B 8 (-1) g 0) (hp : Pn g 0 (g 3 0 a) a) (ha : a < 260) : Mkd g (loW g 0 a) 0 1 := by
  have hT := (hI.T a ha hp.1).resolve_left hp.2.2
  have h1 := sm_chg (f := fP (loW g 0 a)) (g := fP g) (k := a) 260 ha (fun i _ hne => by
    unfold fP
    rw [lo_5, if_neg hne, lo_c (by decide) (by decide)])
  have p0 := fP_01 (g := loW g 0 a) a
  have p1 := fP_01 (g := g) a
  have hpm : Pm (loW g 0 a) = Pm g := sm_congr 260 (fun i hi => by
    unfold fL
    rw [lo_5, lo_c (c := 4) (by decide) (by decide), lo_c (c := 6) (by decide) (by decide), lo_0 (by decide)]
    by_cases e : i = a
    · subst e
      rw [if_neg (fun q => q.2.2.1 hT.2.1), if_neg (fun q => q.2.2.1 hT.2.1)]
    · rw [if_neg e])
  have hw : Wt (loW g 0 a) = Wt g := by
    unfold Wt
    rw [lo_c (by decide) (by decide), lo_c (by decide) (by decide)]
  refine ⟨by unfold Phi; omega, fun q => by omega, hw, ?_, lo_05⟩
  rw [lo_0 (by decide)]
  omega
theorem lose_L (hI : Iv B 8 (-1) g 0) (hW : IvW g 0) (hL : Lb g u) (hB : 0 ≤ B ∧ B ≤ 1000000) {x : Int} (hx : 0 ≤ x ∧ x < g 0 0 1) : ∃ (r : Int) (g' u' : Wd), X5_loseNote 0 x g = some (r, g') ∧ Act B g u r g' u' ∧ L_loses x u = bd (X7_lose x u') fun r20 w21 => if r20 = r then some (1, w21) else some (0, w21) := by
  obtain ⟨a0, a1, a2, a3, a4, a5, a6, a7, a8⟩ := hL.1
  have hA := hI.A
  unfold IvA at hA
  obtain ⟨r, f1, f2⟩ := first_l (w := g) (t := 0) (x := x) LF 0 (by omega) (by rw [show LF = 10000 from rfl]; omega)
  obtain ⟨c, e1, e2⟩ := lost_l hL hI (x := x) (by omega) LF 63 (-1) (by omega) (by rw [show LF = 10000 from rfl]; omega)
  have hrun : L_loses x u = L_loses_b7 (0 + 1) x c (-1) u := e1
  rw [hrun, L_loses_b7_s, if_pos (show (-1 : Int) < 0 by decide)]
  by_cases hr : r = 300
  · have hno : ∀ d : Nat, d < 260 → ¬ Pn g 0 x d := fun d hd q => by
      rcases f2 with z | z
      · exact z.2 d (by omega) hd q
      · omega
    refine ⟨-2, g, u, ?_, ⟨⟨by decide, by decide⟩, Or.inl ⟨by decide, rfl, rfl⟩⟩, ?_⟩
    · unfold X5_loseNote X5_firstWithNote
      rw [isThing_e, if_pos hx, bd_t, if_neg (by decide), f1, bd_t, if_pos hr]
    · have hc9 : c = -1 := by
        rcases e2 with z | ⟨q, z1, z2, z3, z4⟩
        · exact z.1
        · exact absurd z3 (hno _ (by omega))
      rw [if_pos (show c < 0 by omega)]
  have f3 := f2.resolve_left (fun q => hr q.1)
  obtain ⟨f4, f5, f6, f7⟩ := f3
  obtain ⟨a, rfl⟩ : ∃ a : Nat, r = a := ⟨r.toNat, by omega⟩
  have f6' : Pn g 0 x a := f6
  have hT := (hI.T a (by omega) f6'.1).resolve_left f6'.2.2
  have hm := hT.1
  have hOL := hT.2.1
  have hia : (a < 64 ∨ (100 ≤ a ∧ a < 164) ∨ (200 ≤ a ∧ a < 260)) := by omega
  have hca : c = a := by
    rcases e2 with z | ⟨q, z1, z2, z3, z4⟩
    · have := z.2 (a - (100 - 100 * (g 0 0 3).toNat)) (by omega)
      rw [show (100 - 100 * (g 0 0 3).toNat) + (a - (100 - 100 * (g 0 0 3).toNat)) = a by omega] at this
      exact absurd f6' this
    · by_cases g1 : (100 - 100 * (g 0 0 3).toNat) + q < a
      · exact absurd z3 (f7 _ (by omega) (by omega))
      · by_cases g2 : a < (100 - 100 * (g 0 0 3).toNat) + q
        · have := z4 (a - (100 - 100 * (g 0 0 3).toNat)) (by omega)
          rw [show (100 - 100 * (g 0 0 3).toNat) + (a - (100 - 100 * (g 0 0 3).toNat)) = a by omega] at this
          exact absurd f6' this
        · omega
  subst hca
  clear e2 f2
  have h12 := hI.S a (by omega)
  have hkn := hI.kp_nn
  have hsz : u 32 0 x.toNat = g 4 0 a := by rw [← f6'.2.1]; exact hL.2.2.2.2 a hia f6'.1
  have hc0 : X5_loseNote 0 x g = if 64 - g 0 0 4 < kp g 0 + g 4 0 a then some (-3, g) else some ((a : Int), loW g 0 a) := by
    unfold X5_loseNote X5_firstWithNote
    rw [isThing_e, if_pos hx, bd_t, if_neg (by decide), f1, bd_t, if_neg hr, free_e hA.2.2.2.2.1, bd_t, roomKept_e hI, bd_t, if_pos hm, sizeAt_e ⟨by omega, f5⟩ (h12.1), bd_t, gd_t ⟨by have := h12.1; have := h12.2.1; show -2147483648 ≤ kp g 0 + g 4 0 a; omega, by have := h12.2.1; show kp g 0 + g 4 0 a ≤ 2147483647; omega⟩]
    have hla : X0_loseNoteAt 0 a g = some (0, up g 5 0 a 300) := by
      unfold X0_loseNoteAt
      rw [isAt_1 ⟨by omega, f5⟩ f6'.1, bd_t, if_neg (by decide), gd_t ⟨by omega, f5⟩]
      rfl
    rw [hla, bd_t, up_c (by decide), gd_t ⟨by omega, by omega⟩]
    rfl
  have e4 : (4 + g 0 0 3).toNat = 4 + (g 0 0 3).toNat := by omega
  rw [hc0, if_neg (show ¬ (a : Int) < 0 by omega), a3, gd_t ⟨by omega, by omega⟩, gd_t ⟨by omega, by omega⟩, e4, a4, gd_t ⟨by omega, by omega⟩, kept_L hL hI, bd_t, if_pos hm, gd_t ⟨hx.1, by omega⟩, hsz, gd_t ⟨by omega, by omega⟩]
  by_cases hq : 64 - g 0 0 4 < kp g 0 + g 4 0 a
  · rw [if_pos hq, if_pos hq]
    exact ⟨-3, g, u, rfl, ⟨⟨by decide, by decide⟩, Or.inl ⟨by decide, rfl, rfl⟩⟩, rfl⟩
  · rw [if_neg hq, if_neg hq]
    obtain ⟨u1, k1, k2, k3⟩ := ren_L hL hI (x := (a : Int)) ⟨by omega, hia, f6'.1⟩ (j := 2) (by decide) (r := 300) (Or.inl rfl)
    rw [nn_300] at k1
    have e2' : ((2 : Nat) : Int) = 2 := rfl
    rw [e2'] at k1
    have k2' : Lb (up g 5 0 a 300) u1 := k2
    have e6 : u1 30 0 6 = g 0 0 5 := by rw [k2'.1.2.2.2.2.2.2.1, up_c (by decide)]
    refine ⟨a, loW g 0 a, up u1 30 0 6 (g 0 0 5 + 1), rfl, ⟨⟨by omega, by omega⟩, Or.inr ⟨by omega, hI.lo (by omega) (by rw [f6'.2.1]; exact f6') (by omega), hW.lo, (FrC.rf.ups (by decide)).ups (by decide), k3.ups (by decide), k2'.lost hA.2.2.2.1, 1, Or.inr rfl, (cnt_lo hI (by rw [f6'.2.1]; exact f6') (by omega)).cn rfl⟩⟩, ?_⟩
    rw [k1, bd_t, e6, gd_t ⟨by omega, by omega⟩]
end OWL
