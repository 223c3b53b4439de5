/-! PURE: a move, the class and the law -/
/-- behind movers: the numbers -/
def Mvd (g g1 : Wd) (n : Int) : Prop := Phi g1 ≤ Phi g ∧ (Wt g ≤ Pm g → Wt g1 ≤ Pm g1) ∧ Wt g1 ≤ Wt g + n ∧ g1 0 0 1 = g 0 0 1 ∧ g1 0 0 5 = g 0 0 5
section MVL
variable {B : Int} {k : Nat} {ex : Int} {g g1 u : Wd} {a i : Nat}
theorem Mvd.rf : Mvd g g 0 := ⟨Int.le_refl _, fun q => q, by omega, rfl, rfl⟩
theorem Mvd.tr {g2 : Wd} {n m : Int} (h1 : Mvd g g1 n) (h2 : Mvd g1 g2 m) : Mvd g g2 (n + m) := ⟨Int.le_trans h2.1 h1.1, fun q => h2.2.1 (h1.2.1 q), by have := h1.2.2.1; have := h2.2.2.1; omega, h2.2.2.2.1.trans h1.2.2.2.1, h2.2.2.2.2.trans h1.2.2.2.2⟩
theorem Mvd.cap {n m : Int} (h : Mvd g g1 n) (hC : Cap g (n + m)) : Cap g1 m := by
  unfold Cap at hC ⊢
  rcases hC with q | q
  · exact Or.inl (by have := h.1; omega)
  · exact Or.inr (by have := h.2.2.1; omega)
theorem Rdn.stp {n : Int} (h : Rdn g g1 n) (hG : Gr2 g g1 0) : Mvd g g1 n := ⟨by rw [h.1]; exact Int.le_refl _, h.2.1, h.2.2, hG.2.2.1 1 (by decide), hG.2.2.1 5 (by decide)⟩
theorem Mvd.fin (hI : Iv B 8 (-1) g 0) (hq : g 8 0 0 = g 8 0 1) : Mvd g (endW g 0) 0 := by
  have hw : Wt (endW g 0) = Wt g := by
    unfold Wt
    rw [end_8, end_8]
  have hz : Wt g = 0 := by unfold Wt; omega
  have := (Pm_le (g := endW g 0)).1
  refine ⟨sm_mono 260 (fun i hi => ?_), fun _ => by omega, by omega, end_0 (by decide) (by decide), end_0 (by decide) (by decide)⟩
  unfold fP
  rw [end_4, end_5]
  by_cases hc : ((100 - 100 * (g 0 0 3).toNat) ≤ i ∧ i < (100 - 100 * (g 0 0 3).toNat) + 64) ∨ (200 ≤ i ∧ i < 260 ∧ g 6 0 i = 0)
  · rw [if_pos hc, if_neg (fun q => absurd q.1 (by decide))]
    split <;> omega
  · rw [if_neg hc]
    exact Int.le_refl _
theorem fin_L (hI : Iv B 8 (-1) g 0) (hL : Lb g u) (hm : g 0 0 2 = 1) (hB : 0 ≤ B ∧ B ≤ 1000000) : ∃ (g' u' : Wd), (∀ F : Int → Wd → Option (Int × Wd), (bd (X3_size 0 g) fun r20 w21 => if r20 = 0 then (bd (X5_endMove 0 w21) fun _ w28 => F r20 w28) else F r20 w21) = F (g 8 0 1 - g 8 0 0) g') ∧ L_ends u = some (0, u') ∧ StO B g' 0 ∧ IvW g' 0 ∧ Lb g' u' ∧ FrC 0 g g' ∧ FU u u' ∧ g' 8 0 0 = g 8 0 0 ∧ g' 8 0 1 = g 8 0 1 ∧ Mvd g g' 0 := by
  have hA := hI.A
  unfold IvA at hA
  obtain ⟨q1, q2, q3, q4⟩ := hI.Q
  have hsz : X3_size 0 g = some (g 8 0 1 - g 8 0 0, g) := by
    unfold X3_size
    rw [gd_t ⟨by omega, by omega⟩]
  by_cases hq : g 8 0 1 - g 8 0 0 = 0
  · obtain ⟨u', e1, e2, e3⟩ := ends_L hL hI hm (by omega) hB
    refine ⟨endW g 0, u', fun F => ?_, e1, Or.inr ⟨end_02, hI.ended hm (by omega)⟩, ⟨fun q => by rw [end_02] at q; omega, fun _ => by rw [end_8, end_8]; omega⟩, e2, FrC.ofE, e3, end_8, end_8, Mvd.fin hI (by omega)⟩
    rw [hsz, bd_t, if_pos hq, end_e hA.2.2.2.1 (by omega), bd_t]
  · refine ⟨g, u, fun F => ?_, ?_, Or.inl ⟨hm, hI⟩, ⟨fun _ => by omega, fun q => by omega⟩, hL, FrC.rf, FU.rf, rfl, rfl, Mvd.rf⟩
    · rw [hsz, bd_t, if_neg hq]
    · unfold L_ends
      rw [hL.1.2.2.2.2.2.2.2.2, if_pos (by omega)]
/-- the queue's row moves up -/
theorem lsh_l {x : Int} {m : Nat} (hm : m ≤ 63) : ∀ (n z : Nat) (u : Wd), u 30 0 8 = m → z ≤ m → m - z < n → ∃ u1, L_step_b16 n x z u = L_step_b44 LF x 0 u1 ∧ (∀ c t i, ¬ (c = 33 ∧ t = 0 ∧ z ≤ i ∧ i < m) → u1 c t i = u c t i) ∧ ∀ i, z ≤ i → i < m → u1 33 0 i = u 33 0 (i + 1) := by
  intro n
  induction n with
  | zero => intro z u h0 h1 h2; omega
  | succ n ih =>
    intro z u h0 h1 h2
    by_cases hz : z < m
    · obtain ⟨u1, f1, f2, f3⟩ := ih (z + 1) (up u 33 0 z (u 33 0 (z + 1))) (by rw [up_c (by decide)]; exact h0) (by omega) (by omega)
      refine ⟨u1, ?_, fun c t i h => ?_, fun i i1 i2 => ?_⟩
      · rw [L_step_b16_s, h0, if_pos (by omega), gd_t ⟨by omega, by omega⟩, gd_t ⟨by omega, by omega⟩, gd_t ⟨by omega, by omega⟩, show ((z : Nat) : Int).toNat = z from rfl, show (((z : Nat) : Int) + 1).toNat = z + 1 by omega]
        exact f1
      · rw [f2 c t i (fun q => h ⟨q.1, q.2.1, by omega, q.2.2.2⟩)]
        unfold up
        rw [if_neg (fun q => h ⟨q.1, q.2.1, by omega, by omega⟩)]
      · by_cases e : i = z
        · rw [f2 33 0 i (by omega), e, up_h rfl]
        · rw [f3 i (by omega) i2, up_n (by omega)]
    · refine ⟨u, ?_, fun _ _ _ _ => rfl, fun i i1 i2 => by omega⟩
      rw [L_step_b16_s, h0, if_neg (by omega)]
theorem Lb.pop {u1 : Wd} (hL : Lb g u) (hq : g 8 0 0 < g 8 0 1) (hI : Iv B k ex g 0) (f1 : ∀ c i, 30 ≤ c → c ≠ 33 → ¬ (c = 30 ∧ i = 8) → u1 c 0 i = u c 0 i) (f8 : u1 30 0 8 = g 8 0 1 - g 8 0 0 - 1) (f3 : ∀ i : Nat, (i : Int) < g 8 0 1 - g 8 0 0 - 1 → u1 33 0 i = u 33 0 (i + 1)) : Lb (popW g 0) u1 := by
  obtain ⟨a0, a1, a2, a3, a4, a5, a6, a7, a8⟩ := hL.1
  have hA := hI.A
  unfold IvA at hA
  obtain ⟨q1, q2, q3, q4⟩ := hI.Q
  have hf : (g 0 0 3).toNat < 2 := by omega
  have o : ∀ c i, c ≠ 8 → popW g 0 c 0 i = g c 0 i := fun c i h => pop_o h
  have R : ∀ i, i ≠ 8 → u1 30 0 i = u 30 0 i := fun i h => f1 30 i (by decide) (by decide) (by omega)
  refine ⟨?_, ?_, ?_, ⟨fun d hd => ?_, fun z z1 z2 => ?_⟩, fun d hd hp => ?_⟩
  · unfold LbA
    rw [pop_0, pop_1]
    simp only [o 0 _ (by decide)]
    rw [R 0 (by omega), R 1 (by omega), R 2 (by omega), R 3 (by omega), R (4 + _) (by omega), R (5 - _) (by omega), R 6 (by omega), R 7 (by omega), f8]
    exact ⟨a0, a1, a2, a3, a4, a5, a6, a7, by omega⟩
  · intro h hh
    rw [f1 31 h (by decide) (by decide) (by omega), o 1 h (by decide)]
    exact hL.2.1 h hh
  · intro j hj
    rw [pop_0, pop_1] at hj
    rw [pop_0, o 9 _ (by decide), f3 j (by omega), hL.2.2.1 (j + 1) (by omega)]
    congr 1
    omega
  · have e : cl u1 d = cl u d := by
      unfold cl
      rw [f1 34 _ (by decide) (by decide) (by omega), f1 35 _ (by decide) (by decide) (by omega), f1 36 _ (by decide) (by decide) (by omega)]
    rw [e, hL.2.2.2.1.1 d hd]
    unfold cv
    simp only [o 3 _ (by decide), o 4 _ (by decide), o 5 _ (by decide), o 6 _ (by decide), o 7 _ (by decide)]
  · rw [f1 36 z (by decide) (by decide) (by omega)]
    exact hL.2.2.2.1.2 z z1 z2
  · rw [o 4 d (by decide)] at hp
    rw [o 4 d (by decide), o 3 d (by decide), f1 32 _ (by decide) (by decide) (by omega)]
    exact hL.2.2.2.2 d hd hp
theorem step_L (hI : Iv B 8 (-1) g 0) (hW : IvW g 0) (hL : Lb g u) (hm : g 0 0 2 = 1) (hB : 0 ≤ B ∧ B ≤ 1000000) (hC : Cap g 1) (hP : Wt g ≤ Pm g) : ∃ (g' u' : Wd), (∀ F : Wd → Option (Int × Wd), (bd (X3_takeFirst 0 g) fun r2 w3 => gd (InR (r2 * 2)) (bd (X5_readIn_n 0 0 (r2 * 2) w3) fun _ w10 => gd (InR ((r2 * 2) + 1)) (bd (X5_readIn_n 0 0 ((r2 * 2) + 1) w10) fun _ w16 => bd (X3_size 0 w16) fun r20 w21 => if r20 = 0 then (bd (X5_endMove 0 w21) fun _ w28 => F w28) else F w21))) = F g') ∧ L_step u = some (0, u') ∧ StO B g' 0 ∧ IvW g' 0 ∧ Lb g' u' ∧ FrC 0 g g' ∧ FU u u' ∧ Mvd g g' 1 := by
  obtain ⟨a0, a1, a2, a3, a4, a5, a6, a7, a8⟩ := hL.1
  obtain ⟨q1, q2, q3, q4⟩ := hI.Q
  have hlt := hW.1 hm
  have hw64 := cap_le hC hP (by decide)
  obtain ⟨p1, p2⟩ := hI.pop hlt
  obtain ⟨b, hb⟩ : ∃ b : Int, b = g 9 0 (g 8 0 0).toNat := ⟨_, rfl⟩
  rw [← hb] at p1 p2
  have hpb : prs (popW g 0) 0 b := prs.pop.mpr p2.1
  have hbl := hpb.lt
  have hwt : Wt g = g 8 0 1 - g 8 0 0 := rfl
  obtain ⟨m, hmm⟩ : ∃ m : Nat, (m : Int) = g 8 0 1 - g 8 0 0 - 1 := ⟨(g 8 0 1 - g 8 0 0 - 1).toNat, by omega⟩
  obtain ⟨ua, s1, s2, s3⟩ := lsh_l (x := b) (m := m) (by omega) LF 0 (up u 30 0 8 (g 8 0 1 - g 8 0 0 - 1)) (by rw [up_h rfl, hmm]) (by omega) (by rw [show LF = 10000 from rfl]; omega)
  have hLa : Lb (popW g 0) ua := by
    refine hL.pop hlt hI (fun c i h30 h33 h8 => ?_) ?_ (fun i hi => ?_)
    · rw [s2 c 0 i (by omega)]
      unfold up
      rw [if_neg (by omega)]
    · rw [s2 30 0 8 (by omega), up_h rfl]
    · rw [s3 i (by omega) (by omega), up_c (by decide)]
  have hFa : FU u ua := fun c t i h => by
    rw [s2 c t i (by omega), up_c (by omega)]
  have hpS : Mvd g (popW g 0) (-1) := by
    have hw : Wt (popW g 0) = Wt g - 1 := by
      unfold Wt
      rw [pop_0, pop_1]
      omega
    have hp : Pm (popW g 0) = Pm g := Pm_cg (fun a _ => ⟨pop_o (by decide), pop_o (by decide), pop_o (by decide)⟩) (pop_o (by decide))
    have hf : Phi (popW g 0) = Phi g := Phi_cg (fun a _ => ⟨pop_o (by decide), pop_o (by decide)⟩)
    exact ⟨by omega, fun q => by omega, by omega, pop_o (by decide), pop_o (by decide)⟩
  have hC0 : Cap (popW g 0) 2 := hpS.cap (by rw [show (-1 : Int) + 2 = 1 by decide]; exact hC)
  have hC0' : Cap (popW g 0) 1 := hC0.imp (fun q => q) (fun q => by omega)
  obtain ⟨w1, v1, x1, n1, n2, n3, n4, n5, n6, n7, n8, n9, n10, n11, n12⟩ := rdn_L p1 hLa hC0' (hpS.2.1 hP) hpb (j := 0) (by decide)
  have hpb1 : prs w1 0 b := n7.1 b hpb
  have hP1 := n12.2.1 (hpS.2.1 hP)
  have hC1 : Cap w1 1 := n12.cap (by rw [show (1 : Int) + 1 = 2 by decide]; exact hC0)
  obtain ⟨w2, v2, x2, m1, m2, m3, m4, m5, m6, m7, m8, m9, m10, m11, m12⟩ := rdn_L n3 n4 hC1 hP1 hpb1 (j := 1) (by decide)
  have hdone : Iv B 8 (-1) w2 0 := by
    refine m3.done ?_
    intro c hc j hj
    have hcb : b.toNat = c := by omega
    rcases (show j = 0 ∨ j = 1 by omega) with rfl | rfl
    · have := m8 b 0 hpb1 (by decide) (by omega)
      rw [hcb] at this
      rw [this, ← hcb, n5]
      exact n6.imp (fun q => q) (fun q => m7.2.1 _ q)
    · rw [← hcb, m5]
      exact m6
  have hm2 : w2 0 0 2 = 1 := by rw [m7.2.2.1 2 (by decide), n7.2.2.1 2 (by decide), pop_o (by decide)]; exact hm
  obtain ⟨w', u', f1, f2, f3, f4, f5, f6, f7, f8, f9, f10⟩ := fin_L hdone m4 hm2 hB
  refine ⟨w', u', fun F => ?_, ?_, f3, f4, f5, ((FrC.ups FrC.rf (by decide)).tr n10).tr (m10.tr f6), hFa.tr (n11.tr (m11.tr f7)), ?_⟩
  · rw [takeFirst_e ⟨q1, hlt, q3⟩, bd_t, ← hb, gd_t ⟨by omega, by omega⟩]
    rw [show b * 2 = b * 2 + ((0 : Nat) : Int) by omega, n1, bd_t, show b * 2 + ((0 : Nat) : Int) + 1 = b * 2 + ((1 : Nat) : Int) by omega, gd_t ⟨by omega, by omega⟩, m1, bd_t]
    exact f1 (fun _ w => F w)
  · unfold L_step
    have e0 : u 33 0 0 = b := by
      rw [hL.2.2.1 0 (by omega), Nat.add_zero, hb]
    rw [a8, gd_t ⟨by omega, by omega⟩, e0]
    refine s1.trans ?_
    have k0 := n2 (fun w => gd (InR (((0 : Nat) : Int) + 1)) (L_step_b44 9999 b (((0 : Nat) : Int) + 1) w))
    have k1 := m2 (fun w => gd (InR (((1 : Nat) : Int) + 1)) (L_step_b44 9998 b (((1 : Nat) : Int) + 1) w))
    rw [show LF = 9999 + 1 from rfl, L_step_b44_s, if_pos (by decide)]
    refine k0.trans ?_
    rw [gd_t ⟨by decide, by decide⟩, show (9999 : Nat) = 9998 + 1 from rfl, L_step_b44_s, if_pos (by decide)]
    refine k1.trans ?_
    rw [gd_t ⟨by decide, by decide⟩, show (9998 : Nat) = 9997 + 1 from rfl, L_step_b44_s, if_neg (by decide), f2, bd_t]
  · have h := ((hpS.tr (n12.stp n7)).tr (m12.stp m7)).tr f10
    rw [show (-1 : Int) + 1 + 1 + 0 = 1 by decide] at h
    exact h
/-- begin: hooks read in a row -/
theorem begin_lL (hB : 0 ≤ B ∧ B ≤ 1000000) : ∀ (n n' h : Nat) (g u : Wd), Iv B h (-1) g 0 → Lb g u → g 0 0 2 = 1 → h ≤ 8 → 8 - h < n → 8 - h < n' → Wt g ≤ h → Wt g ≤ Pm g → ∃ (r : Int) (g' u' : Wd), X5_beginMove_b39 0 n h g = some (r, g') ∧ L_begins_b15 n' h u = some (0, u') ∧ StO B g' 0 ∧ IvW g' 0 ∧ Lb g' u' ∧ FrC 0 g g' ∧ FU u u' ∧ r = Wt g' ∧ Mvd g g' (8 - h) := by
  intro n
  induction n with
  | zero => intro n' h g u hI hL hm h1 h2; omega
  | succ n ih =>
    intro n' h g u hI hL hm h1 h2 h3 hw hP
    match n', h3 with
    | 0, h3 => omega
    | n' + 1, h3 =>
      by_cases hx : h < 8
      · obtain ⟨w1, u0, x, f1, f2, f3, f4, f5, f6, f7, f8, f9, f10, f11⟩ := rdh_L hI hL (Or.inr (by omega)) hP hx (k' := h + 1) (fun j hj => by omega)
        obtain ⟨r, w', v', g1, g2, g3, g4, g5, g6, g7, g8, g9⟩ := ih n' (h + 1) w1 _ f3 f4 (by rw [f7.2.2.1 2 (by decide)]; exact hm) (by omega) (by omega) (by omega) (by have := f11.2.2; omega) (f11.2.1 hP)
        refine ⟨r, w', v', ?_, ?_, g3, g4, g5, f9.tr g6, (f10.ups (by decide)).tr g7, g8, ?_⟩
        · rw [X5_beginMove_b39_s, if_pos (by omega), f1, bd_t, gd_t ⟨by omega, by omega⟩]
          exact g1
        · rw [L_begins_b15_s, if_pos (by omega), gd_t ⟨by omega, by omega⟩, show ((h : Nat) : Int).toNat = h from rfl, f2, bd_t, gd_t ⟨by omega, by omega⟩]
          exact g2
        · have := (f11.stp f7).tr g9
          rw [show (1 : Int) + (8 - ((h + 1 : Nat) : Int)) = 8 - (h : Int) by omega] at this
          exact this
      · have e : h = 8 := by omega
        subst e
        obtain ⟨w', v', f1, f2, f3, f4, f5, f6, f7, f8, f9, f10⟩ := fin_L hI hL hm hB
        refine ⟨g 8 0 1 - g 8 0 0, w', v', ?_, ?_, f3, f4, f5, f6, f7, by unfold Wt; rw [f8, f9], f10⟩
        · rw [X5_beginMove_b39_s, if_neg (by omega)]
          exact f1 (fun r u => some (r, u))
        · rw [L_begins_b15_s, if_neg (by omega), f2, bd_t]
theorem Lb.beg (hL : Lb g u) (hI : Iv B 8 (-1) g 0) (hW : IvW g 0) (hm : g 0 0 2 = 0) : Lb (begW g 0) (up (up u 30 0 3 (1 - g 0 0 3)) 30 0 2 1) := by
  obtain ⟨a0, a1, a2, a3, a4, a5, a6, a7, a8⟩ := hL.1
  have hA := hI.A
  unfold IvA at hA
  have h5 := a5 hm
  have h8 := hW.2 hm
  have R : ∀ i, i ≠ 2 → i ≠ 3 → up (up u 30 0 3 (1 - g 0 0 3)) 30 0 2 1 30 0 i = u 30 0 i := fun i h1 h2 => by rw [up_n h1, up_n h2]
  have o : ∀ c i, c ≠ 0 → c ≠ 8 → begW g 0 c 0 i = g c 0 i := fun c i h1 h2 => beg_o h1 h2
  refine ⟨?_, ?_, ?_, ⟨fun d hd => ?_, fun z z1 z2 => ?_⟩, fun d hd hp => ?_⟩
  · unfold LbA
    rw [beg_02, beg_03, beg_04, beg_80, beg_81]
    simp (disch := decide) only [beg_0]
    rw [R 0 (by omega) (by omega), R 1 (by omega) (by omega), up_h (show (2 : Nat) = 2 from rfl), up_n (show (3 : Nat) ≠ 2 by decide), up_h (show (3 : Nat) = 3 from rfl), R (4 + (1 - g 0 0 3).toNat) (by omega) (by omega), R 6 (by omega) (by omega), R 7 (by omega) (by omega), R 8 (by omega) (by omega)]
    refine ⟨a0, a1, rfl, rfl, ?_, fun q => by omega, a6, a7, by omega⟩
    rw [show 4 + (1 - g 0 0 3).toNat = 5 - (g 0 0 3).toNat by omega]
    exact h5
  · intro h hh
    rw [o 1 h (by decide) (by decide), up_c (by decide), up_c (by decide)]
    exact hL.2.1 h hh
  · intro j hj
    rw [beg_80, beg_81] at hj
    omega
  · rw [cl_up (by decide), cl_up (by decide), hL.2.2.2.1.1 d hd]
    unfold cv
    simp only [o 3 _ (by decide) (by decide), o 4 _ (by decide) (by decide), o 5 _ (by decide) (by decide), o 6 _ (by decide) (by decide), o 7 _ (by decide) (by decide)]
  · rw [up_c (by decide), up_c (by decide)]
    exact hL.2.2.2.1.2 z z1 z2
  · rw [o 4 d (by decide) (by decide)] at hp
    rw [o 4 d (by decide) (by decide), o 3 d (by decide) (by decide), up_c (by decide), up_c (by decide)]
    exact hL.2.2.2.2 d hd hp
theorem begin_L (hI : Iv B 8 (-1) g 0) (hW : IvW g 0) (hL : Lb g u) (hm : g 0 0 2 = 0) (hB : 0 ≤ B ∧ B ≤ 1000000) : ∃ (r : Int) (g' u' : Wd), X5_beginMove 0 g = some (r, g') ∧ L_begins u = some (0, u') ∧ StO B g' 0 ∧ IvW g' 0 ∧ Lb g' u' ∧ FrC 0 g g' ∧ FU u u' ∧ r = Wt g' ∧ Phi g' ≤ Phi g ∧ Wt g' ≤ Pm g' ∧ Wt g' ≤ 8 ∧ g' 0 0 1 = g 0 0 1 ∧ g' 0 0 5 = g 0 0 5 := by
  have hA := hI.A
  unfold IvA at hA
  have hL' := hL.beg hI hW hm
  have hw0 : Wt (begW g 0) = 0 := by
    unfold Wt
    rw [beg_80, beg_81]
    rfl
  have hp0 := (Pm_le (g := begW g 0)).1
  obtain ⟨r, g', u', g1, g2, g3, g4, g5, g6, g7, g8, g9⟩ := begin_lL hB LF LF 0 (begW g 0) _ (hI.beg hm) hL' beg_02 (by decide) (by rw [show LF = 10000 from rfl]; omega) (by rw [show LF = 10000 from rfl]; omega) (by omega) (by omega)
  have hfr : FrC 0 g (begW g 0) := FrC.ups (FrC.ups (FrC.ups (FrC.ups (FrC.ups FrC.rf (by decide)) (by decide)) (by decide)) (by decide)) (by decide)
  have hf : Phi (begW g 0) = Phi g := Phi_cg (fun a _ => ⟨beg_o (by decide) (by decide), beg_o (by decide) (by decide)⟩)
  refine ⟨r, g', u', ?_, ?_, g3, g4, g5, hfr.tr g6, (FU.ups (FU.ups FU.rf (by decide)) (by decide)).tr g7, g8, by rw [← hf]; exact g9.1, g9.2.1 (by omega), by have := g9.2.2.1; omega, by rw [g9.2.2.2.1]; exact beg_0 (by decide) (by decide) (by decide), by rw [g9.2.2.2.2]; exact beg_0 (by decide) (by decide) (by decide)⟩
  · unfold X5_beginMove
    have e3 : up g 0 0 2 1 0 0 3 = g 0 0 3 := up_n (by decide)
    rw [if_pos hm, e3, gd_t ⟨by omega, by omega⟩]
    unfold X3_clear
    rw [bd_t]
    exact g1
  · unfold L_begins
    rw [hL.1.2.2.2.1, gd_t ⟨by omega, by omega⟩]
    exact g2
/-- carry: up to x1 steps -/
theorem carry_L (hB : 0 ≤ B ∧ B ≤ 1000000) {x1 : Int} (hx1 : 0 ≤ x1 ∧ x1 ≤ 1000) : ∀ (n n' : Nat) (x2 : Int) (g u : Wd), StO B g 0 → IvW g 0 → Lb g u → 0 ≤ x2 ∧ x2 ≤ x1 → x1 - x2 < n → x1 - x2 < n' → Cap g (x1 - x2) → Wt g ≤ Pm g → ∃ (r : Int) (g' u' : Wd), X5_stepsUpTo_b2 0 n x1 x2 g = some (r, g') ∧ L_acts_b246 n' x1 x2 u = L_acts_b279 x1 r u' ∧ StO B g' 0 ∧ IvW g' 0 ∧ Lb g' u' ∧ FrC 0 g g' ∧ FU u u' ∧ (0 ≤ r ∧ r ≤ x1) ∧ Mvd g g' (x1 - x2) := by
  intro n
  induction n with
  | zero => intro n' x2 g u hI hW hL h1 h2; omega
  | succ n ih =>
    intro n' x2 g u hI hW hL h1 h2 h3 hC hP
    match n', h3 with
    | 0, h3 => omega
    | n' + 1, h3 =>
      have stay : ∀ {d : Int}, 0 ≤ d → Mvd g g d := fun hd => ⟨Int.le_refl _, fun q => q, by omega, rfl, rfl⟩
      by_cases hx : x2 < x1
      · rcases hI with ⟨hm, hI⟩ | ⟨hm, hI⟩
        · obtain ⟨g1, u1, f1, f2, f3, f4, f5, f6, f7, f8⟩ := step_L hI hW hL hm hB (hC.imp (fun q => q) (fun q => by omega)) hP
          obtain ⟨r, w', v', g1', g2, g3, g4, g5, g6, g7, g8, g9⟩ := ih n' (x2 + 1) g1 u1 f3 f4 f5 (by omega) (by omega) (by omega) (f8.cap (by rw [show 1 + (x1 - (x2 + 1)) = x1 - x2 by omega]; exact hC)) (f8.2.1 hP)
          refine ⟨r, w', v', ?_, ?_, g3, g4, g5, f6.tr g6, f7.tr g7, g8, ?_⟩
          · rw [X5_stepsUpTo_b2_s, if_neg (by omega), if_pos hx, f1 (fun w28 => gd (InR (x2 + 1)) (X5_stepsUpTo_b2 0 n x1 (x2 + 1) w28)), gd_t ⟨by omega, by omega⟩, g1']
          · rw [L_acts_b246_s, if_pos hx, hL.1.2.2.1, if_pos hm, f2, bd_t, gd_t ⟨by omega, by omega⟩, g2]
          · have := f8.tr g9
            rw [show 1 + (x1 - (x2 + 1)) = x1 - x2 by omega] at this
            exact this
        · refine ⟨x2, g, u, ?_, ?_, Or.inr ⟨hm, hI⟩, hW, hL, FrC.rf, FU.rf, ⟨by omega, by omega⟩, stay (by omega)⟩
          · rw [X5_stepsUpTo_b2_s, if_pos hm]
          · rw [L_acts_b246_s, if_pos hx, hL.1.2.2.1, if_neg (by omega)]
      · refine ⟨x2, g, u, ?_, ?_, hI, hW, hL, FrC.rf, FU.rf, ⟨by omega, by omega⟩, stay (by omega)⟩
        · rw [X5_stepsUpTo_b2_s]
          by_cases hm : g 0 0 2 = 0
          · rw [if_pos hm]
          · rw [if_neg hm, if_neg hx]
        · rw [L_acts_b246_s, if_neg hx]
end MVL
