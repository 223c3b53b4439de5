/-! PURE: steps in a row, and the beginning of a move, both sides -/
section LP
variable {B : Int} {k : Nat} {ex : Int} {w v : Wd} {t a i : Nat}
theorem StO.I (h : StO B w t) : Iv (B + 1) 8 (-1) w t := by
  rcases h with q | q
  · exact q.2.mono (by omega)
  · exact q.2
/-- carry: up to x1 steps -/
theorem carry_l (hB : 0 ≤ B ∧ B ≤ 1000000) {x1 : Int} (hx1 : 0 ≤ x1 ∧ x1 ≤ 1000) : ∀ (n n' : Nat) (x2 : Int) (w v : Wd), StO B w t → IvW w t → Re w v t → 0 ≤ x2 ∧ x2 ≤ x1 → x1 - x2 < n → x1 - x2 < n' → ∃ (r : Int) (w' v' : Wd), X5_stepsUpTo_b2 t n x1 x2 w = some (r, w') ∧ X8_carry_b28 n' x1 x2 v = some (r, v') ∧ StO B w' t ∧ IvW w' t ∧ Re w' v' t ∧ FrC t w w' ∧ FrM v v' ∧ 0 ≤ r ∧ r ≤ x1 := by
  intro n
  induction n with
  | zero => intro n' x2 w v hI hW hR h1 h2; omega
  | succ n ih =>
    intro n' x2 w v hI hW hR h1 h2 h3
    match n', h3 with
    | 0, h3 => omega
    | n' + 1, h3 =>
      rcases hI with ⟨hm, hI⟩ | ⟨hm, hI⟩
      · by_cases hx : x2 < x1
        · obtain ⟨w1, v1, f1, f2, f3, f4, f5, f6, f7, f8⟩ := step_b hI hW hR hm hB
          obtain ⟨r, w', v', g1, g2, g3, g4, g5, g6, g7, g8⟩ := ih n' (x2 + 1) w1 v1 f3 f4 f5 (by omega) (by omega) (by omega)
          refine ⟨r, w', v', ?_, ?_, g3, g4, g5, f6.tr g6, f7.tr g7, g8⟩
          · rw [X5_stepsUpTo_b2_s, if_neg (by omega), if_pos hx, f1 (fun w28 => gd (InR (x2 + 1)) (X5_stepsUpTo_b2 t n x1 (x2 + 1) w28)), gd_t ⟨by omega, by omega⟩, g1]
          · rw [X8_carry_b28_s, isMoving8_e, hR.1.2.2.1, if_pos hm, bd_t, if_neg (by decide), if_pos hx, f2, bd_t, gd_t ⟨by omega, by omega⟩, g2]
        · refine ⟨x2, w, v, ?_, ?_, Or.inl ⟨hm, hI⟩, hW, hR, FrC.rf, FrM.rf, by omega, by omega⟩
          · rw [X5_stepsUpTo_b2_s, if_neg (by omega), if_neg hx]
          · rw [X8_carry_b28_s, isMoving8_e, hR.1.2.2.1, if_pos hm, bd_t, if_neg (by decide), if_neg hx]
      · refine ⟨x2, w, v, ?_, ?_, Or.inr ⟨hm, hI⟩, hW, hR, FrC.rf, FrM.rf, by omega, by omega⟩
        · rw [X5_stepsUpTo_b2_s, if_pos hm]
        · rw [X8_carry_b28_s, isMoving8_e, hR.1.2.2.1, if_neg (by omega), bd_t, if_pos rfl]
/-- to the end of the move -/
theorem toend_l (hB : 0 ≤ B ∧ B ≤ 1000000) : ∀ (n n' : Nat) (x2 : Int) (w v : Wd), StO B w t → IvW w t → Re w v t → 0 ≤ x2 ∧ x2 ≤ 124 → (w 0 t 2 = 1 → x2 + mu w t ≤ 124) → 124 - x2 < n → 124 - x2 < n' → ∃ (r : Int) (w' v' : Wd), X5_stepsUpTo_b2 t n 124 x2 w = some (r, w') ∧ X8_stepsToEnd_b2 n' x2 v = some (r, v') ∧ w' 0 t 2 = 0 ∧ Iv (B + 1) 8 (-1) w' t ∧ IvW w' t ∧ Re w' v' t ∧ FrC t w w' ∧ FrM v v' ∧ 0 ≤ r ∧ r ≤ 124 := by
  intro n
  induction n with
  | zero => intro n' x2 w v hI hW hR h1 hmu h2; omega
  | succ n ih =>
    intro n' x2 w v hI hW hR h1 hmu h2 h3
    match n', h3 with
    | 0, h3 => omega
    | n' + 1, h3 =>
      rcases hI with ⟨hm, hI⟩ | ⟨hm, hI⟩
      · have hb := hI.mu_b hm (hW.1 hm)
        have hmu := hmu hm
        obtain ⟨w1, v1, f1, f2, f3, f4, f5, f6, f7, f8⟩ := step_b hI hW hR hm hB
        obtain ⟨r, w', v', g1, g2, g3, g4, g5, g6, g7, g8, g9⟩ := ih n' (x2 + 1) w1 v1 f3 f4 f5 (by omega) (fun q => by have := f8 q; omega) (by omega) (by omega)
        refine ⟨r, w', v', ?_, ?_, g3, g4, g5, g6, f6.tr g7, f7.tr g8, g9⟩
        · rw [X5_stepsUpTo_b2_s, if_neg (by omega), if_pos (by omega), f1 (fun w28 => gd (InR (x2 + 1)) (X5_stepsUpTo_b2 t n 124 (x2 + 1) w28)), gd_t ⟨by omega, by omega⟩, g1]
        · rw [X8_stepsToEnd_b2_s, isMoving8_e, hR.1.2.2.1, if_pos hm, bd_t, if_neg (by decide), f2, bd_t, gd_t ⟨by omega, by omega⟩, g2]
      · refine ⟨x2, w, v, ?_, ?_, hm, hI, hW, hR, FrC.rf, FrM.rf, by omega, by omega⟩
        · rw [X5_stepsUpTo_b2_s, if_pos hm]
        · rw [X8_stepsToEnd_b2_s, isMoving8_e, hR.1.2.2.1, if_neg (by omega), bd_t, if_pos rfl]
theorem toend_b (hI : StO B w t) (hW : IvW w t) (hR : Re w v t) (hB : 0 ≤ B ∧ B ≤ 1000000) : ∃ (r : Int) (w' v' : Wd), X5_stepsUpTo t 124 w = some (r, w') ∧ X8_stepsToEnd v = some (r, v') ∧ w' 0 t 2 = 0 ∧ Iv (B + 1) 8 (-1) w' t ∧ IvW w' t ∧ Re w' v' t ∧ FrC t w w' ∧ FrM v v' ∧ 0 ≤ r ∧ r ≤ 124 := by
  have hmu : w 0 t 2 = 1 → (0 : Int) + mu w t ≤ 124 := by
    intro q
    rcases hI with ⟨hm, hI⟩ | ⟨hm, hI⟩
    · have := hI.mu_b hm (hW.1 hm)
      omega
    · omega
  exact toend_l hB LF LF 0 w v hI hW hR (by omega) hmu (by rw [show LF = 10000 from rfl]; omega) (by rw [show LF = 10000 from rfl]; omega)
/-- begin: hooks read in a row -/
theorem begin_l (hB : 0 ≤ B ∧ B ≤ 1000000) : ∀ (n n' h : Nat) (w v : Wd), Iv B h (-1) w t → Re w v t → w 0 t 2 = 1 → h ≤ 8 → 8 - h < n → 8 - h < n' → ∃ (r : Int) (w' v' : Wd), X5_beginMove_b39 t n h w = some (r, w') ∧ X8_begins_b19 n' h v = some (0, v') ∧ StO B w' t ∧ IvW w' t ∧ Re w' v' t ∧ FrC t w w' ∧ FrM v v' ∧ r = w' 8 t 1 - w' 8 t 0 := by
  intro n
  induction n with
  | zero => intro n' h w v hI hR hm h1 h2; omega
  | succ n ih =>
    intro n' h w v hI hR hm h1 h2 h3
    match n', h3 with
    | 0, h3 => omega
    | n' + 1, h3 =>
      by_cases hx : h < 8
      · obtain ⟨w1, v1, x, f1, f2, f3, f4, f5, f6, f7, f8, f9, f10⟩ := rd_hook hI hR hx (k' := h + 1) (fun j hj => by omega)
        obtain ⟨r, w', v', g1, g2, g3, g4, g5, g6, g7, g8⟩ := ih n' (h + 1) w1 v1 f3 f4 (by rw [f7.2.2.1 2 (by decide)]; exact hm) (by omega) (by omega) (by omega)
        refine ⟨r, w', v', ?_, ?_, g3, g4, g5, f9.tr g6, f10.tr g7, g8⟩
        · rw [X5_beginMove_b39_s, if_pos (by omega), f1, bd_t, gd_t ⟨by omega, by omega⟩]
          exact g1
        · rw [X8_begins_b19_s, if_pos (by omega), gd_t ⟨by omega, by omega⟩, f2, bd_t, gd_t ⟨by omega, by omega⟩]
          exact g2
      · have e : h = 8 := by omega
        subst e
        obtain ⟨w', v', f1, f2, f3, f4, f5, f6, f7, f8, f9, f10, f11⟩ := fin_b hI hR hm hB
        refine ⟨w 8 t 1 - w 8 t 0, w', v', ?_, ?_, f3, f4, f5, f6, f7, by rw [f9, f10]⟩
        · rw [X5_beginMove_b39_s, if_neg (by omega)]
          exact f11 (fun r u => some (r, u))
        · rw [X8_begins_b19_s, if_neg (by omega), f2, bd_t]
theorem Re.beg (hR : Re w v t) (hI : Iv B 8 (-1) w t) (hW : IvW w t) (hm : w 0 t 2 = 0) : Re (begW w t) (up (up v 22 0 3 (1 - w 0 t 3)) 22 0 2 1) t := by
  obtain ⟨a0, a1, a2, a3, a4, a5, a6, a7, a8⟩ := hR.1
  have hA := hI.A
  unfold IvA at hA
  have h5 := a5 hm
  have h8 := hW.2 hm
  have R : ∀ i, i ≠ 2 → i ≠ 3 → up (up v 22 0 3 (1 - w 0 t 3)) 22 0 2 1 22 0 i = v 22 0 i := fun i h1 h2 => by rw [up_n h1, up_n h2]
  refine ⟨?_, ?_, ?_, ?_, ?_⟩
  · unfold ReA
    rw [beg_02, beg_03, beg_04, beg_80, beg_81]
    simp (disch := decide) only [beg_0]
    rw [R 0 (by omega) (by omega), R 1 (by omega) (by omega), up_h (show (2 : Nat) = 2 from rfl), up_n (show (3 : Nat) ≠ 2 by decide), up_h (show (3 : Nat) = 3 from rfl), R (4 + (1 - w 0 t 3).toNat) (by omega) (by omega), R 6 (by omega) (by omega), R 7 (by omega) (by omega), R 8 (by omega) (by omega)]
    refine ⟨a0, a1, rfl, rfl, ?_, fun q => by omega, a6, a7, by omega⟩
    rw [show 4 + (1 - w 0 t 3).toNat = 5 - (w 0 t 3).toNat by omega]
    exact h5
  · intro h hh
    rw [beg_o (by decide) (by decide), R _ (by omega) (by omega)]
    exact hR.2.1 h hh
  · intro j hj
    rw [beg_80, beg_81] at hj
    omega
  · intro d hd
    rw [beg_o (by decide) (by decide), beg_o (by decide) (by decide), R _ (by omega) (by omega)]
    exact hR.2.2.2.1 d hd
  · intro d hd hpd
    rw [beg_o (by decide) (by decide)] at hpd
    simp only [beg_o (show (3 : Nat) ≠ 0 by decide) (show (3 : Nat) ≠ 8 by decide), beg_o (show (4 : Nat) ≠ 0 by decide) (show (4 : Nat) ≠ 8 by decide), beg_o (show (5 : Nat) ≠ 0 by decide) (show (5 : Nat) ≠ 8 by decide), beg_o (show (6 : Nat) ≠ 0 by decide) (show (6 : Nat) ≠ 8 by decide), beg_o (show (7 : Nat) ≠ 0 by decide) (show (7 : Nat) ≠ 8 by decide)]
    rw [R _ (by omega) (by omega), R _ (by omega) (by omega), R _ (by omega) (by omega), R _ (by omega) (by omega), R _ (by omega) (by omega)]
    exact hR.2.2.2.2 d hd hpd
theorem begin_b (hI : Iv B 8 (-1) w t) (hW : IvW w t) (hR : Re w v t) (hm : w 0 t 2 = 0) (hB : 0 ≤ B ∧ B ≤ 1000000) : ∃ (r : Int) (w' v' : Wd), X5_beginMove t w = some (r, w') ∧ X8_begins v = some (0, v') ∧ StO B w' t ∧ IvW w' t ∧ Re w' v' t ∧ FrC t w w' ∧ FrM v v' ∧ r = w' 8 t 1 - w' 8 t 0 := by
  have hA := hI.A
  unfold IvA at hA
  have hR' := hR.beg hI hW hm
  obtain ⟨r, w', v', g1, g2, g3, g4, g5, g6, g7, g8⟩ := begin_l hB LF LF 0 (begW w t) _ (hI.beg hm) hR' beg_02 (by decide) (by rw [show LF = 10000 from rfl]; omega) (by rw [show LF = 10000 from rfl]; omega)
  have hfr : FrC t w (begW w t) := FrC.ups (FrC.ups (FrC.ups (FrC.ups (FrC.ups FrC.rf (by decide)) (by decide)) (by decide)) (by decide)) (by decide)
  refine ⟨r, w', v', ?_, ?_, g3, g4, g5, hfr.tr g6, (FrM.ups (FrM.ups FrM.rf)).tr g7, g8⟩
  · unfold X5_beginMove
    have e3 : up w 0 t 2 1 0 t 3 = w 0 t 3 := up_n (by decide)
    rw [if_pos hm, e3, gd_t ⟨by omega, by omega⟩]
    unfold X3_clear
    rw [bd_t]
    exact g1
  · unfold X8_begins
    rw [old8_e (by rw [hR.1.2.2.2.1]; exact hA.2.2.2.1), bd_t, hR.1.2.2.2.1]
    exact g2
/-- carry, begin: the class's store -/
theorem carrySteps_b (hI : Iv B 8 (-1) w t) (hW : IvW w t) (hR : Re w v t) (hB : 0 ≤ B ∧ B ≤ 1000000) {x : Int} (hx : 1 ≤ x ∧ x ≤ 99) (hm : w 0 t 2 = 1) : ∃ (r : Int) (w' v' : Wd), X5_carrySteps t x w = some (r, w') ∧ X8_carry_b28 LF x 0 v = some (r, v') ∧ Iv (B + 1) 8 (-1) w' t ∧ IvW w' t ∧ Re w' v' t ∧ FrC t w w' ∧ FrM v v' ∧ 0 ≤ r := by
  obtain ⟨r, w', v', g1, g2, g3, g4, g5, g6, g7, g8⟩ := carry_l hB (x1 := x) (by omega) LF LF 0 w v (Or.inl ⟨hm, hI⟩) hW hR (by omega) (by rw [show LF = 10000 from rfl]; omega) (by rw [show LF = 10000 from rfl]; omega)
  refine ⟨r, w', v', ?_, g2, g3.I, g4, g5, g6, g7, g8.1⟩
  unfold X5_carrySteps X5_stepsUpTo
  rw [if_neg (by omega), if_neg (by omega), if_neg (by omega), g1, bd_t]
end LP
