section
variable {p : Program} {l : Launch} {e : Env} {s : State} {m : MethodId} {args : Array Value} {below : List Frame} {meth : Method} {c : Code} {G : GG}
/-! X8_number -/
theorem flX8_number_137 : Cond.fieldLink RX8 137 "NamedMovesModel" "at" "I" ∈ wsX8_number := by decide +kernel
theorem flX8_number_19 : Cond.fieldLink RX8 19 "NamedMovesModel" "text" "[I" ∈ wsX8_number := by decide +kernel
theorem flX8_number_22 : Cond.fieldLink RX8 22 "NamedMovesModel" "read" "[I" ∈ wsX8_number := by decide +kernel
theorem inX8_number_X8 : ∀ w ∈ u_ws RX8 TX8 12, w ∈ wsX8_number := by decide +kernel
set_option maxHeartbeats 4000000 in
set_option maxRecDepth 100000 in
theorem X8_number_b91_ok (M : MC p s m args meth c cX8_number 4 RX8 wsX8_number G) (hr : meth.sig.returnType = (some .boolean)) : ∀ x2 : Int, ∀ x3 : Int, ∀ w : Wd, InR x2 → InR x3 → ∀ (H : Heap) (locs : List Loc), ST G s w H locs → ∀ ls : Array Slot, lv_has ls 4 [(0, .ref (G.1 21 0)), (2, iV x2), (3, iV x3)] → ∀ (r : Int) (w' : Wd), X8_number_b91 x2 x3 w = some (r, w') → W p l e (rmk 2) s m args below meth c H locs 0 0 (MQ below (QiG G r w') args s 0 0 (GA G)) (F0 m 91 ls []) := by
  intro x2 x3 w hx2 hx3 H locs hS0 ls hl0 r w' hf
  unfold X8_number_b91 at hf
  refine x_aload_n M hl0 dX8_number_91 0 rfl ?_
  refine x_get (c0 := 21) (t0 := 0) (v := iV (w 21 0 3)) M hS0 (by decide) (ref := "NamedMovesModel") inX8_number_X8 (sE_21 G _ _) rfl 7 (by decide) (M.2.2.2.2.1 _ flX8_number_137) rfl rfl dX8_number_92 ?_
  refine x_iload_n M hl0 dX8_number_95 2 rfl ?_
  refine x_icmp_eq (tgt := 108) M (hS0.inr _ _ _) hx3 dX8_number_96 (by decide) (fun hc => ?_) (fun hc => ?_)
  · have hf := ift hf hc
    refine x_iconst M dX8_number_108 ?_
    exact x_zret M hr hf hS0 (Or.inl rfl) dX8_number_109
  · have hf := iff_ hf hc
    refine x_aload_n M hl0 dX8_number_99 0 rfl ?_
    refine x_iload_n M hl0 dX8_number_100 1 rfl ?_
    refine x_iload_n M hl0 dX8_number_101 1 rfl ?_
    obtain ⟨r9, w10, hc11, hf⟩ := bdt hf
    refine x_callVi (c0 := 21) (t0 := 0) (As := [iV x2, iV x2]) (rest := []) M hl0 hS0 (c_X8_isAt l  hx2 hx2 hc11) (cwV 2 M.2.2.2.2.1 gX8_number_X8_isAt rfl rfl rfl (by decide +kernel) ⟨Nat.le_of_ble_eq_true rfl, Nat.le_of_ble_eq_true rfl⟩) (by decide) (sE_21 G _ _) rfl rfl (Nat.le_of_ble_eq_true rfl) dX8_number_102 rfl ⟨Nat.zero_le _, Nat.zero_le _⟩ (fun H locs hi12 hS13 => ?_)
    refine x_if_ne (tgt := 110) M hi12 dX8_number_105 (by decide) (fun hc => ?_) (fun hc => ?_)
    · have hf := iff_ hf hc
      refine x_aload_n M hl0 dX8_number_110 0 rfl ?_
      refine x_dup M dX8_number_111 rfl ?_
      refine x_get (c0 := 21) (t0 := 0) (v := iV (w10 21 0 3)) M hS13 (by decide) (ref := "NamedMovesModel") inX8_number_X8 (sE_21 G _ _) rfl 7 (by decide) (M.2.2.2.2.1 _ flX8_number_137) rfl rfl dX8_number_112 ?_
      refine x_iconst M dX8_number_115 ?_
      obtain ⟨g14, hf⟩ := gdt hf
      refine x_iadd M dX8_number_116 ?_
      refine x_put (c0 := 21) (t0 := 0) M hS13 (by decide) (ref := "NamedMovesModel") inX8_number_X8 tyX8 tyX8_ok nmX8 (sE_21 G _ _) rfl 7 (by decide) (M.2.2.2.2.1 _ flX8_number_137) rfl rfl (ty := tyX8 7) g14 (tyX8_ok 7 (by decide)) rfl rfl (by simp) 3 (pset_21_3 G _ _ _) dX8_number_117 (fun H locs hS15 => ?_)
      refine x_iconst M dX8_number_120 ?_
      exact x_zret M hr hf hS15 (Or.inr rfl) dX8_number_121
    · have hf := ift hf (Decidable.of_not_not hc)
      refine x_iconst M dX8_number_108 ?_
      exact x_zret M hr hf hS13 (Or.inl rfl) dX8_number_109

set_option maxHeartbeats 4000000 in
set_option maxRecDepth 100000 in
theorem X8_number_b50_ok (M : MC p s m args meth c cX8_number 4 RX8 wsX8_number G) (hr : meth.sig.returnType = (some .boolean)) {K12 : Int → Int → Int → Wd → Option (Int × Wd)} (hK12 : ∀ x1 : Int, ∀ x2 : Int, ∀ x3 : Int, ∀ w : Wd, InR x1 → InR x2 → InR x3 → ∀ (H : Heap) (locs : List Loc), ST G s w H locs → ∀ ls : Array Slot, lv_has ls 4 [(0, .ref (G.1 21 0)), (1, iV x1), (2, iV x2), (3, iV x3)] → ∀ (r : Int) (w' : Wd), K12 x1 x2 x3 w = some (r, w') → W p l e (rmk 2) s m args below meth c H locs 0 0 (MQ below (QiG G r w') args s 0 0 (GA G)) (F0 m 12 ls [])) : ∀ x1 : Int, ∀ x2 : Int, ∀ x3 : Int, ∀ w : Wd, InR x1 → InR x2 → InR x3 → ∀ (H : Heap) (locs : List Loc), ST G s w H locs → ∀ ls : Array Slot, lv_has ls 4 [(0, .ref (G.1 21 0)), (1, iV x1), (2, iV x2), (3, iV x3)] → ∀ (r : Int) (w' : Wd), X8_number_b50 K12 x1 x2 x3 w = some (r, w') → W p l e (rmk 2) s m args below meth c H locs 0 0 (MQ below (QiG G r w') args s 0 0 (GA G)) (F0 m 50 ls []) := by
  intro x1 x2 x3 w hx1 hx2 hx3 H locs hS0 ls hl0 r w' hf
  unfold X8_number_b50 at hf
  refine x_aload_n M hl0 dX8_number_50 0 rfl ?_
  refine x_get (c0 := 21) (t0 := 0) (v := .ref (G.1 26 0)) M hS0 (by decide) (ref := "NamedMovesModel") inX8_number_X8 (sE_21 G _ _) rfl 8 (by decide) (M.2.2.2.2.1 _ flX8_number_22) rfl rfl dX8_number_51 ?_
  refine x_iload_n M hl0 dX8_number_54 1 rfl ?_
  refine x_bipush M dX8_number_55 rfl ?_
  refine x_aload_n M hl0 dX8_number_57 0 rfl ?_
  refine x_get (c0 := 21) (t0 := 0) (v := .ref (G.1 26 0)) M hS0 (by decide) (ref := "NamedMovesModel") inX8_number_X8 (sE_21 G _ _) rfl 8 (by decide) (M.2.2.2.2.1 _ flX8_number_22) rfl rfl dX8_number_58 ?_
  refine x_iload_n M hl0 dX8_number_61 1 rfl ?_
  obtain ⟨g17, hf⟩ := gdt hf
  refine x_iald (c0 := 26) (t0 := 0) M hS0 (by decide) (hs_26 G _) rfl g17 (by decide) dX8_number_62 ?_
  obtain ⟨g18, hf⟩ := gdt hf
  refine x_imul M dX8_number_63 ?_
  refine x_aload_n M hl0 dX8_number_64 0 rfl ?_
  refine x_get (c0 := 21) (t0 := 0) (v := .ref (G.1 25 0)) M hS0 (by decide) (ref := "NamedMovesModel") inX8_number_X8 (sE_21 G _ _) rfl 5 (by decide) (M.2.2.2.2.1 _ flX8_number_19) rfl rfl dX8_number_65 ?_
  refine x_aload_n M hl0 dX8_number_68 0 rfl ?_
  refine x_get (c0 := 21) (t0 := 0) (v := iV (w 21 0 3)) M hS0 (by decide) (ref := "NamedMovesModel") inX8_number_X8 (sE_21 G _ _) rfl 7 (by decide) (M.2.2.2.2.1 _ flX8_number_137) rfl rfl dX8_number_69 ?_
  obtain ⟨g19, hf⟩ := gdt hf
  refine x_iald (c0 := 25) (t0 := 0) M hS0 (by decide) (hs_25 G _) rfl g19 (by decide) dX8_number_72 ?_
  obtain ⟨g20, hf⟩ := gdt hf
  refine x_iadd M dX8_number_73 ?_
  refine x_bipush M dX8_number_74 rfl ?_
  obtain ⟨g21, hf⟩ := gdt hf
  refine x_isub M dX8_number_76 ?_
  refine x_iast (c0 := 26) (t0 := 0) M hS0 (by decide) (hs_26 G _) rfl g17 (by decide) g21 dX8_number_77 (fun H locs hS22 => ?_)
  refine x_aload_n M hl0 dX8_number_78 0 rfl ?_
  refine x_dup M dX8_number_79 rfl ?_
  refine x_get (c0 := 21) (t0 := 0) (v := iV ((up w 26 0 x1.toNat (((10 * (w 26 0 x1.toNat)) + (w 25 0 (w 21 0 3).toNat)) - 48)) 21 0 3)) M hS22 (by decide) (ref := "NamedMovesModel") inX8_number_X8 (sE_21 G _ _) rfl 7 (by decide) (M.2.2.2.2.1 _ flX8_number_137) rfl rfl dX8_number_80 ?_
  refine x_iconst M dX8_number_83 ?_
  obtain ⟨g23, hf⟩ := gdt hf
  refine x_iadd M dX8_number_84 ?_
  refine x_put (c0 := 21) (t0 := 0) M hS22 (by decide) (ref := "NamedMovesModel") inX8_number_X8 tyX8 tyX8_ok nmX8 (sE_21 G _ _) rfl 7 (by decide) (M.2.2.2.2.1 _ flX8_number_137) rfl rfl (ty := tyX8 7) g23 (tyX8_ok 7 (by decide)) rfl rfl (by simp) 3 (pset_21_3 G _ _ _) dX8_number_85 (fun H locs hS24 => ?_)
  refine x_goto (tgt := 12) M dX8_number_88 (by decide) ?_
  exact hK12 x1 x2 x3 (up (up w 26 0 x1.toNat (((10 * (w 26 0 x1.toNat)) + (w 25 0 (w 21 0 3).toNat)) - 48)) 21 0 3 (((up w 26 0 x1.toNat (((10 * (w 26 0 x1.toNat)) + (w 25 0 (w 21 0 3).toNat)) - 48)) 21 0 3) + 1)) hx1 hx2 hx3 _ _ hS24 _ (lv_sub hl0 [0, 1, 2, 3] rfl) _ _ hf

set_option maxHeartbeats 4000000 in
set_option maxRecDepth 100000 in
theorem X8_number_b12_ok (M : MC p s m args meth c cX8_number 4 RX8 wsX8_number G) (hr : meth.sig.returnType = (some .boolean)) : ∀ n : Nat, ∀ x1 : Int, ∀ x2 : Int, ∀ x3 : Int, ∀ w : Wd, InR x1 → InR x2 → InR x3 → ∀ (H : Heap) (locs : List Loc), ST G s w H locs → ∀ ls : Array Slot, lv_has ls 4 [(0, .ref (G.1 21 0)), (1, iV x1), (2, iV x2), (3, iV x3)] → ∀ (r : Int) (w' : Wd), X8_number_b12 n x1 x2 x3 w = some (r, w') → W p l e (rmk 2) s m args below meth c H locs 0 0 (MQ below (QiG G r w') args s 0 0 (GA G)) (F0 m 12 ls []) := by
  intro n
  induction n with
  | zero =>
    intro x1 x2 x3 w hx1 hx2 hx3 H locs hS0 ls hl0 r w' hf
    cases hf
  | succ n ih =>
    intro x1 x2 x3 w hx1 hx2 hx3 H locs hS0 ls hl0 r w' hf
    rw [X8_number_b12_s] at hf
    refine x_aload_n M hl0 dX8_number_12 0 rfl ?_
    refine x_bipush M dX8_number_13 rfl ?_
    refine x_bipush M dX8_number_15 rfl ?_
    obtain ⟨r4, w5, hc6, hf⟩ := bdt hf
    refine x_callVi (c0 := 21) (t0 := 0) (As := [iV 48, iV 57]) (rest := []) M hl0 hS0 (c_X8_isAt l  ⟨by decide, by decide⟩ ⟨by decide, by decide⟩ hc6) (cwV 2 M.2.2.2.2.1 gX8_number_X8_isAt rfl rfl rfl (by decide +kernel) ⟨Nat.le_of_ble_eq_true rfl, Nat.le_of_ble_eq_true rfl⟩) (by decide) (sE_21 G _ _) rfl rfl (Nat.le_of_ble_eq_true rfl) dX8_number_17 rfl ⟨Nat.zero_le _, Nat.zero_le _⟩ (fun H locs hi7 hS8 => ?_)
    refine x_if_eq (tgt := 91) M hi7 dX8_number_20 (by decide) (fun hc => ?_) (fun hc => ?_)
    · have hf := ift hf hc
      exact X8_number_b91_ok M hr x2 x3 w5 hx2 hx3 _ _ hS8 _ (lv_sub hl0 [0, 2, 3] rfl) _ _ hf
    · have hf := iff_ hf hc
      refine x_aload_n M hl0 dX8_number_23 0 rfl ?_
      refine x_get (c0 := 21) (t0 := 0) (v := iV (w5 21 0 3)) M hS8 (by decide) (ref := "NamedMovesModel") inX8_number_X8 (sE_21 G _ _) rfl 7 (by decide) (M.2.2.2.2.1 _ flX8_number_137) rfl rfl dX8_number_24 ?_
      refine x_iload_n M hl0 dX8_number_27 3 rfl ?_
      obtain ⟨g16, hf⟩ := gdt hf
      refine x_isub M dX8_number_28 ?_
      refine x_iconst M dX8_number_29 ?_
      refine x_icmp_ge (tgt := 91) M g16 ⟨by decide, by decide⟩ dX8_number_30 (by decide) (fun hc => ?_) (fun hc => ?_)
      · have hf := iff_ hf (Int.not_lt.mpr hc)
        exact X8_number_b91_ok M hr x2 x3 w5 hx2 hx3 _ _ hS8 _ (lv_sub hl0 [0, 2, 3] rfl) _ _ hf
      · have hf := ift hf (Int.not_le.mp hc)
        refine x_aload_n M hl0 dX8_number_33 0 rfl ?_
        refine x_get (c0 := 21) (t0 := 0) (v := iV (w5 21 0 3)) M hS8 (by decide) (ref := "NamedMovesModel") inX8_number_X8 (sE_21 G _ _) rfl 7 (by decide) (M.2.2.2.2.1 _ flX8_number_137) rfl rfl dX8_number_34 ?_
        refine x_iload_n M hl0 dX8_number_37 3 rfl ?_
        refine x_icmp_eq (tgt := 50) M (hS8.inr _ _ _) hx3 dX8_number_38 (by decide) (fun hc => ?_) (fun hc => ?_)
        · have hf := ift hf hc
          exact X8_number_b50_ok M hr ih x1 x2 x3 w5 hx1 hx2 hx3 _ _ hS8 _ (lv_sub hl0 [0, 1, 2, 3] rfl) _ _ hf
        · have hf := iff_ hf hc
          refine x_aload_n M hl0 dX8_number_41 0 rfl ?_
          refine x_get (c0 := 21) (t0 := 0) (v := .ref (G.1 26 0)) M hS8 (by decide) (ref := "NamedMovesModel") inX8_number_X8 (sE_21 G _ _) rfl 8 (by decide) (M.2.2.2.2.1 _ flX8_number_22) rfl rfl dX8_number_42 ?_
          refine x_iload_n M hl0 dX8_number_45 1 rfl ?_
          obtain ⟨g25, hf⟩ := gdt hf
          refine x_iald (c0 := 26) (t0 := 0) M hS8 (by decide) (hs_26 G _) rfl g25 (by decide) dX8_number_46 ?_
          refine x_if_le (tgt := 91) M (hS8.inr _ _ _) dX8_number_47 (by decide) (fun hc => ?_) (fun hc => ?_)
          · have hf := iff_ hf (Int.not_lt.mpr hc)
            exact X8_number_b91_ok M hr x2 x3 w5 hx2 hx3 _ _ hS8 _ (lv_sub hl0 [0, 2, 3] rfl) _ _ hf
          · have hf := ift hf (Int.not_le.mp hc)
            exact X8_number_b50_ok M hr ih x1 x2 x3 w5 hx1 hx2 hx3 _ _ hS8 _ (lv_sub hl0 [0, 1, 2, 3] rfl) _ _ hf

set_option maxHeartbeats 4000000 in
set_option maxRecDepth 100000 in
theorem c_X8_number (l : Launch) {G : GG} {x1 : Int} (hx1 : InR x1) {x2 : Int} (hx2 : InR x2) {w : Wd} {r : Int} {w' : Wd} (hf : X8_number x1 x2 w = some (r, w')) : Met l yX8_number wsX8_number (rmk 2) (PcG G w [.ref (G.1 21 0), iV x1, iV x2]) (QiG G r w') 0 0 (GA G) := by
  refine met_of (own := RX8) (by decide) rfl (Nat.le_of_ble_eq_true rfl) rfl ?_
  intro p e s m args below meth c M hr ls hl0 hS0
  have hl0 : lv_has ls 4 [(0, .ref (G.1 21 0)), (1, iV x1), (2, iV x2)] := hl0
  unfold X8_number at hf
  refine x_aload_n M hl0 dX8_number_0 0 rfl ?_
  refine x_get (c0 := 21) (t0 := 0) (v := iV (w 21 0 3)) M hS0 (by decide) (ref := "NamedMovesModel") inX8_number_X8 (sE_21 G _ _) rfl 7 (by decide) (M.2.2.2.2.1 _ flX8_number_137) rfl rfl dX8_number_1 ?_
  refine x_istore_n M hl0 dX8_number_4 (by decide) [(3, iV (w 21 0 3)), (0, .ref (G.1 21 0)), (1, iV x1), (2, iV x2)] rfl (fun ls hl1 => ?_)
  refine x_aload_n M hl1 dX8_number_5 1 rfl ?_
  refine x_get (c0 := 21) (t0 := 0) (v := .ref (G.1 26 0)) M hS0 (by decide) (ref := "NamedMovesModel") inX8_number_X8 (sE_21 G _ _) rfl 8 (by decide) (M.2.2.2.2.1 _ flX8_number_22) rfl rfl dX8_number_6 ?_
  refine x_iload_n M hl1 dX8_number_9 2 rfl ?_
  refine x_iconst M dX8_number_10 ?_
  obtain ⟨g2, hf⟩ := gdt hf
  refine x_iast (c0 := 26) (t0 := 0) M hS0 (by decide) (hs_26 G _) rfl g2 (by decide) ⟨by decide, by decide⟩ dX8_number_11 (fun H locs hS3 => ?_)
  exact X8_number_b12_ok M hr LF x1 x2 (w 21 0 3) (up w 26 0 x1.toNat 0) hx1 hx2 (hS0.inr _ _ _) _ _ hS3 _ (lv_sub hl1 [1, 2, 3, 0] rfl) _ _ hf

/-! X8_numbersOf -/
set_option maxHeartbeats 4000000 in
set_option maxRecDepth 100000 in
theorem c_X8_numbersOf (l : Launch) {G : GG} {x0 : Int} (hx0 : InR x0) {w : Wd} {r : Int} {w' : Wd} (hf : X8_numbersOf x0 w = some (r, w')) : Met l yX8_numbersOf wsX8_numbersOf (rmk 0) (PcG G w [iV x0]) (QiG G r w') 0 0 (GA G) := by
  refine met_of (own := RX8) (by decide) rfl (Nat.le_of_ble_eq_true rfl) rfl ?_
  intro p e s m args below meth c M hr ls hl0 hS0
  have hl0 : lv_has ls 1 [(0, iV x0)] := hl0
  unfold X8_numbersOf at hf
  refine x_iload_n M hl0 dX8_numbersOf_0 0 rfl ?_
  by_cases hq98 : x0 = 98
  · have hf := ift hf hq98
    refine x_table (tgt := 94) M hx0 dX8_numbersOf_1 (by decide) (by rw [hq98]; decide) ?_
    refine x_iconst M dX8_numbersOf_94 ?_
    exact x_iret M hr hf hS0 ⟨by decide, by decide⟩ dX8_numbersOf_95
  have hf := iff_ hf hq98
  by_cases hq100 : x0 = 100
  · have hf := ift hf hq100
    refine x_table (tgt := 92) M hx0 dX8_numbersOf_1 (by decide) (by rw [hq100]; decide) ?_
    refine x_iconst M dX8_numbersOf_92 ?_
    exact x_iret M hr hf hS0 ⟨by decide, by decide⟩ dX8_numbersOf_93
  have hf := iff_ hf hq100
  by_cases hq102 : x0 = 102
  · have hf := ift hf hq102
    refine x_table (tgt := 90) M hx0 dX8_numbersOf_1 (by decide) (by rw [hq102]; decide) ?_
    refine x_iconst M dX8_numbersOf_90 ?_
    exact x_iret M hr hf hS0 ⟨by decide, by decide⟩ dX8_numbersOf_91
  have hf := iff_ hf hq102
  by_cases hq108 : x0 = 108
  · have hf := ift hf hq108
    refine x_table (tgt := 90) M hx0 dX8_numbersOf_1 (by decide) (by rw [hq108]; decide) ?_
    refine x_iconst M dX8_numbersOf_90 ?_
    exact x_iret M hr hf hS0 ⟨by decide, by decide⟩ dX8_numbersOf_91
  have hf := iff_ hf hq108
  by_cases hq109 : x0 = 109
  · have hf := ift hf hq109
    refine x_table (tgt := 88) M hx0 dX8_numbersOf_1 (by decide) (by rw [hq109]; decide) ?_
    refine x_iconst M dX8_numbersOf_88 ?_
    exact x_iret M hr hf hS0 ⟨by decide, by decide⟩ dX8_numbersOf_89
  have hf := iff_ hf hq109
  by_cases hq115 : x0 = 115
  · have hf := ift hf hq115
    refine x_table (tgt := 92) M hx0 dX8_numbersOf_1 (by decide) (by rw [hq115]; decide) ?_
    refine x_iconst M dX8_numbersOf_92 ?_
    exact x_iret M hr hf hS0 ⟨by decide, by decide⟩ dX8_numbersOf_93
  have hf := iff_ hf hq115
  have hz : x0 < 98 ∨ 115 < x0 ∨ x0 = 99 ∨ x0 = 101 ∨ x0 = 103 ∨ x0 = 104 ∨ x0 = 105 ∨ x0 = 106 ∨ x0 = 107 ∨ x0 = 110 ∨ x0 = 111 ∨ x0 = 112 ∨ x0 = 113 ∨ x0 = 114 := by omega
  refine x_table (tgt := 96) M hx0 dX8_numbersOf_1 (by decide) (by rcases hz with hz | hz | hz | hz | hz | hz | hz | hz | hz | hz | hz | hz | hz | hz <;> first | (rw [hz]; decide) | (unfold tsel; rw [if_pos (by omega)]; decide)) ?_
  refine x_bipush M dX8_numbersOf_96 rfl ?_
  exact x_iret M hr hf hS0 ⟨by decide, by decide⟩ dX8_numbersOf_98

/-! X8_does -/
theorem flX8_does_22 : Cond.fieldLink RX8 22 "NamedMovesModel" "read" "[I" ∈ wsX8_does := by decide +kernel
theorem inX8_does_X8 : ∀ w ∈ u_ws RX8 TX8 12, w ∈ wsX8_does := by decide +kernel
set_option maxHeartbeats 4000000 in
set_option maxRecDepth 100000 in
theorem c_X8_does (l : Launch) {G : GG} {x1 : Int} (hx1 : InR x1) {w : Wd} {r : Int} {w' : Wd} (hf : X8_does x1 w = some (r, w')) : Met l yX8_does wsX8_does (rmk 6) (PcG G w [.ref (G.1 21 0), iV x1]) (QiG G r w') 0 0 (GA G) := by
  refine met_of (own := RX8) (by decide) rfl (Nat.le_of_ble_eq_true rfl) rfl ?_
  intro p e s m args below meth c M hr ls hl0 hS0
  have hl0 : lv_has ls 2 [(0, .ref (G.1 21 0)), (1, iV x1)] := hl0
  unfold X8_does at hf
  refine x_iload_n M hl0 dX8_does_0 1 rfl ?_
  by_cases hq100 : x1 = 100
  · have hf := ift hf hq100
    refine x_lookup (tgt := 115) M hx1 dX8_does_1 (by decide) (by rw [hq100]; decide) ?_
    refine x_aload_n M hl0 dX8_does_115 0 rfl ?_
    refine x_aload_n M hl0 dX8_does_116 0 rfl ?_
    refine x_get (c0 := 21) (t0 := 0) (v := .ref (G.1 26 0)) M hS0 (by decide) (ref := "NamedMovesModel") inX8_does_X8 (sE_21 G _ _) rfl 8 (by decide) (M.2.2.2.2.1 _ flX8_does_22) rfl rfl dX8_does_117 ?_
    refine x_iconst M dX8_does_120 ?_
    refine x_iald (c0 := 26) (t0 := 0) M hS0 (by decide) (hs_26 G _) rfl ⟨by decide, by decide⟩ (by decide) dX8_does_121 ?_
    obtain ⟨r1, w2, hc3, hf⟩ := bdt hf
    refine x_callVi (c0 := 21) (t0 := 0) (As := [iV (w 26 0 0)]) (rest := []) M hl0 hS0 (c_X8_drop l  (hS0.inr _ _ _) hc3) (cwV 1 M.2.2.2.2.1 gX8_does_X8_drop rfl rfl rfl (by decide +kernel) ⟨Nat.le_of_ble_eq_true rfl, Nat.le_of_ble_eq_true rfl⟩) (by decide) (sE_21 G _ _) rfl rfl (Nat.le_of_ble_eq_true rfl) dX8_does_122 rfl ⟨Nat.zero_le _, Nat.zero_le _⟩ (fun H locs hi4 hS5 => ?_)
    exact x_iret M hr hf hS5 hi4 dX8_does_125
  have hf := iff_ hf hq100
  by_cases hq102 : x1 = 102
  · have hf := ift hf hq102
    refine x_lookup (tgt := 92) M hx1 dX8_does_1 (by decide) (by rw [hq102]; decide) ?_
    refine x_aload_n M hl0 dX8_does_92 0 rfl ?_
    refine x_aload_n M hl0 dX8_does_93 0 rfl ?_
    refine x_get (c0 := 21) (t0 := 0) (v := .ref (G.1 26 0)) M hS0 (by decide) (ref := "NamedMovesModel") inX8_does_X8 (sE_21 G _ _) rfl 8 (by decide) (M.2.2.2.2.1 _ flX8_does_22) rfl rfl dX8_does_94 ?_
    refine x_iconst M dX8_does_97 ?_
    refine x_iald (c0 := 26) (t0 := 0) M hS0 (by decide) (hs_26 G _) rfl ⟨by decide, by decide⟩ (by decide) dX8_does_98 ?_
    refine x_aload_n M hl0 dX8_does_99 0 rfl ?_
    refine x_get (c0 := 21) (t0 := 0) (v := .ref (G.1 26 0)) M hS0 (by decide) (ref := "NamedMovesModel") inX8_does_X8 (sE_21 G _ _) rfl 8 (by decide) (M.2.2.2.2.1 _ flX8_does_22) rfl rfl dX8_does_100 ?_
    refine x_iconst M dX8_does_103 ?_
    refine x_iald (c0 := 26) (t0 := 0) M hS0 (by decide) (hs_26 G _) rfl ⟨by decide, by decide⟩ (by decide) dX8_does_104 ?_
    refine x_aload_n M hl0 dX8_does_105 0 rfl ?_
    refine x_get (c0 := 21) (t0 := 0) (v := .ref (G.1 26 0)) M hS0 (by decide) (ref := "NamedMovesModel") inX8_does_X8 (sE_21 G _ _) rfl 8 (by decide) (M.2.2.2.2.1 _ flX8_does_22) rfl rfl dX8_does_106 ?_
    refine x_iconst M dX8_does_109 ?_
    refine x_iald (c0 := 26) (t0 := 0) M hS0 (by decide) (hs_26 G _) rfl ⟨by decide, by decide⟩ (by decide) dX8_does_110 ?_
    obtain ⟨r6, w7, hc8, hf⟩ := bdt hf
    refine x_callVi (c0 := 21) (t0 := 0) (As := [iV (w 26 0 0), iV (w 26 0 1), iV (w 26 0 2)]) (rest := []) M hl0 hS0 (c_X8_follow l  (hS0.inr _ _ _) (hS0.inr _ _ _) (hS0.inr _ _ _) hc8) (cwV 3 M.2.2.2.2.1 gX8_does_X8_follow rfl rfl rfl (by decide +kernel) ⟨Nat.le_of_ble_eq_true rfl, Nat.le_of_ble_eq_true rfl⟩) (by decide) (sE_21 G _ _) rfl rfl (Nat.le_of_ble_eq_true rfl) dX8_does_111 rfl ⟨Nat.zero_le _, Nat.zero_le _⟩ (fun H locs hi9 hS10 => ?_)
    exact x_iret M hr hf hS10 hi9 dX8_does_114
  have hf := iff_ hf hq102
  by_cases hq108 : x1 = 108
  · have hf := ift hf hq108
    refine x_lookup (tgt := 69) M hx1 dX8_does_1 (by decide) (by rw [hq108]; decide) ?_
    refine x_aload_n M hl0 dX8_does_69 0 rfl ?_
    refine x_aload_n M hl0 dX8_does_70 0 rfl ?_
    refine x_get (c0 := 21) (t0 := 0) (v := .ref (G.1 26 0)) M hS0 (by decide) (ref := "NamedMovesModel") inX8_does_X8 (sE_21 G _ _) rfl 8 (by decide) (M.2.2.2.2.1 _ flX8_does_22) rfl rfl dX8_does_71 ?_
    refine x_iconst M dX8_does_74 ?_
    refine x_iald (c0 := 26) (t0 := 0) M hS0 (by decide) (hs_26 G _) rfl ⟨by decide, by decide⟩ (by decide) dX8_does_75 ?_
    refine x_aload_n M hl0 dX8_does_76 0 rfl ?_
    refine x_get (c0 := 21) (t0 := 0) (v := .ref (G.1 26 0)) M hS0 (by decide) (ref := "NamedMovesModel") inX8_does_X8 (sE_21 G _ _) rfl 8 (by decide) (M.2.2.2.2.1 _ flX8_does_22) rfl rfl dX8_does_77 ?_
    refine x_iconst M dX8_does_80 ?_
    refine x_iald (c0 := 26) (t0 := 0) M hS0 (by decide) (hs_26 G _) rfl ⟨by decide, by decide⟩ (by decide) dX8_does_81 ?_
    refine x_aload_n M hl0 dX8_does_82 0 rfl ?_
    refine x_get (c0 := 21) (t0 := 0) (v := .ref (G.1 26 0)) M hS0 (by decide) (ref := "NamedMovesModel") inX8_does_X8 (sE_21 G _ _) rfl 8 (by decide) (M.2.2.2.2.1 _ flX8_does_22) rfl rfl dX8_does_83 ?_
    refine x_iconst M dX8_does_86 ?_
    refine x_iald (c0 := 26) (t0 := 0) M hS0 (by decide) (hs_26 G _) rfl ⟨by decide, by decide⟩ (by decide) dX8_does_87 ?_
    obtain ⟨r11, w12, hc13, hf⟩ := bdt hf
    refine x_callVi (c0 := 21) (t0 := 0) (As := [iV (w 26 0 0), iV (w 26 0 1), iV (w 26 0 2)]) (rest := []) M hl0 hS0 (c_X8_link l  (hS0.inr _ _ _) (hS0.inr _ _ _) (hS0.inr _ _ _) hc13) (cwV 3 M.2.2.2.2.1 gX8_does_X8_link rfl rfl rfl (by decide +kernel) ⟨Nat.le_of_ble_eq_true rfl, Nat.le_of_ble_eq_true rfl⟩) (by decide) (sE_21 G _ _) rfl rfl (Nat.le_of_ble_eq_true rfl) dX8_does_88 rfl ⟨Nat.zero_le _, Nat.zero_le _⟩ (fun H locs hi14 hS15 => ?_)
    exact x_iret M hr hf hS15 hi14 dX8_does_91
  have hf := iff_ hf hq108
  by_cases hq109 : x1 = 109
  · have hf := ift hf hq109
    refine x_lookup (tgt := 52) M hx1 dX8_does_1 (by decide) (by rw [hq109]; decide) ?_
    refine x_aload_n M hl0 dX8_does_52 0 rfl ?_
    refine x_aload_n M hl0 dX8_does_53 0 rfl ?_
    refine x_get (c0 := 21) (t0 := 0) (v := .ref (G.1 26 0)) M hS0 (by decide) (ref := "NamedMovesModel") inX8_does_X8 (sE_21 G _ _) rfl 8 (by decide) (M.2.2.2.2.1 _ flX8_does_22) rfl rfl dX8_does_54 ?_
    refine x_iconst M dX8_does_57 ?_
    refine x_iald (c0 := 26) (t0 := 0) M hS0 (by decide) (hs_26 G _) rfl ⟨by decide, by decide⟩ (by decide) dX8_does_58 ?_
    refine x_aload_n M hl0 dX8_does_59 0 rfl ?_
    refine x_get (c0 := 21) (t0 := 0) (v := .ref (G.1 26 0)) M hS0 (by decide) (ref := "NamedMovesModel") inX8_does_X8 (sE_21 G _ _) rfl 8 (by decide) (M.2.2.2.2.1 _ flX8_does_22) rfl rfl dX8_does_60 ?_
    refine x_iconst M dX8_does_63 ?_
    refine x_iald (c0 := 26) (t0 := 0) M hS0 (by decide) (hs_26 G _) rfl ⟨by decide, by decide⟩ (by decide) dX8_does_64 ?_
    obtain ⟨r16, w17, hc18, hf⟩ := bdt hf
    refine x_callVi (c0 := 21) (t0 := 0) (As := [iV (w 26 0 0), iV (w 26 0 1)]) (rest := []) M hl0 hS0 (c_X8_make l  (hS0.inr _ _ _) (hS0.inr _ _ _) hc18) (cwV 2 M.2.2.2.2.1 gX8_does_X8_make rfl rfl rfl (by decide +kernel) ⟨Nat.le_of_ble_eq_true rfl, Nat.le_of_ble_eq_true rfl⟩) (by decide) (sE_21 G _ _) rfl rfl (Nat.le_of_ble_eq_true rfl) dX8_does_65 rfl ⟨Nat.zero_le _, Nat.zero_le _⟩ (fun H locs hi19 hS20 => ?_)
    exact x_iret M hr hf hS20 hi19 dX8_does_68
  have hf := iff_ hf hq109
  by_cases hq115 : x1 = 115
  · have hf := ift hf hq115
    refine x_lookup (tgt := 126) M hx1 dX8_does_1 (by decide) (by rw [hq115]; decide) ?_
    refine x_aload_n M hl0 dX8_does_126 0 rfl ?_
    refine x_aload_n M hl0 dX8_does_127 0 rfl ?_
    refine x_get (c0 := 21) (t0 := 0) (v := .ref (G.1 26 0)) M hS0 (by decide) (ref := "NamedMovesModel") inX8_does_X8 (sE_21 G _ _) rfl 8 (by decide) (M.2.2.2.2.1 _ flX8_does_22) rfl rfl dX8_does_128 ?_
    refine x_iconst M dX8_does_131 ?_
    refine x_iald (c0 := 26) (t0 := 0) M hS0 (by decide) (hs_26 G _) rfl ⟨by decide, by decide⟩ (by decide) dX8_does_132 ?_
    obtain ⟨r21, w22, hc23, hf⟩ := bdt hf
    refine x_callVi (c0 := 21) (t0 := 0) (As := [iV (w 26 0 0)]) (rest := []) M hl0 hS0 (c_X8_carry l  (hS0.inr _ _ _) hc23) (cwV 1 M.2.2.2.2.1 gX8_does_X8_carry rfl rfl rfl (by decide +kernel) ⟨Nat.le_of_ble_eq_true rfl, Nat.le_of_ble_eq_true rfl⟩) (by decide) (sE_21 G _ _) rfl rfl (Nat.le_of_ble_eq_true rfl) dX8_does_133 rfl ⟨Nat.zero_le _, Nat.zero_le _⟩ (fun H locs hi24 hS25 => ?_)
    exact x_iret M hr hf hS25 hi24 dX8_does_136
  have hf := iff_ hf hq115
  have hz100 : ¬ (100 : Int) = x1 := fun q => hq100 q.symm
  have hz102 : ¬ (102 : Int) = x1 := fun q => hq102 q.symm
  have hz108 : ¬ (108 : Int) = x1 := fun q => hq108 q.symm
  have hz109 : ¬ (109 : Int) = x1 := fun q => hq109 q.symm
  have hz115 : ¬ (115 : Int) = x1 := fun q => hq115 q.symm
  refine x_lookup (tgt := 137) M hx1 dX8_does_1 (by decide) (by simp [Op.lookupswitch.offset_cons, Op.lookupswitch.offset_nil, hz100, hz102, hz108, hz109, hz115]) ?_
  refine x_aload_n M hl0 dX8_does_137 0 rfl ?_
  obtain ⟨r26, w27, hc28, hf⟩ := bdt hf
  refine x_callVi (c0 := 21) (t0 := 0) (As := []) (rest := []) M hl0 hS0 (c_X8_begin l   hc28) (cwV 0 M.2.2.2.2.1 gX8_does_X8_begin rfl rfl rfl (by decide +kernel) ⟨Nat.le_of_ble_eq_true rfl, Nat.le_of_ble_eq_true rfl⟩) (by decide) (sE_21 G _ _) rfl rfl (Nat.le_of_ble_eq_true rfl) dX8_does_138 rfl ⟨Nat.zero_le _, Nat.zero_le _⟩ (fun H locs hi29 hS30 => ?_)
  exact x_iret M hr hf hS30 hi29 dX8_does_141

/-! X8_doesOne -/
theorem flX8_doesOne_137 : Cond.fieldLink RX8 137 "NamedMovesModel" "at" "I" ∈ wsX8_doesOne := by decide +kernel
theorem flX8_doesOne_19 : Cond.fieldLink RX8 19 "NamedMovesModel" "text" "[I" ∈ wsX8_doesOne := by decide +kernel
theorem inX8_doesOne_X8 : ∀ w ∈ u_ws RX8 TX8 12, w ∈ wsX8_doesOne := by decide +kernel
set_option maxHeartbeats 4000000 in
set_option maxRecDepth 100000 in
theorem X8_doesOne_b71_ok (M : MC p s m args meth c cX8_doesOne 5 RX8 wsX8_doesOne G) (hr : meth.sig.returnType = (some .int)) : ∀ n : Nat, ∀ x1 : Int, ∀ x2 : Int, ∀ x3 : Int, ∀ x4 : Int, ∀ w : Wd, InR x1 → InR x2 → InR x3 → InR x4 → ∀ (H : Heap) (locs : List Loc), ST G s w H locs → ∀ ls : Array Slot, lv_has ls 5 [(0, .ref (G.1 21 0)), (1, iV x1), (2, iV x2), (3, iV x3), (4, iV x4)] → ∀ (r : Int) (w' : Wd), X8_doesOne_b71 n x1 x2 x3 x4 w = some (r, w') → W p l e (rmk 7) s m args below meth c H locs 0 0 (MQ below (QiG G r w') args s 0 0 (GA G)) (F0 m 71 ls []) := by
  intro n
  induction n with
  | zero =>
    intro x1 x2 x3 x4 w hx1 hx2 hx3 hx4 H locs hS0 ls hl0 r w' hf
    cases hf
  | succ n ih =>
    intro x1 x2 x3 x4 w hx1 hx2 hx3 hx4 H locs hS0 ls hl0 r w' hf
    rw [X8_doesOne_b71_s] at hf
    refine x_iload M hl0 dX8_doesOne_71 4 rfl ?_
    refine x_iload_n M hl0 dX8_doesOne_73 3 rfl ?_
    refine x_icmp_ge (tgt := 112) M hx4 hx3 dX8_doesOne_74 (by decide) (fun hc => ?_) (fun hc => ?_)
    · have hf := iff_ hf (Int.not_lt.mpr hc)
      refine x_aload_n M hl0 dX8_doesOne_112 0 rfl ?_
      refine x_iload_n M hl0 dX8_doesOne_113 2 rfl ?_
      obtain ⟨r13, w14, hc15, hf⟩ := bdt hf
      refine x_callVi (c0 := 21) (t0 := 0) (As := [iV x2]) (rest := []) M hl0 hS0 (c_X8_does l  hx2 hc15) (cwV 1 M.2.2.2.2.1 gX8_doesOne_X8_does rfl rfl rfl (by decide +kernel) ⟨Nat.le_of_ble_eq_true rfl, Nat.le_of_ble_eq_true rfl⟩) (by decide) (sE_21 G _ _) rfl rfl (Nat.le_of_ble_eq_true rfl) dX8_doesOne_114 rfl ⟨Nat.zero_le _, Nat.zero_le _⟩ (fun H locs hi16 hS17 => ?_)
      refine x_if_ge (tgt := 124) M hi16 dX8_doesOne_117 (by decide) (fun hc => ?_) (fun hc => ?_)
      · have hf := iff_ hf (Int.not_lt.mpr hc)
        refine x_bipush M dX8_doesOne_124 rfl ?_
        exact x_iret M hr hf hS17 ⟨by decide, by decide⟩ dX8_doesOne_126
      · have hf := ift hf (Int.not_le.mp hc)
        refine x_iload_n M hl0 dX8_doesOne_120 1 rfl ?_
        refine x_goto (tgt := 126) M dX8_doesOne_121 (by decide) ?_
        exact x_iret M hr hf hS17 hx1 dX8_doesOne_126
    · have hf := ift hf (Int.not_le.mp hc)
      refine x_aload_n M hl0 dX8_doesOne_77 0 rfl ?_
      refine x_iload M hl0 dX8_doesOne_78 4 rfl ?_
      refine x_iload M hl0 dX8_doesOne_80 4 rfl ?_
      refine x_iload_n M hl0 dX8_doesOne_82 3 rfl ?_
      refine x_iconst M dX8_doesOne_83 ?_
      obtain ⟨g18, hf⟩ := gdt hf
      refine x_isub M dX8_doesOne_84 ?_
      refine x_icmp_ne (tgt := 93) M hx4 g18 dX8_doesOne_85 (by decide) (fun hc => ?_) (fun hc => ?_)
      · have hf := iff_ hf hc
        refine x_bipush M dX8_doesOne_93 rfl ?_
        obtain ⟨r19, w20, hc21, hf⟩ := bdt hf
        refine x_callVi (c0 := 21) (t0 := 0) (As := [iV x4, iV 44]) (rest := []) M hl0 hS0 (c_X8_number l  hx4 ⟨by decide, by decide⟩ hc21) (cwV 2 M.2.2.2.2.1 gX8_doesOne_X8_number rfl rfl rfl (by decide +kernel) ⟨Nat.le_of_ble_eq_true rfl, Nat.le_of_ble_eq_true rfl⟩) (by decide) (sE_21 G _ _) rfl rfl (Nat.le_of_ble_eq_true rfl) dX8_doesOne_95 rfl ⟨Nat.zero_le _, Nat.zero_le _⟩ (fun H locs hi22 hS23 => ?_)
        refine x_if_ne (tgt := 106) M hi22 dX8_doesOne_98 (by decide) (fun hc => ?_) (fun hc => ?_)
        · have hf := iff_ hf hc
          obtain ⟨g24, hf⟩ := gdt hf
          refine x_iinc M hl0 dX8_doesOne_106 4 rfl (by decide) [(4, iV (x4 + 1)), (0, .ref (G.1 21 0)), (1, iV x1), (2, iV x2), (3, iV x3)] rfl (fun ls hl25 => ?_)
          refine x_goto (tgt := 71) M dX8_doesOne_109 (by decide) ?_
          exact ih x1 x2 x3 (x4 + 1) w20 hx1 hx2 hx3 g24 _ _ hS23 _ (lv_sub hl25 [1, 2, 3, 4, 0] rfl) _ _ hf
        · have hf := ift hf (Decidable.of_not_not hc)
          refine x_aload_n M hl0 dX8_doesOne_101 0 rfl ?_
          refine x_get (c0 := 21) (t0 := 0) (v := iV (w20 21 0 3)) M hS23 (by decide) (ref := "NamedMovesModel") inX8_doesOne_X8 (sE_21 G _ _) rfl 7 (by decide) (M.2.2.2.2.1 _ flX8_doesOne_137) rfl rfl dX8_doesOne_102 ?_
          exact x_iret M hr hf hS23 (hS23.inr _ _ _) dX8_doesOne_105
      · have hf := ift hf (Decidable.of_not_not hc)
        refine x_bipush M dX8_doesOne_88 rfl ?_
        refine x_goto (tgt := 95) M dX8_doesOne_90 (by decide) ?_
        obtain ⟨r26, w27, hc28, hf⟩ := bdt hf
        refine x_callVi (c0 := 21) (t0 := 0) (As := [iV x4, iV 59]) (rest := []) M hl0 hS0 (c_X8_number l  hx4 ⟨by decide, by decide⟩ hc28) (cwV 2 M.2.2.2.2.1 gX8_doesOne_X8_number rfl rfl rfl (by decide +kernel) ⟨Nat.le_of_ble_eq_true rfl, Nat.le_of_ble_eq_true rfl⟩) (by decide) (sE_21 G _ _) rfl rfl (Nat.le_of_ble_eq_true rfl) dX8_doesOne_95 rfl ⟨Nat.zero_le _, Nat.zero_le _⟩ (fun H locs hi29 hS30 => ?_)
        refine x_if_ne (tgt := 106) M hi29 dX8_doesOne_98 (by decide) (fun hc => ?_) (fun hc => ?_)
        · have hf := iff_ hf hc
          obtain ⟨g31, hf⟩ := gdt hf
          refine x_iinc M hl0 dX8_doesOne_106 4 rfl (by decide) [(4, iV (x4 + 1)), (0, .ref (G.1 21 0)), (1, iV x1), (2, iV x2), (3, iV x3)] rfl (fun ls hl32 => ?_)
          refine x_goto (tgt := 71) M dX8_doesOne_109 (by decide) ?_
          exact ih x1 x2 x3 (x4 + 1) w27 hx1 hx2 hx3 g31 _ _ hS30 _ (lv_sub hl32 [1, 2, 3, 4, 0] rfl) _ _ hf
        · have hf := ift hf (Decidable.of_not_not hc)
          refine x_aload_n M hl0 dX8_doesOne_101 0 rfl ?_
          refine x_get (c0 := 21) (t0 := 0) (v := iV (w27 21 0 3)) M hS30 (by decide) (ref := "NamedMovesModel") inX8_doesOne_X8 (sE_21 G _ _) rfl 7 (by decide) (M.2.2.2.2.1 _ flX8_doesOne_137) rfl rfl dX8_doesOne_102 ?_
          exact x_iret M hr hf hS30 (hS30.inr _ _ _) dX8_doesOne_105

set_option maxHeartbeats 4000000 in
set_option maxRecDepth 100000 in
theorem c_X8_doesOne (l : Launch) {G : GG} {w : Wd} {r : Int} {w' : Wd} (hf : X8_doesOne w = some (r, w')) : Met l yX8_doesOne wsX8_doesOne (rmk 7) (PcG G w [.ref (G.1 21 0)]) (QiG G r w') 0 0 (GA G) := by
  refine met_of (own := RX8) (by decide) rfl (Nat.le_of_ble_eq_true rfl) rfl ?_
  intro p e s m args below meth c M hr ls hl0 hS0
  have hl0 : lv_has ls 5 [(0, .ref (G.1 21 0))] := hl0
  unfold X8_doesOne at hf
  refine x_aload_n M hl0 dX8_doesOne_0 0 rfl ?_
  refine x_get (c0 := 21) (t0 := 0) (v := iV (w 21 0 3)) M hS0 (by decide) (ref := "NamedMovesModel") inX8_doesOne_X8 (sE_21 G _ _) rfl 7 (by decide) (M.2.2.2.2.1 _ flX8_doesOne_137) rfl rfl dX8_doesOne_1 ?_
  refine x_istore_n M hl0 dX8_doesOne_4 (by decide) [(1, iV (w 21 0 3)), (0, .ref (G.1 21 0))] rfl (fun ls hl1 => ?_)
  refine x_aload_n M hl1 dX8_doesOne_5 1 rfl ?_
  refine x_get (c0 := 21) (t0 := 0) (v := .ref (G.1 25 0)) M hS0 (by decide) (ref := "NamedMovesModel") inX8_doesOne_X8 (sE_21 G _ _) rfl 5 (by decide) (M.2.2.2.2.1 _ flX8_doesOne_19) rfl rfl dX8_doesOne_6 ?_
  refine x_aload_n M hl1 dX8_doesOne_9 1 rfl ?_
  refine x_get (c0 := 21) (t0 := 0) (v := iV (w 21 0 3)) M hS0 (by decide) (ref := "NamedMovesModel") inX8_doesOne_X8 (sE_21 G _ _) rfl 7 (by decide) (M.2.2.2.2.1 _ flX8_doesOne_137) rfl rfl dX8_doesOne_10 ?_
  obtain ⟨g2, hf⟩ := gdt hf
  refine x_iald (c0 := 25) (t0 := 0) M hS0 (by decide) (hs_25 G _) rfl g2 (by decide) dX8_doesOne_13 ?_
  refine x_istore_n M hl1 dX8_doesOne_14 (by decide) [(2, iV (w 25 0 (w 21 0 3).toNat)), (1, iV (w 21 0 3)), (0, .ref (G.1 21 0))] rfl (fun ls hl3 => ?_)
  refine x_iload_n M hl3 dX8_doesOne_15 0 rfl ?_
  obtain ⟨r4, w5, hc6, hf⟩ := bdt hf
  refine x_callSi (As := [iV (w 25 0 (w 21 0 3).toNat)]) (rest := []) M hl3 hS0 (c_X8_numbersOf l  (hS0.inr _ _ _) hc6) (va_cwS 1 M.2.2.2.2.1 gX8_doesOne_X8_numbersOf rfl rfl rfl (by decide +kernel) ⟨Nat.le_of_ble_eq_true rfl, Nat.le_of_ble_eq_true rfl⟩) rfl (Nat.le_of_ble_eq_true rfl) dX8_doesOne_16 rfl ⟨Nat.zero_le _, Nat.zero_le _⟩ (fun H locs hi7 hS8 => ?_)
  refine x_istore_n M hl3 dX8_doesOne_19 (by decide) [(3, iV r4), (2, iV (w 25 0 (w 21 0 3).toNat)), (1, iV (w 21 0 3)), (0, .ref (G.1 21 0))] rfl (fun ls hl9 => ?_)
  refine x_iload_n M hl9 dX8_doesOne_20 0 rfl ?_
  refine x_bipush M dX8_doesOne_21 rfl ?_
  refine x_icmp_ne (tgt := 28) M hi7 ⟨by decide, by decide⟩ dX8_doesOne_23 (by decide) (fun hc => ?_) (fun hc => ?_)
  · have hf := iff_ hf hc
    refine x_aload_n M hl9 dX8_doesOne_28 3 rfl ?_
    refine x_dup M dX8_doesOne_29 rfl ?_
    refine x_get (c0 := 21) (t0 := 0) (v := iV (w5 21 0 3)) M hS8 (by decide) (ref := "NamedMovesModel") inX8_doesOne_X8 (sE_21 G _ _) rfl 7 (by decide) (M.2.2.2.2.1 _ flX8_doesOne_137) rfl rfl dX8_doesOne_30 ?_
    refine x_iconst M dX8_doesOne_33 ?_
    obtain ⟨g10, hf⟩ := gdt hf
    refine x_iadd M dX8_doesOne_34 ?_
    refine x_put (c0 := 21) (t0 := 0) M hS8 (by decide) (ref := "NamedMovesModel") inX8_doesOne_X8 tyX8 tyX8_ok nmX8 (sE_21 G _ _) rfl 7 (by decide) (M.2.2.2.2.1 _ flX8_doesOne_137) rfl rfl (ty := tyX8 7) g10 (tyX8_ok 7 (by decide)) rfl rfl (by simp) 3 (pset_21_3 G _ _ _) dX8_doesOne_35 (fun H locs hS11 => ?_)
    refine x_iload_n M hl9 dX8_doesOne_38 0 rfl ?_
    refine x_if_ne (tgt := 68) M hi7 dX8_doesOne_39 (by decide) (fun hc => ?_) (fun hc => ?_)
    · have hf := iff_ hf hc
      refine x_iconst M dX8_doesOne_68 ?_
      refine x_istore M hl9 dX8_doesOne_69 (by decide) [(4, iV 0), (3, iV r4), (2, iV (w 25 0 (w 21 0 3).toNat)), (1, iV (w 21 0 3)), (0, .ref (G.1 21 0))] rfl (fun ls hl12 => ?_)
      exact X8_doesOne_b71_ok M hr LF (w 21 0 3) (w 25 0 (w 21 0 3).toNat) r4 0 (up w5 21 0 3 ((w5 21 0 3) + 1)) (hS0.inr _ _ _) (hS0.inr _ _ _) hi7 ⟨by decide, by decide⟩ _ _ hS11 _ (lv_sub hl12 [4, 3, 2, 1, 0] rfl) _ _ hf
    · have hf := ift hf (Decidable.of_not_not hc)
      refine x_aload_n M hl9 dX8_doesOne_42 3 rfl ?_
      refine x_bipush M dX8_doesOne_43 rfl ?_
      refine x_bipush M dX8_doesOne_45 rfl ?_
      obtain ⟨r33, w34, hc35, hf⟩ := bdt hf
      refine x_callVi (c0 := 21) (t0 := 0) (As := [iV 59, iV 59]) (rest := []) M hl9 hS11 (c_X8_isAt l  ⟨by decide, by decide⟩ ⟨by decide, by decide⟩ hc35) (cwV 2 M.2.2.2.2.1 gX8_doesOne_X8_isAt rfl rfl rfl (by decide +kernel) ⟨Nat.le_of_ble_eq_true rfl, Nat.le_of_ble_eq_true rfl⟩) (by decide) (sE_21 G _ _) rfl rfl (Nat.le_of_ble_eq_true rfl) dX8_doesOne_47 rfl ⟨Nat.zero_le _, Nat.zero_le _⟩ (fun H locs hi36 hS37 => ?_)
      refine x_if_ne (tgt := 58) M hi36 dX8_doesOne_50 (by decide) (fun hc => ?_) (fun hc => ?_)
      · have hf := iff_ hf hc
        refine x_aload_n M hl9 dX8_doesOne_58 3 rfl ?_
        refine x_dup M dX8_doesOne_59 rfl ?_
        refine x_get (c0 := 21) (t0 := 0) (v := iV (w34 21 0 3)) M hS37 (by decide) (ref := "NamedMovesModel") inX8_doesOne_X8 (sE_21 G _ _) rfl 7 (by decide) (M.2.2.2.2.1 _ flX8_doesOne_137) rfl rfl dX8_doesOne_60 ?_
        refine x_iconst M dX8_doesOne_63 ?_
        obtain ⟨g38, hf⟩ := gdt hf
        refine x_iadd M dX8_doesOne_64 ?_
        refine x_put (c0 := 21) (t0 := 0) M hS37 (by decide) (ref := "NamedMovesModel") inX8_doesOne_X8 tyX8 tyX8_ok nmX8 (sE_21 G _ _) rfl 7 (by decide) (M.2.2.2.2.1 _ flX8_doesOne_137) rfl rfl (ty := tyX8 7) g38 (tyX8_ok 7 (by decide)) rfl rfl (by simp) 3 (pset_21_3 G _ _ _) dX8_doesOne_65 (fun H locs hS39 => ?_)
        refine x_iconst M dX8_doesOne_68 ?_
        refine x_istore M hl9 dX8_doesOne_69 (by decide) [(4, iV 0), (3, iV r4), (2, iV (w 25 0 (w 21 0 3).toNat)), (1, iV (w 21 0 3)), (0, .ref (G.1 21 0))] rfl (fun ls hl40 => ?_)
        exact X8_doesOne_b71_ok M hr LF (w 21 0 3) (w 25 0 (w 21 0 3).toNat) r4 0 (up w34 21 0 3 ((w34 21 0 3) + 1)) (hS0.inr _ _ _) (hS0.inr _ _ _) hi7 ⟨by decide, by decide⟩ _ _ hS39 _ (lv_sub hl40 [4, 3, 2, 1, 0] rfl) _ _ hf
      · have hf := ift hf (Decidable.of_not_not hc)
        refine x_aload_n M hl9 dX8_doesOne_53 3 rfl ?_
        refine x_get (c0 := 21) (t0 := 0) (v := iV (w34 21 0 3)) M hS37 (by decide) (ref := "NamedMovesModel") inX8_doesOne_X8 (sE_21 G _ _) rfl 7 (by decide) (M.2.2.2.2.1 _ flX8_doesOne_137) rfl rfl dX8_doesOne_54 ?_
        exact x_iret M hr hf hS37 (hS37.inr _ _ _) dX8_doesOne_57
  · have hf := ift hf (Decidable.of_not_not hc)
    refine x_iload_n M hl9 dX8_doesOne_26 2 rfl ?_
    exact x_iret M hr hf hS8 (hS0.inr _ _ _) dX8_doesOne_27

/-! X8_exchanges -/
theorem flX8_exchanges_16 : Cond.fieldLink RX8 16 "NamedMovesModel" "held" "[I" ∈ wsX8_exchanges := by decide +kernel
theorem flX8_exchanges_7 : Cond.fieldLink RX8 7 "NamedMovesModel" "s" "[I" ∈ wsX8_exchanges := by decide +kernel
theorem inX8_exchanges_X8 : ∀ w ∈ u_ws RX8 TX8 12, w ∈ wsX8_exchanges := by decide +kernel
set_option maxHeartbeats 4000000 in
set_option maxRecDepth 100000 in
theorem X8_exchanges_b2_ok (M : MC p s m args meth c cX8_exchanges 3 RX8 wsX8_exchanges G) (hr : meth.sig.returnType = none) : ∀ n : Nat, ∀ x1 : Int, ∀ w : Wd, InR x1 → ∀ (H : Heap) (locs : List Loc), ST G s w H locs → ∀ ls : Array Slot, lv_has ls 3 [(0, .ref (G.1 21 0)), (1, iV x1)] → ∀ (r : Int) (w' : Wd), X8_exchanges_b2 n x1 w = some (r, w') → W p l e (rmk 0) s m args below meth c H locs 0 0 (MQ below (QvG G w') args s 0 0 (GA G)) (F0 m 2 ls []) := by
  intro n
  induction n with
  | zero =>
    intro x1 w hx1 H locs hS0 ls hl0 r w' hf
    cases hf
  | succ n ih =>
    intro x1 w hx1 H locs hS0 ls hl0 r w' hf
    rw [X8_exchanges_b2_s] at hf
    refine x_iload_n M hl0 dX8_exchanges_2 1 rfl ?_
    refine x_sipush M dX8_exchanges_3 rfl ?_
    refine x_icmp_ge (tgt := 41) M hx1 ⟨by decide, by decide⟩ dX8_exchanges_6 (by decide) (fun hc => ?_) (fun hc => ?_)
    · have hf := iff_ hf (Int.not_lt.mpr hc)
      exact x_vret M hr hf hS0 dX8_exchanges_41
    · have hf := ift hf (Int.not_le.mp hc)
      refine x_aload_n M hl0 dX8_exchanges_9 0 rfl ?_
      refine x_get (c0 := 21) (t0 := 0) (v := .ref (G.1 22 0)) M hS0 (by decide) (ref := "NamedMovesModel") inX8_exchanges_X8 (sE_21 G _ _) rfl 0 (by decide) (M.2.2.2.2.1 _ flX8_exchanges_7) rfl rfl dX8_exchanges_10 ?_
      refine x_iload_n M hl0 dX8_exchanges_13 1 rfl ?_
      obtain ⟨g2, hf⟩ := gdt hf
      refine x_iald (c0 := 22) (t0 := 0) M hS0 (by decide) (hs_22 G _) rfl g2 (by decide) dX8_exchanges_14 ?_
      refine x_istore_n M hl0 dX8_exchanges_15 (by decide) [(2, iV (w 22 0 x1.toNat)), (0, .ref (G.1 21 0)), (1, iV x1)] rfl (fun ls hl3 => ?_)
      refine x_aload_n M hl3 dX8_exchanges_16 1 rfl ?_
      refine x_get (c0 := 21) (t0 := 0) (v := .ref (G.1 22 0)) M hS0 (by decide) (ref := "NamedMovesModel") inX8_exchanges_X8 (sE_21 G _ _) rfl 0 (by decide) (M.2.2.2.2.1 _ flX8_exchanges_7) rfl rfl dX8_exchanges_17 ?_
      refine x_iload_n M hl3 dX8_exchanges_20 2 rfl ?_
      refine x_aload_n M hl3 dX8_exchanges_21 1 rfl ?_
      refine x_get (c0 := 21) (t0 := 0) (v := .ref (G.1 24 0)) M hS0 (by decide) (ref := "NamedMovesModel") inX8_exchanges_X8 (sE_21 G _ _) rfl 2 (by decide) (M.2.2.2.2.1 _ flX8_exchanges_16) rfl rfl dX8_exchanges_22 ?_
      refine x_iload_n M hl3 dX8_exchanges_25 2 rfl ?_
      refine x_iald (c0 := 24) (t0 := 0) M hS0 (by decide) (hs_24 G _) rfl g2 (by decide) dX8_exchanges_26 ?_
      refine x_iast (c0 := 22) (t0 := 0) M hS0 (by decide) (hs_22 G _) rfl g2 (by decide) (hS0.inr _ _ _) dX8_exchanges_27 (fun H locs hS4 => ?_)
      refine x_aload_n M hl3 dX8_exchanges_28 1 rfl ?_
      refine x_get (c0 := 21) (t0 := 0) (v := .ref (G.1 24 0)) M hS4 (by decide) (ref := "NamedMovesModel") inX8_exchanges_X8 (sE_21 G _ _) rfl 2 (by decide) (M.2.2.2.2.1 _ flX8_exchanges_16) rfl rfl dX8_exchanges_29 ?_
      refine x_iload_n M hl3 dX8_exchanges_32 2 rfl ?_
      refine x_iload_n M hl3 dX8_exchanges_33 0 rfl ?_
      refine x_iast (c0 := 24) (t0 := 0) M hS4 (by decide) (hs_24 G _) rfl g2 (by decide) (hS0.inr _ _ _) dX8_exchanges_34 (fun H locs hS5 => ?_)
      obtain ⟨g6, hf⟩ := gdt hf
      refine x_iinc M hl3 dX8_exchanges_35 2 rfl (by decide) [(1, iV (x1 + 1)), (2, iV (w 22 0 x1.toNat)), (0, .ref (G.1 21 0))] rfl (fun ls hl7 => ?_)
      refine x_goto (tgt := 2) M dX8_exchanges_38 (by decide) ?_
      exact ih (x1 + 1) (up (up w 22 0 x1.toNat (w 24 0 x1.toNat)) 24 0 x1.toNat (w 22 0 x1.toNat)) g6 _ _ hS5 _ (lv_sub hl7 [2, 0] rfl) _ _ hf

set_option maxHeartbeats 4000000 in
set_option maxRecDepth 100000 in
theorem c_X8_exchanges (l : Launch) {G : GG} {w : Wd} {r : Int} {w' : Wd} (hf : X8_exchanges w = some (r, w')) : Met l yX8_exchanges wsX8_exchanges (rmk 0) (PcG G w [.ref (G.1 21 0)]) (QvG G w') 0 0 (GA G) := by
  refine met_of (own := RX8) (by decide) rfl (Nat.le_of_ble_eq_true rfl) rfl ?_
  intro p e s m args below meth c M hr ls hl0 hS0
  have hl0 : lv_has ls 3 [(0, .ref (G.1 21 0))] := hl0
  unfold X8_exchanges at hf
  refine x_iconst M dX8_exchanges_0 ?_
  refine x_istore_n M hl0 dX8_exchanges_1 (by decide) [(1, iV 0), (0, .ref (G.1 21 0))] rfl (fun ls hl1 => ?_)
  exact X8_exchanges_b2_ok M hr LF 0 w ⟨by decide, by decide⟩ _ _ hS0 _ (lv_sub hl1 [1, 0] rfl) _ _ hf

/-! X8_holds -/
theorem flX8_holds_16 : Cond.fieldLink RX8 16 "NamedMovesModel" "held" "[I" ∈ wsX8_holds := by decide +kernel
theorem flX8_holds_7 : Cond.fieldLink RX8 7 "NamedMovesModel" "s" "[I" ∈ wsX8_holds := by decide +kernel
theorem inX8_holds_X8 : ∀ w ∈ u_ws RX8 TX8 12, w ∈ wsX8_holds := by decide +kernel
set_option maxHeartbeats 4000000 in
set_option maxRecDepth 100000 in
theorem X8_holds_b2_ok (M : MC p s m args meth c cX8_holds 2 RX8 wsX8_holds G) (hr : meth.sig.returnType = none) : ∀ n : Nat, ∀ x1 : Int, ∀ w : Wd, InR x1 → ∀ (H : Heap) (locs : List Loc), ST G s w H locs → ∀ ls : Array Slot, lv_has ls 2 [(0, .ref (G.1 21 0)), (1, iV x1)] → ∀ (r : Int) (w' : Wd), X8_holds_b2 n x1 w = some (r, w') → W p l e (rmk 0) s m args below meth c H locs 0 0 (MQ below (QvG G w') args s 0 0 (GA G)) (F0 m 2 ls []) := by
  intro n
  induction n with
  | zero =>
    intro x1 w hx1 H locs hS0 ls hl0 r w' hf
    cases hf
  | succ n ih =>
    intro x1 w hx1 H locs hS0 ls hl0 r w' hf
    rw [X8_holds_b2_s] at hf
    refine x_iload_n M hl0 dX8_holds_2 1 rfl ?_
    refine x_sipush M dX8_holds_3 rfl ?_
    refine x_icmp_ge (tgt := 27) M hx1 ⟨by decide, by decide⟩ dX8_holds_6 (by decide) (fun hc => ?_) (fun hc => ?_)
    · have hf := iff_ hf (Int.not_lt.mpr hc)
      exact x_vret M hr hf hS0 dX8_holds_27
    · have hf := ift hf (Int.not_le.mp hc)
      refine x_aload_n M hl0 dX8_holds_9 0 rfl ?_
      refine x_get (c0 := 21) (t0 := 0) (v := .ref (G.1 24 0)) M hS0 (by decide) (ref := "NamedMovesModel") inX8_holds_X8 (sE_21 G _ _) rfl 2 (by decide) (M.2.2.2.2.1 _ flX8_holds_16) rfl rfl dX8_holds_10 ?_
      refine x_iload_n M hl0 dX8_holds_13 1 rfl ?_
      refine x_aload_n M hl0 dX8_holds_14 0 rfl ?_
      refine x_get (c0 := 21) (t0 := 0) (v := .ref (G.1 22 0)) M hS0 (by decide) (ref := "NamedMovesModel") inX8_holds_X8 (sE_21 G _ _) rfl 0 (by decide) (M.2.2.2.2.1 _ flX8_holds_7) rfl rfl dX8_holds_15 ?_
      refine x_iload_n M hl0 dX8_holds_18 1 rfl ?_
      obtain ⟨g2, hf⟩ := gdt hf
      refine x_iald (c0 := 22) (t0 := 0) M hS0 (by decide) (hs_22 G _) rfl g2 (by decide) dX8_holds_19 ?_
      refine x_iast (c0 := 24) (t0 := 0) M hS0 (by decide) (hs_24 G _) rfl g2 (by decide) (hS0.inr _ _ _) dX8_holds_20 (fun H locs hS3 => ?_)
      obtain ⟨g4, hf⟩ := gdt hf
      refine x_iinc M hl0 dX8_holds_21 1 rfl (by decide) [(1, iV (x1 + 1)), (0, .ref (G.1 21 0))] rfl (fun ls hl5 => ?_)
      refine x_goto (tgt := 2) M dX8_holds_24 (by decide) ?_
      exact ih (x1 + 1) (up w 24 0 x1.toNat (w 22 0 x1.toNat)) g4 _ _ hS3 _ (lv_sub hl5 [1, 0] rfl) _ _ hf

set_option maxHeartbeats 4000000 in
set_option maxRecDepth 100000 in
theorem c_X8_holds (l : Launch) {G : GG} {w : Wd} {r : Int} {w' : Wd} (hf : X8_holds w = some (r, w')) : Met l yX8_holds wsX8_holds (rmk 0) (PcG G w [.ref (G.1 21 0)]) (QvG G w') 0 0 (GA G) := by
  refine met_of (own := RX8) (by decide) rfl (Nat.le_of_ble_eq_true rfl) rfl ?_
  intro p e s m args below meth c M hr ls hl0 hS0
  have hl0 : lv_has ls 2 [(0, .ref (G.1 21 0))] := hl0
  unfold X8_holds at hf
  refine x_iconst M dX8_holds_0 ?_
  refine x_istore_n M hl0 dX8_holds_1 (by decide) [(1, iV 0), (0, .ref (G.1 21 0))] rfl (fun ls hl1 => ?_)
  exact X8_holds_b2_ok M hr LF 0 w ⟨by decide, by decide⟩ _ _ hS0 _ (lv_sub hl1 [1, 0] rfl) _ _ hf

/-! X8_run -/
theorem flX8_run_134 : Cond.fieldLink RX8 134 "NamedMovesModel" "typed" "I" ∈ wsX8_run := by decide +kernel
theorem flX8_run_137 : Cond.fieldLink RX8 137 "NamedMovesModel" "at" "I" ∈ wsX8_run := by decide +kernel
theorem flX8_run_32 : Cond.fieldLink RX8 32 "NamedMovesModel" "runs" "Z" ∈ wsX8_run := by decide +kernel
theorem inX8_run_X8 : ∀ w ∈ u_ws RX8 TX8 12, w ∈ wsX8_run := by decide +kernel
set_option maxHeartbeats 4000000 in
set_option maxRecDepth 100000 in
theorem X8_run_b47_ok (M : MC p s m args meth c cX8_run 3 RX8 wsX8_run G) (hr : meth.sig.returnType = (some .int)) : ∀ x1 : Int, ∀ x2 : Int, ∀ w : Wd, InR x1 → InR x2 → ∀ (H : Heap) (locs : List Loc), ST G s w H locs → ∀ ls : Array Slot, lv_has ls 3 [(0, .ref (G.1 21 0)), (1, iV x1), (2, iV x2)] → ∀ (r : Int) (w' : Wd), X8_run_b47 x1 x2 w = some (r, w') → W p l e (rmk 8) s m args below meth c H locs 0 0 (MQ below (QiG G r w') args s 0 0 (GA G)) (F0 m 47 ls []) := by
  intro x1 x2 w hx1 hx2 H locs hS0 ls hl0 r w' hf
  unfold X8_run_b47 at hf
  refine x_aload_n M hl0 dX8_run_47 0 rfl ?_
  refine x_iconst M dX8_run_48 ?_
  refine x_put (c0 := 21) (t0 := 0) M hS0 (by decide) (ref := "NamedMovesModel") inX8_run_X8 tyX8 tyX8_ok nmX8 (sE_21 G _ _) rfl 4 (by decide) (M.2.2.2.2.1 _ flX8_run_32) rfl rfl (ty := tyX8 4) ⟨by decide, by decide⟩ (tyX8_ok 4 (by decide)) (o_bool (Or.inl rfl) _ rfl) rfl (by simp) 1 (pset_21_1 G _ _ _) dX8_run_49 (fun H locs hS10 => ?_)
  refine x_aload_n M hl0 dX8_run_52 0 rfl ?_
  obtain ⟨r11, w12, hc13, hf⟩ := bdt hf
  refine x_callVv (c0 := 21) (t0 := 0) (As := []) (rest := []) M hl0 hS10 (c_X8_exchanges l   hc13) (cwV 0 M.2.2.2.2.1 gX8_run_X8_exchanges rfl rfl rfl (by decide +kernel) ⟨Nat.le_of_ble_eq_true rfl, Nat.le_of_ble_eq_true rfl⟩) (by decide) (sE_21 G _ _) rfl rfl (Nat.le_of_ble_eq_true rfl) dX8_run_53 rfl ⟨Nat.zero_le _, Nat.zero_le _⟩ (fun H locs hS15 => ?_)
  refine x_iload_n M hl0 dX8_run_56 2 rfl ?_
  refine x_bipush M dX8_run_57 rfl ?_
  refine x_icmp_eq (tgt := 68) M hx2 ⟨by decide, by decide⟩ dX8_run_59 (by decide) (fun hc => ?_) (fun hc => ?_)
  · have hf := ift hf hc
    refine x_aload_n M hl0 dX8_run_68 0 rfl ?_
    obtain ⟨r16, w17, hc18, hf⟩ := bdt hf
    refine x_callVv (c0 := 21) (t0 := 0) (As := []) (rest := []) M hl0 hS15 (c_X8_acts l   hc18) (cwV 0 M.2.2.2.2.1 gX8_run_X8_acts rfl rfl rfl (by decide +kernel) ⟨Nat.le_of_ble_eq_true rfl, Nat.le_of_ble_eq_true rfl⟩) (by decide) (sE_21 G _ _) rfl rfl (Nat.le_of_ble_eq_true rfl) dX8_run_69 rfl ⟨Nat.zero_le _, Nat.zero_le _⟩ (fun H locs hS20 => ?_)
    refine x_aload_n M hl0 dX8_run_72 0 rfl ?_
    obtain ⟨r21, w22, hc23, hf⟩ := bdt hf
    refine x_callVv (c0 := 21) (t0 := 0) (As := []) (rest := []) M hl0 hS20 (c_X8_exchanges l   hc23) (cwV 0 M.2.2.2.2.1 gX8_run_X8_exchanges rfl rfl rfl (by decide +kernel) ⟨Nat.le_of_ble_eq_true rfl, Nat.le_of_ble_eq_true rfl⟩) (by decide) (sE_21 G _ _) rfl rfl (Nat.le_of_ble_eq_true rfl) dX8_run_73 rfl ⟨Nat.zero_le _, Nat.zero_le _⟩ (fun H locs hS25 => ?_)
    refine x_aload_n M hl0 dX8_run_76 0 rfl ?_
    refine x_iconst M dX8_run_77 ?_
    refine x_put (c0 := 21) (t0 := 0) M hS25 (by decide) (ref := "NamedMovesModel") inX8_run_X8 tyX8 tyX8_ok nmX8 (sE_21 G _ _) rfl 6 (by decide) (M.2.2.2.2.1 _ flX8_run_134) rfl rfl (ty := tyX8 6) ⟨by decide, by decide⟩ (tyX8_ok 6 (by decide)) rfl rfl (by simp) 2 (pset_21_2 G _ _ _) dX8_run_78 (fun H locs hS26 => ?_)
    refine x_iload_n M hl0 dX8_run_81 1 rfl ?_
    exact x_iret M hr hf hS26 hx1 dX8_run_82
  · have hf := iff_ hf hc
    refine x_sipush M dX8_run_62 rfl ?_
    refine x_iload_n M hl0 dX8_run_65 2 rfl ?_
    obtain ⟨g27, hf⟩ := gdt hf
    refine x_isub M dX8_run_66 ?_
    exact x_iret M hr hf hS15 g27 dX8_run_67

set_option maxHeartbeats 4000000 in
set_option maxRecDepth 100000 in
theorem X8_run_b19_ok (M : MC p s m args meth c cX8_run 3 RX8 wsX8_run G) (hr : meth.sig.returnType = (some .int)) : ∀ n : Nat, ∀ x1 : Int, ∀ x2 : Int, ∀ w : Wd, InR x1 → InR x2 → ∀ (H : Heap) (locs : List Loc), ST G s w H locs → ∀ ls : Array Slot, lv_has ls 3 [(0, .ref (G.1 21 0)), (1, iV x1), (2, iV x2)] → ∀ (r : Int) (w' : Wd), X8_run_b19 n x1 x2 w = some (r, w') → W p l e (rmk 8) s m args below meth c H locs 0 0 (MQ below (QiG G r w') args s 0 0 (GA G)) (F0 m 19 ls []) := by
  intro n
  induction n with
  | zero =>
    intro x1 x2 w hx1 hx2 H locs hS0 ls hl0 r w' hf
    cases hf
  | succ n ih =>
    intro x1 x2 w hx1 hx2 H locs hS0 ls hl0 r w' hf
    rw [X8_run_b19_s] at hf
    refine x_iload_n M hl0 dX8_run_19 2 rfl ?_
    refine x_bipush M dX8_run_20 rfl ?_
    refine x_icmp_ne (tgt := 47) M hx2 ⟨by decide, by decide⟩ dX8_run_22 (by decide) (fun hc => ?_) (fun hc => ?_)
    · have hf := iff_ hf hc
      exact X8_run_b47_ok M hr x1 x2 w hx1 hx2 _ _ hS0 _ (lv_sub hl0 [0, 1, 2] rfl) _ _ hf
    · have hf := ift hf (Decidable.of_not_not hc)
      refine x_aload_n M hl0 dX8_run_25 0 rfl ?_
      refine x_get (c0 := 21) (t0 := 0) (v := iV (w 21 0 3)) M hS0 (by decide) (ref := "NamedMovesModel") inX8_run_X8 (sE_21 G _ _) rfl 7 (by decide) (M.2.2.2.2.1 _ flX8_run_137) rfl rfl dX8_run_26 ?_
      refine x_aload_n M hl0 dX8_run_29 0 rfl ?_
      refine x_get (c0 := 21) (t0 := 0) (v := iV (w 21 0 2)) M hS0 (by decide) (ref := "NamedMovesModel") inX8_run_X8 (sE_21 G _ _) rfl 6 (by decide) (M.2.2.2.2.1 _ flX8_run_134) rfl rfl dX8_run_30 ?_
      refine x_icmp_ge (tgt := 47) M (hS0.inr _ _ _) (hS0.inr _ _ _) dX8_run_33 (by decide) (fun hc => ?_) (fun hc => ?_)
      · have hf := iff_ hf (Int.not_lt.mpr hc)
        exact X8_run_b47_ok M hr x1 x2 w hx1 hx2 _ _ hS0 _ (lv_sub hl0 [0, 1, 2] rfl) _ _ hf
      · have hf := ift hf (Int.not_le.mp hc)
        refine x_aload_n M hl0 dX8_run_36 0 rfl ?_
        obtain ⟨r28, w29, hc30, hf⟩ := bdt hf
        refine x_callVi (c0 := 21) (t0 := 0) (As := []) (rest := []) M hl0 hS0 (c_X8_doesOne l   hc30) (cwV 0 M.2.2.2.2.1 gX8_run_X8_doesOne rfl rfl rfl (by decide +kernel) ⟨Nat.le_of_ble_eq_true rfl, Nat.le_of_ble_eq_true rfl⟩) (by decide) (sE_21 G _ _) rfl rfl (Nat.le_of_ble_eq_true rfl) dX8_run_37 rfl ⟨Nat.zero_le _, Nat.zero_le _⟩ (fun H locs hi31 hS32 => ?_)
        refine x_istore_n M hl0 dX8_run_40 (by decide) [(2, iV r28), (0, .ref (G.1 21 0)), (1, iV x1)] rfl (fun ls hl33 => ?_)
        obtain ⟨g34, hf⟩ := gdt hf
        refine x_iinc M hl33 dX8_run_41 2 rfl (by decide) [(1, iV (x1 + 1)), (2, iV r28), (0, .ref (G.1 21 0))] rfl (fun ls hl35 => ?_)
        refine x_goto (tgt := 19) M dX8_run_44 (by decide) ?_
        exact ih (x1 + 1) r28 w29 g34 hi31 _ _ hS32 _ (lv_sub hl35 [2, 0, 1] rfl) _ _ hf

set_option maxHeartbeats 4000000 in
set_option maxRecDepth 100000 in
theorem c_X8_run (l : Launch) {G : GG} {w : Wd} {r : Int} {w' : Wd} (hf : X8_run w = some (r, w')) : Met l yX8_run wsX8_run (rmk 8) (PcG G w [.ref (G.1 21 0)]) (QiG G r w') 0 0 (GA G) := by
  refine met_of (own := RX8) (by decide) rfl (Nat.le_of_ble_eq_true rfl) rfl ?_
  intro p e s m args below meth c M hr ls hl0 hS0
  have hl0 : lv_has ls 3 [(0, .ref (G.1 21 0))] := hl0
  unfold X8_run at hf
  refine x_aload_n M hl0 dX8_run_0 0 rfl ?_
  obtain ⟨r1, w2, hc3, hf⟩ := bdt hf
  refine x_callVv (c0 := 21) (t0 := 0) (As := []) (rest := []) M hl0 hS0 (c_X8_holds l   hc3) (cwV 0 M.2.2.2.2.1 gX8_run_X8_holds rfl rfl rfl (by decide +kernel) ⟨Nat.le_of_ble_eq_true rfl, Nat.le_of_ble_eq_true rfl⟩) (by decide) (sE_21 G _ _) rfl rfl (Nat.le_of_ble_eq_true rfl) dX8_run_1 rfl ⟨Nat.zero_le _, Nat.zero_le _⟩ (fun H locs hS5 => ?_)
  refine x_aload_n M hl0 dX8_run_4 0 rfl ?_
  refine x_iconst M dX8_run_5 ?_
  refine x_put (c0 := 21) (t0 := 0) M hS5 (by decide) (ref := "NamedMovesModel") inX8_run_X8 tyX8 tyX8_ok nmX8 (sE_21 G _ _) rfl 4 (by decide) (M.2.2.2.2.1 _ flX8_run_32) rfl rfl (ty := tyX8 4) ⟨by decide, by decide⟩ (tyX8_ok 4 (by decide)) (o_bool (Or.inr rfl) _ rfl) rfl (by simp) 1 (pset_21_1 G _ _ _) dX8_run_6 (fun H locs hS6 => ?_)
  refine x_iconst M dX8_run_9 ?_
  refine x_istore_n M hl0 dX8_run_10 (by decide) [(1, iV 0), (0, .ref (G.1 21 0))] rfl (fun ls hl7 => ?_)
  refine x_bipush M dX8_run_11 rfl ?_
  refine x_istore_n M hl7 dX8_run_13 (by decide) [(2, iV ((-9))), (1, iV 0), (0, .ref (G.1 21 0))] rfl (fun ls hl8 => ?_)
  refine x_aload_n M hl8 dX8_run_14 2 rfl ?_
  refine x_iconst M dX8_run_15 ?_
  refine x_put (c0 := 21) (t0 := 0) M hS6 (by decide) (ref := "NamedMovesModel") inX8_run_X8 tyX8 tyX8_ok nmX8 (sE_21 G _ _) rfl 7 (by decide) (M.2.2.2.2.1 _ flX8_run_137) rfl rfl (ty := tyX8 7) ⟨by decide, by decide⟩ (tyX8_ok 7 (by decide)) rfl rfl (by simp) 3 (pset_21_3 G _ _ _) dX8_run_16 (fun H locs hS9 => ?_)
  exact X8_run_b19_ok M hr LF 0 ((-9)) (up (up w2 21 0 1 1) 21 0 3 0) ⟨by decide, by decide⟩ ⟨by decide, by decide⟩ _ _ hS9 _ (lv_sub hl8 [2, 1, 0] rfl) _ _ hf

/-! X8_allCopies -/
set_option maxHeartbeats 4000000 in
set_option maxRecDepth 100000 in
theorem X8_allCopies_b4_ok (M : MC p s m args meth c cX8_allCopies 3 RX8 wsX8_allCopies G) (hr : meth.sig.returnType = (some .int)) : ∀ n : Nat, ∀ x1 : Int, ∀ x2 : Int, ∀ w : Wd, InR x1 → InR x2 → ∀ (H : Heap) (locs : List Loc), ST G s w H locs → ∀ ls : Array Slot, lv_has ls 3 [(0, .ref (G.1 21 0)), (1, iV x1), (2, iV x2)] → ∀ (r : Int) (w' : Wd), X8_allCopies_b4 n x1 x2 w = some (r, w') → W p l e (rmk 2) s m args below meth c H locs 0 0 (MQ below (QiG G r w') args s 0 0 (GA G)) (F0 m 4 ls []) := by
  intro n
  induction n with
  | zero =>
    intro x1 x2 w hx1 hx2 H locs hS0 ls hl0 r w' hf
    cases hf
  | succ n ih =>
    intro x1 x2 w hx1 hx2 H locs hS0 ls hl0 r w' hf
    rw [X8_allCopies_b4_s] at hf
    refine x_iload_n M hl0 dX8_allCopies_4 2 rfl ?_
    refine x_sipush M dX8_allCopies_5 rfl ?_
    refine x_icmp_ge (tgt := 33) M hx2 ⟨by decide, by decide⟩ dX8_allCopies_8 (by decide) (fun hc => ?_) (fun hc => ?_)
    · have hf := iff_ hf (Int.not_lt.mpr hc)
      refine x_iload_n M hl0 dX8_allCopies_33 1 rfl ?_
      exact x_iret M hr hf hS0 hx1 dX8_allCopies_34
    · have hf := ift hf (Int.not_le.mp hc)
      refine x_iload_n M hl0 dX8_allCopies_11 1 rfl ?_
      refine x_aload_n M hl0 dX8_allCopies_12 0 rfl ?_
      refine x_iload_n M hl0 dX8_allCopies_13 2 rfl ?_
      obtain ⟨r3, w4, hc5, hf⟩ := bdt hf
      refine x_callVi (c0 := 21) (t0 := 0) (As := [iV x2]) (rest := [iV x1]) M hl0 hS0 (c_X8_isCopy l  hx2 hc5) (cwV 1 M.2.2.2.2.1 gX8_allCopies_X8_isCopy rfl rfl rfl (by decide +kernel) ⟨Nat.le_of_ble_eq_true rfl, Nat.le_of_ble_eq_true rfl⟩) (by decide) (sE_21 G _ _) rfl rfl (Nat.le_of_ble_eq_true rfl) dX8_allCopies_14 rfl ⟨Nat.zero_le _, Nat.zero_le _⟩ (fun H locs hi6 hS7 => ?_)
      refine x_if_eq (tgt := 24) M hi6 dX8_allCopies_17 (by decide) (fun hc => ?_) (fun hc => ?_)
      · have hf := ift hf hc
        refine x_iconst M dX8_allCopies_24 ?_
        obtain ⟨g8, hf⟩ := gdt hf
        refine x_iadd M dX8_allCopies_25 ?_
        refine x_istore_n M hl0 dX8_allCopies_26 (by decide) [(1, iV (x1 + 0)), (0, .ref (G.1 21 0)), (2, iV x2)] rfl (fun ls hl9 => ?_)
        obtain ⟨g10, hf⟩ := gdt hf
        refine x_iinc M hl9 dX8_allCopies_27 2 rfl (by decide) [(2, iV (x2 + 1)), (1, iV (x1 + 0)), (0, .ref (G.1 21 0))] rfl (fun ls hl11 => ?_)
        refine x_goto (tgt := 4) M dX8_allCopies_30 (by decide) ?_
        exact ih (x1 + 0) (x2 + 1) w4 g8 g10 _ _ hS7 _ (lv_sub hl11 [2, 1, 0] rfl) _ _ hf
      · have hf := iff_ hf hc
        refine x_iconst M dX8_allCopies_20 ?_
        refine x_goto (tgt := 25) M dX8_allCopies_21 (by decide) ?_
        obtain ⟨g12, hf⟩ := gdt hf
        refine x_iadd M dX8_allCopies_25 ?_
        refine x_istore_n M hl0 dX8_allCopies_26 (by decide) [(1, iV (x1 + 1)), (0, .ref (G.1 21 0)), (2, iV x2)] rfl (fun ls hl13 => ?_)
        obtain ⟨g14, hf⟩ := gdt hf
        refine x_iinc M hl13 dX8_allCopies_27 2 rfl (by decide) [(2, iV (x2 + 1)), (1, iV (x1 + 1)), (0, .ref (G.1 21 0))] rfl (fun ls hl15 => ?_)
        refine x_goto (tgt := 4) M dX8_allCopies_30 (by decide) ?_
        exact ih (x1 + 1) (x2 + 1) w4 g12 g14 _ _ hS7 _ (lv_sub hl15 [2, 1, 0] rfl) _ _ hf

set_option maxHeartbeats 4000000 in
set_option maxRecDepth 100000 in
theorem c_X8_allCopies (l : Launch) {G : GG} {w : Wd} {r : Int} {w' : Wd} (hf : X8_allCopies w = some (r, w')) : Met l yX8_allCopies wsX8_allCopies (rmk 2) (PcG G w [.ref (G.1 21 0)]) (QiG G r w') 0 0 (GA G) := by
  refine met_of (own := RX8) (by decide) rfl (Nat.le_of_ble_eq_true rfl) rfl ?_
  intro p e s m args below meth c M hr ls hl0 hS0
  have hl0 : lv_has ls 3 [(0, .ref (G.1 21 0))] := hl0
  unfold X8_allCopies at hf
  refine x_iconst M dX8_allCopies_0 ?_
  refine x_istore_n M hl0 dX8_allCopies_1 (by decide) [(1, iV 0), (0, .ref (G.1 21 0))] rfl (fun ls hl1 => ?_)
  refine x_iconst M dX8_allCopies_2 ?_
  refine x_istore_n M hl1 dX8_allCopies_3 (by decide) [(2, iV 0), (1, iV 0), (0, .ref (G.1 21 0))] rfl (fun ls hl2 => ?_)
  exact X8_allCopies_b4_ok M hr LF 0 0 w ⟨by decide, by decide⟩ ⟨by decide, by decide⟩ _ _ hS0 _ (lv_sub hl2 [2, 1, 0] rfl) _ _ hf

/-! X8_freeFloor -/
set_option maxHeartbeats 4000000 in
set_option maxRecDepth 100000 in
theorem X8_freeFloor_b7_ok (M : MC p s m args meth c cX8_freeFloor 3 RX8 wsX8_freeFloor G) (hr : meth.sig.returnType = (some .int)) : ∀ n : Nat, ∀ x1 : Int, ∀ x2 : Int, ∀ w : Wd, InR x1 → InR x2 → ∀ (H : Heap) (locs : List Loc), ST G s w H locs → ∀ ls : Array Slot, lv_has ls 3 [(0, .ref (G.1 21 0)), (1, iV x1), (2, iV x2)] → ∀ (r : Int) (w' : Wd), X8_freeFloor_b7 n x1 x2 w = some (r, w') → W p l e (rmk 3) s m args below meth c H locs 0 0 (MQ below (QiG G r w') args s 0 0 (GA G)) (F0 m 7 ls []) := by
  intro n
  induction n with
  | zero =>
    intro x1 x2 w hx1 hx2 H locs hS0 ls hl0 r w' hf
    cases hf
  | succ n ih =>
    intro x1 x2 w hx1 hx2 H locs hS0 ls hl0 r w' hf
    rw [X8_freeFloor_b7_s] at hf
    refine x_iload_n M hl0 dX8_freeFloor_7 2 rfl ?_
    refine x_sipush M dX8_freeFloor_8 rfl ?_
    refine x_icmp_ge (tgt := 28) M hx2 ⟨by decide, by decide⟩ dX8_freeFloor_11 (by decide) (fun hc => ?_) (fun hc => ?_)
    · have hf := iff_ hf (Int.not_lt.mpr hc)
      refine x_iload_n M hl0 dX8_freeFloor_28 1 rfl ?_
      exact x_iret M hr hf hS0 hx1 dX8_freeFloor_29
    · have hf := ift hf (Int.not_le.mp hc)
      refine x_iload_n M hl0 dX8_freeFloor_14 1 rfl ?_
      refine x_aload_n M hl0 dX8_freeFloor_15 0 rfl ?_
      refine x_iload_n M hl0 dX8_freeFloor_16 2 rfl ?_
      obtain ⟨r3, w4, hc5, hf⟩ := bdt hf
      refine x_callVi (c0 := 21) (t0 := 0) (As := [iV x2]) (rest := [iV x1]) M hl0 hS0 (c_X8_sizeAt l  hx2 hc5) (cwV 1 M.2.2.2.2.1 gX8_freeFloor_X8_sizeAt rfl rfl rfl (by decide +kernel) ⟨Nat.le_of_ble_eq_true rfl, Nat.le_of_ble_eq_true rfl⟩) (by decide) (sE_21 G _ _) rfl rfl (Nat.le_of_ble_eq_true rfl) dX8_freeFloor_17 rfl ⟨Nat.zero_le _, Nat.zero_le _⟩ (fun H locs hi6 hS7 => ?_)
      obtain ⟨g8, hf⟩ := gdt hf
      refine x_isub M dX8_freeFloor_20 ?_
      refine x_istore_n M hl0 dX8_freeFloor_21 (by decide) [(1, iV (x1 - r3)), (0, .ref (G.1 21 0)), (2, iV x2)] rfl (fun ls hl9 => ?_)
      obtain ⟨g10, hf⟩ := gdt hf
      refine x_iinc M hl9 dX8_freeFloor_22 2 rfl (by decide) [(2, iV (x2 + 1)), (1, iV (x1 - r3)), (0, .ref (G.1 21 0))] rfl (fun ls hl11 => ?_)
      refine x_goto (tgt := 7) M dX8_freeFloor_25 (by decide) ?_
      exact ih (x1 - r3) (x2 + 1) w4 g8 g10 _ _ hS7 _ (lv_sub hl11 [2, 1, 0] rfl) _ _ hf

set_option maxHeartbeats 4000000 in
set_option maxRecDepth 100000 in
theorem c_X8_freeFloor (l : Launch) {G : GG} {w : Wd} {r : Int} {w' : Wd} (hf : X8_freeFloor w = some (r, w')) : Met l yX8_freeFloor wsX8_freeFloor (rmk 3) (PcG G w [.ref (G.1 21 0)]) (QiG G r w') 0 0 (GA G) := by
  refine met_of (own := RX8) (by decide) rfl (Nat.le_of_ble_eq_true rfl) rfl ?_
  intro p e s m args below meth c M hr ls hl0 hS0
  have hl0 : lv_has ls 3 [(0, .ref (G.1 21 0))] := hl0
  unfold X8_freeFloor at hf
  refine x_bipush M dX8_freeFloor_0 rfl ?_
  refine x_istore_n M hl0 dX8_freeFloor_2 (by decide) [(1, iV 60), (0, .ref (G.1 21 0))] rfl (fun ls hl1 => ?_)
  refine x_sipush M dX8_freeFloor_3 rfl ?_
  refine x_istore_n M hl1 dX8_freeFloor_6 (by decide) [(2, iV 128), (1, iV 60), (0, .ref (G.1 21 0))] rfl (fun ls hl2 => ?_)
  exact X8_freeFloor_b7_ok M hr LF 60 128 w ⟨by decide, by decide⟩ ⟨by decide, by decide⟩ _ _ hS0 _ (lv_sub hl2 [2, 1, 0] rfl) _ _ hf

/-! X8_twins -/
theorem flX8_twins_7 : Cond.fieldLink RX8 7 "NamedMovesModel" "s" "[I" ∈ wsX8_twins := by decide +kernel
theorem inX8_twins_X8 : ∀ w ∈ u_ws RX8 TX8 12, w ∈ wsX8_twins := by decide +kernel
set_option maxHeartbeats 4000000 in
set_option maxRecDepth 100000 in
theorem X8_twins_b4_ok (M : MC p s m args meth c cX8_twins 3 RX8 wsX8_twins G) (hr : meth.sig.returnType = (some .int)) : ∀ n : Nat, ∀ x1 : Int, ∀ x2 : Int, ∀ w : Wd, InR x1 → InR x2 → ∀ (H : Heap) (locs : List Loc), ST G s w H locs → ∀ ls : Array Slot, lv_has ls 3 [(0, .ref (G.1 21 0)), (1, iV x1), (2, iV x2)] → ∀ (r : Int) (w' : Wd), X8_twins_b4 n x1 x2 w = some (r, w') → W p l e (rmk 2) s m args below meth c H locs 0 0 (MQ below (QiG G r w') args s 0 0 (GA G)) (F0 m 4 ls []) := by
  intro n
  induction n with
  | zero =>
    intro x1 x2 w hx1 hx2 H locs hS0 ls hl0 r w' hf
    cases hf
  | succ n ih =>
    intro x1 x2 w hx1 hx2 H locs hS0 ls hl0 r w' hf
    rw [X8_twins_b4_s] at hf
    refine x_iload_n M hl0 dX8_twins_4 2 rfl ?_
    refine x_aload_n M hl0 dX8_twins_5 0 rfl ?_
    refine x_get (c0 := 21) (t0 := 0) (v := .ref (G.1 22 0)) M hS0 (by decide) (ref := "NamedMovesModel") inX8_twins_X8 (sE_21 G _ _) rfl 0 (by decide) (M.2.2.2.2.1 _ flX8_twins_7) rfl rfl dX8_twins_6 ?_
    refine x_iconst M dX8_twins_9 ?_
    refine x_iald (c0 := 22) (t0 := 0) M hS0 (by decide) (hs_22 G _) rfl ⟨by decide, by decide⟩ (by decide) dX8_twins_10 ?_
    refine x_icmp_ge (tgt := 37) M hx2 (hS0.inr _ _ _) dX8_twins_11 (by decide) (fun hc => ?_) (fun hc => ?_)
    · have hf := iff_ hf (Int.not_lt.mpr hc)
      refine x_iload_n M hl0 dX8_twins_37 1 rfl ?_
      exact x_iret M hr hf hS0 hx1 dX8_twins_38
    · have hf := ift hf (Int.not_le.mp hc)
      refine x_iload_n M hl0 dX8_twins_14 1 rfl ?_
      refine x_aload_n M hl0 dX8_twins_15 0 rfl ?_
      refine x_iload_n M hl0 dX8_twins_16 2 rfl ?_
      obtain ⟨r3, w4, hc5, hf⟩ := bdt hf
      refine x_callVi (c0 := 21) (t0 := 0) (As := [iV x2]) (rest := [iV x1]) M hl0 hS0 (c_X8_copies l  hx2 hc5) (cwV 1 M.2.2.2.2.1 gX8_twins_X8_copies rfl rfl rfl (by decide +kernel) ⟨Nat.le_of_ble_eq_true rfl, Nat.le_of_ble_eq_true rfl⟩) (by decide) (sE_21 G _ _) rfl rfl (Nat.le_of_ble_eq_true rfl) dX8_twins_17 rfl ⟨Nat.zero_le _, Nat.zero_le _⟩ (fun H locs hi6 hS7 => ?_)
      refine x_iconst M dX8_twins_20 ?_
      refine x_icmp_le (tgt := 28) M hi6 ⟨by decide, by decide⟩ dX8_twins_21 (by decide) (fun hc => ?_) (fun hc => ?_)
      · have hf := iff_ hf (Int.not_lt.mpr hc)
        refine x_iconst M dX8_twins_28 ?_
        obtain ⟨g8, hf⟩ := gdt hf
        refine x_iadd M dX8_twins_29 ?_
        refine x_istore_n M hl0 dX8_twins_30 (by decide) [(1, iV (x1 + 0)), (0, .ref (G.1 21 0)), (2, iV x2)] rfl (fun ls hl9 => ?_)
        obtain ⟨g10, hf⟩ := gdt hf
        refine x_iinc M hl9 dX8_twins_31 2 rfl (by decide) [(2, iV (x2 + 1)), (1, iV (x1 + 0)), (0, .ref (G.1 21 0))] rfl (fun ls hl11 => ?_)
        refine x_goto (tgt := 4) M dX8_twins_34 (by decide) ?_
        exact ih (x1 + 0) (x2 + 1) w4 g8 g10 _ _ hS7 _ (lv_sub hl11 [2, 1, 0] rfl) _ _ hf
      · have hf := ift hf (Int.not_le.mp hc)
        refine x_iconst M dX8_twins_24 ?_
        refine x_goto (tgt := 29) M dX8_twins_25 (by decide) ?_
        obtain ⟨g12, hf⟩ := gdt hf
        refine x_iadd M dX8_twins_29 ?_
        refine x_istore_n M hl0 dX8_twins_30 (by decide) [(1, iV (x1 + 1)), (0, .ref (G.1 21 0)), (2, iV x2)] rfl (fun ls hl13 => ?_)
        obtain ⟨g14, hf⟩ := gdt hf
        refine x_iinc M hl13 dX8_twins_31 2 rfl (by decide) [(2, iV (x2 + 1)), (1, iV (x1 + 1)), (0, .ref (G.1 21 0))] rfl (fun ls hl15 => ?_)
        refine x_goto (tgt := 4) M dX8_twins_34 (by decide) ?_
        exact ih (x1 + 1) (x2 + 1) w4 g12 g14 _ _ hS7 _ (lv_sub hl15 [2, 1, 0] rfl) _ _ hf

set_option maxHeartbeats 4000000 in
set_option maxRecDepth 100000 in
theorem c_X8_twins (l : Launch) {G : GG} {w : Wd} {r : Int} {w' : Wd} (hf : X8_twins w = some (r, w')) : Met l yX8_twins wsX8_twins (rmk 2) (PcG G w [.ref (G.1 21 0)]) (QiG G r w') 0 0 (GA G) := by
  refine met_of (own := RX8) (by decide) rfl (Nat.le_of_ble_eq_true rfl) rfl ?_
  intro p e s m args below meth c M hr ls hl0 hS0
  have hl0 : lv_has ls 3 [(0, .ref (G.1 21 0))] := hl0
  unfold X8_twins at hf
  refine x_iconst M dX8_twins_0 ?_
  refine x_istore_n M hl0 dX8_twins_1 (by decide) [(1, iV 0), (0, .ref (G.1 21 0))] rfl (fun ls hl1 => ?_)
  refine x_iconst M dX8_twins_2 ?_
  refine x_istore_n M hl1 dX8_twins_3 (by decide) [(2, iV 0), (1, iV 0), (0, .ref (G.1 21 0))] rfl (fun ls hl2 => ?_)
  exact X8_twins_b4_ok M hr LF 0 0 w ⟨by decide, by decide⟩ ⟨by decide, by decide⟩ _ _ hS0 _ (lv_sub hl2 [2, 1, 0] rfl) _ _ hf

end
