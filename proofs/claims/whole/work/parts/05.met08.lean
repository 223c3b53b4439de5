section
variable {p : Program} {l : Launch} {e : Env} {s : State} {m : MethodId} {args : Array Value} {below : List Frame} {meth : Method} {c : Code} {G : GG}
/-! X8_begins -/
theorem flX8_begins_7 : Cond.fieldLink RX8 7 "NamedMovesModel" "s" "[I" ∈ wsX8_begins := by decide +kernel
theorem inX8_begins_X8 : ∀ w ∈ u_ws RX8 TX8 12, w ∈ wsX8_begins := by decide +kernel
set_option maxHeartbeats 4000000 in
set_option maxRecDepth 100000 in
theorem X8_begins_b19_ok (M : MC p s m args meth c cX8_begins 2 RX8 wsX8_begins G) (hr : meth.sig.returnType = none) : ∀ n : Nat, ∀ x1 : Int, ∀ w : Wd, InR x1 → ∀ (H : Heap) (locs : List Loc), ST G s w H locs → ∀ ls : Array Slot, lv_has ls 2 [(0, .ref (G.1 21 0)), (1, iV x1)] → ∀ (r : Int) (w' : Wd), X8_begins_b19 n x1 w = some (r, w') → W p l e (rmk 4) s m args below meth c H locs 0 0 (MQ below (QvG G w') args s 0 0 (GA G)) (F0 m 19 ls []) := by
  intro n
  induction n with
  | zero =>
    intro x1 w hx1 H locs hS0 ls hl0 r w' hf
    cases hf
  | succ n ih =>
    intro x1 w hx1 H locs hS0 ls hl0 r w' hf
    rw [X8_begins_b19_s] at hf
    refine x_iload_n M hl0 dX8_begins_19 1 rfl ?_
    refine x_bipush M dX8_begins_20 rfl ?_
    refine x_icmp_ge (tgt := 39) M hx1 ⟨by decide, by decide⟩ dX8_begins_22 (by decide) (fun hc => ?_) (fun hc => ?_)
    · have hf := iff_ hf (Int.not_lt.mpr hc)
      refine x_aload_n M hl0 dX8_begins_39 0 rfl ?_
      obtain ⟨r9, w10, hc11, hf⟩ := bdt hf
      refine x_callVv (c0 := 21) (t0 := 0) (As := []) (rest := []) M hl0 hS0 (c_X8_ends l   hc11) (cwV 0 M.2.2.2.2.1 gX8_begins_X8_ends rfl rfl rfl (by decide +kernel) ⟨Nat.le_of_ble_eq_true rfl, Nat.le_of_ble_eq_true rfl⟩) (by decide) (sE_21 G _ _) rfl rfl (Nat.le_of_ble_eq_true rfl) dX8_begins_40 rfl ⟨Nat.zero_le _, Nat.zero_le _⟩ (fun H locs hS13 => ?_)
      exact x_vret M hr hf hS13 dX8_begins_43
    · have hf := ift hf (Int.not_le.mp hc)
      refine x_aload_n M hl0 dX8_begins_25 0 rfl ?_
      refine x_bipush M dX8_begins_26 rfl ?_
      refine x_iload_n M hl0 dX8_begins_28 1 rfl ?_
      obtain ⟨g14, hf⟩ := gdt hf
      refine x_iadd M dX8_begins_29 ?_
      obtain ⟨r15, w16, hc17, hf⟩ := bdt hf
      refine x_callVv (c0 := 21) (t0 := 0) (As := [iV (9 + x1)]) (rest := []) M hl0 hS0 (c_X8_reads l  g14 hc17) (cwV 1 M.2.2.2.2.1 gX8_begins_X8_reads rfl rfl rfl (by decide +kernel) ⟨Nat.le_of_ble_eq_true rfl, Nat.le_of_ble_eq_true rfl⟩) (by decide) (sE_21 G _ _) rfl rfl (Nat.le_of_ble_eq_true rfl) dX8_begins_30 rfl ⟨Nat.zero_le _, Nat.zero_le _⟩ (fun H locs hS19 => ?_)
      obtain ⟨g20, hf⟩ := gdt hf
      refine x_iinc M hl0 dX8_begins_33 1 rfl (by decide) [(1, iV (x1 + 1)), (0, .ref (G.1 21 0))] rfl (fun ls hl21 => ?_)
      refine x_goto (tgt := 19) M dX8_begins_36 (by decide) ?_
      exact ih (x1 + 1) w16 g20 _ _ hS19 _ (lv_sub hl21 [1, 0] rfl) _ _ hf

set_option maxHeartbeats 4000000 in
set_option maxRecDepth 100000 in
theorem c_X8_begins (l : Launch) {G : GG} {w : Wd} {r : Int} {w' : Wd} (hf : X8_begins w = some (r, w')) : Met l yX8_begins wsX8_begins (rmk 4) (PcG G w [.ref (G.1 21 0)]) (QvG G w') 0 0 (GA G) := by
  refine met_of (own := RX8) (by decide) rfl (Nat.le_of_ble_eq_true rfl) rfl ?_
  intro p e s m args below meth c M hr ls hl0 hS0
  have hl0 : lv_has ls 2 [(0, .ref (G.1 21 0))] := hl0
  unfold X8_begins at hf
  refine x_aload_n M hl0 dX8_begins_0 0 rfl ?_
  refine x_get (c0 := 21) (t0 := 0) (v := .ref (G.1 22 0)) M hS0 (by decide) (ref := "NamedMovesModel") inX8_begins_X8 (sE_21 G _ _) rfl 0 (by decide) (M.2.2.2.2.1 _ flX8_begins_7) rfl rfl dX8_begins_1 ?_
  refine x_iconst M dX8_begins_4 ?_
  refine x_aload_n M hl0 dX8_begins_5 0 rfl ?_
  obtain ⟨r1, w2, hc3, hf⟩ := bdt hf
  refine x_callVi (c0 := 21) (t0 := 0) (As := []) (rest := [iV 3, .ref (G.1 22 0)]) M hl0 hS0 (c_X8_old l   hc3) (cwV 0 M.2.2.2.2.1 gX8_begins_X8_old rfl rfl rfl (by decide +kernel) ⟨Nat.le_of_ble_eq_true rfl, Nat.le_of_ble_eq_true rfl⟩) (by decide) (sE_21 G _ _) rfl rfl (Nat.le_of_ble_eq_true rfl) dX8_begins_6 rfl ⟨Nat.zero_le _, Nat.zero_le _⟩ (fun H locs hi4 hS5 => ?_)
  refine x_iast (c0 := 22) (t0 := 0) M hS5 (by decide) (hs_22 G _) rfl ⟨by decide, by decide⟩ (by decide) hi4 dX8_begins_9 (fun H locs hS6 => ?_)
  refine x_aload_n M hl0 dX8_begins_10 0 rfl ?_
  refine x_get (c0 := 21) (t0 := 0) (v := .ref (G.1 22 0)) M hS6 (by decide) (ref := "NamedMovesModel") inX8_begins_X8 (sE_21 G _ _) rfl 0 (by decide) (M.2.2.2.2.1 _ flX8_begins_7) rfl rfl dX8_begins_11 ?_
  refine x_iconst M dX8_begins_14 ?_
  refine x_iconst M dX8_begins_15 ?_
  refine x_iast (c0 := 22) (t0 := 0) M hS6 (by decide) (hs_22 G _) rfl ⟨by decide, by decide⟩ (by decide) ⟨by decide, by decide⟩ dX8_begins_16 (fun H locs hS7 => ?_)
  refine x_iconst M dX8_begins_17 ?_
  refine x_istore_n M hl0 dX8_begins_18 (by decide) [(1, iV 0), (0, .ref (G.1 21 0))] rfl (fun ls hl8 => ?_)
  exact X8_begins_b19_ok M hr LF 0 (up (up w2 22 0 3 r1) 22 0 2 1) ⟨by decide, by decide⟩ _ _ hS7 _ (lv_sub hl8 [1, 0] rfl) _ _ hf

/-! X8_steps -/
theorem flX8_steps_7 : Cond.fieldLink RX8 7 "NamedMovesModel" "s" "[I" ∈ wsX8_steps := by decide +kernel
theorem inX8_steps_X8 : ∀ w ∈ u_ws RX8 TX8 12, w ∈ wsX8_steps := by decide +kernel
set_option maxHeartbeats 4000000 in
set_option maxRecDepth 100000 in
theorem X8_steps_b21_ok (M : MC p s m args meth c cX8_steps 3 RX8 wsX8_steps G) (hr : meth.sig.returnType = none) : ∀ n : Nat, ∀ x1 : Int, ∀ x2 : Int, ∀ w : Wd, InR x1 → InR x2 → ∀ (H : Heap) (locs : List Loc), ST G s w H locs → ∀ ls : Array Slot, lv_has ls 3 [(0, .ref (G.1 21 0)), (1, iV x1), (2, iV x2)] → ∀ (r : Int) (w' : Wd), X8_steps_b21 n x1 x2 w = some (r, w') → W p l e (rmk 4) s m args below meth c H locs 0 0 (MQ below (QvG G w') args s 0 0 (GA G)) (F0 m 21 ls []) := by
  intro n
  induction n with
  | zero =>
    intro x1 x2 w hx1 hx2 H locs hS0 ls hl0 r w' hf
    cases hf
  | succ n ih =>
    intro x1 x2 w hx1 hx2 H locs hS0 ls hl0 r w' hf
    rw [X8_steps_b21_s] at hf
    refine x_iload_n M hl0 dX8_steps_21 2 rfl ?_
    refine x_aload_n M hl0 dX8_steps_22 0 rfl ?_
    refine x_get (c0 := 21) (t0 := 0) (v := .ref (G.1 22 0)) M hS0 (by decide) (ref := "NamedMovesModel") inX8_steps_X8 (sE_21 G _ _) rfl 0 (by decide) (M.2.2.2.2.1 _ flX8_steps_7) rfl rfl dX8_steps_23 ?_
    refine x_bipush M dX8_steps_26 rfl ?_
    refine x_iald (c0 := 22) (t0 := 0) M hS0 (by decide) (hs_22 G _) rfl ⟨by decide, by decide⟩ (by decide) dX8_steps_28 ?_
    refine x_icmp_ge (tgt := 58) M hx2 (hS0.inr _ _ _) dX8_steps_29 (by decide) (fun hc => ?_) (fun hc => ?_)
    · have hf := iff_ hf (Int.not_lt.mpr hc)
      refine x_aload_n M hl0 dX8_steps_58 0 rfl ?_
      refine x_sipush M dX8_steps_59 rfl ?_
      refine x_iconst M dX8_steps_62 ?_
      refine x_iload_n M hl0 dX8_steps_63 1 rfl ?_
      obtain ⟨g5, hf⟩ := gdt hf
      refine x_imul M dX8_steps_64 ?_
      obtain ⟨g6, hf⟩ := gdt hf
      refine x_iadd M dX8_steps_65 ?_
      refine x_iconst M dX8_steps_66 ?_
      obtain ⟨g7, hf⟩ := gdt hf
      refine x_iadd M dX8_steps_67 ?_
      obtain ⟨r8, w9, hc10, hf⟩ := bdt hf
      refine x_callVv (c0 := 21) (t0 := 0) (As := [iV ((185 + (5 * x1)) + 1)]) (rest := []) M hl0 hS0 (c_X8_reads l  g7 hc10) (cwV 1 M.2.2.2.2.1 gX8_steps_X8_reads rfl rfl rfl (by decide +kernel) ⟨Nat.le_of_ble_eq_true rfl, Nat.le_of_ble_eq_true rfl⟩) (by decide) (sE_21 G _ _) rfl rfl (Nat.le_of_ble_eq_true rfl) dX8_steps_68 rfl ⟨Nat.zero_le _, Nat.zero_le _⟩ (fun H locs hS12 => ?_)
      refine x_aload_n M hl0 dX8_steps_71 0 rfl ?_
      refine x_sipush M dX8_steps_72 rfl ?_
      refine x_iconst M dX8_steps_75 ?_
      refine x_iload_n M hl0 dX8_steps_76 1 rfl ?_
      refine x_imul M dX8_steps_77 ?_
      refine x_iadd M dX8_steps_78 ?_
      refine x_iconst M dX8_steps_79 ?_
      refine x_iadd M dX8_steps_80 ?_
      refine x_iconst M dX8_steps_81 ?_
      obtain ⟨g13, hf⟩ := gdt hf
      refine x_iadd M dX8_steps_82 ?_
      obtain ⟨r14, w15, hc16, hf⟩ := bdt hf
      refine x_callVv (c0 := 21) (t0 := 0) (As := [iV (((185 + (5 * x1)) + 1) + 1)]) (rest := []) M hl0 hS12 (c_X8_reads l  g13 hc16) (cwV 1 M.2.2.2.2.1 gX8_steps_X8_reads rfl rfl rfl (by decide +kernel) ⟨Nat.le_of_ble_eq_true rfl, Nat.le_of_ble_eq_true rfl⟩) (by decide) (sE_21 G _ _) rfl rfl (Nat.le_of_ble_eq_true rfl) dX8_steps_83 rfl ⟨Nat.zero_le _, Nat.zero_le _⟩ (fun H locs hS18 => ?_)
      refine x_aload_n M hl0 dX8_steps_86 0 rfl ?_
      obtain ⟨r19, w20, hc21, hf⟩ := bdt hf
      refine x_callVv (c0 := 21) (t0 := 0) (As := []) (rest := []) M hl0 hS18 (c_X8_ends l   hc21) (cwV 0 M.2.2.2.2.1 gX8_steps_X8_ends rfl rfl rfl (by decide +kernel) ⟨Nat.le_of_ble_eq_true rfl, Nat.le_of_ble_eq_true rfl⟩) (by decide) (sE_21 G _ _) rfl rfl (Nat.le_of_ble_eq_true rfl) dX8_steps_87 rfl ⟨Nat.zero_le _, Nat.zero_le _⟩ (fun H locs hS23 => ?_)
      exact x_vret M hr hf hS23 dX8_steps_90
    · have hf := ift hf (Int.not_le.mp hc)
      refine x_aload_n M hl0 dX8_steps_32 0 rfl ?_
      refine x_get (c0 := 21) (t0 := 0) (v := .ref (G.1 22 0)) M hS0 (by decide) (ref := "NamedMovesModel") inX8_steps_X8 (sE_21 G _ _) rfl 0 (by decide) (M.2.2.2.2.1 _ flX8_steps_7) rfl rfl dX8_steps_33 ?_
      refine x_bipush M dX8_steps_36 rfl ?_
      refine x_iload_n M hl0 dX8_steps_38 2 rfl ?_
      obtain ⟨g24, hf⟩ := gdt hf
      refine x_iadd M dX8_steps_39 ?_
      refine x_aload_n M hl0 dX8_steps_40 0 rfl ?_
      refine x_get (c0 := 21) (t0 := 0) (v := .ref (G.1 22 0)) M hS0 (by decide) (ref := "NamedMovesModel") inX8_steps_X8 (sE_21 G _ _) rfl 0 (by decide) (M.2.2.2.2.1 _ flX8_steps_7) rfl rfl dX8_steps_41 ?_
      refine x_bipush M dX8_steps_44 rfl ?_
      refine x_iload_n M hl0 dX8_steps_46 2 rfl ?_
      refine x_iadd M dX8_steps_47 ?_
      refine x_iconst M dX8_steps_48 ?_
      obtain ⟨g25, hf⟩ := gdt hf
      refine x_iadd M dX8_steps_49 ?_
      obtain ⟨g26, hf⟩ := gdt hf
      refine x_iald (c0 := 22) (t0 := 0) M hS0 (by decide) (hs_22 G _) rfl g26 (by decide) dX8_steps_50 ?_
      obtain ⟨g27, hf⟩ := gdt hf
      refine x_iast (c0 := 22) (t0 := 0) M hS0 (by decide) (hs_22 G _) rfl g27 (by decide) (hS0.inr _ _ _) dX8_steps_51 (fun H locs hS28 => ?_)
      obtain ⟨g29, hf⟩ := gdt hf
      refine x_iinc M hl0 dX8_steps_52 2 rfl (by decide) [(2, iV (x2 + 1)), (0, .ref (G.1 21 0)), (1, iV x1)] rfl (fun ls hl30 => ?_)
      refine x_goto (tgt := 21) M dX8_steps_55 (by decide) ?_
      exact ih x1 (x2 + 1) (up w 22 0 (57 + x2).toNat (w 22 0 ((57 + x2) + 1).toNat)) hx1 g29 _ _ hS28 _ (lv_sub hl30 [1, 2, 0] rfl) _ _ hf

set_option maxHeartbeats 4000000 in
set_option maxRecDepth 100000 in
theorem c_X8_steps (l : Launch) {G : GG} {w : Wd} {r : Int} {w' : Wd} (hf : X8_steps w = some (r, w')) : Met l yX8_steps wsX8_steps (rmk 4) (PcG G w [.ref (G.1 21 0)]) (QvG G w') 0 0 (GA G) := by
  refine met_of (own := RX8) (by decide) rfl (Nat.le_of_ble_eq_true rfl) rfl ?_
  intro p e s m args below meth c M hr ls hl0 hS0
  have hl0 : lv_has ls 3 [(0, .ref (G.1 21 0))] := hl0
  unfold X8_steps at hf
  refine x_aload_n M hl0 dX8_steps_0 0 rfl ?_
  refine x_get (c0 := 21) (t0 := 0) (v := .ref (G.1 22 0)) M hS0 (by decide) (ref := "NamedMovesModel") inX8_steps_X8 (sE_21 G _ _) rfl 0 (by decide) (M.2.2.2.2.1 _ flX8_steps_7) rfl rfl dX8_steps_1 ?_
  refine x_bipush M dX8_steps_4 rfl ?_
  refine x_iald (c0 := 22) (t0 := 0) M hS0 (by decide) (hs_22 G _) rfl ⟨by decide, by decide⟩ (by decide) dX8_steps_6 ?_
  refine x_istore_n M hl0 dX8_steps_7 (by decide) [(1, iV (w 22 0 57)), (0, .ref (G.1 21 0))] rfl (fun ls hl1 => ?_)
  refine x_aload_n M hl1 dX8_steps_8 1 rfl ?_
  refine x_get (c0 := 21) (t0 := 0) (v := .ref (G.1 22 0)) M hS0 (by decide) (ref := "NamedMovesModel") inX8_steps_X8 (sE_21 G _ _) rfl 0 (by decide) (M.2.2.2.2.1 _ flX8_steps_7) rfl rfl dX8_steps_9 ?_
  refine x_bipush M dX8_steps_12 rfl ?_
  refine x_dup2 M dX8_steps_14 rfl rfl ?_
  refine x_iald (c0 := 22) (t0 := 0) M hS0 (by decide) (hs_22 G _) rfl ⟨by decide, by decide⟩ (by decide) dX8_steps_15 ?_
  refine x_iconst M dX8_steps_16 ?_
  obtain ⟨g2, hf⟩ := gdt hf
  refine x_isub M dX8_steps_17 ?_
  refine x_iast (c0 := 22) (t0 := 0) M hS0 (by decide) (hs_22 G _) rfl ⟨by decide, by decide⟩ (by decide) g2 dX8_steps_18 (fun H locs hS3 => ?_)
  refine x_iconst M dX8_steps_19 ?_
  refine x_istore_n M hl1 dX8_steps_20 (by decide) [(2, iV 0), (1, iV (w 22 0 57)), (0, .ref (G.1 21 0))] rfl (fun ls hl4 => ?_)
  exact X8_steps_b21_ok M hr LF (w 22 0 57) 0 (up w 22 0 8 ((w 22 0 8) - 1)) (hS0.inr _ _ _) ⟨by decide, by decide⟩ _ _ hS3 _ (lv_sub hl4 [2, 1, 0] rfl) _ _ hf

/-! X8_stepsToEnd -/
set_option maxHeartbeats 4000000 in
set_option maxRecDepth 100000 in
theorem X8_stepsToEnd_b2_ok (M : MC p s m args meth c cX8_stepsToEnd 2 RX8 wsX8_stepsToEnd G) (hr : meth.sig.returnType = (some .int)) : ∀ n : Nat, ∀ x1 : Int, ∀ w : Wd, InR x1 → ∀ (H : Heap) (locs : List Loc), ST G s w H locs → ∀ ls : Array Slot, lv_has ls 2 [(0, .ref (G.1 21 0)), (1, iV x1)] → ∀ (r : Int) (w' : Wd), X8_stepsToEnd_b2 n x1 w = some (r, w') → W p l e (rmk 5) s m args below meth c H locs 0 0 (MQ below (QiG G r w') args s 0 0 (GA G)) (F0 m 2 ls []) := by
  intro n
  induction n with
  | zero =>
    intro x1 w hx1 H locs hS0 ls hl0 r w' hf
    cases hf
  | succ n ih =>
    intro x1 w hx1 H locs hS0 ls hl0 r w' hf
    rw [X8_stepsToEnd_b2_s] at hf
    refine x_aload_n M hl0 dX8_stepsToEnd_2 0 rfl ?_
    obtain ⟨r2, w3, hc4, hf⟩ := bdt hf
    refine x_callVi (c0 := 21) (t0 := 0) (As := []) (rest := []) M hl0 hS0 (c_X8_isMoving l   hc4) (cwV 0 M.2.2.2.2.1 gX8_stepsToEnd_X8_isMoving rfl rfl rfl (by decide +kernel) ⟨Nat.le_of_ble_eq_true rfl, Nat.le_of_ble_eq_true rfl⟩) (by decide) (sE_21 G _ _) rfl rfl (Nat.le_of_ble_eq_true rfl) dX8_stepsToEnd_3 rfl ⟨Nat.zero_le _, Nat.zero_le _⟩ (fun H locs hi5 hS6 => ?_)
    refine x_if_eq (tgt := 19) M hi5 dX8_stepsToEnd_6 (by decide) (fun hc => ?_) (fun hc => ?_)
    · have hf := ift hf hc
      refine x_iload_n M hl0 dX8_stepsToEnd_19 1 rfl ?_
      exact x_iret M hr hf hS6 hx1 dX8_stepsToEnd_20
    · have hf := iff_ hf hc
      refine x_aload_n M hl0 dX8_stepsToEnd_9 0 rfl ?_
      obtain ⟨r7, w8, hc9, hf⟩ := bdt hf
      refine x_callVv (c0 := 21) (t0 := 0) (As := []) (rest := []) M hl0 hS6 (c_X8_steps l   hc9) (cwV 0 M.2.2.2.2.1 gX8_stepsToEnd_X8_steps rfl rfl rfl (by decide +kernel) ⟨Nat.le_of_ble_eq_true rfl, Nat.le_of_ble_eq_true rfl⟩) (by decide) (sE_21 G _ _) rfl rfl (Nat.le_of_ble_eq_true rfl) dX8_stepsToEnd_10 rfl ⟨Nat.zero_le _, Nat.zero_le _⟩ (fun H locs hS11 => ?_)
      obtain ⟨g12, hf⟩ := gdt hf
      refine x_iinc M hl0 dX8_stepsToEnd_13 1 rfl (by decide) [(1, iV (x1 + 1)), (0, .ref (G.1 21 0))] rfl (fun ls hl13 => ?_)
      refine x_goto (tgt := 2) M dX8_stepsToEnd_16 (by decide) ?_
      exact ih (x1 + 1) w8 g12 _ _ hS11 _ (lv_sub hl13 [1, 0] rfl) _ _ hf

set_option maxHeartbeats 4000000 in
set_option maxRecDepth 100000 in
theorem c_X8_stepsToEnd (l : Launch) {G : GG} {w : Wd} {r : Int} {w' : Wd} (hf : X8_stepsToEnd w = some (r, w')) : Met l yX8_stepsToEnd wsX8_stepsToEnd (rmk 5) (PcG G w [.ref (G.1 21 0)]) (QiG G r w') 0 0 (GA G) := by
  refine met_of (own := RX8) (by decide) rfl (Nat.le_of_ble_eq_true rfl) rfl ?_
  intro p e s m args below meth c M hr ls hl0 hS0
  have hl0 : lv_has ls 2 [(0, .ref (G.1 21 0))] := hl0
  unfold X8_stepsToEnd at hf
  refine x_iconst M dX8_stepsToEnd_0 ?_
  refine x_istore_n M hl0 dX8_stepsToEnd_1 (by decide) [(1, iV 0), (0, .ref (G.1 21 0))] rfl (fun ls hl1 => ?_)
  exact X8_stepsToEnd_b2_ok M hr LF 0 w ⟨by decide, by decide⟩ _ _ hS0 _ (lv_sub hl1 [1, 0] rfl) _ _ hf

/-! X8_setHeavy -/
theorem flX8_setHeavy_7 : Cond.fieldLink RX8 7 "NamedMovesModel" "s" "[I" ∈ wsX8_setHeavy := by decide +kernel
theorem inX8_setHeavy_X8 : ∀ w ∈ u_ws RX8 TX8 12, w ∈ wsX8_setHeavy := by decide +kernel
set_option maxHeartbeats 4000000 in
set_option maxRecDepth 100000 in
theorem c_X8_setHeavy (l : Launch) {G : GG} {x1 : Int} (hx1 : InR x1) {w : Wd} {r : Int} {w' : Wd} (hf : X8_setHeavy x1 w = some (r, w')) : Met l yX8_setHeavy wsX8_setHeavy (rmk 1) (PcG G w [.ref (G.1 21 0), iV x1]) (QiG G r w') 0 0 (GA G) := by
  refine met_of (own := RX8) (by decide) rfl (Nat.le_of_ble_eq_true rfl) rfl ?_
  intro p e s m args below meth c M hr ls hl0 hS0
  have hl0 : lv_has ls 3 [(0, .ref (G.1 21 0)), (1, iV x1)] := hl0
  unfold X8_setHeavy at hf
  refine x_iload_n M hl0 dX8_setHeavy_0 1 rfl ?_
  refine x_iconst M dX8_setHeavy_1 ?_
  refine x_bipush M dX8_setHeavy_2 rfl ?_
  obtain ⟨r1, w2, hc3, hf⟩ := bdt hf
  refine x_callSi (As := [iV x1, iV 2, iV 13]) (rest := []) M hl0 hS0 (c_X8_in l  hx1 ⟨by decide, by decide⟩ ⟨by decide, by decide⟩ hc3) (va_cwS 3 M.2.2.2.2.1 gX8_setHeavy_X8_in rfl rfl rfl (by decide +kernel) ⟨Nat.le_of_ble_eq_true rfl, Nat.le_of_ble_eq_true rfl⟩) rfl (Nat.le_of_ble_eq_true rfl) dX8_setHeavy_4 rfl ⟨Nat.zero_le _, Nat.zero_le _⟩ (fun H locs hi4 hS5 => ?_)
  refine x_if_ne (tgt := 12) M hi4 dX8_setHeavy_7 (by decide) (fun hc => ?_) (fun hc => ?_)
  · have hf := iff_ hf hc
    refine x_aload_n M hl0 dX8_setHeavy_12 0 rfl ?_
    obtain ⟨r6, w7, hc8, hf⟩ := bdt hf
    refine x_callVv (c0 := 21) (t0 := 0) (As := []) (rest := []) M hl0 hS5 (c_X8_acts l   hc8) (cwV 0 M.2.2.2.2.1 gX8_setHeavy_X8_acts rfl rfl rfl (by decide +kernel) ⟨Nat.le_of_ble_eq_true rfl, Nat.le_of_ble_eq_true rfl⟩) (by decide) (sE_21 G _ _) rfl rfl (Nat.le_of_ble_eq_true rfl) dX8_setHeavy_13 rfl ⟨Nat.zero_le _, Nat.zero_le _⟩ (fun H locs hS10 => ?_)
    refine x_aload_n M hl0 dX8_setHeavy_16 0 rfl ?_
    refine x_get (c0 := 21) (t0 := 0) (v := .ref (G.1 22 0)) M hS10 (by decide) (ref := "NamedMovesModel") inX8_setHeavy_X8 (sE_21 G _ _) rfl 0 (by decide) (M.2.2.2.2.1 _ flX8_setHeavy_7) rfl rfl dX8_setHeavy_17 ?_
    refine x_iconst M dX8_setHeavy_20 ?_
    refine x_iald (c0 := 22) (t0 := 0) M hS10 (by decide) (hs_22 G _) rfl ⟨by decide, by decide⟩ (by decide) dX8_setHeavy_21 ?_
    refine x_istore_n M hl0 dX8_setHeavy_22 (by decide) [(2, iV (w7 22 0 1)), (0, .ref (G.1 21 0)), (1, iV x1)] rfl (fun ls hl11 => ?_)
    refine x_aload_n M hl11 dX8_setHeavy_23 1 rfl ?_
    refine x_get (c0 := 21) (t0 := 0) (v := .ref (G.1 22 0)) M hS10 (by decide) (ref := "NamedMovesModel") inX8_setHeavy_X8 (sE_21 G _ _) rfl 0 (by decide) (M.2.2.2.2.1 _ flX8_setHeavy_7) rfl rfl dX8_setHeavy_24 ?_
    refine x_iconst M dX8_setHeavy_27 ?_
    refine x_iload_n M hl11 dX8_setHeavy_28 2 rfl ?_
    refine x_iast (c0 := 22) (t0 := 0) M hS10 (by decide) (hs_22 G _) rfl ⟨by decide, by decide⟩ (by decide) hx1 dX8_setHeavy_29 (fun H locs hS12 => ?_)
    refine x_iload_n M hl11 dX8_setHeavy_30 0 rfl ?_
    exact x_iret M hr hf hS12 (hS10.inr _ _ _) dX8_setHeavy_31
  · have hf := ift hf (Decidable.of_not_not hc)
    refine x_iconst M dX8_setHeavy_10 ?_
    exact x_iret M hr hf hS5 ⟨by decide, by decide⟩ dX8_setHeavy_11

/-! X8_floorPlace -/
set_option maxHeartbeats 4000000 in
set_option maxRecDepth 100000 in
theorem X8_floorPlace_b38_ok (M : MC p s m args meth c cX8_floorPlace 5 RX8 wsX8_floorPlace G) (hr : meth.sig.returnType = (some .int)) {K4 : Int → Int → Int → Wd → Option (Int × Wd)} (hK4 : ∀ x1 : Int, ∀ x2 : Int, ∀ x3 : Int, ∀ w : Wd, InR x1 → InR x2 → InR x3 → ∀ (H : Heap) (locs : List Loc), ST G s w H locs → ∀ ls : Array Slot, lv_has ls 5 [(0, .ref (G.1 21 0)), (1, iV x1), (2, iV x2), (3, iV x3)] → ∀ (r : Int) (w' : Wd), K4 x1 x2 x3 w = some (r, w') → W p l e (rmk 3) s m args below meth c H locs 0 0 (MQ below (QiG G r w') args s 0 0 (GA G)) (F0 m 4 ls [])) : ∀ x1 : Int, ∀ x3 : Int, ∀ x4 : Int, ∀ s0 : Int, ∀ w : Wd, InR x1 → InR x3 → InR x4 → InR s0 → ∀ (H : Heap) (locs : List Loc), ST G s w H locs → ∀ ls : Array Slot, lv_has ls 5 [(0, .ref (G.1 21 0)), (1, iV x1), (3, iV x3), (4, iV x4)] → ∀ (r : Int) (w' : Wd), X8_floorPlace_b38 K4 x1 x3 x4 s0 w = some (r, w') → W p l e (rmk 3) s m args below meth c H locs 0 0 (MQ below (QiG G r w') args s 0 0 (GA G)) (F0 m 38 ls [iV s0]) := by
  intro x1 x3 x4 s0 w hx1 hx3 hx4 hs0 H locs hS0 ls hl0 r w' hf
  unfold X8_floorPlace_b38 at hf
  refine x_istore_n M hl0 dX8_floorPlace_38 (by decide) [(2, iV s0), (0, .ref (G.1 21 0)), (1, iV x1), (3, iV x3), (4, iV x4)] rfl (fun ls hl13 => ?_)
  refine x_iload_n M hl13 dX8_floorPlace_39 3 rfl ?_
  refine x_iload M hl13 dX8_floorPlace_40 4 rfl ?_
  refine x_if_le (tgt := 50) M hx4 dX8_floorPlace_42 (by decide) (fun hc => ?_) (fun hc => ?_)
  · have hf := iff_ hf (Int.not_lt.mpr hc)
    refine x_iconst M dX8_floorPlace_50 ?_
    obtain ⟨g14, hf⟩ := gdt hf
    refine x_iadd M dX8_floorPlace_51 ?_
    refine x_istore_n M hl13 dX8_floorPlace_52 (by decide) [(3, iV (x3 + 1)), (2, iV s0), (0, .ref (G.1 21 0)), (1, iV x1), (4, iV x4)] rfl (fun ls hl15 => ?_)
    refine x_goto (tgt := 4) M dX8_floorPlace_53 (by decide) ?_
    exact hK4 x1 s0 (x3 + 1) w hx1 hs0 g14 _ _ hS0 _ (lv_sub hl15 [2, 3, 1, 0] rfl) _ _ hf
  · have hf := ift hf (Int.not_le.mp hc)
    refine x_iload M hl13 dX8_floorPlace_45 4 rfl ?_
    refine x_goto (tgt := 51) M dX8_floorPlace_47 (by decide) ?_
    obtain ⟨g16, hf⟩ := gdt hf
    refine x_iadd M dX8_floorPlace_51 ?_
    refine x_istore_n M hl13 dX8_floorPlace_52 (by decide) [(3, iV (x3 + x4)), (2, iV s0), (0, .ref (G.1 21 0)), (1, iV x1), (4, iV x4)] rfl (fun ls hl17 => ?_)
    refine x_goto (tgt := 4) M dX8_floorPlace_53 (by decide) ?_
    exact hK4 x1 s0 (x3 + x4) w hx1 hs0 g16 _ _ hS0 _ (lv_sub hl17 [2, 3, 1, 0] rfl) _ _ hf

set_option maxHeartbeats 4000000 in
set_option maxRecDepth 100000 in
theorem X8_floorPlace_b4_ok (M : MC p s m args meth c cX8_floorPlace 5 RX8 wsX8_floorPlace G) (hr : meth.sig.returnType = (some .int)) : ∀ n : Nat, ∀ x1 : Int, ∀ x2 : Int, ∀ x3 : Int, ∀ w : Wd, InR x1 → InR x2 → InR x3 → ∀ (H : Heap) (locs : List Loc), ST G s w H locs → ∀ ls : Array Slot, lv_has ls 5 [(0, .ref (G.1 21 0)), (1, iV x1), (2, iV x2), (3, iV x3)] → ∀ (r : Int) (w' : Wd), X8_floorPlace_b4 n x1 x2 x3 w = some (r, w') → W p l e (rmk 3) s m args below meth c H locs 0 0 (MQ below (QiG G r w') args s 0 0 (GA G)) (F0 m 4 ls []) := by
  intro n
  induction n with
  | zero =>
    intro x1 x2 x3 w hx1 hx2 hx3 H locs hS0 ls hl0 r w' hf
    cases hf
  | succ n ih =>
    intro x1 x2 x3 w hx1 hx2 hx3 H locs hS0 ls hl0 r w' hf
    rw [X8_floorPlace_b4_s] at hf
    refine x_iload_n M hl0 dX8_floorPlace_4 3 rfl ?_
    refine x_bipush M dX8_floorPlace_5 rfl ?_
    refine x_icmp_ge (tgt := 56) M hx3 ⟨by decide, by decide⟩ dX8_floorPlace_7 (by decide) (fun hc => ?_) (fun hc => ?_)
    · have hf := iff_ hf (Int.not_lt.mpr hc)
      refine x_iload_n M hl0 dX8_floorPlace_56 2 rfl ?_
      refine x_iload_n M hl0 dX8_floorPlace_57 1 rfl ?_
      refine x_icmp_ge (tgt := 66) M hx2 hx1 dX8_floorPlace_58 (by decide) (fun hc => ?_) (fun hc => ?_)
      · have hf := iff_ hf (Int.not_lt.mpr hc)
        refine x_iload_n M hl0 dX8_floorPlace_66 3 rfl ?_
        refine x_iload_n M hl0 dX8_floorPlace_67 1 rfl ?_
        obtain ⟨g3, hf⟩ := gdt hf
        refine x_isub M dX8_floorPlace_68 ?_
        exact x_iret M hr hf hS0 g3 dX8_floorPlace_69
      · have hf := ift hf (Int.not_le.mp hc)
        refine x_bipush M dX8_floorPlace_61 rfl ?_
        refine x_goto (tgt := 69) M dX8_floorPlace_63 (by decide) ?_
        exact x_iret M hr hf hS0 ⟨by decide, by decide⟩ dX8_floorPlace_69
    · have hf := ift hf (Int.not_le.mp hc)
      refine x_iload_n M hl0 dX8_floorPlace_10 2 rfl ?_
      refine x_iload_n M hl0 dX8_floorPlace_11 1 rfl ?_
      refine x_icmp_ge (tgt := 56) M hx2 hx1 dX8_floorPlace_12 (by decide) (fun hc => ?_) (fun hc => ?_)
      · have hf := iff_ hf (Int.not_lt.mpr hc)
        refine x_iload_n M hl0 dX8_floorPlace_56 2 rfl ?_
        refine x_iload_n M hl0 dX8_floorPlace_57 1 rfl ?_
        refine x_icmp_ge (tgt := 66) M hx2 hx1 dX8_floorPlace_58 (by decide) (fun hc => ?_) (fun hc => ?_)
        · have hf := iff_ hf (Int.not_lt.mpr hc)
          refine x_iload_n M hl0 dX8_floorPlace_66 3 rfl ?_
          refine x_iload_n M hl0 dX8_floorPlace_67 1 rfl ?_
          obtain ⟨g4, hf⟩ := gdt hf
          refine x_isub M dX8_floorPlace_68 ?_
          exact x_iret M hr hf hS0 g4 dX8_floorPlace_69
        · have hf := ift hf (Int.not_le.mp hc)
          refine x_bipush M dX8_floorPlace_61 rfl ?_
          refine x_goto (tgt := 69) M dX8_floorPlace_63 (by decide) ?_
          exact x_iret M hr hf hS0 ⟨by decide, by decide⟩ dX8_floorPlace_69
      · have hf := ift hf (Int.not_le.mp hc)
        refine x_aload_n M hl0 dX8_floorPlace_15 0 rfl ?_
        refine x_sipush M dX8_floorPlace_16 rfl ?_
        refine x_iload_n M hl0 dX8_floorPlace_19 3 rfl ?_
        obtain ⟨g5, hf⟩ := gdt hf
        refine x_iadd M dX8_floorPlace_20 ?_
        obtain ⟨r6, w7, hc8, hf⟩ := bdt hf
        refine x_callVi (c0 := 21) (t0 := 0) (As := [iV (128 + x3)]) (rest := []) M hl0 hS0 (c_X8_sizeAt l  g5 hc8) (cwV 1 M.2.2.2.2.1 gX8_floorPlace_X8_sizeAt rfl rfl rfl (by decide +kernel) ⟨Nat.le_of_ble_eq_true rfl, Nat.le_of_ble_eq_true rfl⟩) (by decide) (sE_21 G _ _) rfl rfl (Nat.le_of_ble_eq_true rfl) dX8_floorPlace_21 rfl ⟨Nat.zero_le _, Nat.zero_le _⟩ (fun H locs hi9 hS10 => ?_)
        refine x_istore M hl0 dX8_floorPlace_24 (by decide) [(4, iV r6), (0, .ref (G.1 21 0)), (1, iV x1), (2, iV x2), (3, iV x3)] rfl (fun ls hl11 => ?_)
        refine x_iload M hl11 dX8_floorPlace_26 0 rfl ?_
        refine x_if_le (tgt := 35) M hi9 dX8_floorPlace_28 (by decide) (fun hc => ?_) (fun hc => ?_)
        · have hf := iff_ hf (Int.not_lt.mpr hc)
          refine x_iload_n M hl11 dX8_floorPlace_35 3 rfl ?_
          refine x_iconst M dX8_floorPlace_36 ?_
          obtain ⟨g12, hf⟩ := gdt hf
          refine x_iadd M dX8_floorPlace_37 ?_
          exact X8_floorPlace_b38_ok M hr ih x1 x3 r6 (x2 + 1) w7 hx1 hx3 hi9 g12 _ _ hS10 _ (lv_sub hl11 [1, 2, 4, 0] rfl) _ _ hf
        · have hf := ift hf (Int.not_le.mp hc)
          refine x_iconst M dX8_floorPlace_31 ?_
          refine x_goto (tgt := 38) M dX8_floorPlace_32 (by decide) ?_
          exact X8_floorPlace_b38_ok M hr ih x1 x3 r6 0 w7 hx1 hx3 hi9 ⟨by decide, by decide⟩ _ _ hS10 _ (lv_sub hl11 [1, 2, 4, 0] rfl) _ _ hf

set_option maxHeartbeats 4000000 in
set_option maxRecDepth 100000 in
theorem c_X8_floorPlace (l : Launch) {G : GG} {x1 : Int} (hx1 : InR x1) {w : Wd} {r : Int} {w' : Wd} (hf : X8_floorPlace x1 w = some (r, w')) : Met l yX8_floorPlace wsX8_floorPlace (rmk 3) (PcG G w [.ref (G.1 21 0), iV x1]) (QiG G r w') 0 0 (GA G) := by
  refine met_of (own := RX8) (by decide) rfl (Nat.le_of_ble_eq_true rfl) rfl ?_
  intro p e s m args below meth c M hr ls hl0 hS0
  have hl0 : lv_has ls 5 [(0, .ref (G.1 21 0)), (1, iV x1)] := hl0
  unfold X8_floorPlace at hf
  refine x_iconst M dX8_floorPlace_0 ?_
  refine x_istore_n M hl0 dX8_floorPlace_1 (by decide) [(2, iV 0), (0, .ref (G.1 21 0)), (1, iV x1)] rfl (fun ls hl1 => ?_)
  refine x_iconst M dX8_floorPlace_2 ?_
  refine x_istore_n M hl1 dX8_floorPlace_3 (by decide) [(3, iV 0), (2, iV 0), (0, .ref (G.1 21 0)), (1, iV x1)] rfl (fun ls hl2 => ?_)
  exact X8_floorPlace_b4_ok M hr LF x1 0 0 w hx1 ⟨by decide, by decide⟩ ⟨by decide, by decide⟩ _ _ hS0 _ (lv_sub hl2 [2, 3, 1, 0] rfl) _ _ hf

/-! X8_make -/
theorem flX8_make_7 : Cond.fieldLink RX8 7 "NamedMovesModel" "s" "[I" ∈ wsX8_make := by decide +kernel
theorem inX8_make_X8 : ∀ w ∈ u_ws RX8 TX8 12, w ∈ wsX8_make := by decide +kernel
set_option maxHeartbeats 4000000 in
set_option maxRecDepth 100000 in
theorem X8_make_b193_ok (M : MC p s m args meth c cX8_make 8 RX8 wsX8_make G) (hr : meth.sig.returnType = (some .int)) : ∀ x2 : Int, ∀ x6 : Int, ∀ x7 : Int, ∀ w : Wd, InR x2 → InR x6 → InR x7 → ∀ (H : Heap) (locs : List Loc), ST G s w H locs → ∀ ls : Array Slot, lv_has ls 8 [(0, .ref (G.1 21 0)), (2, iV x2), (6, iV x6), (7, iV x7)] → ∀ (r : Int) (w' : Wd), X8_make_b193 x2 x6 x7 w = some (r, w') → W p l e (rmk 4) s m args below meth c H locs 0 0 (MQ below (QiG G r w') args s 0 0 (GA G)) (F0 m 193 ls []) := by
  intro x2 x6 x7 w hx2 hx6 hx7 H locs hS0 ls hl0 r w' hf
  unfold X8_make_b193 at hf
  refine x_aload_n M hl0 dX8_make_193 0 rfl ?_
  refine x_get (c0 := 21) (t0 := 0) (v := .ref (G.1 22 0)) M hS0 (by decide) (ref := "NamedMovesModel") inX8_make_X8 (sE_21 G _ _) rfl 0 (by decide) (M.2.2.2.2.1 _ flX8_make_7) rfl rfl dX8_make_194 ?_
  refine x_bipush M dX8_make_197 rfl ?_
  refine x_iload_n M hl0 dX8_make_199 1 rfl ?_
  obtain ⟨g44, hf⟩ := gdt hf
  refine x_iadd M dX8_make_200 ?_
  refine x_iload M hl0 dX8_make_201 3 rfl ?_
  obtain ⟨r45, w46, hc47, hf⟩ := bdt hf
  refine x_callSi (As := [iV x7]) (rest := [iV (9 + x2), .ref (G.1 22 0)]) M hl0 hS0 (c_X8_address l  hx7 hc47) (va_cwS 1 M.2.2.2.2.1 gX8_make_X8_address rfl rfl rfl (by decide +kernel) ⟨Nat.le_of_ble_eq_true rfl, Nat.le_of_ble_eq_true rfl⟩) rfl (Nat.le_of_ble_eq_true rfl) dX8_make_203 rfl ⟨Nat.zero_le _, Nat.zero_le _⟩ (fun H locs hi48 hS49 => ?_)
  obtain ⟨g50, hf⟩ := gdt hf
  refine x_iast (c0 := 22) (t0 := 0) M hS49 (by decide) (hs_22 G _) rfl g50 (by decide) hi48 dX8_make_206 (fun H locs hS51 => ?_)
  refine x_iload M hl0 dX8_make_207 2 rfl ?_
  exact x_iret M hr hf hS51 hx6 dX8_make_209

set_option maxHeartbeats 4000000 in
set_option maxRecDepth 100000 in
theorem X8_make_b94_ok (M : MC p s m args meth c cX8_make 8 RX8 wsX8_make G) (hr : meth.sig.returnType = (some .int)) : ∀ x1 : Int, ∀ x2 : Int, ∀ x3 : Int, ∀ x4 : Int, ∀ s0 : Int, ∀ w : Wd, InR x1 → InR x2 → InR x3 → InR x4 → InR s0 → ∀ (H : Heap) (locs : List Loc), ST G s w H locs → ∀ ls : Array Slot, lv_has ls 8 [(0, .ref (G.1 21 0)), (1, iV x1), (2, iV x2), (3, iV x3), (4, iV x4)] → ∀ (r : Int) (w' : Wd), X8_make_b94 x1 x2 x3 x4 s0 w = some (r, w') → W p l e (rmk 4) s m args below meth c H locs 0 0 (MQ below (QiG G r w') args s 0 0 (GA G)) (F0 m 94 ls [iV s0]) := by
  intro x1 x2 x3 x4 s0 w hx1 hx2 hx3 hx4 hs0 H locs hS0 ls hl0 r w' hf
  unfold X8_make_b94 at hf
  refine x_istore M hl0 dX8_make_94 (by decide) [(5, iV s0), (0, .ref (G.1 21 0)), (1, iV x1), (2, iV x2), (3, iV x3), (4, iV x4)] rfl (fun ls hl24 => ?_)
  refine x_aload_n M hl24 dX8_make_96 1 rfl ?_
  refine x_get (c0 := 21) (t0 := 0) (v := .ref (G.1 22 0)) M hS0 (by decide) (ref := "NamedMovesModel") inX8_make_X8 (sE_21 G _ _) rfl 0 (by decide) (M.2.2.2.2.1 _ flX8_make_7) rfl rfl dX8_make_97 ?_
  refine x_iconst M dX8_make_100 ?_
  refine x_iald (c0 := 22) (t0 := 0) M hS0 (by decide) (hs_22 G _) rfl ⟨by decide, by decide⟩ (by decide) dX8_make_101 ?_
  refine x_bipush M dX8_make_102 rfl ?_
  refine x_icmp_eq (tgt := 112) M (hS0.inr _ _ _) ⟨by decide, by decide⟩ dX8_make_104 (by decide) (fun hc => ?_) (fun hc => ?_)
  · have hf := ift hf hc
    refine x_bipush M dX8_make_112 rfl ?_
    exact x_iret M hr hf hS0 ⟨by decide, by decide⟩ dX8_make_114
  · have hf := iff_ hf hc
    refine x_iload M hl24 dX8_make_107 0 rfl ?_
    refine x_if_ne (tgt := 115) M hs0 dX8_make_109 (by decide) (fun hc => ?_) (fun hc => ?_)
    · have hf := iff_ hf hc
      refine x_aload_n M hl24 dX8_make_115 1 rfl ?_
      obtain ⟨r25, w26, hc27, hf⟩ := bdt hf
      refine x_callVv (c0 := 21) (t0 := 0) (As := []) (rest := []) M hl24 hS0 (c_X8_acts l   hc27) (cwV 0 M.2.2.2.2.1 gX8_make_X8_acts rfl rfl rfl (by decide +kernel) ⟨Nat.le_of_ble_eq_true rfl, Nat.le_of_ble_eq_true rfl⟩) (by decide) (sE_21 G _ _) rfl rfl (Nat.le_of_ble_eq_true rfl) dX8_make_116 rfl ⟨Nat.zero_le _, Nat.zero_le _⟩ (fun H locs hS29 => ?_)
      refine x_aload_n M hl24 dX8_make_119 1 rfl ?_
      refine x_get (c0 := 21) (t0 := 0) (v := .ref (G.1 22 0)) M hS29 (by decide) (ref := "NamedMovesModel") inX8_make_X8 (sE_21 G _ _) rfl 0 (by decide) (M.2.2.2.2.1 _ flX8_make_7) rfl rfl dX8_make_120 ?_
      refine x_iconst M dX8_make_123 ?_
      refine x_iald (c0 := 22) (t0 := 0) M hS29 (by decide) (hs_22 G _) rfl ⟨by decide, by decide⟩ (by decide) dX8_make_124 ?_
      refine x_istore M hl24 dX8_make_125 (by decide) [(6, iV (w26 22 0 0)), (5, iV s0), (0, .ref (G.1 21 0)), (1, iV x1), (2, iV x2), (3, iV x3), (4, iV x4)] rfl (fun ls hl30 => ?_)
      refine x_aload_n M hl30 dX8_make_127 2 rfl ?_
      refine x_get (c0 := 21) (t0 := 0) (v := .ref (G.1 22 0)) M hS29 (by decide) (ref := "NamedMovesModel") inX8_make_X8 (sE_21 G _ _) rfl 0 (by decide) (M.2.2.2.2.1 _ flX8_make_7) rfl rfl dX8_make_128 ?_
      refine x_bipush M dX8_make_131 rfl ?_
      refine x_iload M hl30 dX8_make_133 0 rfl ?_
      obtain ⟨g31, hf⟩ := gdt hf
      refine x_iadd M dX8_make_135 ?_
      refine x_iload_n M hl30 dX8_make_136 3 rfl ?_
      obtain ⟨g32, hf⟩ := gdt hf
      refine x_iast (c0 := 22) (t0 := 0) M hS29 (by decide) (hs_22 G _) rfl g32 (by decide) hx1 dX8_make_137 (fun H locs hS33 => ?_)
      refine x_aload_n M hl30 dX8_make_138 2 rfl ?_
      refine x_get (c0 := 21) (t0 := 0) (v := .ref (G.1 22 0)) M hS33 (by decide) (ref := "NamedMovesModel") inX8_make_X8 (sE_21 G _ _) rfl 0 (by decide) (M.2.2.2.2.1 _ flX8_make_7) rfl rfl dX8_make_139 ?_
      refine x_iconst M dX8_make_142 ?_
      refine x_dup2 M dX8_make_143 rfl rfl ?_
      refine x_iald (c0 := 22) (t0 := 0) M hS33 (by decide) (hs_22 G _) rfl ⟨by decide, by decide⟩ (by decide) dX8_make_144 ?_
      refine x_iconst M dX8_make_145 ?_
      obtain ⟨g34, hf⟩ := gdt hf
      refine x_iadd M dX8_make_146 ?_
      refine x_iast (c0 := 22) (t0 := 0) M hS33 (by decide) (hs_22 G _) rfl ⟨by decide, by decide⟩ (by decide) g34 dX8_make_147 (fun H locs hS35 => ?_)
      refine x_sipush M dX8_make_148 rfl ?_
      refine x_iload M hl30 dX8_make_151 6 rfl ?_
      obtain ⟨g36, hf⟩ := gdt hf
      refine x_iadd M dX8_make_153 ?_
      refine x_istore M hl30 dX8_make_154 (by decide) [(7, iV (128 + x4)), (6, iV (w26 22 0 0)), (5, iV s0), (0, .ref (G.1 21 0)), (1, iV x1), (2, iV x2), (3, iV x3), (4, iV x4)] rfl (fun ls hl37 => ?_)
      refine x_iload_n M hl37 dX8_make_156 6 rfl ?_
      refine x_if_eq (tgt := 181) M hx3 dX8_make_157 (by decide) (fun hc => ?_) (fun hc => ?_)
      · have hf := ift hf hc
        refine x_aload_n M hl37 dX8_make_181 3 rfl ?_
        refine x_iload M hl37 dX8_make_182 1 rfl ?_
        refine x_bipush M dX8_make_184 rfl ?_
        refine x_bipush M dX8_make_186 rfl ?_
        obtain ⟨r38, w39, hc40, hf⟩ := bdt hf
        refine x_callVi (c0 := 21) (t0 := 0) (As := [iV (w26 22 0 0), iV ((-9)), iV ((-9))]) (rest := []) M hl37 hS35 (c_X8_laysInHalf l  (hS29.inr _ _ _) ⟨by decide, by decide⟩ ⟨by decide, by decide⟩ hc40) (cwV 3 M.2.2.2.2.1 gX8_make_X8_laysInHalf rfl rfl rfl (by decide +kernel) ⟨Nat.le_of_ble_eq_true rfl, Nat.le_of_ble_eq_true rfl⟩) (by decide) (sE_21 G _ _) rfl rfl (Nat.le_of_ble_eq_true rfl) dX8_make_188 rfl ⟨Nat.zero_le _, Nat.zero_le _⟩ (fun H locs hi41 hS42 => ?_)
        refine x_istore M hl37 dX8_make_191 (by decide) [(7, iV r38), (6, iV (w26 22 0 0)), (5, iV s0), (0, .ref (G.1 21 0)), (1, iV x1), (2, iV x2), (3, iV x3), (4, iV x4)] rfl (fun ls hl43 => ?_)
        exact X8_make_b193_ok M hr x2 (w26 22 0 0) r38 w39 hx2 (hS29.inr _ _ _) hi41 _ _ hS42 _ (lv_sub hl43 [3, 5, 1, 0] rfl) _ _ hf
      · have hf := iff_ hf hc
        refine x_aload_n M hl37 dX8_make_160 3 rfl ?_
        refine x_iload M hl37 dX8_make_161 0 rfl ?_
        refine x_iload M hl37 dX8_make_163 1 rfl ?_
        refine x_bipush M dX8_make_165 rfl ?_
        refine x_bipush M dX8_make_167 rfl ?_
        refine x_aload_n M hl37 dX8_make_169 3 rfl ?_
        refine x_get (c0 := 21) (t0 := 0) (v := .ref (G.1 22 0)) M hS35 (by decide) (ref := "NamedMovesModel") inX8_make_X8 (sE_21 G _ _) rfl 0 (by decide) (M.2.2.2.2.1 _ flX8_make_7) rfl rfl dX8_make_170 ?_
        refine x_iconst M dX8_make_173 ?_
        refine x_iald (c0 := 22) (t0 := 0) M hS35 (by decide) (hs_22 G _) rfl ⟨by decide, by decide⟩ (by decide) dX8_make_174 ?_
        obtain ⟨r52, w53, hc54, hf⟩ := bdt hf
        refine x_callVv (c0 := 21) (t0 := 0) (As := [iV (128 + x4), iV (w26 22 0 0), iV ((-9)), iV ((-9)), iV ((up (up w26 22 0 (17 + (w26 22 0 0)).toNat x1) 22 0 0 (((up w26 22 0 (17 + (w26 22 0 0)).toNat x1) 22 0 0) + 1)) 22 0 2)]) (rest := []) M hl37 hS35 (c_X8_lays l  g36 (hS29.inr _ _ _) ⟨by decide, by decide⟩ ⟨by decide, by decide⟩ (hS35.inr _ _ _) hc54) (cwV 5 M.2.2.2.2.1 gX8_make_X8_lays rfl rfl rfl (by decide +kernel) ⟨Nat.le_of_ble_eq_true rfl, Nat.le_of_ble_eq_true rfl⟩) (by decide) (sE_21 G _ _) rfl rfl (Nat.le_of_ble_eq_true rfl) dX8_make_175 rfl ⟨Nat.zero_le _, Nat.zero_le _⟩ (fun H locs hS56 => ?_)
        refine x_goto (tgt := 193) M dX8_make_178 (by decide) ?_
        exact X8_make_b193_ok M hr x2 (w26 22 0 0) (128 + x4) w53 hx2 (hS29.inr _ _ _) g36 _ _ hS56 _ (lv_sub hl37 [3, 5, 1, 0] rfl) _ _ hf
    · have hf := ift hf (Decidable.of_not_not hc)
      refine x_bipush M dX8_make_112 rfl ?_
      exact x_iret M hr hf hS0 ⟨by decide, by decide⟩ dX8_make_114

set_option maxHeartbeats 4000000 in
set_option maxRecDepth 100000 in
theorem X8_make_b49_ok (M : MC p s m args meth c cX8_make 8 RX8 wsX8_make G) (hr : meth.sig.returnType = (some .int)) : ∀ x1 : Int, ∀ x2 : Int, ∀ x3 : Int, ∀ s0 : Int, ∀ w : Wd, InR x1 → InR x2 → InR x3 → InR s0 → ∀ (H : Heap) (locs : List Loc), ST G s w H locs → ∀ ls : Array Slot, lv_has ls 8 [(0, .ref (G.1 21 0)), (1, iV x1), (2, iV x2), (3, iV x3)] → ∀ (r : Int) (w' : Wd), X8_make_b49 x1 x2 x3 s0 w = some (r, w') → W p l e (rmk 4) s m args below meth c H locs 0 0 (MQ below (QiG G r w') args s 0 0 (GA G)) (F0 m 49 ls [iV s0]) := by
  intro x1 x2 x3 s0 w hx1 hx2 hx3 hs0 H locs hS0 ls hl0 r w' hf
  unfold X8_make_b49 at hf
  refine x_istore M hl0 dX8_make_49 (by decide) [(4, iV s0), (0, .ref (G.1 21 0)), (1, iV x1), (2, iV x2), (3, iV x3)] rfl (fun ls hl12 => ?_)
  refine x_iload_n M hl12 dX8_make_51 4 rfl ?_
  refine x_if_eq (tgt := 70) M hx3 dX8_make_52 (by decide) (fun hc => ?_) (fun hc => ?_)
  · have hf := ift hf hc
    refine x_iload_n M hl12 dX8_make_70 2 rfl ?_
    refine x_aload_n M hl12 dX8_make_71 1 rfl ?_
    refine x_aload_n M hl12 dX8_make_72 1 rfl ?_
    refine x_get (c0 := 21) (t0 := 0) (v := .ref (G.1 22 0)) M hS0 (by decide) (ref := "NamedMovesModel") inX8_make_X8 (sE_21 G _ _) rfl 0 (by decide) (M.2.2.2.2.1 _ flX8_make_7) rfl rfl dX8_make_73 ?_
    refine x_iconst M dX8_make_76 ?_
    refine x_iald (c0 := 22) (t0 := 0) M hS0 (by decide) (hs_22 G _) rfl ⟨by decide, by decide⟩ (by decide) dX8_make_77 ?_
    obtain ⟨r13, w14, hc15, hf⟩ := bdt hf
    refine x_callVi (c0 := 21) (t0 := 0) (As := [iV (w 22 0 3)]) (rest := [iV x1]) M hl12 hS0 (c_X8_free l  (hS0.inr _ _ _) hc15) (cwV 1 M.2.2.2.2.1 gX8_make_X8_free rfl rfl rfl (by decide +kernel) ⟨Nat.le_of_ble_eq_true rfl, Nat.le_of_ble_eq_true rfl⟩) (by decide) (sE_21 G _ _) rfl rfl (Nat.le_of_ble_eq_true rfl) dX8_make_78 rfl ⟨Nat.zero_le _, Nat.zero_le _⟩ (fun H locs hi16 hS17 => ?_)
    refine x_aload_n M hl12 dX8_make_81 1 rfl ?_
    obtain ⟨r18, w19, hc20, hf⟩ := bdt hf
    refine x_callVi (c0 := 21) (t0 := 0) (As := []) (rest := [iV r13, iV x1]) M hl12 hS17 (c_X8_kept l   hc20) (cwV 0 M.2.2.2.2.1 gX8_make_X8_kept rfl rfl rfl (by decide +kernel) ⟨Nat.le_of_ble_eq_true rfl, Nat.le_of_ble_eq_true rfl⟩) (by decide) (sE_21 G _ _) rfl rfl (Nat.le_of_ble_eq_true rfl) dX8_make_82 rfl ⟨Nat.zero_le _, Nat.zero_le _⟩ (fun H locs hi21 hS22 => ?_)
    obtain ⟨g23, hf⟩ := gdt hf
    refine x_isub M dX8_make_85 ?_
    refine x_icmp_gt (tgt := 93) M hx1 g23 dX8_make_86 (by decide) (fun hc => ?_) (fun hc => ?_)
    · have hf := ift hf hc
      refine x_iconst M dX8_make_93 ?_
      exact X8_make_b94_ok M hr x1 x2 x3 s0 0 w19 hx1 hx2 hx3 hs0 ⟨by decide, by decide⟩ _ _ hS22 _ (lv_sub hl12 [1, 2, 3, 4, 0] rfl) _ _ hf
    · have hf := iff_ hf hc
      refine x_iconst M dX8_make_89 ?_
      refine x_goto (tgt := 94) M dX8_make_90 (by decide) ?_
      exact X8_make_b94_ok M hr x1 x2 x3 s0 1 w19 hx1 hx2 hx3 hs0 ⟨by decide, by decide⟩ _ _ hS22 _ (lv_sub hl12 [1, 2, 3, 4, 0] rfl) _ _ hf
  · have hf := iff_ hf hc
    refine x_iload M hl12 dX8_make_55 0 rfl ?_
    refine x_bipush M dX8_make_57 rfl ?_
    refine x_icmp_eq (tgt := 66) M hs0 ⟨by decide, by decide⟩ dX8_make_59 (by decide) (fun hc => ?_) (fun hc => ?_)
    · have hf := ift hf hc
      refine x_iconst M dX8_make_66 ?_
      refine x_goto (tgt := 94) M dX8_make_67 (by decide) ?_
      exact X8_make_b94_ok M hr x1 x2 x3 s0 0 w hx1 hx2 hx3 hs0 ⟨by decide, by decide⟩ _ _ hS0 _ (lv_sub hl12 [1, 2, 3, 4, 0] rfl) _ _ hf
    · have hf := iff_ hf hc
      refine x_iconst M dX8_make_62 ?_
      refine x_goto (tgt := 94) M dX8_make_63 (by decide) ?_
      exact X8_make_b94_ok M hr x1 x2 x3 s0 1 w hx1 hx2 hx3 hs0 ⟨by decide, by decide⟩ _ _ hS0 _ (lv_sub hl12 [1, 2, 3, 4, 0] rfl) _ _ hf

set_option maxHeartbeats 4000000 in
set_option maxRecDepth 100000 in
theorem X8_make_b34_ok (M : MC p s m args meth c cX8_make 8 RX8 wsX8_make G) (hr : meth.sig.returnType = (some .int)) : ∀ x1 : Int, ∀ x2 : Int, ∀ s0 : Int, ∀ w : Wd, InR x1 → InR x2 → InR s0 → ∀ (H : Heap) (locs : List Loc), ST G s w H locs → ∀ ls : Array Slot, lv_has ls 8 [(0, .ref (G.1 21 0)), (1, iV x1), (2, iV x2)] → ∀ (r : Int) (w' : Wd), X8_make_b34 x1 x2 s0 w = some (r, w') → W p l e (rmk 4) s m args below meth c H locs 0 0 (MQ below (QiG G r w') args s 0 0 (GA G)) (F0 m 34 ls [iV s0]) := by
  intro x1 x2 s0 w hx1 hx2 hs0 H locs hS0 ls hl0 r w' hf
  unfold X8_make_b34 at hf
  refine x_istore_n M hl0 dX8_make_34 (by decide) [(3, iV s0), (0, .ref (G.1 21 0)), (1, iV x1), (2, iV x2)] rfl (fun ls hl11 => ?_)
  refine x_iload_n M hl11 dX8_make_35 0 rfl ?_
  refine x_if_eq (tgt := 47) M hs0 dX8_make_36 (by decide) (fun hc => ?_) (fun hc => ?_)
  · have hf := ift hf hc
    refine x_bipush M dX8_make_47 rfl ?_
    exact X8_make_b49_ok M hr x1 x2 s0 ((-9)) w hx1 hx2 hs0 ⟨by decide, by decide⟩ _ _ hS0 _ (lv_sub hl11 [1, 2, 3, 0] rfl) _ _ hf
  · have hf := iff_ hf hc
    refine x_aload_n M hl11 dX8_make_39 1 rfl ?_
    refine x_iload_n M hl11 dX8_make_40 2 rfl ?_
    obtain ⟨r57, w58, hc59, hf⟩ := bdt hf
    refine x_callVi (c0 := 21) (t0 := 0) (As := [iV x1]) (rest := []) M hl11 hS0 (c_X8_floorPlace l  hx1 hc59) (cwV 1 M.2.2.2.2.1 gX8_make_X8_floorPlace rfl rfl rfl (by decide +kernel) ⟨Nat.le_of_ble_eq_true rfl, Nat.le_of_ble_eq_true rfl⟩) (by decide) (sE_21 G _ _) rfl rfl (Nat.le_of_ble_eq_true rfl) dX8_make_41 rfl ⟨Nat.zero_le _, Nat.zero_le _⟩ (fun H locs hi60 hS61 => ?_)
    refine x_goto (tgt := 49) M dX8_make_44 (by decide) ?_
    exact X8_make_b49_ok M hr x1 x2 s0 r57 w58 hx1 hx2 hs0 hi60 _ _ hS61 _ (lv_sub hl11 [1, 2, 3, 0] rfl) _ _ hf

set_option maxHeartbeats 4000000 in
set_option maxRecDepth 100000 in
theorem c_X8_make (l : Launch) {G : GG} {x1 : Int} (hx1 : InR x1) {x2 : Int} (hx2 : InR x2) {w : Wd} {r : Int} {w' : Wd} (hf : X8_make x1 x2 w = some (r, w')) : Met l yX8_make wsX8_make (rmk 4) (PcG G w [.ref (G.1 21 0), iV x1, iV x2]) (QiG G r w') 0 0 (GA G) := by
  refine met_of (own := RX8) (by decide) rfl (Nat.le_of_ble_eq_true rfl) rfl ?_
  intro p e s m args below meth c M hr ls hl0 hS0
  have hl0 : lv_has ls 8 [(0, .ref (G.1 21 0)), (1, iV x1), (2, iV x2)] := hl0
  unfold X8_make at hf
  refine x_iload_n M hl0 dX8_make_0 1 rfl ?_
  refine x_iconst M dX8_make_1 ?_
  refine x_bipush M dX8_make_2 rfl ?_
  obtain ⟨r1, w2, hc3, hf⟩ := bdt hf
  refine x_callSi (As := [iV x1, iV 1, iV 12]) (rest := []) M hl0 hS0 (c_X8_in l  hx1 ⟨by decide, by decide⟩ ⟨by decide, by decide⟩ hc3) (va_cwS 3 M.2.2.2.2.1 gX8_make_X8_in rfl rfl rfl (by decide +kernel) ⟨Nat.le_of_ble_eq_true rfl, Nat.le_of_ble_eq_true rfl⟩) rfl (Nat.le_of_ble_eq_true rfl) dX8_make_4 rfl ⟨Nat.zero_le _, Nat.zero_le _⟩ (fun H locs hi4 hS5 => ?_)
  refine x_if_eq (tgt := 17) M hi4 dX8_make_7 (by decide) (fun hc => ?_) (fun hc => ?_)
  · have hf := ift hf hc
    refine x_iconst M dX8_make_17 ?_
    exact x_iret M hr hf hS5 ⟨by decide, by decide⟩ dX8_make_18
  · have hf := iff_ hf hc
    refine x_iload_n M hl0 dX8_make_10 2 rfl ?_
    obtain ⟨r6, w7, hc8, hf⟩ := bdt hf
    refine x_callSi (As := [iV x2]) (rest := []) M hl0 hS5 (c_X8_isHook l  hx2 hc8) (va_cwS 1 M.2.2.2.2.1 gX8_make_X8_isHook rfl rfl rfl (by decide +kernel) ⟨Nat.le_of_ble_eq_true rfl, Nat.le_of_ble_eq_true rfl⟩) rfl (Nat.le_of_ble_eq_true rfl) dX8_make_11 rfl ⟨Nat.zero_le _, Nat.zero_le _⟩ (fun H locs hi9 hS10 => ?_)
    refine x_if_ne (tgt := 19) M hi9 dX8_make_14 (by decide) (fun hc => ?_) (fun hc => ?_)
    · have hf := iff_ hf hc
      refine x_iload_n M hl0 dX8_make_19 1 rfl ?_
      refine x_aload_n M hl0 dX8_make_20 0 rfl ?_
      refine x_get (c0 := 21) (t0 := 0) (v := .ref (G.1 22 0)) M hS10 (by decide) (ref := "NamedMovesModel") inX8_make_X8 (sE_21 G _ _) rfl 0 (by decide) (M.2.2.2.2.1 _ flX8_make_7) rfl rfl dX8_make_21 ?_
      refine x_iconst M dX8_make_24 ?_
      refine x_iald (c0 := 22) (t0 := 0) M hS10 (by decide) (hs_22 G _) rfl ⟨by decide, by decide⟩ (by decide) dX8_make_25 ?_
      refine x_icmp_lt (tgt := 33) M hx1 (hS10.inr _ _ _) dX8_make_26 (by decide) (fun hc => ?_) (fun hc => ?_)
      · have hf := ift hf hc
        refine x_iconst M dX8_make_33 ?_
        exact X8_make_b34_ok M hr x1 x2 0 w7 hx1 hx2 ⟨by decide, by decide⟩ _ _ hS10 _ (lv_sub hl0 [0, 1, 2] rfl) _ _ hf
      · have hf := iff_ hf hc
        refine x_iconst M dX8_make_29 ?_
        refine x_goto (tgt := 34) M dX8_make_30 (by decide) ?_
        exact X8_make_b34_ok M hr x1 x2 1 w7 hx1 hx2 ⟨by decide, by decide⟩ _ _ hS10 _ (lv_sub hl0 [0, 1, 2] rfl) _ _ hf
    · have hf := ift hf (Decidable.of_not_not hc)
      refine x_iconst M dX8_make_17 ?_
      exact x_iret M hr hf hS10 ⟨by decide, by decide⟩ dX8_make_18

/-! X8_told -/
set_option maxHeartbeats 4000000 in
set_option maxRecDepth 100000 in
theorem c_X8_told (l : Launch) {G : GG} {x0 : Int} (hx0 : InR x0) {w : Wd} {r : Int} {w' : Wd} (hf : X8_told x0 w = some (r, w')) : Met l yX8_told wsX8_told (rmk 0) (PcG G w [iV x0]) (QiG G r w') 0 0 (GA G) := by
  refine met_of (own := RX8) (by decide) rfl (Nat.le_of_ble_eq_true rfl) rfl ?_
  intro p e s m args below meth c M hr ls hl0 hS0
  have hl0 : lv_has ls 1 [(0, iV x0)] := hl0
  unfold X8_told at hf
  refine x_iload_n M hl0 dX8_told_0 0 rfl ?_
  refine x_bipush M dX8_told_1 rfl ?_
  refine x_icmp_ne (tgt := 12) M hx0 ⟨by decide, by decide⟩ dX8_told_3 (by decide) (fun hc => ?_) (fun hc => ?_)
  · have hf := iff_ hf hc
    refine x_iload_n M hl0 dX8_told_12 0 rfl ?_
    exact x_iret M hr hf hS0 hx0 dX8_told_13
  · have hf := ift hf (Decidable.of_not_not hc)
    refine x_sipush M dX8_told_6 rfl ?_
    refine x_goto (tgt := 13) M dX8_told_9 (by decide) ?_
    exact x_iret M hr hf hS0 ⟨by decide, by decide⟩ dX8_told_13

/-! X8_isRight -/
set_option maxHeartbeats 4000000 in
set_option maxRecDepth 100000 in
theorem c_X8_isRight (l : Launch) {G : GG} {x1 : Int} (hx1 : InR x1) {x2 : Int} (hx2 : InR x2) {x3 : Int} (hx3 : InR x3) {w : Wd} {r : Int} {w' : Wd} (hf : X8_isRight x1 x2 x3 w = some (r, w')) : Met l yX8_isRight wsX8_isRight (rmk 2) (PcG G w [.ref (G.1 21 0), iV x1, iV x2, iV x3]) (QiG G r w') 0 0 (GA G) := by
  refine met_of (own := RX8) (by decide) rfl (Nat.le_of_ble_eq_true rfl) rfl ?_
  intro p e s m args below meth c M hr ls hl0 hS0
  have hl0 : lv_has ls 4 [(0, .ref (G.1 21 0)), (1, iV x1), (2, iV x2), (3, iV x3)] := hl0
  unfold X8_isRight at hf
  refine x_iload_n M hl0 dX8_isRight_0 1 rfl ?_
  obtain ⟨r1, w2, hc3, hf⟩ := bdt hf
  refine x_callSi (As := [iV x1]) (rest := []) M hl0 hS0 (c_X8_isHook l  hx1 hc3) (va_cwS 1 M.2.2.2.2.1 gX8_isRight_X8_isHook rfl rfl rfl (by decide +kernel) ⟨Nat.le_of_ble_eq_true rfl, Nat.le_of_ble_eq_true rfl⟩) rfl (Nat.le_of_ble_eq_true rfl) dX8_isRight_1 rfl ⟨Nat.zero_le _, Nat.zero_le _⟩ (fun H locs hi4 hS5 => ?_)
  refine x_if_eq (tgt := 27) M hi4 dX8_isRight_4 (by decide) (fun hc => ?_) (fun hc => ?_)
  · have hf := ift hf hc
    refine x_iconst M dX8_isRight_27 ?_
    exact x_zret M hr hf hS5 (Or.inl rfl) dX8_isRight_28
  · have hf := iff_ hf hc
    refine x_iload_n M hl0 dX8_isRight_7 2 rfl ?_
    refine x_iconst M dX8_isRight_8 ?_
    refine x_iconst M dX8_isRight_9 ?_
    obtain ⟨r6, w7, hc8, hf⟩ := bdt hf
    refine x_callSi (As := [iV x2, iV 0, iV 1]) (rest := []) M hl0 hS5 (c_X8_in l  hx2 ⟨by decide, by decide⟩ ⟨by decide, by decide⟩ hc8) (va_cwS 3 M.2.2.2.2.1 gX8_isRight_X8_in rfl rfl rfl (by decide +kernel) ⟨Nat.le_of_ble_eq_true rfl, Nat.le_of_ble_eq_true rfl⟩) rfl (Nat.le_of_ble_eq_true rfl) dX8_isRight_10 rfl ⟨Nat.zero_le _, Nat.zero_le _⟩ (fun H locs hi9 hS10 => ?_)
    refine x_if_eq (tgt := 27) M hi9 dX8_isRight_13 (by decide) (fun hc => ?_) (fun hc => ?_)
    · have hf := ift hf hc
      refine x_iconst M dX8_isRight_27 ?_
      exact x_zret M hr hf hS10 (Or.inl rfl) dX8_isRight_28
    · have hf := iff_ hf hc
      refine x_iload_n M hl0 dX8_isRight_16 3 rfl ?_
      obtain ⟨r11, w12, hc13, hf⟩ := bdt hf
      refine x_callSi (As := [iV x3]) (rest := []) M hl0 hS10 (c_X8_isHook l  hx3 hc13) (va_cwS 1 M.2.2.2.2.1 gX8_isRight_X8_isHook rfl rfl rfl (by decide +kernel) ⟨Nat.le_of_ble_eq_true rfl, Nat.le_of_ble_eq_true rfl⟩) rfl (Nat.le_of_ble_eq_true rfl) dX8_isRight_17 rfl ⟨Nat.zero_le _, Nat.zero_le _⟩ (fun H locs hi14 hS15 => ?_)
      refine x_if_eq (tgt := 27) M hi14 dX8_isRight_20 (by decide) (fun hc => ?_) (fun hc => ?_)
      · have hf := ift hf hc
        refine x_iconst M dX8_isRight_27 ?_
        exact x_zret M hr hf hS15 (Or.inl rfl) dX8_isRight_28
      · have hf := iff_ hf hc
        refine x_iconst M dX8_isRight_23 ?_
        refine x_goto (tgt := 28) M dX8_isRight_24 (by decide) ?_
        exact x_zret M hr hf hS15 (Or.inr rfl) dX8_isRight_28

/-! X8_link -/
theorem flX8_link_7 : Cond.fieldLink RX8 7 "NamedMovesModel" "s" "[I" ∈ wsX8_link := by decide +kernel
theorem inX8_link_X8 : ∀ w ∈ u_ws RX8 TX8 12, w ∈ wsX8_link := by decide +kernel
set_option maxHeartbeats 4000000 in
set_option maxRecDepth 100000 in
theorem c_X8_link (l : Launch) {G : GG} {x1 : Int} (hx1 : InR x1) {x2 : Int} (hx2 : InR x2) {x3 : Int} (hx3 : InR x3) {w : Wd} {r : Int} {w' : Wd} (hf : X8_link x1 x2 x3 w = some (r, w')) : Met l yX8_link wsX8_link (rmk 4) (PcG G w [.ref (G.1 21 0), iV x1, iV x2, iV x3]) (QiG G r w') 0 0 (GA G) := by
  refine met_of (own := RX8) (by decide) rfl (Nat.le_of_ble_eq_true rfl) rfl ?_
  intro p e s m args below meth c M hr ls hl0 hS0
  have hl0 : lv_has ls 4 [(0, .ref (G.1 21 0)), (1, iV x1), (2, iV x2), (3, iV x3)] := hl0
  unfold X8_link at hf
  refine x_aload_n M hl0 dX8_link_0 0 rfl ?_
  refine x_iload_n M hl0 dX8_link_1 1 rfl ?_
  refine x_iload_n M hl0 dX8_link_2 2 rfl ?_
  refine x_iload_n M hl0 dX8_link_3 3 rfl ?_
  obtain ⟨r1, w2, hc3, hf⟩ := bdt hf
  refine x_callVi (c0 := 21) (t0 := 0) (As := [iV x1, iV x2, iV x3]) (rest := []) M hl0 hS0 (c_X8_isRight l  hx1 hx2 hx3 hc3) (cwV 3 M.2.2.2.2.1 gX8_link_X8_isRight rfl rfl rfl (by decide +kernel) ⟨Nat.le_of_ble_eq_true rfl, Nat.le_of_ble_eq_true rfl⟩) (by decide) (sE_21 G _ _) rfl rfl (Nat.le_of_ble_eq_true rfl) dX8_link_4 rfl ⟨Nat.zero_le _, Nat.zero_le _⟩ (fun H locs hi4 hS5 => ?_)
  refine x_if_ne (tgt := 12) M hi4 dX8_link_7 (by decide) (fun hc => ?_) (fun hc => ?_)
  · have hf := iff_ hf hc
    refine x_aload_n M hl0 dX8_link_12 0 rfl ?_
    refine x_get (c0 := 21) (t0 := 0) (v := .ref (G.1 22 0)) M hS5 (by decide) (ref := "NamedMovesModel") inX8_link_X8 (sE_21 G _ _) rfl 0 (by decide) (M.2.2.2.2.1 _ flX8_link_7) rfl rfl dX8_link_13 ?_
    refine x_bipush M dX8_link_16 rfl ?_
    refine x_iload_n M hl0 dX8_link_18 1 rfl ?_
    obtain ⟨g6, hf⟩ := gdt hf
    refine x_iadd M dX8_link_19 ?_
    obtain ⟨g7, hf⟩ := gdt hf
    refine x_iald (c0 := 22) (t0 := 0) M hS5 (by decide) (hs_22 G _) rfl g7 (by decide) dX8_link_20 ?_
    refine x_bipush M dX8_link_21 rfl ?_
    refine x_icmp_ne (tgt := 29) M (hS5.inr _ _ _) ⟨by decide, by decide⟩ dX8_link_23 (by decide) (fun hc => ?_) (fun hc => ?_)
    · have hf := iff_ hf hc
      refine x_aload_n M hl0 dX8_link_29 0 rfl ?_
      obtain ⟨r8, w9, hc10, hf⟩ := bdt hf
      refine x_callVv (c0 := 21) (t0 := 0) (As := []) (rest := []) M hl0 hS5 (c_X8_acts l   hc10) (cwV 0 M.2.2.2.2.1 gX8_link_X8_acts rfl rfl rfl (by decide +kernel) ⟨Nat.le_of_ble_eq_true rfl, Nat.le_of_ble_eq_true rfl⟩) (by decide) (sE_21 G _ _) rfl rfl (Nat.le_of_ble_eq_true rfl) dX8_link_30 rfl ⟨Nat.zero_le _, Nat.zero_le _⟩ (fun H locs hS12 => ?_)
      refine x_aload_n M hl0 dX8_link_33 0 rfl ?_
      refine x_bipush M dX8_link_34 rfl ?_
      refine x_iload_n M hl0 dX8_link_36 1 rfl ?_
      refine x_iadd M dX8_link_37 ?_
      obtain ⟨r13, w14, hc15, hf⟩ := bdt hf
      refine x_callVv (c0 := 21) (t0 := 0) (As := [iV (9 + x1)]) (rest := []) M hl0 hS12 (c_X8_reads l  g6 hc15) (cwV 1 M.2.2.2.2.1 gX8_link_X8_reads rfl rfl rfl (by decide +kernel) ⟨Nat.le_of_ble_eq_true rfl, Nat.le_of_ble_eq_true rfl⟩) (by decide) (sE_21 G _ _) rfl rfl (Nat.le_of_ble_eq_true rfl) dX8_link_38 rfl ⟨Nat.zero_le _, Nat.zero_le _⟩ (fun H locs hS17 => ?_)
      refine x_aload_n M hl0 dX8_link_41 0 rfl ?_
      refine x_bipush M dX8_link_42 rfl ?_
      refine x_iload_n M hl0 dX8_link_44 3 rfl ?_
      obtain ⟨g18, hf⟩ := gdt hf
      refine x_iadd M dX8_link_45 ?_
      obtain ⟨r19, w20, hc21, hf⟩ := bdt hf
      refine x_callVv (c0 := 21) (t0 := 0) (As := [iV (9 + x3)]) (rest := []) M hl0 hS17 (c_X8_reads l  g18 hc21) (cwV 1 M.2.2.2.2.1 gX8_link_X8_reads rfl rfl rfl (by decide +kernel) ⟨Nat.le_of_ble_eq_true rfl, Nat.le_of_ble_eq_true rfl⟩) (by decide) (sE_21 G _ _) rfl rfl (Nat.le_of_ble_eq_true rfl) dX8_link_46 rfl ⟨Nat.zero_le _, Nat.zero_le _⟩ (fun H locs hS23 => ?_)
      refine x_aload_n M hl0 dX8_link_49 0 rfl ?_
      refine x_get (c0 := 21) (t0 := 0) (v := .ref (G.1 22 0)) M hS23 (by decide) (ref := "NamedMovesModel") inX8_link_X8 (sE_21 G _ _) rfl 0 (by decide) (M.2.2.2.2.1 _ flX8_link_7) rfl rfl dX8_link_50 ?_
      refine x_sipush M dX8_link_53 rfl ?_
      refine x_iconst M dX8_link_56 ?_
      refine x_aload_n M hl0 dX8_link_57 0 rfl ?_
      refine x_get (c0 := 21) (t0 := 0) (v := .ref (G.1 22 0)) M hS23 (by decide) (ref := "NamedMovesModel") inX8_link_X8 (sE_21 G _ _) rfl 0 (by decide) (M.2.2.2.2.1 _ flX8_link_7) rfl rfl dX8_link_58 ?_
      refine x_bipush M dX8_link_61 rfl ?_
      refine x_iload_n M hl0 dX8_link_63 1 rfl ?_
      refine x_iadd M dX8_link_64 ?_
      refine x_iald (c0 := 22) (t0 := 0) M hS23 (by decide) (hs_22 G _) rfl g7 (by decide) dX8_link_65 ?_
      obtain ⟨r24, w25, hc26, hf⟩ := bdt hf
      refine x_callSi (As := [iV (w20 22 0 (9 + x1).toNat)]) (rest := [iV 5, iV 185, .ref (G.1 22 0)]) M hl0 hS23 (c_X8_cell l  (hS23.inr _ _ _) hc26) (va_cwS 1 M.2.2.2.2.1 gX8_link_X8_cell rfl rfl rfl (by decide +kernel) ⟨Nat.le_of_ble_eq_true rfl, Nat.le_of_ble_eq_true rfl⟩) rfl (Nat.le_of_ble_eq_true rfl) dX8_link_66 rfl ⟨Nat.zero_le _, Nat.zero_le _⟩ (fun H locs hi27 hS28 => ?_)
      obtain ⟨g29, hf⟩ := gdt hf
      refine x_imul M dX8_link_69 ?_
      obtain ⟨g30, hf⟩ := gdt hf
      refine x_iadd M dX8_link_70 ?_
      refine x_iconst M dX8_link_71 ?_
      obtain ⟨g31, hf⟩ := gdt hf
      refine x_iadd M dX8_link_72 ?_
      refine x_iload_n M hl0 dX8_link_73 2 rfl ?_
      obtain ⟨g32, hf⟩ := gdt hf
      refine x_iadd M dX8_link_74 ?_
      refine x_aload_n M hl0 dX8_link_75 0 rfl ?_
      refine x_get (c0 := 21) (t0 := 0) (v := .ref (G.1 22 0)) M hS28 (by decide) (ref := "NamedMovesModel") inX8_link_X8 (sE_21 G _ _) rfl 0 (by decide) (M.2.2.2.2.1 _ flX8_link_7) rfl rfl dX8_link_76 ?_
      refine x_bipush M dX8_link_79 rfl ?_
      refine x_iload_n M hl0 dX8_link_81 3 rfl ?_
      refine x_iadd M dX8_link_82 ?_
      obtain ⟨g33, hf⟩ := gdt hf
      refine x_iald (c0 := 22) (t0 := 0) M hS28 (by decide) (hs_22 G _) rfl g33 (by decide) dX8_link_83 ?_
      obtain ⟨g34, hf⟩ := gdt hf
      refine x_iast (c0 := 22) (t0 := 0) M hS28 (by decide) (hs_22 G _) rfl g34 (by decide) (hS28.inr _ _ _) dX8_link_84 (fun H locs hS35 => ?_)
      refine x_aload_n M hl0 dX8_link_85 0 rfl ?_
      refine x_get (c0 := 21) (t0 := 0) (v := .ref (G.1 22 0)) M hS35 (by decide) (ref := "NamedMovesModel") inX8_link_X8 (sE_21 G _ _) rfl 0 (by decide) (M.2.2.2.2.1 _ flX8_link_7) rfl rfl dX8_link_86 ?_
      refine x_bipush M dX8_link_89 rfl ?_
      refine x_iload_n M hl0 dX8_link_91 3 rfl ?_
      refine x_iadd M dX8_link_92 ?_
      refine x_iald (c0 := 22) (t0 := 0) M hS35 (by decide) (hs_22 G _) rfl g33 (by decide) dX8_link_93 ?_
      obtain ⟨r36, w37, hc38, hf⟩ := bdt hf
      refine x_callSi (As := [iV ((up w25 22 0 (((185 + (5 * r24)) + 1) + x2).toNat (w25 22 0 (9 + x3).toNat)) 22 0 (9 + x3).toNat)]) (rest := []) M hl0 hS35 (c_X8_told l  (hS35.inr _ _ _) hc38) (va_cwS 1 M.2.2.2.2.1 gX8_link_X8_told rfl rfl rfl (by decide +kernel) ⟨Nat.le_of_ble_eq_true rfl, Nat.le_of_ble_eq_true rfl⟩) rfl (Nat.le_of_ble_eq_true rfl) dX8_link_94 rfl ⟨Nat.zero_le _, Nat.zero_le _⟩ (fun H locs hi39 hS40 => ?_)
      exact x_iret M hr hf hS40 hi39 dX8_link_97
    · have hf := ift hf (Decidable.of_not_not hc)
      refine x_bipush M dX8_link_26 rfl ?_
      exact x_iret M hr hf hS5 ⟨by decide, by decide⟩ dX8_link_28
  · have hf := ift hf (Decidable.of_not_not hc)
    refine x_iconst M dX8_link_10 ?_
    exact x_iret M hr hf hS5 ⟨by decide, by decide⟩ dX8_link_11

/-! X8_follow -/
theorem flX8_follow_7 : Cond.fieldLink RX8 7 "NamedMovesModel" "s" "[I" ∈ wsX8_follow := by decide +kernel
theorem inX8_follow_X8 : ∀ w ∈ u_ws RX8 TX8 12, w ∈ wsX8_follow := by decide +kernel
set_option maxHeartbeats 4000000 in
set_option maxRecDepth 100000 in
theorem c_X8_follow (l : Launch) {G : GG} {x1 : Int} (hx1 : InR x1) {x2 : Int} (hx2 : InR x2) {x3 : Int} (hx3 : InR x3) {w : Wd} {r : Int} {w' : Wd} (hf : X8_follow x1 x2 x3 w = some (r, w')) : Met l yX8_follow wsX8_follow (rmk 4) (PcG G w [.ref (G.1 21 0), iV x1, iV x2, iV x3]) (QiG G r w') 0 0 (GA G) := by
  refine met_of (own := RX8) (by decide) rfl (Nat.le_of_ble_eq_true rfl) rfl ?_
  intro p e s m args below meth c M hr ls hl0 hS0
  have hl0 : lv_has ls 5 [(0, .ref (G.1 21 0)), (1, iV x1), (2, iV x2), (3, iV x3)] := hl0
  unfold X8_follow at hf
  refine x_aload_n M hl0 dX8_follow_0 0 rfl ?_
  refine x_iload_n M hl0 dX8_follow_1 1 rfl ?_
  refine x_iload_n M hl0 dX8_follow_2 2 rfl ?_
  refine x_iload_n M hl0 dX8_follow_3 3 rfl ?_
  obtain ⟨r1, w2, hc3, hf⟩ := bdt hf
  refine x_callVi (c0 := 21) (t0 := 0) (As := [iV x1, iV x2, iV x3]) (rest := []) M hl0 hS0 (c_X8_isRight l  hx1 hx2 hx3 hc3) (cwV 3 M.2.2.2.2.1 gX8_follow_X8_isRight rfl rfl rfl (by decide +kernel) ⟨Nat.le_of_ble_eq_true rfl, Nat.le_of_ble_eq_true rfl⟩) (by decide) (sE_21 G _ _) rfl rfl (Nat.le_of_ble_eq_true rfl) dX8_follow_4 rfl ⟨Nat.zero_le _, Nat.zero_le _⟩ (fun H locs hi4 hS5 => ?_)
  refine x_if_ne (tgt := 12) M hi4 dX8_follow_7 (by decide) (fun hc => ?_) (fun hc => ?_)
  · have hf := iff_ hf hc
    refine x_aload_n M hl0 dX8_follow_12 0 rfl ?_
    refine x_get (c0 := 21) (t0 := 0) (v := .ref (G.1 22 0)) M hS5 (by decide) (ref := "NamedMovesModel") inX8_follow_X8 (sE_21 G _ _) rfl 0 (by decide) (M.2.2.2.2.1 _ flX8_follow_7) rfl rfl dX8_follow_13 ?_
    refine x_bipush M dX8_follow_16 rfl ?_
    refine x_iload_n M hl0 dX8_follow_18 1 rfl ?_
    obtain ⟨g6, hf⟩ := gdt hf
    refine x_iadd M dX8_follow_19 ?_
    obtain ⟨g7, hf⟩ := gdt hf
    refine x_iald (c0 := 22) (t0 := 0) M hS5 (by decide) (hs_22 G _) rfl g7 (by decide) dX8_follow_20 ?_
    refine x_bipush M dX8_follow_21 rfl ?_
    refine x_icmp_ne (tgt := 29) M (hS5.inr _ _ _) ⟨by decide, by decide⟩ dX8_follow_23 (by decide) (fun hc => ?_) (fun hc => ?_)
    · have hf := iff_ hf hc
      refine x_aload_n M hl0 dX8_follow_29 0 rfl ?_
      obtain ⟨r8, w9, hc10, hf⟩ := bdt hf
      refine x_callVv (c0 := 21) (t0 := 0) (As := []) (rest := []) M hl0 hS5 (c_X8_acts l   hc10) (cwV 0 M.2.2.2.2.1 gX8_follow_X8_acts rfl rfl rfl (by decide +kernel) ⟨Nat.le_of_ble_eq_true rfl, Nat.le_of_ble_eq_true rfl⟩) (by decide) (sE_21 G _ _) rfl rfl (Nat.le_of_ble_eq_true rfl) dX8_follow_30 rfl ⟨Nat.zero_le _, Nat.zero_le _⟩ (fun H locs hS12 => ?_)
      refine x_aload_n M hl0 dX8_follow_33 0 rfl ?_
      refine x_bipush M dX8_follow_34 rfl ?_
      refine x_iload_n M hl0 dX8_follow_36 1 rfl ?_
      refine x_iadd M dX8_follow_37 ?_
      obtain ⟨r13, w14, hc15, hf⟩ := bdt hf
      refine x_callVv (c0 := 21) (t0 := 0) (As := [iV (9 + x1)]) (rest := []) M hl0 hS12 (c_X8_reads l  g6 hc15) (cwV 1 M.2.2.2.2.1 gX8_follow_X8_reads rfl rfl rfl (by decide +kernel) ⟨Nat.le_of_ble_eq_true rfl, Nat.le_of_ble_eq_true rfl⟩) (by decide) (sE_21 G _ _) rfl rfl (Nat.le_of_ble_eq_true rfl) dX8_follow_38 rfl ⟨Nat.zero_le _, Nat.zero_le _⟩ (fun H locs hS17 => ?_)
      refine x_sipush M dX8_follow_41 rfl ?_
      refine x_iconst M dX8_follow_44 ?_
      refine x_aload_n M hl0 dX8_follow_45 0 rfl ?_
      refine x_get (c0 := 21) (t0 := 0) (v := .ref (G.1 22 0)) M hS17 (by decide) (ref := "NamedMovesModel") inX8_follow_X8 (sE_21 G _ _) rfl 0 (by decide) (M.2.2.2.2.1 _ flX8_follow_7) rfl rfl dX8_follow_46 ?_
      refine x_bipush M dX8_follow_49 rfl ?_
      refine x_iload_n M hl0 dX8_follow_51 1 rfl ?_
      refine x_iadd M dX8_follow_52 ?_
      refine x_iald (c0 := 22) (t0 := 0) M hS17 (by decide) (hs_22 G _) rfl g7 (by decide) dX8_follow_53 ?_
      obtain ⟨r18, w19, hc20, hf⟩ := bdt hf
      refine x_callSi (As := [iV (w14 22 0 (9 + x1).toNat)]) (rest := [iV 5, iV 185]) M hl0 hS17 (c_X8_cell l  (hS17.inr _ _ _) hc20) (va_cwS 1 M.2.2.2.2.1 gX8_follow_X8_cell rfl rfl rfl (by decide +kernel) ⟨Nat.le_of_ble_eq_true rfl, Nat.le_of_ble_eq_true rfl⟩) rfl (Nat.le_of_ble_eq_true rfl) dX8_follow_54 rfl ⟨Nat.zero_le _, Nat.zero_le _⟩ (fun H locs hi21 hS22 => ?_)
      obtain ⟨g23, hf⟩ := gdt hf
      refine x_imul M dX8_follow_57 ?_
      obtain ⟨g24, hf⟩ := gdt hf
      refine x_iadd M dX8_follow_58 ?_
      refine x_iconst M dX8_follow_59 ?_
      obtain ⟨g25, hf⟩ := gdt hf
      refine x_iadd M dX8_follow_60 ?_
      refine x_iload_n M hl0 dX8_follow_61 2 rfl ?_
      obtain ⟨g26, hf⟩ := gdt hf
      refine x_iadd M dX8_follow_62 ?_
      refine x_istore M hl0 dX8_follow_63 (by decide) [(4, iV (((185 + (5 * r18)) + 1) + x2)), (0, .ref (G.1 21 0)), (1, iV x1), (2, iV x2), (3, iV x3)] rfl (fun ls hl27 => ?_)
      refine x_aload_n M hl27 dX8_follow_65 1 rfl ?_
      refine x_iload M hl27 dX8_follow_66 0 rfl ?_
      obtain ⟨r28, w29, hc30, hf⟩ := bdt hf
      refine x_callVv (c0 := 21) (t0 := 0) (As := [iV (((185 + (5 * r18)) + 1) + x2)]) (rest := []) M hl27 hS22 (c_X8_reads l  g26 hc30) (cwV 1 M.2.2.2.2.1 gX8_follow_X8_reads rfl rfl rfl (by decide +kernel) ⟨Nat.le_of_ble_eq_true rfl, Nat.le_of_ble_eq_true rfl⟩) (by decide) (sE_21 G _ _) rfl rfl (Nat.le_of_ble_eq_true rfl) dX8_follow_68 rfl ⟨Nat.zero_le _, Nat.zero_le _⟩ (fun H locs hS32 => ?_)
      refine x_aload_n M hl27 dX8_follow_71 1 rfl ?_
      refine x_get (c0 := 21) (t0 := 0) (v := .ref (G.1 22 0)) M hS32 (by decide) (ref := "NamedMovesModel") inX8_follow_X8 (sE_21 G _ _) rfl 0 (by decide) (M.2.2.2.2.1 _ flX8_follow_7) rfl rfl dX8_follow_72 ?_
      refine x_bipush M dX8_follow_75 rfl ?_
      refine x_iload_n M hl27 dX8_follow_77 4 rfl ?_
      obtain ⟨g33, hf⟩ := gdt hf
      refine x_iadd M dX8_follow_78 ?_
      refine x_aload_n M hl27 dX8_follow_79 1 rfl ?_
      refine x_get (c0 := 21) (t0 := 0) (v := .ref (G.1 22 0)) M hS32 (by decide) (ref := "NamedMovesModel") inX8_follow_X8 (sE_21 G _ _) rfl 0 (by decide) (M.2.2.2.2.1 _ flX8_follow_7) rfl rfl dX8_follow_80 ?_
      refine x_iload M hl27 dX8_follow_83 0 rfl ?_
      obtain ⟨g34, hf⟩ := gdt hf
      refine x_iald (c0 := 22) (t0 := 0) M hS32 (by decide) (hs_22 G _) rfl g34 (by decide) dX8_follow_85 ?_
      obtain ⟨g35, hf⟩ := gdt hf
      refine x_iast (c0 := 22) (t0 := 0) M hS32 (by decide) (hs_22 G _) rfl g35 (by decide) (hS32.inr _ _ _) dX8_follow_86 (fun H locs hS36 => ?_)
      refine x_aload_n M hl27 dX8_follow_87 1 rfl ?_
      refine x_get (c0 := 21) (t0 := 0) (v := .ref (G.1 22 0)) M hS36 (by decide) (ref := "NamedMovesModel") inX8_follow_X8 (sE_21 G _ _) rfl 0 (by decide) (M.2.2.2.2.1 _ flX8_follow_7) rfl rfl dX8_follow_88 ?_
      refine x_iload M hl27 dX8_follow_91 0 rfl ?_
      refine x_iald (c0 := 22) (t0 := 0) M hS36 (by decide) (hs_22 G _) rfl g34 (by decide) dX8_follow_93 ?_
      obtain ⟨r37, w38, hc39, hf⟩ := bdt hf
      refine x_callSi (As := [iV ((up w29 22 0 (9 + x3).toNat (w29 22 0 (((185 + (5 * r18)) + 1) + x2).toNat)) 22 0 (((185 + (5 * r18)) + 1) + x2).toNat)]) (rest := []) M hl27 hS36 (c_X8_told l  (hS36.inr _ _ _) hc39) (va_cwS 1 M.2.2.2.2.1 gX8_follow_X8_told rfl rfl rfl (by decide +kernel) ⟨Nat.le_of_ble_eq_true rfl, Nat.le_of_ble_eq_true rfl⟩) rfl (Nat.le_of_ble_eq_true rfl) dX8_follow_94 rfl ⟨Nat.zero_le _, Nat.zero_le _⟩ (fun H locs hi40 hS41 => ?_)
      exact x_iret M hr hf hS41 hi40 dX8_follow_97
    · have hf := ift hf (Decidable.of_not_not hc)
      refine x_bipush M dX8_follow_26 rfl ?_
      exact x_iret M hr hf hS5 ⟨by decide, by decide⟩ dX8_follow_28
  · have hf := ift hf (Decidable.of_not_not hc)
    refine x_iconst M dX8_follow_10 ?_
    exact x_iret M hr hf hS5 ⟨by decide, by decide⟩ dX8_follow_11

/-! X8_drop -/
theorem flX8_drop_7 : Cond.fieldLink RX8 7 "NamedMovesModel" "s" "[I" ∈ wsX8_drop := by decide +kernel
theorem inX8_drop_X8 : ∀ w ∈ u_ws RX8 TX8 12, w ∈ wsX8_drop := by decide +kernel
set_option maxHeartbeats 4000000 in
set_option maxRecDepth 100000 in
theorem c_X8_drop (l : Launch) {G : GG} {x1 : Int} (hx1 : InR x1) {w : Wd} {r : Int} {w' : Wd} (hf : X8_drop x1 w = some (r, w')) : Met l yX8_drop wsX8_drop (rmk 2) (PcG G w [.ref (G.1 21 0), iV x1]) (QiG G r w') 0 0 (GA G) := by
  refine met_of (own := RX8) (by decide) rfl (Nat.le_of_ble_eq_true rfl) rfl ?_
  intro p e s m args below meth c M hr ls hl0 hS0
  have hl0 : lv_has ls 3 [(0, .ref (G.1 21 0)), (1, iV x1)] := hl0
  unfold X8_drop at hf
  refine x_iload_n M hl0 dX8_drop_0 1 rfl ?_
  obtain ⟨r1, w2, hc3, hf⟩ := bdt hf
  refine x_callSi (As := [iV x1]) (rest := []) M hl0 hS0 (c_X8_isHook l  hx1 hc3) (va_cwS 1 M.2.2.2.2.1 gX8_drop_X8_isHook rfl rfl rfl (by decide +kernel) ⟨Nat.le_of_ble_eq_true rfl, Nat.le_of_ble_eq_true rfl⟩) rfl (Nat.le_of_ble_eq_true rfl) dX8_drop_1 rfl ⟨Nat.zero_le _, Nat.zero_le _⟩ (fun H locs hi4 hS5 => ?_)
  refine x_if_ne (tgt := 9) M hi4 dX8_drop_4 (by decide) (fun hc => ?_) (fun hc => ?_)
  · have hf := iff_ hf hc
    refine x_aload_n M hl0 dX8_drop_9 0 rfl ?_
    obtain ⟨r6, w7, hc8, hf⟩ := bdt hf
    refine x_callVv (c0 := 21) (t0 := 0) (As := []) (rest := []) M hl0 hS5 (c_X8_acts l   hc8) (cwV 0 M.2.2.2.2.1 gX8_drop_X8_acts rfl rfl rfl (by decide +kernel) ⟨Nat.le_of_ble_eq_true rfl, Nat.le_of_ble_eq_true rfl⟩) (by decide) (sE_21 G _ _) rfl rfl (Nat.le_of_ble_eq_true rfl) dX8_drop_10 rfl ⟨Nat.zero_le _, Nat.zero_le _⟩ (fun H locs hS10 => ?_)
    refine x_aload_n M hl0 dX8_drop_13 0 rfl ?_
    refine x_get (c0 := 21) (t0 := 0) (v := .ref (G.1 22 0)) M hS10 (by decide) (ref := "NamedMovesModel") inX8_drop_X8 (sE_21 G _ _) rfl 0 (by decide) (M.2.2.2.2.1 _ flX8_drop_7) rfl rfl dX8_drop_14 ?_
    refine x_bipush M dX8_drop_17 rfl ?_
    refine x_iload_n M hl0 dX8_drop_19 1 rfl ?_
    obtain ⟨g11, hf⟩ := gdt hf
    refine x_iadd M dX8_drop_20 ?_
    obtain ⟨g12, hf⟩ := gdt hf
    refine x_iald (c0 := 22) (t0 := 0) M hS10 (by decide) (hs_22 G _) rfl g12 (by decide) dX8_drop_21 ?_
    refine x_istore_n M hl0 dX8_drop_22 (by decide) [(2, iV (w7 22 0 (9 + x1).toNat)), (0, .ref (G.1 21 0)), (1, iV x1)] rfl (fun ls hl13 => ?_)
    refine x_aload_n M hl13 dX8_drop_23 1 rfl ?_
    refine x_get (c0 := 21) (t0 := 0) (v := .ref (G.1 22 0)) M hS10 (by decide) (ref := "NamedMovesModel") inX8_drop_X8 (sE_21 G _ _) rfl 0 (by decide) (M.2.2.2.2.1 _ flX8_drop_7) rfl rfl dX8_drop_24 ?_
    refine x_bipush M dX8_drop_27 rfl ?_
    refine x_iload_n M hl13 dX8_drop_29 2 rfl ?_
    refine x_iadd M dX8_drop_30 ?_
    refine x_bipush M dX8_drop_31 rfl ?_
    refine x_iast (c0 := 22) (t0 := 0) M hS10 (by decide) (hs_22 G _) rfl g12 (by decide) ⟨by decide, by decide⟩ dX8_drop_33 (fun H locs hS14 => ?_)
    refine x_iload_n M hl13 dX8_drop_34 0 rfl ?_
    obtain ⟨r15, w16, hc17, hf⟩ := bdt hf
    refine x_callSi (As := [iV (w7 22 0 (9 + x1).toNat)]) (rest := []) M hl13 hS14 (c_X8_told l  (hS10.inr _ _ _) hc17) (va_cwS 1 M.2.2.2.2.1 gX8_drop_X8_told rfl rfl rfl (by decide +kernel) ⟨Nat.le_of_ble_eq_true rfl, Nat.le_of_ble_eq_true rfl⟩) rfl (Nat.le_of_ble_eq_true rfl) dX8_drop_35 rfl ⟨Nat.zero_le _, Nat.zero_le _⟩ (fun H locs hi18 hS19 => ?_)
    exact x_iret M hr hf hS19 hi18 dX8_drop_38
  · have hf := ift hf (Decidable.of_not_not hc)
    refine x_iconst M dX8_drop_7 ?_
    exact x_iret M hr hf hS5 ⟨by decide, by decide⟩ dX8_drop_8

/-! X8_begin -/
theorem flX8_begin_7 : Cond.fieldLink RX8 7 "NamedMovesModel" "s" "[I" ∈ wsX8_begin := by decide +kernel
theorem inX8_begin_X8 : ∀ w ∈ u_ws RX8 TX8 12, w ∈ wsX8_begin := by decide +kernel
set_option maxHeartbeats 4000000 in
set_option maxRecDepth 100000 in
theorem c_X8_begin (l : Launch) {G : GG} {w : Wd} {r : Int} {w' : Wd} (hf : X8_begin w = some (r, w')) : Met l yX8_begin wsX8_begin (rmk 5) (PcG G w [.ref (G.1 21 0)]) (QiG G r w') 0 0 (GA G) := by
  refine met_of (own := RX8) (by decide) rfl (Nat.le_of_ble_eq_true rfl) rfl ?_
  intro p e s m args below meth c M hr ls hl0 hS0
  have hl0 : lv_has ls 1 [(0, .ref (G.1 21 0))] := hl0
  unfold X8_begin at hf
  refine x_aload_n M hl0 dX8_begin_0 0 rfl ?_
  obtain ⟨r1, w2, hc3, hf⟩ := bdt hf
  refine x_callVi (c0 := 21) (t0 := 0) (As := []) (rest := []) M hl0 hS0 (c_X8_isMoving l   hc3) (cwV 0 M.2.2.2.2.1 gX8_begin_X8_isMoving rfl rfl rfl (by decide +kernel) ⟨Nat.le_of_ble_eq_true rfl, Nat.le_of_ble_eq_true rfl⟩) (by decide) (sE_21 G _ _) rfl rfl (Nat.le_of_ble_eq_true rfl) dX8_begin_1 rfl ⟨Nat.zero_le _, Nat.zero_le _⟩ (fun H locs hi4 hS5 => ?_)
  refine x_if_eq (tgt := 10) M hi4 dX8_begin_4 (by decide) (fun hc => ?_) (fun hc => ?_)
  · have hf := ift hf hc
    refine x_aload_n M hl0 dX8_begin_10 0 rfl ?_
    obtain ⟨r6, w7, hc8, hf⟩ := bdt hf
    refine x_callVv (c0 := 21) (t0 := 0) (As := []) (rest := []) M hl0 hS5 (c_X8_acts l   hc8) (cwV 0 M.2.2.2.2.1 gX8_begin_X8_acts rfl rfl rfl (by decide +kernel) ⟨Nat.le_of_ble_eq_true rfl, Nat.le_of_ble_eq_true rfl⟩) (by decide) (sE_21 G _ _) rfl rfl (Nat.le_of_ble_eq_true rfl) dX8_begin_11 rfl ⟨Nat.zero_le _, Nat.zero_le _⟩ (fun H locs hS10 => ?_)
    refine x_aload_n M hl0 dX8_begin_14 0 rfl ?_
    obtain ⟨r11, w12, hc13, hf⟩ := bdt hf
    refine x_callVv (c0 := 21) (t0 := 0) (As := []) (rest := []) M hl0 hS10 (c_X8_begins l   hc13) (cwV 0 M.2.2.2.2.1 gX8_begin_X8_begins rfl rfl rfl (by decide +kernel) ⟨Nat.le_of_ble_eq_true rfl, Nat.le_of_ble_eq_true rfl⟩) (by decide) (sE_21 G _ _) rfl rfl (Nat.le_of_ble_eq_true rfl) dX8_begin_15 rfl ⟨Nat.zero_le _, Nat.zero_le _⟩ (fun H locs hS15 => ?_)
    refine x_aload_n M hl0 dX8_begin_18 0 rfl ?_
    refine x_get (c0 := 21) (t0 := 0) (v := .ref (G.1 22 0)) M hS15 (by decide) (ref := "NamedMovesModel") inX8_begin_X8 (sE_21 G _ _) rfl 0 (by decide) (M.2.2.2.2.1 _ flX8_begin_7) rfl rfl dX8_begin_19 ?_
    refine x_bipush M dX8_begin_22 rfl ?_
    refine x_iald (c0 := 22) (t0 := 0) M hS15 (by decide) (hs_22 G _) rfl ⟨by decide, by decide⟩ (by decide) dX8_begin_24 ?_
    exact x_iret M hr hf hS15 (hS15.inr _ _ _) dX8_begin_25
  · have hf := iff_ hf hc
    refine x_bipush M dX8_begin_7 rfl ?_
    exact x_iret M hr hf hS5 ⟨by decide, by decide⟩ dX8_begin_9

end
