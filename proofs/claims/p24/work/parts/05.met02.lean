section
variable {p : Program} {l : Launch} {e : Env} {s : State} {m : MethodId} {args : Array Value} {below : List Frame} {meth : Method} {c : Code} {G : GG}
/-! X5_makeThing -/
theorem flX5_makeThing_18 : Cond.fieldLink RX5 18 "NamedMoves$Store" "copies" "LNamedMoves$Copies;" ∈ wsX5_makeThing := by decide +kernel
theorem flX5_makeThing_29 : Cond.fieldLink RX5 29 "NamedMoves$Store" "heavyBound" "I" ∈ wsX5_makeThing := by decide +kernel
theorem flX5_makeThing_52 : Cond.fieldLink RX5 52 "NamedMoves$Store" "made" "I" ∈ wsX5_makeThing := by decide +kernel
theorem flX5_makeThing_55 : Cond.fieldLink RX5 55 "NamedMoves$Store" "moving" "Z" ∈ wsX5_makeThing := by decide +kernel
theorem flX5_makeThing_62 : Cond.fieldLink RX5 62 "NamedMoves$Store" "taken" "I" ∈ wsX5_makeThing := by decide +kernel
theorem flX5_makeThing_9 : Cond.fieldLink RX5 9 "NamedMoves$Store" "hooks" "[I" ∈ wsX5_makeThing := by decide +kernel
theorem inX5_makeThing_X5 : ∀ w ∈ u_ws RX5 TX5 10, w ∈ wsX5_makeThing := by decide +kernel
theorem iniX5_makeThing_X7 : Cond.initialized RX7 ∈ wsX5_makeThing := by decide +kernel
theorem stX5_makeThing_X7_isHook : Cond.static yX7_isHook ∈ wsX5_makeThing := by decide +kernel
set_option maxHeartbeats 4000000 in
set_option maxRecDepth 100000 in
theorem X5_makeThing_b124_ok (M : MC p s m args meth c cX5_makeThing 5 RX5 wsX5_makeThing G) (hr : meth.sig.returnType = (some .int)) {t : Nat} (ht : t < 8) : ∀ x2 : Int, ∀ x4 : Int, ∀ w : Wd, InR x2 → InR x4 → ∀ (H : Heap) (locs : List Loc), ST G s w H locs → ∀ ls : Array Slot, lv_has ls 5 [(0, .ref (G.1 0 t)), (2, iV x2), (4, iV x4)] → ∀ (r : Int) (w' : Wd), X5_makeThing_b124 t x2 x4 w = some (r, w') → W p l e (rmk 4) s m args below meth c H locs 0 0 (MQ below (QiG G r w') args s 0 0 (GA G)) (F0 m 124 ls []) := by
  intro x2 x4 w hx2 hx4 H locs hS0 ls hl0 r w' hf
  unfold X5_makeThing_b124 at hf
  refine x_aload_n M hl0 dX5_makeThing_124 0 rfl ?_
  refine x_get (c0 := 0) (t0 := t) (v := .ref (G.1 1 t)) M hS0 (Or.inl ⟨by decide, ht⟩) (ref := "NamedMoves$Store") inX5_makeThing_X5 (sE_0 G _ _) rfl 0 (by decide) (M.2.2.2.2.1 _ flX5_makeThing_9) rfl rfl dX5_makeThing_125 ?_
  refine x_iload_n M hl0 dX5_makeThing_128 1 rfl ?_
  refine x_iload M hl0 dX5_makeThing_129 2 rfl ?_
  obtain ⟨g18, hf⟩ := gdt hf
  refine x_iast (c0 := 1) (t0 := t) M hS0 (Or.inl ⟨by decide, ht⟩) (hs_1 G _) rfl g18 (by decide) hx4 dX5_makeThing_131 (fun H locs hS19 => ?_)
  refine x_aload_n M hl0 dX5_makeThing_132 0 rfl ?_
  refine x_dup M dX5_makeThing_133 rfl ?_
  refine x_get (c0 := 0) (t0 := t) (v := iV ((up w 1 t x2.toNat x4) 0 t 1)) M hS19 (Or.inl ⟨by decide, ht⟩) (ref := "NamedMoves$Store") inX5_makeThing_X5 (sE_0 G _ _) rfl 4 (by decide) (M.2.2.2.2.1 _ flX5_makeThing_52) rfl rfl dX5_makeThing_134 ?_
  refine x_iconst M dX5_makeThing_137 ?_
  obtain ⟨g20, hf⟩ := gdt hf
  refine x_iadd M dX5_makeThing_138 ?_
  refine x_put (c0 := 0) (t0 := t) M hS19 (Or.inl ⟨by decide, ht⟩) (ref := "NamedMoves$Store") inX5_makeThing_X5 tyX5 tyX5_ok nmX5 (sE_0 G _ _) rfl 4 (by decide) (M.2.2.2.2.1 _ flX5_makeThing_52) rfl rfl (ty := tyX5 4) g20 (tyX5_ok 4 (by decide)) rfl rfl (by simp) 1 (pset_0_1 G _ _ _) dX5_makeThing_139 (fun H locs hS21 => ?_)
  refine x_aload_n M hl0 dX5_makeThing_142 0 rfl ?_
  refine x_get (c0 := 0) (t0 := t) (v := iV ((up (up w 1 t x2.toNat x4) 0 t 1 (((up w 1 t x2.toNat x4) 0 t 1) + 1)) 0 t 1)) M hS21 (Or.inl ⟨by decide, ht⟩) (ref := "NamedMoves$Store") inX5_makeThing_X5 (sE_0 G _ _) rfl 4 (by decide) (M.2.2.2.2.1 _ flX5_makeThing_52) rfl rfl dX5_makeThing_143 ?_
  refine x_iconst M dX5_makeThing_146 ?_
  obtain ⟨g22, hf⟩ := gdt hf
  refine x_isub M dX5_makeThing_147 ?_
  exact x_iret M hr hf hS21 g22 dX5_makeThing_148

set_option maxHeartbeats 4000000 in
set_option maxRecDepth 100000 in
theorem X5_makeThing_b54_ok (M : MC p s m args meth c cX5_makeThing 5 RX5 wsX5_makeThing G) (hr : meth.sig.returnType = (some .int)) {t : Nat} (ht : t < 8) : ∀ x1 : Int, ∀ x2 : Int, ∀ x3 : Int, ∀ s0 : Int, ∀ w : Wd, InR x1 → InR x2 → InR x3 → InR s0 → ∀ (H : Heap) (locs : List Loc), ST G s w H locs → ∀ ls : Array Slot, lv_has ls 5 [(0, .ref (G.1 0 t)), (1, iV x1), (2, iV x2), (3, iV x3)] → ∀ (r : Int) (w' : Wd), X5_makeThing_b54 t x1 x2 x3 s0 w = some (r, w') → W p l e (rmk 4) s m args below meth c H locs 0 0 (MQ below (QiG G r w') args s 0 0 (GA G)) (F0 m 54 ls [iV s0]) := by
  intro x1 x2 x3 s0 w hx1 hx2 hx3 hs0 H locs hS0 ls hl0 r w' hf
  unfold X5_makeThing_b54 at hf
  refine x_istore M hl0 dX5_makeThing_54 (by decide) [(4, iV s0), (0, .ref (G.1 0 t)), (1, iV x1), (2, iV x2), (3, iV x3)] rfl (fun ls hl12 => ?_)
  refine x_aload_n M hl12 dX5_makeThing_56 1 rfl ?_
  refine x_get (c0 := 0) (t0 := t) (v := iV (w 0 t 1)) M hS0 (Or.inl ⟨by decide, ht⟩) (ref := "NamedMoves$Store") inX5_makeThing_X5 (sE_0 G _ _) rfl 4 (by decide) (M.2.2.2.2.1 _ flX5_makeThing_52) rfl rfl dX5_makeThing_57 ?_
  refine x_bipush M dX5_makeThing_60 rfl ?_
  refine x_icmp_ge (tgt := 73) M (hS0.inr _ _ _) ⟨by decide, by decide⟩ dX5_makeThing_62 (by decide) (fun hc => ?_) (fun hc => ?_)
  · have hf := iff_ hf (Int.not_lt.mpr hc)
    refine x_bipush M dX5_makeThing_73 rfl ?_
    exact x_iret M hr hf hS0 ⟨by decide, by decide⟩ dX5_makeThing_75
  · have hf := ift hf (Int.not_le.mp hc)
    refine x_iload M hl12 dX5_makeThing_65 0 rfl ?_
    refine x_sipush M dX5_makeThing_67 rfl ?_
    refine x_icmp_ne (tgt := 76) M hs0 ⟨by decide, by decide⟩ dX5_makeThing_70 (by decide) (fun hc => ?_) (fun hc => ?_)
    · have hf := iff_ hf hc
      refine x_aload_n M hl12 dX5_makeThing_76 1 rfl ?_
      refine x_get (c0 := 0) (t0 := t) (v := .ref (G.1 2 t)) M hS0 (Or.inl ⟨by decide, ht⟩) (ref := "NamedMoves$Store") inX5_makeThing_X5 (sE_0 G _ _) rfl 1 (by decide) (M.2.2.2.2.1 _ flX5_makeThing_18) rfl rfl dX5_makeThing_77 ?_
      refine x_iload M hl12 dX5_makeThing_80 0 rfl ?_
      refine x_aload_n M hl12 dX5_makeThing_82 1 rfl ?_
      refine x_get (c0 := 0) (t0 := t) (v := iV (w 0 t 1)) M hS0 (Or.inl ⟨by decide, ht⟩) (ref := "NamedMoves$Store") inX5_makeThing_X5 (sE_0 G _ _) rfl 4 (by decide) (M.2.2.2.2.1 _ flX5_makeThing_52) rfl rfl dX5_makeThing_83 ?_
      refine x_iload_n M hl12 dX5_makeThing_86 2 rfl ?_
      obtain ⟨r13, w14, hc15, hf⟩ := bdt hf
      refine x_callVv (c0 := 2) (t0 := t) (As := [iV s0, iV (w 0 t 1), iV x1]) (rest := []) M hl12 hS0 (c_X0_lay l ht hs0 (hS0.inr _ _ _) hx1 hc15) (cwV 3 M.2.2.2.2.1 gX5_makeThing_X0_lay rfl rfl rfl (by decide +kernel) ⟨Nat.le_of_ble_eq_true rfl, Nat.le_of_ble_eq_true rfl⟩) (Or.inl ⟨by decide, ht⟩) (sE_2 G _ _) rfl rfl (Nat.le_of_ble_eq_true rfl) dX5_makeThing_87 rfl ⟨Nat.zero_le _, Nat.zero_le _⟩ (fun H locs hS17 => ?_)
      refine x_iload_n M hl12 dX5_makeThing_90 4 rfl ?_
      refine x_if_ne (tgt := 107) M hx3 dX5_makeThing_91 (by decide) (fun hc => ?_) (fun hc => ?_)
      · have hf := iff_ hf hc
        refine x_aload_n M hl12 dX5_makeThing_107 1 rfl ?_
        refine x_get (c0 := 0) (t0 := t) (v := iV (w14 0 t 2)) M hS17 (Or.inl ⟨by decide, ht⟩) (ref := "NamedMoves$Store") inX5_makeThing_X5 (sE_0 G _ _) rfl 5 (by decide) (M.2.2.2.2.1 _ flX5_makeThing_55) rfl rfl dX5_makeThing_108 ?_
        refine x_if_eq (tgt := 124) M (hS17.inr _ _ _) dX5_makeThing_111 (by decide) (fun hc => ?_) (fun hc => ?_)
        · have hf := ift hf hc
          exact X5_makeThing_b124_ok M hr ht x2 s0 w14 hx2 hs0 _ _ hS17 _ (lv_sub hl12 [1, 3, 0] rfl) _ _ hf
        · have hf := iff_ hf hc
          refine x_aload_n M hl12 dX5_makeThing_114 1 rfl ?_
          refine x_get (c0 := 0) (t0 := t) (v := .ref (G.1 2 t)) M hS17 (Or.inl ⟨by decide, ht⟩) (ref := "NamedMoves$Store") inX5_makeThing_X5 (sE_0 G _ _) rfl 1 (by decide) (M.2.2.2.2.1 _ flX5_makeThing_18) rfl rfl dX5_makeThing_115 ?_
          refine x_iload M hl12 dX5_makeThing_118 0 rfl ?_
          obtain ⟨r23, w24, hc25, hf⟩ := bdt hf
          refine x_callVi (c0 := 2) (t0 := t) (As := [iV s0]) (rest := []) M hl12 hS17 (c_X0_mark l ht hs0 hc25) (cwV 1 M.2.2.2.2.1 gX5_makeThing_X0_mark rfl rfl rfl (by decide +kernel) ⟨Nat.le_of_ble_eq_true rfl, Nat.le_of_ble_eq_true rfl⟩) (Or.inl ⟨by decide, ht⟩) (sE_2 G _ _) rfl rfl (Nat.le_of_ble_eq_true rfl) dX5_makeThing_120 rfl ⟨Nat.zero_le _, Nat.zero_le _⟩ (fun H locs hi26 hS27 => ?_)
          refine x_pop M dX5_makeThing_123 rfl ?_
          exact X5_makeThing_b124_ok M hr ht x2 s0 w24 hx2 hs0 _ _ hS27 _ (lv_sub hl12 [1, 3, 0] rfl) _ _ hf
      · have hf := ift hf (Decidable.of_not_not hc)
        refine x_aload_n M hl12 dX5_makeThing_94 1 rfl ?_
        refine x_dup M dX5_makeThing_95 rfl ?_
        refine x_get (c0 := 0) (t0 := t) (v := iV (w14 0 t 4)) M hS17 (Or.inl ⟨by decide, ht⟩) (ref := "NamedMoves$Store") inX5_makeThing_X5 (sE_0 G _ _) rfl 7 (by decide) (M.2.2.2.2.1 _ flX5_makeThing_62) rfl rfl dX5_makeThing_96 ?_
        refine x_iload_n M hl12 dX5_makeThing_99 2 rfl ?_
        obtain ⟨g28, hf⟩ := gdt hf
        refine x_iadd M dX5_makeThing_100 ?_
        refine x_put (c0 := 0) (t0 := t) M hS17 (Or.inl ⟨by decide, ht⟩) (ref := "NamedMoves$Store") inX5_makeThing_X5 tyX5 tyX5_ok nmX5 (sE_0 G _ _) rfl 7 (by decide) (M.2.2.2.2.1 _ flX5_makeThing_62) rfl rfl (ty := tyX5 7) g28 (tyX5_ok 7 (by decide)) rfl rfl (by simp) 4 (pset_0_4 G _ _ _) dX5_makeThing_101 (fun H locs hS29 => ?_)
        refine x_goto (tgt := 124) M dX5_makeThing_104 (by decide) ?_
        exact X5_makeThing_b124_ok M hr ht x2 s0 (up w14 0 t 4 ((w14 0 t 4) + x1)) hx2 hs0 _ _ hS29 _ (lv_sub hl12 [1, 3, 0] rfl) _ _ hf
    · have hf := ift hf (Decidable.of_not_not hc)
      refine x_bipush M dX5_makeThing_73 rfl ?_
      exact x_iret M hr hf hS0 ⟨by decide, by decide⟩ dX5_makeThing_75

set_option maxHeartbeats 4000000 in
set_option maxRecDepth 100000 in
theorem X5_makeThing_b33_ok (M : MC p s m args meth c cX5_makeThing 5 RX5 wsX5_makeThing G) (hr : meth.sig.returnType = (some .int)) {t : Nat} (ht : t < 8) : ∀ x1 : Int, ∀ x2 : Int, ∀ s0 : Int, ∀ w : Wd, InR x1 → InR x2 → InR s0 → ∀ (H : Heap) (locs : List Loc), ST G s w H locs → ∀ ls : Array Slot, lv_has ls 5 [(0, .ref (G.1 0 t)), (1, iV x1), (2, iV x2)] → ∀ (r : Int) (w' : Wd), X5_makeThing_b33 t x1 x2 s0 w = some (r, w') → W p l e (rmk 4) s m args below meth c H locs 0 0 (MQ below (QiG G r w') args s 0 0 (GA G)) (F0 m 33 ls [iV s0]) := by
  intro x1 x2 s0 w hx1 hx2 hs0 H locs hS0 ls hl0 r w' hf
  unfold X5_makeThing_b33 at hf
  refine x_istore_n M hl0 dX5_makeThing_33 (by decide) [(3, iV s0), (0, .ref (G.1 0 t)), (1, iV x1), (2, iV x2)] rfl (fun ls hl6 => ?_)
  refine x_iload_n M hl6 dX5_makeThing_34 0 rfl ?_
  refine x_if_eq (tgt := 49) M hs0 dX5_makeThing_35 (by decide) (fun hc => ?_) (fun hc => ?_)
  · have hf := ift hf hc
    refine x_aload_n M hl6 dX5_makeThing_49 1 rfl ?_
    refine x_iload_n M hl6 dX5_makeThing_50 2 rfl ?_
    obtain ⟨r7, w8, hc9, hf⟩ := bdt hf
    refine x_callVi (c0 := 0) (t0 := t) (As := [iV x1]) (rest := []) M hl6 hS0 (c_X5_halfAddressFor l ht hx1 hc9) (cwV 1 M.2.2.2.2.1 gX5_makeThing_X5_halfAddressFor rfl rfl rfl (by decide +kernel) ⟨Nat.le_of_ble_eq_true rfl, Nat.le_of_ble_eq_true rfl⟩) (Or.inl ⟨by decide, ht⟩) (sE_0 G _ _) rfl rfl (Nat.le_of_ble_eq_true rfl) dX5_makeThing_51 rfl ⟨Nat.zero_le _, Nat.zero_le _⟩ (fun H locs hi10 hS11 => ?_)
    exact X5_makeThing_b54_ok M hr ht x1 x2 s0 r7 w8 hx1 hx2 hs0 hi10 _ _ hS11 _ (lv_sub hl6 [1, 2, 3, 0] rfl) _ _ hf
  · have hf := iff_ hf hc
    refine x_aload_n M hl6 dX5_makeThing_38 1 rfl ?_
    refine x_get (c0 := 0) (t0 := t) (v := .ref (G.1 2 t)) M hS0 (Or.inl ⟨by decide, ht⟩) (ref := "NamedMoves$Store") inX5_makeThing_X5 (sE_0 G _ _) rfl 1 (by decide) (M.2.2.2.2.1 _ flX5_makeThing_18) rfl rfl dX5_makeThing_39 ?_
    refine x_iload_n M hl6 dX5_makeThing_42 2 rfl ?_
    obtain ⟨r30, w31, hc32, hf⟩ := bdt hf
    refine x_callVi (c0 := 2) (t0 := t) (As := [iV x1]) (rest := []) M hl6 hS0 (c_X0_floorAddressFor l ht hx1 hc32) (cwV 1 M.2.2.2.2.1 gX5_makeThing_X0_floorAddressFor rfl rfl rfl (by decide +kernel) ⟨Nat.le_of_ble_eq_true rfl, Nat.le_of_ble_eq_true rfl⟩) (Or.inl ⟨by decide, ht⟩) (sE_2 G _ _) rfl rfl (Nat.le_of_ble_eq_true rfl) dX5_makeThing_43 rfl ⟨Nat.zero_le _, Nat.zero_le _⟩ (fun H locs hi33 hS34 => ?_)
    refine x_goto (tgt := 54) M dX5_makeThing_46 (by decide) ?_
    exact X5_makeThing_b54_ok M hr ht x1 x2 s0 r30 w31 hx1 hx2 hs0 hi33 _ _ hS34 _ (lv_sub hl6 [1, 2, 3, 0] rfl) _ _ hf

set_option maxHeartbeats 4000000 in
set_option maxRecDepth 100000 in
theorem c_X5_makeThing (l : Launch) {G : GG} {t : Nat} (ht : t < 8) {x1 : Int} (hx1 : InR x1) {x2 : Int} (hx2 : InR x2) {w : Wd} {r : Int} {w' : Wd} (hf : X5_makeThing t x1 x2 w = some (r, w')) : Met l yX5_makeThing wsX5_makeThing (rmk 4) (PcG G w [.ref (G.1 0 t), iV x1, iV x2]) (QiG G r w') 0 0 (GA G) := by
  refine met_of (own := RX5) (by decide) rfl (Nat.le_of_ble_eq_true rfl) rfl ?_
  intro p e s m args below meth c M hr ls hl0 hS0
  have hl0 : lv_has ls 5 [(0, .ref (G.1 0 t)), (1, iV x1), (2, iV x2)] := hl0
  unfold X5_makeThing at hf
  refine x_iload_n M hl0 dX5_makeThing_0 1 rfl ?_
  refine x_iconst M dX5_makeThing_1 ?_
  refine x_icmp_lt (tgt := 18) M hx1 ⟨by decide, by decide⟩ dX5_makeThing_2 (by decide) (fun hc => ?_) (fun hc => ?_)
  · have hf := ift hf hc
    refine x_iconst M dX5_makeThing_18 ?_
    exact x_iret M hr hf hS0 ⟨by decide, by decide⟩ dX5_makeThing_19
  · have hf := iff_ hf hc
    refine x_iload_n M hl0 dX5_makeThing_5 1 rfl ?_
    refine x_bipush M dX5_makeThing_6 rfl ?_
    refine x_icmp_gt (tgt := 18) M hx1 ⟨by decide, by decide⟩ dX5_makeThing_8 (by decide) (fun hc => ?_) (fun hc => ?_)
    · have hf := ift hf hc
      refine x_iconst M dX5_makeThing_18 ?_
      exact x_iret M hr hf hS0 ⟨by decide, by decide⟩ dX5_makeThing_19
    · have hf := iff_ hf hc
      refine x_iload_n M hl0 dX5_makeThing_11 2 rfl ?_
      obtain ⟨r1, w2, hc3, hf⟩ := bdt hf
      refine x_callNi (As := [iV x2]) (rest := []) M hl0 hS0 (c_X7_isHook l  hx2 hc3) (va_cnB 1 M.2.2.2.2.1 gX5_makeThing_X7_isHook_n71 rfl rfl rfl M.2.2.2.2.2.2.2.2.2.2.2.2 (M.2.2.2.2.1 _ iniX5_makeThing_X7) (by decide +kernel) ⟨Nat.le_of_ble_eq_true rfl, Nat.le_of_ble_eq_true rfl⟩) (M.2.2.2.2.1 _ stX5_makeThing_X7_isHook) rfl (Nat.le_of_ble_eq_true rfl) dX5_makeThing_12 rfl ⟨Nat.zero_le _, Nat.zero_le _⟩ (fun H locs hi4 hS5 => ?_)
      refine x_if_ne (tgt := 20) M hi4 dX5_makeThing_15 (by decide) (fun hc => ?_) (fun hc => ?_)
      · have hf := iff_ hf hc
        refine x_iload_n M hl0 dX5_makeThing_20 1 rfl ?_
        refine x_aload_n M hl0 dX5_makeThing_21 0 rfl ?_
        refine x_get (c0 := 0) (t0 := t) (v := iV (w2 0 t 0)) M hS5 (Or.inl ⟨by decide, ht⟩) (ref := "NamedMoves$Store") inX5_makeThing_X5 (sE_0 G _ _) rfl 3 (by decide) (M.2.2.2.2.1 _ flX5_makeThing_29) rfl rfl dX5_makeThing_22 ?_
        refine x_icmp_lt (tgt := 32) M hx1 (hS5.inr _ _ _) dX5_makeThing_25 (by decide) (fun hc => ?_) (fun hc => ?_)
        · have hf := ift hf hc
          refine x_iconst M dX5_makeThing_32 ?_
          exact X5_makeThing_b33_ok M hr ht x1 x2 0 w2 hx1 hx2 ⟨by decide, by decide⟩ _ _ hS5 _ (lv_sub hl0 [0, 1, 2] rfl) _ _ hf
        · have hf := iff_ hf hc
          refine x_iconst M dX5_makeThing_28 ?_
          refine x_goto (tgt := 33) M dX5_makeThing_29 (by decide) ?_
          exact X5_makeThing_b33_ok M hr ht x1 x2 1 w2 hx1 hx2 ⟨by decide, by decide⟩ _ _ hS5 _ (lv_sub hl0 [0, 1, 2] rfl) _ _ hf
      · have hf := ift hf (Decidable.of_not_not hc)
        refine x_iconst M dX5_makeThing_18 ?_
        exact x_iret M hr hf hS5 ⟨by decide, by decide⟩ dX5_makeThing_19

/-! X7_make -/
theorem flX7_make_12 : Cond.fieldLink RX7 12 "NamedMoves" "store" "LNamedMoves$Store;" ∈ wsX7_make := by decide +kernel
theorem flX7_make_22 : Cond.fieldLink RX7 22 "NamedMoves" "history" "LNamedMoves$History;" ∈ wsX7_make := by decide +kernel
theorem inX7_make_X7 : ∀ w ∈ u_ws RX7 TX7 6, w ∈ wsX7_make := by decide +kernel
set_option maxHeartbeats 4000000 in
set_option maxRecDepth 100000 in
theorem c_X7_make (l : Launch) {G : GG} {x1 : Int} (hx1 : InR x1) {x2 : Int} (hx2 : InR x2) {w : Wd} {r : Int} {w' : Wd} (hf : X7_make x1 x2 w = some (r, w')) : Met l yX7_make wsX7_make (rmk 5) (PcG G w [.ref (G.1 10 0), iV x1, iV x2]) (QiG G r w') 0 0 (GA G) := by
  refine met_of (own := RX7) (by decide) rfl (Nat.le_of_ble_eq_true rfl) rfl ?_
  intro p e s m args below meth c M hr ls hl0 hS0
  have hl0 : lv_has ls 3 [(0, .ref (G.1 10 0)), (1, iV x1), (2, iV x2)] := hl0
  unfold X7_make at hf
  refine x_aload_n M hl0 dX7_make_0 0 rfl ?_
  refine x_get (c0 := 10) (t0 := 0) (v := .ref (G.1 11 0)) M hS0 (by decide) (ref := "NamedMoves") inX7_make_X7 (sE_10 G _ _) rfl 2 (by decide) (M.2.2.2.2.1 _ flX7_make_22) rfl rfl dX7_make_1 ?_
  refine x_aload_n M hl0 dX7_make_4 0 rfl ?_
  refine x_get (c0 := 10) (t0 := 0) (v := .ref (G.1 0 0)) M hS0 (by decide) (ref := "NamedMoves") inX7_make_X7 (sE_10 G _ _) rfl 0 (by decide) (M.2.2.2.2.1 _ flX7_make_12) rfl rfl dX7_make_5 ?_
  obtain ⟨r1, w2, hc3, hf⟩ := bdt hf
  refine x_callVv (c0 := 11) (t0 := 0) (As := [.ref (G.1 0 0)]) (rest := []) M hl0 hS0 (c_X2_draft l (by decide)  hc3) (cwV 1 M.2.2.2.2.1 gX7_make_X2_draft rfl rfl rfl (by decide +kernel) ⟨Nat.le_of_ble_eq_true rfl, Nat.le_of_ble_eq_true rfl⟩) (by decide) (sE_11 G _ _) rfl rfl (Nat.le_of_ble_eq_true rfl) dX7_make_8 rfl ⟨Nat.zero_le _, Nat.zero_le _⟩ (fun H locs hS5 => ?_)
  refine x_aload_n M hl0 dX7_make_11 0 rfl ?_
  refine x_aload_n M hl0 dX7_make_12 0 rfl ?_
  refine x_get (c0 := 10) (t0 := 0) (v := .ref (G.1 0 0)) M hS5 (by decide) (ref := "NamedMoves") inX7_make_X7 (sE_10 G _ _) rfl 0 (by decide) (M.2.2.2.2.1 _ flX7_make_12) rfl rfl dX7_make_13 ?_
  refine x_iload_n M hl0 dX7_make_16 1 rfl ?_
  refine x_iload_n M hl0 dX7_make_17 2 rfl ?_
  obtain ⟨r6, w7, hc8, hf⟩ := bdt hf
  refine x_callVi (c0 := 0) (t0 := 0) (As := [iV x1, iV x2]) (rest := [.ref (G.1 10 0)]) M hl0 hS5 (c_X5_makeThing l (by decide) hx1 hx2 hc8) (cwV 2 M.2.2.2.2.1 gX7_make_X5_makeThing rfl rfl rfl (by decide +kernel) ⟨Nat.le_of_ble_eq_true rfl, Nat.le_of_ble_eq_true rfl⟩) (by decide) (sE_0 G _ _) rfl rfl (Nat.le_of_ble_eq_true rfl) dX7_make_18 rfl ⟨Nat.zero_le _, Nat.zero_le _⟩ (fun H locs hi9 hS10 => ?_)
  obtain ⟨r11, w12, hc13, hf⟩ := bdt hf
  refine x_callVi (c0 := 10) (t0 := 0) (As := [iV r6]) (rest := []) M hl0 hS10 (c_X7_recorded l  hi9 hc13) (cwV 1 M.2.2.2.2.1 gX7_make_X7_recorded rfl rfl rfl (by decide +kernel) ⟨Nat.le_of_ble_eq_true rfl, Nat.le_of_ble_eq_true rfl⟩) (by decide) (sE_10 G _ _) rfl rfl (Nat.le_of_ble_eq_true rfl) dX7_make_21 rfl ⟨Nat.zero_le _, Nat.zero_le _⟩ (fun H locs hi14 hS15 => ?_)
  exact x_iret M hr hf hS15 hi14 dX7_make_24

/-! X7_isName -/
set_option maxHeartbeats 4000000 in
set_option maxRecDepth 100000 in
theorem c_X7_isName (l : Launch) {G : GG} {x0 : Int} (hx0 : InR x0) {w : Wd} {r : Int} {w' : Wd} (hf : X7_isName x0 w = some (r, w')) : Met l yX7_isName wsX7_isName (rmk 0) (PcG G w [iV x0]) (QiG G r w') 0 0 (GA G) := by
  refine met_of (own := RX7) (by decide) rfl (Nat.le_of_ble_eq_true rfl) rfl ?_
  intro p e s m args below meth c M hr ls hl0 hS0
  have hl0 : lv_has ls 1 [(0, iV x0)] := hl0
  unfold X7_isName at hf
  refine x_iload_n M hl0 dX7_isName_0 0 rfl ?_
  refine x_if_lt (tgt := 13) M hx0 dX7_isName_1 (by decide) (fun hc => ?_) (fun hc => ?_)
  · have hf := ift hf hc
    refine x_iconst M dX7_isName_13 ?_
    exact x_zret M hr hf hS0 (Or.inl rfl) dX7_isName_14
  · have hf := iff_ hf hc
    refine x_iload_n M hl0 dX7_isName_4 0 rfl ?_
    refine x_iconst M dX7_isName_5 ?_
    refine x_icmp_ge (tgt := 13) M hx0 ⟨by decide, by decide⟩ dX7_isName_6 (by decide) (fun hc => ?_) (fun hc => ?_)
    · have hf := iff_ hf (Int.not_lt.mpr hc)
      refine x_iconst M dX7_isName_13 ?_
      exact x_zret M hr hf hS0 (Or.inl rfl) dX7_isName_14
    · have hf := ift hf (Int.not_le.mp hc)
      refine x_iconst M dX7_isName_9 ?_
      refine x_goto (tgt := 14) M dX7_isName_10 (by decide) ?_
      exact x_zret M hr hf hS0 (Or.inr rfl) dX7_isName_14

/-! X5_isInOldHalf -/
theorem flX5_isInOldHalf_55 : Cond.fieldLink RX5 55 "NamedMoves$Store" "moving" "Z" ∈ wsX5_isInOldHalf := by decide +kernel
theorem flX5_isInOldHalf_59 : Cond.fieldLink RX5 59 "NamedMoves$Store" "half" "I" ∈ wsX5_isInOldHalf := by decide +kernel
theorem inX5_isInOldHalf_X5 : ∀ w ∈ u_ws RX5 TX5 10, w ∈ wsX5_isInOldHalf := by decide +kernel
set_option maxHeartbeats 4000000 in
set_option maxRecDepth 100000 in
theorem c_X5_isInOldHalf (l : Launch) {G : GG} {t : Nat} (ht : t < 8) {x1 : Int} (hx1 : InR x1) {w : Wd} {r : Int} {w' : Wd} (hf : X5_isInOldHalf t x1 w = some (r, w')) : Met l yX5_isInOldHalf wsX5_isInOldHalf (rmk 1) (PcG G w [.ref (G.1 0 t), iV x1]) (QiG G r w') 0 0 (GA G) := by
  refine met_of (own := RX5) (by decide) rfl (Nat.le_of_ble_eq_true rfl) rfl ?_
  intro p e s m args below meth c M hr ls hl0 hS0
  have hl0 : lv_has ls 3 [(0, .ref (G.1 0 t)), (1, iV x1)] := hl0
  unfold X5_isInOldHalf at hf
  refine x_iload_n M hl0 dX5_isInOldHalf_0 1 rfl ?_
  refine x_aload_n M hl0 dX5_isInOldHalf_1 0 rfl ?_
  refine x_iconst M dX5_isInOldHalf_2 ?_
  refine x_aload_n M hl0 dX5_isInOldHalf_3 0 rfl ?_
  refine x_get (c0 := 0) (t0 := t) (v := iV (w 0 t 3)) M hS0 (Or.inl ⟨by decide, ht⟩) (ref := "NamedMoves$Store") inX5_isInOldHalf_X5 (sE_0 G _ _) rfl 6 (by decide) (M.2.2.2.2.1 _ flX5_isInOldHalf_59) rfl rfl dX5_isInOldHalf_4 ?_
  obtain ⟨g1, hf⟩ := gdt hf
  refine x_isub M dX5_isInOldHalf_7 ?_
  obtain ⟨r2, w3, hc4, hf⟩ := bdt hf
  refine x_callVi (c0 := 0) (t0 := t) (As := [iV (1 - (w 0 t 3))]) (rest := [iV x1]) M hl0 hS0 (c_X5_addressOfHalf l ht g1 hc4) (cwV 1 M.2.2.2.2.1 gX5_isInOldHalf_X5_addressOfHalf rfl rfl rfl (by decide +kernel) ⟨Nat.le_of_ble_eq_true rfl, Nat.le_of_ble_eq_true rfl⟩) (Or.inl ⟨by decide, ht⟩) (sE_0 G _ _) rfl rfl (Nat.le_of_ble_eq_true rfl) dX5_isInOldHalf_8 rfl ⟨Nat.zero_le _, Nat.zero_le _⟩ (fun H locs hi5 hS6 => ?_)
  obtain ⟨g7, hf⟩ := gdt hf
  refine x_isub M dX5_isInOldHalf_11 ?_
  refine x_istore_n M hl0 dX5_isInOldHalf_12 (by decide) [(2, iV (x1 - r2)), (0, .ref (G.1 0 t)), (1, iV x1)] rfl (fun ls hl8 => ?_)
  refine x_aload_n M hl8 dX5_isInOldHalf_13 1 rfl ?_
  refine x_get (c0 := 0) (t0 := t) (v := iV (w3 0 t 2)) M hS6 (Or.inl ⟨by decide, ht⟩) (ref := "NamedMoves$Store") inX5_isInOldHalf_X5 (sE_0 G _ _) rfl 5 (by decide) (M.2.2.2.2.1 _ flX5_isInOldHalf_55) rfl rfl dX5_isInOldHalf_14 ?_
  refine x_if_eq (tgt := 34) M (hS6.inr _ _ _) dX5_isInOldHalf_17 (by decide) (fun hc => ?_) (fun hc => ?_)
  · have hf := ift hf hc
    refine x_iconst M dX5_isInOldHalf_34 ?_
    exact x_zret M hr hf hS6 (Or.inl rfl) dX5_isInOldHalf_35
  · have hf := iff_ hf hc
    refine x_iload_n M hl8 dX5_isInOldHalf_20 0 rfl ?_
    refine x_if_lt (tgt := 34) M g7 dX5_isInOldHalf_21 (by decide) (fun hc => ?_) (fun hc => ?_)
    · have hf := ift hf hc
      refine x_iconst M dX5_isInOldHalf_34 ?_
      exact x_zret M hr hf hS6 (Or.inl rfl) dX5_isInOldHalf_35
    · have hf := iff_ hf hc
      refine x_iload_n M hl8 dX5_isInOldHalf_24 0 rfl ?_
      refine x_bipush M dX5_isInOldHalf_25 rfl ?_
      refine x_icmp_ge (tgt := 34) M g7 ⟨by decide, by decide⟩ dX5_isInOldHalf_27 (by decide) (fun hc => ?_) (fun hc => ?_)
      · have hf := iff_ hf (Int.not_lt.mpr hc)
        refine x_iconst M dX5_isInOldHalf_34 ?_
        exact x_zret M hr hf hS6 (Or.inl rfl) dX5_isInOldHalf_35
      · have hf := ift hf (Int.not_le.mp hc)
        refine x_iconst M dX5_isInOldHalf_30 ?_
        refine x_goto (tgt := 35) M dX5_isInOldHalf_31 (by decide) ?_
        exact x_zret M hr hf hS6 (Or.inr rfl) dX5_isInOldHalf_35

/-! X0_layAgain -/
theorem flX0_layAgain_15 : Cond.fieldLink RX0 15 "NamedMoves$Copies" "sizes" "[I" ∈ wsX0_layAgain := by decide +kernel
theorem flX0_layAgain_18 : Cond.fieldLink RX0 18 "NamedMoves$Copies" "notes" "[I" ∈ wsX0_layAgain := by decide +kernel
theorem flX0_layAgain_21 : Cond.fieldLink RX0 21 "NamedMoves$Copies" "marks" "[I" ∈ wsX0_layAgain := by decide +kernel
theorem flX0_layAgain_24 : Cond.fieldLink RX0 24 "NamedMoves$Copies" "names" "[I" ∈ wsX0_layAgain := by decide +kernel
theorem flX0_layAgain_9 : Cond.fieldLink RX0 9 "NamedMoves$Copies" "things" "[I" ∈ wsX0_layAgain := by decide +kernel
theorem inX0_layAgain_X0 : ∀ w ∈ u_ws RX0 TX0 5, w ∈ wsX0_layAgain := by decide +kernel
set_option maxHeartbeats 4000000 in
set_option maxRecDepth 100000 in
theorem c_X0_layAgain (l : Launch) {G : GG} {t : Nat} (ht : t < 8) {x1 : Int} (hx1 : InR x1) {x2 : Int} (hx2 : InR x2) {w : Wd} {r : Int} {w' : Wd} (hf : X0_layAgain t x1 x2 w = some (r, w')) : Met l yX0_layAgain wsX0_layAgain (rmk 0) (PcG G w [.ref (G.1 2 t), iV x1, iV x2]) (QvG G w') 0 0 (GA G) := by
  refine met_of (own := RX0) (by decide) rfl (Nat.le_of_ble_eq_true rfl) rfl ?_
  intro p e s m args below meth c M hr ls hl0 hS0
  have hl0 : lv_has ls 3 [(0, .ref (G.1 2 t)), (1, iV x1), (2, iV x2)] := hl0
  unfold X0_layAgain at hf
  refine x_iload_n M hl0 dX0_layAgain_0 1 rfl ?_
  refine x_if_lt (tgt := 22) M hx1 dX0_layAgain_1 (by decide) (fun hc => ?_) (fun hc => ?_)
  · have hf := ift hf hc
    exact x_vret M hr hf hS0 dX0_layAgain_22
  · have hf := iff_ hf hc
    refine x_iload_n M hl0 dX0_layAgain_4 1 rfl ?_
    refine x_sipush M dX0_layAgain_5 rfl ?_
    refine x_icmp_ge (tgt := 22) M hx1 ⟨by decide, by decide⟩ dX0_layAgain_8 (by decide) (fun hc => ?_) (fun hc => ?_)
    · have hf := iff_ hf (Int.not_lt.mpr hc)
      exact x_vret M hr hf hS0 dX0_layAgain_22
    · have hf := ift hf (Int.not_le.mp hc)
      refine x_iload_n M hl0 dX0_layAgain_11 2 rfl ?_
      refine x_if_lt (tgt := 22) M hx2 dX0_layAgain_12 (by decide) (fun hc => ?_) (fun hc => ?_)
      · have hf := ift hf hc
        exact x_vret M hr hf hS0 dX0_layAgain_22
      · have hf := iff_ hf hc
        refine x_iload_n M hl0 dX0_layAgain_15 2 rfl ?_
        refine x_sipush M dX0_layAgain_16 rfl ?_
        refine x_icmp_lt (tgt := 23) M hx2 ⟨by decide, by decide⟩ dX0_layAgain_19 (by decide) (fun hc => ?_) (fun hc => ?_)
        · have hf := ift hf hc
          refine x_aload_n M hl0 dX0_layAgain_23 0 rfl ?_
          refine x_get (c0 := 2) (t0 := t) (v := .ref (G.1 3 t)) M hS0 (Or.inl ⟨by decide, ht⟩) (ref := "NamedMoves$Copies") inX0_layAgain_X0 (sE_2 G _ _) rfl 0 (by decide) (M.2.2.2.2.1 _ flX0_layAgain_9) rfl rfl dX0_layAgain_24 ?_
          refine x_iload_n M hl0 dX0_layAgain_27 2 rfl ?_
          refine x_aload_n M hl0 dX0_layAgain_28 0 rfl ?_
          refine x_get (c0 := 2) (t0 := t) (v := .ref (G.1 3 t)) M hS0 (Or.inl ⟨by decide, ht⟩) (ref := "NamedMoves$Copies") inX0_layAgain_X0 (sE_2 G _ _) rfl 0 (by decide) (M.2.2.2.2.1 _ flX0_layAgain_9) rfl rfl dX0_layAgain_29 ?_
          refine x_iload_n M hl0 dX0_layAgain_32 1 rfl ?_
          obtain ⟨g1, hf⟩ := gdt hf
          refine x_iald (c0 := 3) (t0 := t) M hS0 (Or.inl ⟨by decide, ht⟩) (hs_3 G _) rfl g1 (by decide) dX0_layAgain_33 ?_
          obtain ⟨g2, hf⟩ := gdt hf
          refine x_iast (c0 := 3) (t0 := t) M hS0 (Or.inl ⟨by decide, ht⟩) (hs_3 G _) rfl g2 (by decide) (hS0.inr _ _ _) dX0_layAgain_34 (fun H locs hS3 => ?_)
          refine x_aload_n M hl0 dX0_layAgain_35 0 rfl ?_
          refine x_get (c0 := 2) (t0 := t) (v := .ref (G.1 4 t)) M hS3 (Or.inl ⟨by decide, ht⟩) (ref := "NamedMoves$Copies") inX0_layAgain_X0 (sE_2 G _ _) rfl 1 (by decide) (M.2.2.2.2.1 _ flX0_layAgain_15) rfl rfl dX0_layAgain_36 ?_
          refine x_iload_n M hl0 dX0_layAgain_39 2 rfl ?_
          refine x_aload_n M hl0 dX0_layAgain_40 0 rfl ?_
          refine x_get (c0 := 2) (t0 := t) (v := .ref (G.1 4 t)) M hS3 (Or.inl ⟨by decide, ht⟩) (ref := "NamedMoves$Copies") inX0_layAgain_X0 (sE_2 G _ _) rfl 1 (by decide) (M.2.2.2.2.1 _ flX0_layAgain_15) rfl rfl dX0_layAgain_41 ?_
          refine x_iload_n M hl0 dX0_layAgain_44 1 rfl ?_
          refine x_iald (c0 := 4) (t0 := t) M hS3 (Or.inl ⟨by decide, ht⟩) (hs_4 G _) rfl g1 (by decide) dX0_layAgain_45 ?_
          refine x_iast (c0 := 4) (t0 := t) M hS3 (Or.inl ⟨by decide, ht⟩) (hs_4 G _) rfl g2 (by decide) (hS3.inr _ _ _) dX0_layAgain_46 (fun H locs hS4 => ?_)
          refine x_aload_n M hl0 dX0_layAgain_47 0 rfl ?_
          refine x_get (c0 := 2) (t0 := t) (v := .ref (G.1 5 t)) M hS4 (Or.inl ⟨by decide, ht⟩) (ref := "NamedMoves$Copies") inX0_layAgain_X0 (sE_2 G _ _) rfl 2 (by decide) (M.2.2.2.2.1 _ flX0_layAgain_18) rfl rfl dX0_layAgain_48 ?_
          refine x_iload_n M hl0 dX0_layAgain_51 2 rfl ?_
          refine x_sipush M dX0_layAgain_52 rfl ?_
          refine x_iast (c0 := 5) (t0 := t) M hS4 (Or.inl ⟨by decide, ht⟩) (hs_5 G _) rfl g2 (by decide) ⟨by decide, by decide⟩ dX0_layAgain_55 (fun H locs hS5 => ?_)
          refine x_aload_n M hl0 dX0_layAgain_56 0 rfl ?_
          refine x_get (c0 := 2) (t0 := t) (v := .ref (G.1 6 t)) M hS5 (Or.inl ⟨by decide, ht⟩) (ref := "NamedMoves$Copies") inX0_layAgain_X0 (sE_2 G _ _) rfl 3 (by decide) (M.2.2.2.2.1 _ flX0_layAgain_21) rfl rfl dX0_layAgain_57 ?_
          refine x_iload_n M hl0 dX0_layAgain_60 2 rfl ?_
          refine x_iconst M dX0_layAgain_61 ?_
          refine x_iast (c0 := 6) (t0 := t) M hS5 (Or.inl ⟨by decide, ht⟩) (hs_6 G _) rfl g2 (by decide) ⟨by decide, by decide⟩ dX0_layAgain_62 (fun H locs hS6 => ?_)
          refine x_aload_n M hl0 dX0_layAgain_63 0 rfl ?_
          refine x_get (c0 := 2) (t0 := t) (v := .ref (G.1 7 t)) M hS6 (Or.inl ⟨by decide, ht⟩) (ref := "NamedMoves$Copies") inX0_layAgain_X0 (sE_2 G _ _) rfl 4 (by decide) (M.2.2.2.2.1 _ flX0_layAgain_24) rfl rfl dX0_layAgain_64 ?_
          refine x_iload_n M hl0 dX0_layAgain_67 2 rfl ?_
          refine x_iconst M dX0_layAgain_68 ?_
          obtain ⟨g7, hf⟩ := gdt hf
          refine x_imul M dX0_layAgain_69 ?_
          refine x_aload_n M hl0 dX0_layAgain_70 0 rfl ?_
          refine x_get (c0 := 2) (t0 := t) (v := .ref (G.1 7 t)) M hS6 (Or.inl ⟨by decide, ht⟩) (ref := "NamedMoves$Copies") inX0_layAgain_X0 (sE_2 G _ _) rfl 4 (by decide) (M.2.2.2.2.1 _ flX0_layAgain_24) rfl rfl dX0_layAgain_71 ?_
          refine x_iload_n M hl0 dX0_layAgain_74 1 rfl ?_
          refine x_iconst M dX0_layAgain_75 ?_
          obtain ⟨g8, hf⟩ := gdt hf
          refine x_imul M dX0_layAgain_76 ?_
          obtain ⟨g9, hf⟩ := gdt hf
          refine x_iald (c0 := 7) (t0 := t) M hS6 (Or.inl ⟨by decide, ht⟩) (hs_7 G _) rfl g9 (by decide) dX0_layAgain_77 ?_
          obtain ⟨g10, hf⟩ := gdt hf
          refine x_iast (c0 := 7) (t0 := t) M hS6 (Or.inl ⟨by decide, ht⟩) (hs_7 G _) rfl g10 (by decide) (hS6.inr _ _ _) dX0_layAgain_78 (fun H locs hS11 => ?_)
          refine x_aload_n M hl0 dX0_layAgain_79 0 rfl ?_
          refine x_get (c0 := 2) (t0 := t) (v := .ref (G.1 7 t)) M hS11 (Or.inl ⟨by decide, ht⟩) (ref := "NamedMoves$Copies") inX0_layAgain_X0 (sE_2 G _ _) rfl 4 (by decide) (M.2.2.2.2.1 _ flX0_layAgain_24) rfl rfl dX0_layAgain_80 ?_
          refine x_iload_n M hl0 dX0_layAgain_83 2 rfl ?_
          refine x_iconst M dX0_layAgain_84 ?_
          refine x_imul M dX0_layAgain_85 ?_
          refine x_iconst M dX0_layAgain_86 ?_
          obtain ⟨g12, hf⟩ := gdt hf
          refine x_iadd M dX0_layAgain_87 ?_
          refine x_aload_n M hl0 dX0_layAgain_88 0 rfl ?_
          refine x_get (c0 := 2) (t0 := t) (v := .ref (G.1 7 t)) M hS11 (Or.inl ⟨by decide, ht⟩) (ref := "NamedMoves$Copies") inX0_layAgain_X0 (sE_2 G _ _) rfl 4 (by decide) (M.2.2.2.2.1 _ flX0_layAgain_24) rfl rfl dX0_layAgain_89 ?_
          refine x_iload_n M hl0 dX0_layAgain_92 1 rfl ?_
          refine x_iconst M dX0_layAgain_93 ?_
          refine x_imul M dX0_layAgain_94 ?_
          refine x_iconst M dX0_layAgain_95 ?_
          obtain ⟨g13, hf⟩ := gdt hf
          refine x_iadd M dX0_layAgain_96 ?_
          obtain ⟨g14, hf⟩ := gdt hf
          refine x_iald (c0 := 7) (t0 := t) M hS11 (Or.inl ⟨by decide, ht⟩) (hs_7 G _) rfl g14 (by decide) dX0_layAgain_97 ?_
          obtain ⟨g15, hf⟩ := gdt hf
          refine x_iast (c0 := 7) (t0 := t) M hS11 (Or.inl ⟨by decide, ht⟩) (hs_7 G _) rfl g15 (by decide) (hS11.inr _ _ _) dX0_layAgain_98 (fun H locs hS16 => ?_)
          refine x_aload_n M hl0 dX0_layAgain_99 0 rfl ?_
          refine x_get (c0 := 2) (t0 := t) (v := .ref (G.1 5 t)) M hS16 (Or.inl ⟨by decide, ht⟩) (ref := "NamedMoves$Copies") inX0_layAgain_X0 (sE_2 G _ _) rfl 2 (by decide) (M.2.2.2.2.1 _ flX0_layAgain_18) rfl rfl dX0_layAgain_100 ?_
          refine x_iload_n M hl0 dX0_layAgain_103 1 rfl ?_
          refine x_iload_n M hl0 dX0_layAgain_104 2 rfl ?_
          refine x_iast (c0 := 5) (t0 := t) M hS16 (Or.inl ⟨by decide, ht⟩) (hs_5 G _) rfl g1 (by decide) hx2 dX0_layAgain_105 (fun H locs hS17 => ?_)
          exact x_vret M hr hf hS17 dX0_layAgain_106
        · have hf := iff_ hf hc
          exact x_vret M hr hf hS0 dX0_layAgain_22

/-! X3_join -/
theorem flX3_join_25 : Cond.fieldLink RX3 25 "NamedMoves$Queue" "end" "I" ∈ wsX3_join := by decide +kernel
theorem flX3_join_9 : Cond.fieldLink RX3 9 "NamedMoves$Queue" "addresses" "[I" ∈ wsX3_join := by decide +kernel
theorem inX3_join_X3 : ∀ w ∈ u_ws RX3 TX3 3, w ∈ wsX3_join := by decide +kernel
set_option maxHeartbeats 4000000 in
set_option maxRecDepth 100000 in
theorem c_X3_join (l : Launch) {G : GG} {t : Nat} (ht : t < 8) {x1 : Int} (hx1 : InR x1) {w : Wd} {r : Int} {w' : Wd} (hf : X3_join t x1 w = some (r, w')) : Met l yX3_join wsX3_join (rmk 0) (PcG G w [.ref (G.1 8 t), iV x1]) (QvG G w') 0 0 (GA G) := by
  refine met_of (own := RX3) (by decide) rfl (Nat.le_of_ble_eq_true rfl) rfl ?_
  intro p e s m args below meth c M hr ls hl0 hS0
  have hl0 : lv_has ls 2 [(0, .ref (G.1 8 t)), (1, iV x1)] := hl0
  unfold X3_join at hf
  refine x_aload_n M hl0 dX3_join_0 0 rfl ?_
  refine x_get (c0 := 8) (t0 := t) (v := iV (w 8 t 1)) M hS0 (Or.inl ⟨by decide, ht⟩) (ref := "NamedMoves$Queue") inX3_join_X3 (sE_8 G _ _) rfl 2 (by decide) (M.2.2.2.2.1 _ flX3_join_25) rfl rfl dX3_join_1 ?_
  refine x_if_lt (tgt := 36) M (hS0.inr _ _ _) dX3_join_4 (by decide) (fun hc => ?_) (fun hc => ?_)
  · have hf := ift hf hc
    exact x_vret M hr hf hS0 dX3_join_36
  · have hf := iff_ hf hc
    refine x_aload_n M hl0 dX3_join_7 0 rfl ?_
    refine x_get (c0 := 8) (t0 := t) (v := iV (w 8 t 1)) M hS0 (Or.inl ⟨by decide, ht⟩) (ref := "NamedMoves$Queue") inX3_join_X3 (sE_8 G _ _) rfl 2 (by decide) (M.2.2.2.2.1 _ flX3_join_25) rfl rfl dX3_join_8 ?_
    refine x_bipush M dX3_join_11 rfl ?_
    refine x_icmp_ge (tgt := 36) M (hS0.inr _ _ _) ⟨by decide, by decide⟩ dX3_join_13 (by decide) (fun hc => ?_) (fun hc => ?_)
    · have hf := iff_ hf (Int.not_lt.mpr hc)
      exact x_vret M hr hf hS0 dX3_join_36
    · have hf := ift hf (Int.not_le.mp hc)
      refine x_aload_n M hl0 dX3_join_16 0 rfl ?_
      refine x_get (c0 := 8) (t0 := t) (v := .ref (G.1 9 t)) M hS0 (Or.inl ⟨by decide, ht⟩) (ref := "NamedMoves$Queue") inX3_join_X3 (sE_8 G _ _) rfl 0 (by decide) (M.2.2.2.2.1 _ flX3_join_9) rfl rfl dX3_join_17 ?_
      refine x_aload_n M hl0 dX3_join_20 0 rfl ?_
      refine x_get (c0 := 8) (t0 := t) (v := iV (w 8 t 1)) M hS0 (Or.inl ⟨by decide, ht⟩) (ref := "NamedMoves$Queue") inX3_join_X3 (sE_8 G _ _) rfl 2 (by decide) (M.2.2.2.2.1 _ flX3_join_25) rfl rfl dX3_join_21 ?_
      refine x_iload_n M hl0 dX3_join_24 1 rfl ?_
      obtain ⟨g1, hf⟩ := gdt hf
      refine x_iast (c0 := 9) (t0 := t) M hS0 (Or.inl ⟨by decide, ht⟩) (hs_9 G _) rfl g1 (by decide) hx1 dX3_join_25 (fun H locs hS2 => ?_)
      refine x_aload_n M hl0 dX3_join_26 0 rfl ?_
      refine x_dup M dX3_join_27 rfl ?_
      refine x_get (c0 := 8) (t0 := t) (v := iV ((up w 9 t (w 8 t 1).toNat x1) 8 t 1)) M hS2 (Or.inl ⟨by decide, ht⟩) (ref := "NamedMoves$Queue") inX3_join_X3 (sE_8 G _ _) rfl 2 (by decide) (M.2.2.2.2.1 _ flX3_join_25) rfl rfl dX3_join_28 ?_
      refine x_iconst M dX3_join_31 ?_
      obtain ⟨g3, hf⟩ := gdt hf
      refine x_iadd M dX3_join_32 ?_
      refine x_put (c0 := 8) (t0 := t) M hS2 (Or.inl ⟨by decide, ht⟩) (ref := "NamedMoves$Queue") inX3_join_X3 tyX3 tyX3_ok nmX3 (sE_8 G _ _) rfl 2 (by decide) (M.2.2.2.2.1 _ flX3_join_25) rfl rfl (ty := tyX3 2) g3 (tyX3_ok 2 (by decide)) rfl rfl (by simp) 1 (pset_8_1 G _ _ _) dX3_join_33 (fun H locs hS4 => ?_)
      exact x_vret M hr hf hS4 dX3_join_36

/-! X5_carryOver -/
theorem flX5_carryOver_18 : Cond.fieldLink RX5 18 "NamedMoves$Store" "copies" "LNamedMoves$Copies;" ∈ wsX5_carryOver := by decide +kernel
theorem flX5_carryOver_25 : Cond.fieldLink RX5 25 "NamedMoves$Store" "queue" "LNamedMoves$Queue;" ∈ wsX5_carryOver := by decide +kernel
theorem flX5_carryOver_59 : Cond.fieldLink RX5 59 "NamedMoves$Store" "half" "I" ∈ wsX5_carryOver := by decide +kernel
theorem flX5_carryOver_62 : Cond.fieldLink RX5 62 "NamedMoves$Store" "taken" "I" ∈ wsX5_carryOver := by decide +kernel
theorem inX5_carryOver_X5 : ∀ w ∈ u_ws RX5 TX5 10, w ∈ wsX5_carryOver := by decide +kernel
set_option maxHeartbeats 4000000 in
set_option maxRecDepth 100000 in
theorem c_X5_carryOver (l : Launch) {G : GG} {t : Nat} (ht : t < 8) {x1 : Int} (hx1 : InR x1) {x2 : Int} (hx2 : InR x2) {w : Wd} {r : Int} {w' : Wd} (hf : X5_carryOver t x1 x2 w = some (r, w')) : Met l yX5_carryOver wsX5_carryOver (rmk 1) (PcG G w [.ref (G.1 0 t), iV x1, iV x2]) (QiG G r w') 0 0 (GA G) := by
  refine met_of (own := RX5) (by decide) rfl (Nat.le_of_ble_eq_true rfl) rfl ?_
  intro p e s m args below meth c M hr ls hl0 hS0
  have hl0 : lv_has ls 4 [(0, .ref (G.1 0 t)), (1, iV x1), (2, iV x2)] := hl0
  unfold X5_carryOver at hf
  refine x_iload_n M hl0 dX5_carryOver_0 2 rfl ?_
  refine x_if_eq (tgt := 12) M hx2 dX5_carryOver_1 (by decide) (fun hc => ?_) (fun hc => ?_)
  · have hf := ift hf hc
    refine x_iload_n M hl0 dX5_carryOver_12 1 rfl ?_
    exact x_iret M hr hf hS0 hx1 dX5_carryOver_13
  · have hf := iff_ hf hc
    refine x_iload_n M hl0 dX5_carryOver_4 2 rfl ?_
    refine x_aload_n M hl0 dX5_carryOver_5 0 rfl ?_
    obtain ⟨r1, w2, hc3, hf⟩ := bdt hf
    refine x_callVi (c0 := 0) (t0 := t) (As := []) (rest := [iV x2]) M hl0 hS0 (c_X5_freeInHalf l ht  hc3) (cwV 0 M.2.2.2.2.1 gX5_carryOver_X5_freeInHalf rfl rfl rfl (by decide +kernel) ⟨Nat.le_of_ble_eq_true rfl, Nat.le_of_ble_eq_true rfl⟩) (Or.inl ⟨by decide, ht⟩) (sE_0 G _ _) rfl rfl (Nat.le_of_ble_eq_true rfl) dX5_carryOver_6 rfl ⟨Nat.zero_le _, Nat.zero_le _⟩ (fun H locs hi4 hS5 => ?_)
    refine x_icmp_le (tgt := 14) M hx2 hi4 dX5_carryOver_9 (by decide) (fun hc => ?_) (fun hc => ?_)
    · have hf := iff_ hf (Int.not_lt.mpr hc)
      refine x_aload_n M hl0 dX5_carryOver_14 0 rfl ?_
      refine x_aload_n M hl0 dX5_carryOver_15 0 rfl ?_
      refine x_get (c0 := 0) (t0 := t) (v := iV (w2 0 t 3)) M hS5 (Or.inl ⟨by decide, ht⟩) (ref := "NamedMoves$Store") inX5_carryOver_X5 (sE_0 G _ _) rfl 6 (by decide) (M.2.2.2.2.1 _ flX5_carryOver_59) rfl rfl dX5_carryOver_16 ?_
      obtain ⟨r6, w7, hc8, hf⟩ := bdt hf
      refine x_callVi (c0 := 0) (t0 := t) (As := [iV (w2 0 t 3)]) (rest := []) M hl0 hS5 (c_X5_addressOfHalf l ht (hS5.inr _ _ _) hc8) (cwV 1 M.2.2.2.2.1 gX5_carryOver_X5_addressOfHalf rfl rfl rfl (by decide +kernel) ⟨Nat.le_of_ble_eq_true rfl, Nat.le_of_ble_eq_true rfl⟩) (Or.inl ⟨by decide, ht⟩) (sE_0 G _ _) rfl rfl (Nat.le_of_ble_eq_true rfl) dX5_carryOver_19 rfl ⟨Nat.zero_le _, Nat.zero_le _⟩ (fun H locs hi9 hS10 => ?_)
      refine x_aload_n M hl0 dX5_carryOver_22 0 rfl ?_
      refine x_get (c0 := 0) (t0 := t) (v := iV (w7 0 t 4)) M hS10 (Or.inl ⟨by decide, ht⟩) (ref := "NamedMoves$Store") inX5_carryOver_X5 (sE_0 G _ _) rfl 7 (by decide) (M.2.2.2.2.1 _ flX5_carryOver_62) rfl rfl dX5_carryOver_23 ?_
      obtain ⟨g11, hf⟩ := gdt hf
      refine x_iadd M dX5_carryOver_26 ?_
      refine x_istore_n M hl0 dX5_carryOver_27 (by decide) [(3, iV (r6 + (w7 0 t 4))), (0, .ref (G.1 0 t)), (1, iV x1), (2, iV x2)] rfl (fun ls hl12 => ?_)
      refine x_aload_n M hl12 dX5_carryOver_28 1 rfl ?_
      refine x_get (c0 := 0) (t0 := t) (v := .ref (G.1 2 t)) M hS10 (Or.inl ⟨by decide, ht⟩) (ref := "NamedMoves$Store") inX5_carryOver_X5 (sE_0 G _ _) rfl 1 (by decide) (M.2.2.2.2.1 _ flX5_carryOver_18) rfl rfl dX5_carryOver_29 ?_
      refine x_iload_n M hl12 dX5_carryOver_32 2 rfl ?_
      refine x_iload_n M hl12 dX5_carryOver_33 0 rfl ?_
      obtain ⟨r13, w14, hc15, hf⟩ := bdt hf
      refine x_callVv (c0 := 2) (t0 := t) (As := [iV x1, iV (r6 + (w7 0 t 4))]) (rest := []) M hl12 hS10 (c_X0_layAgain l ht hx1 g11 hc15) (cwV 2 M.2.2.2.2.1 gX5_carryOver_X0_layAgain rfl rfl rfl (by decide +kernel) ⟨Nat.le_of_ble_eq_true rfl, Nat.le_of_ble_eq_true rfl⟩) (Or.inl ⟨by decide, ht⟩) (sE_2 G _ _) rfl rfl (Nat.le_of_ble_eq_true rfl) dX5_carryOver_34 rfl ⟨Nat.zero_le _, Nat.zero_le _⟩ (fun H locs hS17 => ?_)
      refine x_aload_n M hl12 dX5_carryOver_37 1 rfl ?_
      refine x_dup M dX5_carryOver_38 rfl ?_
      refine x_get (c0 := 0) (t0 := t) (v := iV (w14 0 t 4)) M hS17 (Or.inl ⟨by decide, ht⟩) (ref := "NamedMoves$Store") inX5_carryOver_X5 (sE_0 G _ _) rfl 7 (by decide) (M.2.2.2.2.1 _ flX5_carryOver_62) rfl rfl dX5_carryOver_39 ?_
      refine x_iload_n M hl12 dX5_carryOver_42 3 rfl ?_
      obtain ⟨g18, hf⟩ := gdt hf
      refine x_iadd M dX5_carryOver_43 ?_
      refine x_put (c0 := 0) (t0 := t) M hS17 (Or.inl ⟨by decide, ht⟩) (ref := "NamedMoves$Store") inX5_carryOver_X5 tyX5 tyX5_ok nmX5 (sE_0 G _ _) rfl 7 (by decide) (M.2.2.2.2.1 _ flX5_carryOver_62) rfl rfl (ty := tyX5 7) g18 (tyX5_ok 7 (by decide)) rfl rfl (by simp) 4 (pset_0_4 G _ _ _) dX5_carryOver_44 (fun H locs hS19 => ?_)
      refine x_aload_n M hl12 dX5_carryOver_47 1 rfl ?_
      refine x_get (c0 := 0) (t0 := t) (v := .ref (G.1 8 t)) M hS19 (Or.inl ⟨by decide, ht⟩) (ref := "NamedMoves$Store") inX5_carryOver_X5 (sE_0 G _ _) rfl 2 (by decide) (M.2.2.2.2.1 _ flX5_carryOver_25) rfl rfl dX5_carryOver_48 ?_
      refine x_iload_n M hl12 dX5_carryOver_51 0 rfl ?_
      obtain ⟨r20, w21, hc22, hf⟩ := bdt hf
      refine x_callVv (c0 := 8) (t0 := t) (As := [iV (r6 + (w7 0 t 4))]) (rest := []) M hl12 hS19 (c_X3_join l ht g11 hc22) (cwV 1 M.2.2.2.2.1 gX5_carryOver_X3_join rfl rfl rfl (by decide +kernel) ⟨Nat.le_of_ble_eq_true rfl, Nat.le_of_ble_eq_true rfl⟩) (Or.inl ⟨by decide, ht⟩) (sE_8 G _ _) rfl rfl (Nat.le_of_ble_eq_true rfl) dX5_carryOver_52 rfl ⟨Nat.zero_le _, Nat.zero_le _⟩ (fun H locs hS24 => ?_)
      refine x_iload_n M hl12 dX5_carryOver_55 0 rfl ?_
      exact x_iret M hr hf hS24 g11 dX5_carryOver_56
    · have hf := ift hf (Int.not_le.mp hc)
      refine x_iload_n M hl0 dX5_carryOver_12 1 rfl ?_
      exact x_iret M hr hf hS5 hx1 dX5_carryOver_13

/-! X5_readIn_h -/
theorem flX5_readIn_18 : Cond.fieldLink RX5 18 "NamedMoves$Store" "copies" "LNamedMoves$Copies;" ∈ wsX5_readIn := by decide +kernel
theorem flX5_readIn_25 : Cond.fieldLink RX5 25 "NamedMoves$Store" "queue" "LNamedMoves$Queue;" ∈ wsX5_readIn := by decide +kernel
theorem flX5_readIn_55 : Cond.fieldLink RX5 55 "NamedMoves$Store" "moving" "Z" ∈ wsX5_readIn := by decide +kernel
theorem inX5_readIn_X5 : ∀ w ∈ u_ws RX5 TX5 10, w ∈ wsX5_readIn := by decide +kernel
set_option maxHeartbeats 4000000 in
set_option maxRecDepth 100000 in
theorem c_X5_readIn_h (l : Launch) {G : GG} {t : Nat} (ht : t < 8) {t1 : Nat} (ht1 : t1 < 8) {x2 : Int} (hx2 : InR x2) {w : Wd} {r : Int} {w' : Wd} (hf : X5_readIn_h t t1 x2 w = some (r, w')) : Met l yX5_readIn wsX5_readIn (rmk 2) (PcG G w [.ref (G.1 0 t), .ref (G.1 1 t1), iV x2]) (QiG G r w') 0 0 (GA G) := by
  refine met_of (own := RX5) (by decide) rfl (Nat.le_of_ble_eq_true rfl) rfl ?_
  intro p e s m args below meth c M hr ls hl0 hS0
  have hl0 : lv_has ls 5 [(0, .ref (G.1 0 t)), (1, .ref (G.1 1 t1)), (2, iV x2)] := hl0
  unfold X5_readIn_h at hf
  refine x_aload_n M hl0 dX5_readIn_0 1 rfl ?_
  refine x_ifnull M dX5_readIn_1 ?_
  refine x_iload_n M hl0 dX5_readIn_4 2 rfl ?_
  refine x_if_lt (tgt := 14) M hx2 dX5_readIn_5 (by decide) (fun hc => ?_) (fun hc => ?_)
  · have hf := ift hf hc
    refine x_sipush M dX5_readIn_14 rfl ?_
    exact x_iret M hr hf hS0 ⟨by decide, by decide⟩ dX5_readIn_17
  · have hf := iff_ hf hc
    refine x_iload_n M hl0 dX5_readIn_8 2 rfl ?_
    refine x_aload_n M hl0 dX5_readIn_9 1 rfl ?_
    refine x_alen (c0 := 1) (t0 := t1) M hS0 (Or.inl ⟨by decide, ht1⟩) (hs_1 G _) rfl dX5_readIn_10 ?_
    refine x_icmp_lt (tgt := 18) M hx2 ⟨by decide, by decide⟩ dX5_readIn_11 (by decide) (fun hc => ?_) (fun hc => ?_)
    · have hf := ift hf hc
      refine x_aload_n M hl0 dX5_readIn_18 1 rfl ?_
      refine x_iload_n M hl0 dX5_readIn_19 2 rfl ?_
      obtain ⟨g1, hf⟩ := gdt hf
      refine x_iald (c0 := 1) (t0 := t1) M hS0 (Or.inl ⟨by decide, ht1⟩) (hs_1 G _) rfl g1 (by decide) dX5_readIn_20 ?_
      refine x_istore_n M hl0 dX5_readIn_21 (by decide) [(3, iV (w 1 t1 x2.toNat)), (0, .ref (G.1 0 t)), (1, .ref (G.1 1 t1)), (2, iV x2)] rfl (fun ls hl2 => ?_)
      refine x_aload_n M hl2 dX5_readIn_22 1 rfl ?_
      refine x_iload_n M hl2 dX5_readIn_23 0 rfl ?_
      obtain ⟨r3, w4, hc5, hf⟩ := bdt hf
      refine x_callVi (c0 := 0) (t0 := t) (As := [iV (w 1 t1 x2.toNat)]) (rest := []) M hl2 hS0 (c_X5_isInOldHalf l ht (hS0.inr _ _ _) hc5) (cwV 1 M.2.2.2.2.1 gX5_readIn_X5_isInOldHalf rfl rfl rfl (by decide +kernel) ⟨Nat.le_of_ble_eq_true rfl, Nat.le_of_ble_eq_true rfl⟩) (Or.inl ⟨by decide, ht⟩) (sE_0 G _ _) rfl rfl (Nat.le_of_ble_eq_true rfl) dX5_readIn_24 rfl ⟨Nat.zero_le _, Nat.zero_le _⟩ (fun H locs hi6 hS7 => ?_)
      refine x_if_eq (tgt := 72) M hi6 dX5_readIn_27 (by decide) (fun hc => ?_) (fun hc => ?_)
      · have hf := ift hf hc
        refine x_aload_n M hl2 dX5_readIn_72 1 rfl ?_
        refine x_get (c0 := 0) (t0 := t) (v := iV (w4 0 t 2)) M hS7 (Or.inl ⟨by decide, ht⟩) (ref := "NamedMoves$Store") inX5_readIn_X5 (sE_0 G _ _) rfl 5 (by decide) (M.2.2.2.2.1 _ flX5_readIn_55) rfl rfl dX5_readIn_73 ?_
        refine x_if_eq (tgt := 105) M (hS7.inr _ _ _) dX5_readIn_76 (by decide) (fun hc => ?_) (fun hc => ?_)
        · have hf := ift hf hc
          refine x_aload_n M hl2 dX5_readIn_105 2 rfl ?_
          refine x_iload_n M hl2 dX5_readIn_106 3 rfl ?_
          refine x_iald (c0 := 1) (t0 := t1) M hS7 (Or.inl ⟨by decide, ht1⟩) (hs_1 G _) rfl g1 (by decide) dX5_readIn_107 ?_
          exact x_iret M hr hf hS7 (hS7.inr _ _ _) dX5_readIn_108
        · have hf := iff_ hf hc
          refine x_iload_n M hl2 dX5_readIn_79 0 rfl ?_
          refine x_sipush M dX5_readIn_80 rfl ?_
          refine x_icmp_lt (tgt := 105) M (hS0.inr _ _ _) ⟨by decide, by decide⟩ dX5_readIn_83 (by decide) (fun hc => ?_) (fun hc => ?_)
          · have hf := ift hf hc
            refine x_aload_n M hl2 dX5_readIn_105 2 rfl ?_
            refine x_iload_n M hl2 dX5_readIn_106 3 rfl ?_
            refine x_iald (c0 := 1) (t0 := t1) M hS7 (Or.inl ⟨by decide, ht1⟩) (hs_1 G _) rfl g1 (by decide) dX5_readIn_107 ?_
            exact x_iret M hr hf hS7 (hS7.inr _ _ _) dX5_readIn_108
          · have hf := iff_ hf hc
            refine x_aload_n M hl2 dX5_readIn_86 1 rfl ?_
            refine x_get (c0 := 0) (t0 := t) (v := .ref (G.1 2 t)) M hS7 (Or.inl ⟨by decide, ht⟩) (ref := "NamedMoves$Store") inX5_readIn_X5 (sE_0 G _ _) rfl 1 (by decide) (M.2.2.2.2.1 _ flX5_readIn_18) rfl rfl dX5_readIn_87 ?_
            refine x_iload_n M hl2 dX5_readIn_90 0 rfl ?_
            obtain ⟨r8, w9, hc10, hf⟩ := bdt hf
            refine x_callVi (c0 := 2) (t0 := t) (As := [iV (w 1 t1 x2.toNat)]) (rest := []) M hl2 hS7 (c_X0_mark l ht (hS0.inr _ _ _) hc10) (cwV 1 M.2.2.2.2.1 gX5_readIn_X0_mark rfl rfl rfl (by decide +kernel) ⟨Nat.le_of_ble_eq_true rfl, Nat.le_of_ble_eq_true rfl⟩) (Or.inl ⟨by decide, ht⟩) (sE_2 G _ _) rfl rfl (Nat.le_of_ble_eq_true rfl) dX5_readIn_91 rfl ⟨Nat.zero_le _, Nat.zero_le _⟩ (fun H locs hi11 hS12 => ?_)
            refine x_if_eq (tgt := 105) M hi11 dX5_readIn_94 (by decide) (fun hc => ?_) (fun hc => ?_)
            · have hf := ift hf hc
              refine x_aload_n M hl2 dX5_readIn_105 2 rfl ?_
              refine x_iload_n M hl2 dX5_readIn_106 3 rfl ?_
              refine x_iald (c0 := 1) (t0 := t1) M hS12 (Or.inl ⟨by decide, ht1⟩) (hs_1 G _) rfl g1 (by decide) dX5_readIn_107 ?_
              exact x_iret M hr hf hS12 (hS12.inr _ _ _) dX5_readIn_108
            · have hf := iff_ hf hc
              refine x_aload_n M hl2 dX5_readIn_97 1 rfl ?_
              refine x_get (c0 := 0) (t0 := t) (v := .ref (G.1 8 t)) M hS12 (Or.inl ⟨by decide, ht⟩) (ref := "NamedMoves$Store") inX5_readIn_X5 (sE_0 G _ _) rfl 2 (by decide) (M.2.2.2.2.1 _ flX5_readIn_25) rfl rfl dX5_readIn_98 ?_
              refine x_iload_n M hl2 dX5_readIn_101 0 rfl ?_
              obtain ⟨r13, w14, hc15, hf⟩ := bdt hf
              refine x_callVv (c0 := 8) (t0 := t) (As := [iV (w 1 t1 x2.toNat)]) (rest := []) M hl2 hS12 (c_X3_join l ht (hS0.inr _ _ _) hc15) (cwV 1 M.2.2.2.2.1 gX5_readIn_X3_join rfl rfl rfl (by decide +kernel) ⟨Nat.le_of_ble_eq_true rfl, Nat.le_of_ble_eq_true rfl⟩) (Or.inl ⟨by decide, ht⟩) (sE_8 G _ _) rfl rfl (Nat.le_of_ble_eq_true rfl) dX5_readIn_102 rfl ⟨Nat.zero_le _, Nat.zero_le _⟩ (fun H locs hS17 => ?_)
              refine x_aload_n M hl2 dX5_readIn_105 2 rfl ?_
              refine x_iload_n M hl2 dX5_readIn_106 3 rfl ?_
              refine x_iald (c0 := 1) (t0 := t1) M hS17 (Or.inl ⟨by decide, ht1⟩) (hs_1 G _) rfl g1 (by decide) dX5_readIn_107 ?_
              exact x_iret M hr hf hS17 (hS17.inr _ _ _) dX5_readIn_108
      · have hf := iff_ hf hc
        refine x_aload_n M hl2 dX5_readIn_30 1 rfl ?_
        refine x_get (c0 := 0) (t0 := t) (v := .ref (G.1 2 t)) M hS7 (Or.inl ⟨by decide, ht⟩) (ref := "NamedMoves$Store") inX5_readIn_X5 (sE_0 G _ _) rfl 1 (by decide) (M.2.2.2.2.1 _ flX5_readIn_18) rfl rfl dX5_readIn_31 ?_
        refine x_iload_n M hl2 dX5_readIn_34 0 rfl ?_
        obtain ⟨r18, w19, hc20, hf⟩ := bdt hf
        refine x_callVi (c0 := 2) (t0 := t) (As := [iV (w 1 t1 x2.toNat)]) (rest := []) M hl2 hS7 (c_X0_noteAt l ht (hS0.inr _ _ _) hc20) (cwV 1 M.2.2.2.2.1 gX5_readIn_X0_noteAt rfl rfl rfl (by decide +kernel) ⟨Nat.le_of_ble_eq_true rfl, Nat.le_of_ble_eq_true rfl⟩) (Or.inl ⟨by decide, ht⟩) (sE_2 G _ _) rfl rfl (Nat.le_of_ble_eq_true rfl) dX5_readIn_35 rfl ⟨Nat.zero_le _, Nat.zero_le _⟩ (fun H locs hi21 hS22 => ?_)
        refine x_istore M hl2 dX5_readIn_38 (by decide) [(4, iV r18), (3, iV (w 1 t1 x2.toNat)), (0, .ref (G.1 0 t)), (1, .ref (G.1 1 t1)), (2, iV x2)] rfl (fun ls hl23 => ?_)
        refine x_aload_n M hl23 dX5_readIn_40 3 rfl ?_
        refine x_iload_n M hl23 dX5_readIn_41 4 rfl ?_
        refine x_iload M hl23 dX5_readIn_42 0 rfl ?_
        refine x_sipush M dX5_readIn_44 rfl ?_
        refine x_icmp_eq (tgt := 55) M hi21 ⟨by decide, by decide⟩ dX5_readIn_47 (by decide) (fun hc => ?_) (fun hc => ?_)
        · have hf := ift hf hc
          refine x_aload_n M hl23 dX5_readIn_55 2 rfl ?_
          refine x_iload_n M hl23 dX5_readIn_56 1 rfl ?_
          refine x_aload_n M hl23 dX5_readIn_57 2 rfl ?_
          refine x_get (c0 := 0) (t0 := t) (v := .ref (G.1 2 t)) M hS22 (Or.inl ⟨by decide, ht⟩) (ref := "NamedMoves$Store") inX5_readIn_X5 (sE_0 G _ _) rfl 1 (by decide) (M.2.2.2.2.1 _ flX5_readIn_18) rfl rfl dX5_readIn_58 ?_
          refine x_iload_n M hl23 dX5_readIn_61 1 rfl ?_
          obtain ⟨r24, w25, hc26, hf⟩ := bdt hf
          refine x_callVi (c0 := 2) (t0 := t) (As := [iV (w 1 t1 x2.toNat)]) (rest := [iV (w 1 t1 x2.toNat), .ref (G.1 0 t), iV x2, .ref (G.1 1 t1)]) M hl23 hS22 (c_X0_sizeAt l ht (hS0.inr _ _ _) hc26) (cwV 1 M.2.2.2.2.1 gX5_readIn_X0_sizeAt rfl rfl rfl (by decide +kernel) ⟨Nat.le_of_ble_eq_true rfl, Nat.le_of_ble_eq_true rfl⟩) (Or.inl ⟨by decide, ht⟩) (sE_2 G _ _) rfl rfl (Nat.le_of_ble_eq_true rfl) dX5_readIn_62 rfl ⟨Nat.zero_le _, Nat.zero_le _⟩ (fun H locs hi27 hS28 => ?_)
          obtain ⟨r29, w30, hc31, hf⟩ := bdt hf
          refine x_callVi (c0 := 0) (t0 := t) (As := [iV (w 1 t1 x2.toNat), iV r24]) (rest := [iV x2, .ref (G.1 1 t1)]) M hl23 hS28 (c_X5_carryOver l ht (hS0.inr _ _ _) hi27 hc31) (cwV 2 M.2.2.2.2.1 gX5_readIn_X5_carryOver rfl rfl rfl (by decide +kernel) ⟨Nat.le_of_ble_eq_true rfl, Nat.le_of_ble_eq_true rfl⟩) (Or.inl ⟨by decide, ht⟩) (sE_0 G _ _) rfl rfl (Nat.le_of_ble_eq_true rfl) dX5_readIn_65 rfl ⟨Nat.zero_le _, Nat.zero_le _⟩ (fun H locs hi32 hS33 => ?_)
          refine x_iast (c0 := 1) (t0 := t1) M hS33 (Or.inl ⟨by decide, ht1⟩) (hs_1 G _) rfl g1 (by decide) hi32 dX5_readIn_68 (fun H locs hS34 => ?_)
          refine x_goto (tgt := 105) M dX5_readIn_69 (by decide) ?_
          refine x_aload_n M hl23 dX5_readIn_105 3 rfl ?_
          refine x_iload_n M hl23 dX5_readIn_106 4 rfl ?_
          refine x_iald (c0 := 1) (t0 := t1) M hS34 (Or.inl ⟨by decide, ht1⟩) (hs_1 G _) rfl g1 (by decide) dX5_readIn_107 ?_
          exact x_iret M hr hf hS34 (hS34.inr _ _ _) dX5_readIn_108
        · have hf := iff_ hf hc
          refine x_iload M hl23 dX5_readIn_50 0 rfl ?_
          refine x_goto (tgt := 68) M dX5_readIn_52 (by decide) ?_
          refine x_iast (c0 := 1) (t0 := t1) M hS22 (Or.inl ⟨by decide, ht1⟩) (hs_1 G _) rfl g1 (by decide) hi21 dX5_readIn_68 (fun H locs hS35 => ?_)
          refine x_goto (tgt := 105) M dX5_readIn_69 (by decide) ?_
          refine x_aload_n M hl23 dX5_readIn_105 3 rfl ?_
          refine x_iload_n M hl23 dX5_readIn_106 4 rfl ?_
          refine x_iald (c0 := 1) (t0 := t1) M hS35 (Or.inl ⟨by decide, ht1⟩) (hs_1 G _) rfl g1 (by decide) dX5_readIn_107 ?_
          exact x_iret M hr hf hS35 (hS35.inr _ _ _) dX5_readIn_108
    · have hf := iff_ hf hc
      refine x_sipush M dX5_readIn_14 rfl ?_
      exact x_iret M hr hf hS0 ⟨by decide, by decide⟩ dX5_readIn_17

/-! X5_readIn_n -/
set_option maxHeartbeats 4000000 in
set_option maxRecDepth 100000 in
theorem c_X5_readIn_n (l : Launch) {G : GG} {t : Nat} (ht : t < 8) {t1 : Nat} (ht1 : t1 < 8) {x2 : Int} (hx2 : InR x2) {w : Wd} {r : Int} {w' : Wd} (hf : X5_readIn_n t t1 x2 w = some (r, w')) : Met l yX5_readIn wsX5_readIn (rmk 2) (PcG G w [.ref (G.1 0 t), .ref (G.1 7 t1), iV x2]) (QiG G r w') 0 0 (GA G) := by
  refine met_of (own := RX5) (by decide) rfl (Nat.le_of_ble_eq_true rfl) rfl ?_
  intro p e s m args below meth c M hr ls hl0 hS0
  have hl0 : lv_has ls 5 [(0, .ref (G.1 0 t)), (1, .ref (G.1 7 t1)), (2, iV x2)] := hl0
  unfold X5_readIn_n at hf
  refine x_aload_n M hl0 dX5_readIn_0 1 rfl ?_
  refine x_ifnull M dX5_readIn_1 ?_
  refine x_iload_n M hl0 dX5_readIn_4 2 rfl ?_
  refine x_if_lt (tgt := 14) M hx2 dX5_readIn_5 (by decide) (fun hc => ?_) (fun hc => ?_)
  · have hf := ift hf hc
    refine x_sipush M dX5_readIn_14 rfl ?_
    exact x_iret M hr hf hS0 ⟨by decide, by decide⟩ dX5_readIn_17
  · have hf := iff_ hf hc
    refine x_iload_n M hl0 dX5_readIn_8 2 rfl ?_
    refine x_aload_n M hl0 dX5_readIn_9 1 rfl ?_
    refine x_alen (c0 := 7) (t0 := t1) M hS0 (Or.inl ⟨by decide, ht1⟩) (hs_7 G _) rfl dX5_readIn_10 ?_
    refine x_icmp_lt (tgt := 18) M hx2 ⟨by decide, by decide⟩ dX5_readIn_11 (by decide) (fun hc => ?_) (fun hc => ?_)
    · have hf := ift hf hc
      refine x_aload_n M hl0 dX5_readIn_18 1 rfl ?_
      refine x_iload_n M hl0 dX5_readIn_19 2 rfl ?_
      obtain ⟨g1, hf⟩ := gdt hf
      refine x_iald (c0 := 7) (t0 := t1) M hS0 (Or.inl ⟨by decide, ht1⟩) (hs_7 G _) rfl g1 (by decide) dX5_readIn_20 ?_
      refine x_istore_n M hl0 dX5_readIn_21 (by decide) [(3, iV (w 7 t1 x2.toNat)), (0, .ref (G.1 0 t)), (1, .ref (G.1 7 t1)), (2, iV x2)] rfl (fun ls hl2 => ?_)
      refine x_aload_n M hl2 dX5_readIn_22 1 rfl ?_
      refine x_iload_n M hl2 dX5_readIn_23 0 rfl ?_
      obtain ⟨r3, w4, hc5, hf⟩ := bdt hf
      refine x_callVi (c0 := 0) (t0 := t) (As := [iV (w 7 t1 x2.toNat)]) (rest := []) M hl2 hS0 (c_X5_isInOldHalf l ht (hS0.inr _ _ _) hc5) (cwV 1 M.2.2.2.2.1 gX5_readIn_X5_isInOldHalf rfl rfl rfl (by decide +kernel) ⟨Nat.le_of_ble_eq_true rfl, Nat.le_of_ble_eq_true rfl⟩) (Or.inl ⟨by decide, ht⟩) (sE_0 G _ _) rfl rfl (Nat.le_of_ble_eq_true rfl) dX5_readIn_24 rfl ⟨Nat.zero_le _, Nat.zero_le _⟩ (fun H locs hi6 hS7 => ?_)
      refine x_if_eq (tgt := 72) M hi6 dX5_readIn_27 (by decide) (fun hc => ?_) (fun hc => ?_)
      · have hf := ift hf hc
        refine x_aload_n M hl2 dX5_readIn_72 1 rfl ?_
        refine x_get (c0 := 0) (t0 := t) (v := iV (w4 0 t 2)) M hS7 (Or.inl ⟨by decide, ht⟩) (ref := "NamedMoves$Store") inX5_readIn_X5 (sE_0 G _ _) rfl 5 (by decide) (M.2.2.2.2.1 _ flX5_readIn_55) rfl rfl dX5_readIn_73 ?_
        refine x_if_eq (tgt := 105) M (hS7.inr _ _ _) dX5_readIn_76 (by decide) (fun hc => ?_) (fun hc => ?_)
        · have hf := ift hf hc
          refine x_aload_n M hl2 dX5_readIn_105 2 rfl ?_
          refine x_iload_n M hl2 dX5_readIn_106 3 rfl ?_
          refine x_iald (c0 := 7) (t0 := t1) M hS7 (Or.inl ⟨by decide, ht1⟩) (hs_7 G _) rfl g1 (by decide) dX5_readIn_107 ?_
          exact x_iret M hr hf hS7 (hS7.inr _ _ _) dX5_readIn_108
        · have hf := iff_ hf hc
          refine x_iload_n M hl2 dX5_readIn_79 0 rfl ?_
          refine x_sipush M dX5_readIn_80 rfl ?_
          refine x_icmp_lt (tgt := 105) M (hS0.inr _ _ _) ⟨by decide, by decide⟩ dX5_readIn_83 (by decide) (fun hc => ?_) (fun hc => ?_)
          · have hf := ift hf hc
            refine x_aload_n M hl2 dX5_readIn_105 2 rfl ?_
            refine x_iload_n M hl2 dX5_readIn_106 3 rfl ?_
            refine x_iald (c0 := 7) (t0 := t1) M hS7 (Or.inl ⟨by decide, ht1⟩) (hs_7 G _) rfl g1 (by decide) dX5_readIn_107 ?_
            exact x_iret M hr hf hS7 (hS7.inr _ _ _) dX5_readIn_108
          · have hf := iff_ hf hc
            refine x_aload_n M hl2 dX5_readIn_86 1 rfl ?_
            refine x_get (c0 := 0) (t0 := t) (v := .ref (G.1 2 t)) M hS7 (Or.inl ⟨by decide, ht⟩) (ref := "NamedMoves$Store") inX5_readIn_X5 (sE_0 G _ _) rfl 1 (by decide) (M.2.2.2.2.1 _ flX5_readIn_18) rfl rfl dX5_readIn_87 ?_
            refine x_iload_n M hl2 dX5_readIn_90 0 rfl ?_
            obtain ⟨r8, w9, hc10, hf⟩ := bdt hf
            refine x_callVi (c0 := 2) (t0 := t) (As := [iV (w 7 t1 x2.toNat)]) (rest := []) M hl2 hS7 (c_X0_mark l ht (hS0.inr _ _ _) hc10) (cwV 1 M.2.2.2.2.1 gX5_readIn_X0_mark rfl rfl rfl (by decide +kernel) ⟨Nat.le_of_ble_eq_true rfl, Nat.le_of_ble_eq_true rfl⟩) (Or.inl ⟨by decide, ht⟩) (sE_2 G _ _) rfl rfl (Nat.le_of_ble_eq_true rfl) dX5_readIn_91 rfl ⟨Nat.zero_le _, Nat.zero_le _⟩ (fun H locs hi11 hS12 => ?_)
            refine x_if_eq (tgt := 105) M hi11 dX5_readIn_94 (by decide) (fun hc => ?_) (fun hc => ?_)
            · have hf := ift hf hc
              refine x_aload_n M hl2 dX5_readIn_105 2 rfl ?_
              refine x_iload_n M hl2 dX5_readIn_106 3 rfl ?_
              refine x_iald (c0 := 7) (t0 := t1) M hS12 (Or.inl ⟨by decide, ht1⟩) (hs_7 G _) rfl g1 (by decide) dX5_readIn_107 ?_
              exact x_iret M hr hf hS12 (hS12.inr _ _ _) dX5_readIn_108
            · have hf := iff_ hf hc
              refine x_aload_n M hl2 dX5_readIn_97 1 rfl ?_
              refine x_get (c0 := 0) (t0 := t) (v := .ref (G.1 8 t)) M hS12 (Or.inl ⟨by decide, ht⟩) (ref := "NamedMoves$Store") inX5_readIn_X5 (sE_0 G _ _) rfl 2 (by decide) (M.2.2.2.2.1 _ flX5_readIn_25) rfl rfl dX5_readIn_98 ?_
              refine x_iload_n M hl2 dX5_readIn_101 0 rfl ?_
              obtain ⟨r13, w14, hc15, hf⟩ := bdt hf
              refine x_callVv (c0 := 8) (t0 := t) (As := [iV (w 7 t1 x2.toNat)]) (rest := []) M hl2 hS12 (c_X3_join l ht (hS0.inr _ _ _) hc15) (cwV 1 M.2.2.2.2.1 gX5_readIn_X3_join rfl rfl rfl (by decide +kernel) ⟨Nat.le_of_ble_eq_true rfl, Nat.le_of_ble_eq_true rfl⟩) (Or.inl ⟨by decide, ht⟩) (sE_8 G _ _) rfl rfl (Nat.le_of_ble_eq_true rfl) dX5_readIn_102 rfl ⟨Nat.zero_le _, Nat.zero_le _⟩ (fun H locs hS17 => ?_)
              refine x_aload_n M hl2 dX5_readIn_105 2 rfl ?_
              refine x_iload_n M hl2 dX5_readIn_106 3 rfl ?_
              refine x_iald (c0 := 7) (t0 := t1) M hS17 (Or.inl ⟨by decide, ht1⟩) (hs_7 G _) rfl g1 (by decide) dX5_readIn_107 ?_
              exact x_iret M hr hf hS17 (hS17.inr _ _ _) dX5_readIn_108
      · have hf := iff_ hf hc
        refine x_aload_n M hl2 dX5_readIn_30 1 rfl ?_
        refine x_get (c0 := 0) (t0 := t) (v := .ref (G.1 2 t)) M hS7 (Or.inl ⟨by decide, ht⟩) (ref := "NamedMoves$Store") inX5_readIn_X5 (sE_0 G _ _) rfl 1 (by decide) (M.2.2.2.2.1 _ flX5_readIn_18) rfl rfl dX5_readIn_31 ?_
        refine x_iload_n M hl2 dX5_readIn_34 0 rfl ?_
        obtain ⟨r18, w19, hc20, hf⟩ := bdt hf
        refine x_callVi (c0 := 2) (t0 := t) (As := [iV (w 7 t1 x2.toNat)]) (rest := []) M hl2 hS7 (c_X0_noteAt l ht (hS0.inr _ _ _) hc20) (cwV 1 M.2.2.2.2.1 gX5_readIn_X0_noteAt rfl rfl rfl (by decide +kernel) ⟨Nat.le_of_ble_eq_true rfl, Nat.le_of_ble_eq_true rfl⟩) (Or.inl ⟨by decide, ht⟩) (sE_2 G _ _) rfl rfl (Nat.le_of_ble_eq_true rfl) dX5_readIn_35 rfl ⟨Nat.zero_le _, Nat.zero_le _⟩ (fun H locs hi21 hS22 => ?_)
        refine x_istore M hl2 dX5_readIn_38 (by decide) [(4, iV r18), (3, iV (w 7 t1 x2.toNat)), (0, .ref (G.1 0 t)), (1, .ref (G.1 7 t1)), (2, iV x2)] rfl (fun ls hl23 => ?_)
        refine x_aload_n M hl23 dX5_readIn_40 3 rfl ?_
        refine x_iload_n M hl23 dX5_readIn_41 4 rfl ?_
        refine x_iload M hl23 dX5_readIn_42 0 rfl ?_
        refine x_sipush M dX5_readIn_44 rfl ?_
        refine x_icmp_eq (tgt := 55) M hi21 ⟨by decide, by decide⟩ dX5_readIn_47 (by decide) (fun hc => ?_) (fun hc => ?_)
        · have hf := ift hf hc
          refine x_aload_n M hl23 dX5_readIn_55 2 rfl ?_
          refine x_iload_n M hl23 dX5_readIn_56 1 rfl ?_
          refine x_aload_n M hl23 dX5_readIn_57 2 rfl ?_
          refine x_get (c0 := 0) (t0 := t) (v := .ref (G.1 2 t)) M hS22 (Or.inl ⟨by decide, ht⟩) (ref := "NamedMoves$Store") inX5_readIn_X5 (sE_0 G _ _) rfl 1 (by decide) (M.2.2.2.2.1 _ flX5_readIn_18) rfl rfl dX5_readIn_58 ?_
          refine x_iload_n M hl23 dX5_readIn_61 1 rfl ?_
          obtain ⟨r24, w25, hc26, hf⟩ := bdt hf
          refine x_callVi (c0 := 2) (t0 := t) (As := [iV (w 7 t1 x2.toNat)]) (rest := [iV (w 7 t1 x2.toNat), .ref (G.1 0 t), iV x2, .ref (G.1 7 t1)]) M hl23 hS22 (c_X0_sizeAt l ht (hS0.inr _ _ _) hc26) (cwV 1 M.2.2.2.2.1 gX5_readIn_X0_sizeAt rfl rfl rfl (by decide +kernel) ⟨Nat.le_of_ble_eq_true rfl, Nat.le_of_ble_eq_true rfl⟩) (Or.inl ⟨by decide, ht⟩) (sE_2 G _ _) rfl rfl (Nat.le_of_ble_eq_true rfl) dX5_readIn_62 rfl ⟨Nat.zero_le _, Nat.zero_le _⟩ (fun H locs hi27 hS28 => ?_)
          obtain ⟨r29, w30, hc31, hf⟩ := bdt hf
          refine x_callVi (c0 := 0) (t0 := t) (As := [iV (w 7 t1 x2.toNat), iV r24]) (rest := [iV x2, .ref (G.1 7 t1)]) M hl23 hS28 (c_X5_carryOver l ht (hS0.inr _ _ _) hi27 hc31) (cwV 2 M.2.2.2.2.1 gX5_readIn_X5_carryOver rfl rfl rfl (by decide +kernel) ⟨Nat.le_of_ble_eq_true rfl, Nat.le_of_ble_eq_true rfl⟩) (Or.inl ⟨by decide, ht⟩) (sE_0 G _ _) rfl rfl (Nat.le_of_ble_eq_true rfl) dX5_readIn_65 rfl ⟨Nat.zero_le _, Nat.zero_le _⟩ (fun H locs hi32 hS33 => ?_)
          refine x_iast (c0 := 7) (t0 := t1) M hS33 (Or.inl ⟨by decide, ht1⟩) (hs_7 G _) rfl g1 (by decide) hi32 dX5_readIn_68 (fun H locs hS34 => ?_)
          refine x_goto (tgt := 105) M dX5_readIn_69 (by decide) ?_
          refine x_aload_n M hl23 dX5_readIn_105 3 rfl ?_
          refine x_iload_n M hl23 dX5_readIn_106 4 rfl ?_
          refine x_iald (c0 := 7) (t0 := t1) M hS34 (Or.inl ⟨by decide, ht1⟩) (hs_7 G _) rfl g1 (by decide) dX5_readIn_107 ?_
          exact x_iret M hr hf hS34 (hS34.inr _ _ _) dX5_readIn_108
        · have hf := iff_ hf hc
          refine x_iload M hl23 dX5_readIn_50 0 rfl ?_
          refine x_goto (tgt := 68) M dX5_readIn_52 (by decide) ?_
          refine x_iast (c0 := 7) (t0 := t1) M hS22 (Or.inl ⟨by decide, ht1⟩) (hs_7 G _) rfl g1 (by decide) hi21 dX5_readIn_68 (fun H locs hS35 => ?_)
          refine x_goto (tgt := 105) M dX5_readIn_69 (by decide) ?_
          refine x_aload_n M hl23 dX5_readIn_105 3 rfl ?_
          refine x_iload_n M hl23 dX5_readIn_106 4 rfl ?_
          refine x_iald (c0 := 7) (t0 := t1) M hS35 (Or.inl ⟨by decide, ht1⟩) (hs_7 G _) rfl g1 (by decide) dX5_readIn_107 ?_
          exact x_iret M hr hf hS35 (hS35.inr _ _ _) dX5_readIn_108
    · have hf := iff_ hf hc
      refine x_sipush M dX5_readIn_14 rfl ?_
      exact x_iret M hr hf hS0 ⟨by decide, by decide⟩ dX5_readIn_17

/-! X0_setName -/
theorem flX0_setName_24 : Cond.fieldLink RX0 24 "NamedMoves$Copies" "names" "[I" ∈ wsX0_setName := by decide +kernel
theorem inX0_setName_X0 : ∀ w ∈ u_ws RX0 TX0 5, w ∈ wsX0_setName := by decide +kernel
theorem iniX0_setName_X7 : Cond.initialized RX7 ∈ wsX0_setName := by decide +kernel
theorem stX0_setName_X7_isName : Cond.static yX7_isName ∈ wsX0_setName := by decide +kernel
set_option maxHeartbeats 4000000 in
set_option maxRecDepth 100000 in
theorem c_X0_setName (l : Launch) {G : GG} {t : Nat} (ht : t < 8) {x1 : Int} (hx1 : InR x1) {x2 : Int} (hx2 : InR x2) {x3 : Int} (hx3 : InR x3) {w : Wd} {r : Int} {w' : Wd} (hf : X0_setName t x1 x2 x3 w = some (r, w')) : Met l yX0_setName wsX0_setName (rmk 1) (PcG G w [.ref (G.1 2 t), iV x1, iV x2, iV x3]) (QvG G w') 0 0 (GA G) := by
  refine met_of (own := RX0) (by decide) rfl (Nat.le_of_ble_eq_true rfl) rfl ?_
  intro p e s m args below meth c M hr ls hl0 hS0
  have hl0 : lv_has ls 4 [(0, .ref (G.1 2 t)), (1, iV x1), (2, iV x2), (3, iV x3)] := hl0
  unfold X0_setName at hf
  refine x_aload_n M hl0 dX0_setName_0 0 rfl ?_
  refine x_iload_n M hl0 dX0_setName_1 1 rfl ?_
  obtain ⟨r1, w2, hc3, hf⟩ := bdt hf
  refine x_callVi (c0 := 2) (t0 := t) (As := [iV x1]) (rest := []) M hl0 hS0 (c_X0_isAt l ht hx1 hc3) (cwV 1 M.2.2.2.2.1 gX0_setName_X0_isAt rfl rfl rfl (by decide +kernel) ⟨Nat.le_of_ble_eq_true rfl, Nat.le_of_ble_eq_true rfl⟩) (Or.inl ⟨by decide, ht⟩) (sE_2 G _ _) rfl rfl (Nat.le_of_ble_eq_true rfl) dX0_setName_2 rfl ⟨Nat.zero_le _, Nat.zero_le _⟩ (fun H locs hi4 hS5 => ?_)
  refine x_if_eq (tgt := 26) M hi4 dX0_setName_5 (by decide) (fun hc => ?_) (fun hc => ?_)
  · have hf := ift hf hc
    exact x_vret M hr hf hS5 dX0_setName_26
  · have hf := iff_ hf hc
    refine x_iload_n M hl0 dX0_setName_8 2 rfl ?_
    obtain ⟨r6, w7, hc8, hf⟩ := bdt hf
    refine x_callNi (As := [iV x2]) (rest := []) M hl0 hS5 (c_X7_isName l  hx2 hc8) (va_cnB 1 M.2.2.2.2.1 gX0_setName_X7_isName_n43 rfl rfl rfl M.2.2.2.2.2.2.2.2.2.2.1 (M.2.2.2.2.1 _ iniX0_setName_X7) (by decide +kernel) ⟨Nat.le_of_ble_eq_true rfl, Nat.le_of_ble_eq_true rfl⟩) (M.2.2.2.2.1 _ stX0_setName_X7_isName) rfl (Nat.le_of_ble_eq_true rfl) dX0_setName_9 rfl ⟨Nat.zero_le _, Nat.zero_le _⟩ (fun H locs hi9 hS10 => ?_)
    refine x_if_eq (tgt := 26) M hi9 dX0_setName_12 (by decide) (fun hc => ?_) (fun hc => ?_)
    · have hf := ift hf hc
      exact x_vret M hr hf hS10 dX0_setName_26
    · have hf := iff_ hf hc
      refine x_aload_n M hl0 dX0_setName_15 0 rfl ?_
      refine x_get (c0 := 2) (t0 := t) (v := .ref (G.1 7 t)) M hS10 (Or.inl ⟨by decide, ht⟩) (ref := "NamedMoves$Copies") inX0_setName_X0 (sE_2 G _ _) rfl 4 (by decide) (M.2.2.2.2.1 _ flX0_setName_24) rfl rfl dX0_setName_16 ?_
      refine x_iload_n M hl0 dX0_setName_19 1 rfl ?_
      refine x_iconst M dX0_setName_20 ?_
      obtain ⟨g11, hf⟩ := gdt hf
      refine x_imul M dX0_setName_21 ?_
      refine x_iload_n M hl0 dX0_setName_22 2 rfl ?_
      obtain ⟨g12, hf⟩ := gdt hf
      refine x_iadd M dX0_setName_23 ?_
      refine x_iload_n M hl0 dX0_setName_24 3 rfl ?_
      obtain ⟨g13, hf⟩ := gdt hf
      refine x_iast (c0 := 7) (t0 := t) M hS10 (Or.inl ⟨by decide, ht⟩) (hs_7 G _) rfl g13 (by decide) hx3 dX0_setName_25 (fun H locs hS14 => ?_)
      exact x_vret M hr hf hS14 dX0_setName_26

/-! X5_linkHooks -/
theorem flX5_linkHooks_18 : Cond.fieldLink RX5 18 "NamedMoves$Store" "copies" "LNamedMoves$Copies;" ∈ wsX5_linkHooks := by decide +kernel
theorem flX5_linkHooks_9 : Cond.fieldLink RX5 9 "NamedMoves$Store" "hooks" "[I" ∈ wsX5_linkHooks := by decide +kernel
theorem inX5_linkHooks_X5 : ∀ w ∈ u_ws RX5 TX5 10, w ∈ wsX5_linkHooks := by decide +kernel
theorem iniX5_linkHooks_X7 : Cond.initialized RX7 ∈ wsX5_linkHooks := by decide +kernel
theorem stX5_linkHooks_X7_isHook : Cond.static yX7_isHook ∈ wsX5_linkHooks := by decide +kernel
theorem stX5_linkHooks_X7_isName : Cond.static yX7_isName ∈ wsX5_linkHooks := by decide +kernel
set_option maxHeartbeats 4000000 in
set_option maxRecDepth 100000 in
theorem c_X5_linkHooks (l : Launch) {G : GG} {t : Nat} (ht : t < 8) {x1 : Int} (hx1 : InR x1) {x2 : Int} (hx2 : InR x2) {x3 : Int} (hx3 : InR x3) {w : Wd} {r : Int} {w' : Wd} (hf : X5_linkHooks t x1 x2 x3 w = some (r, w')) : Met l yX5_linkHooks wsX5_linkHooks (rmk 3) (PcG G w [.ref (G.1 0 t), iV x1, iV x2, iV x3]) (QiG G r w') 0 0 (GA G) := by
  refine met_of (own := RX5) (by decide) rfl (Nat.le_of_ble_eq_true rfl) rfl ?_
  intro p e s m args below meth c M hr ls hl0 hS0
  have hl0 : lv_has ls 6 [(0, .ref (G.1 0 t)), (1, iV x1), (2, iV x2), (3, iV x3)] := hl0
  unfold X5_linkHooks at hf
  refine x_iload_n M hl0 dX5_linkHooks_0 1 rfl ?_
  obtain ⟨r1, w2, hc3, hf⟩ := bdt hf
  refine x_callNi (As := [iV x1]) (rest := []) M hl0 hS0 (c_X7_isHook l  hx1 hc3) (va_cnB 1 M.2.2.2.2.1 gX5_linkHooks_X7_isHook_n71 rfl rfl rfl M.2.2.2.2.2.2.2.2.2.2.2.2 (M.2.2.2.2.1 _ iniX5_linkHooks_X7) (by decide +kernel) ⟨Nat.le_of_ble_eq_true rfl, Nat.le_of_ble_eq_true rfl⟩) (M.2.2.2.2.1 _ stX5_linkHooks_X7_isHook) rfl (Nat.le_of_ble_eq_true rfl) dX5_linkHooks_1 rfl ⟨Nat.zero_le _, Nat.zero_le _⟩ (fun H locs hi4 hS5 => ?_)
  refine x_if_eq (tgt := 21) M hi4 dX5_linkHooks_4 (by decide) (fun hc => ?_) (fun hc => ?_)
  · have hf := ift hf hc
    refine x_iconst M dX5_linkHooks_21 ?_
    exact x_iret M hr hf hS5 ⟨by decide, by decide⟩ dX5_linkHooks_22
  · have hf := iff_ hf hc
    refine x_iload_n M hl0 dX5_linkHooks_7 2 rfl ?_
    obtain ⟨r6, w7, hc8, hf⟩ := bdt hf
    refine x_callNi (As := [iV x2]) (rest := []) M hl0 hS5 (c_X7_isName l  hx2 hc8) (va_cnB 1 M.2.2.2.2.1 gX5_linkHooks_X7_isName_n127 rfl rfl rfl M.2.2.2.2.2.2.2.2.2.2.2.1 (M.2.2.2.2.1 _ iniX5_linkHooks_X7) (by decide +kernel) ⟨Nat.le_of_ble_eq_true rfl, Nat.le_of_ble_eq_true rfl⟩) (M.2.2.2.2.1 _ stX5_linkHooks_X7_isName) rfl (Nat.le_of_ble_eq_true rfl) dX5_linkHooks_8 rfl ⟨Nat.zero_le _, Nat.zero_le _⟩ (fun H locs hi9 hS10 => ?_)
    refine x_if_eq (tgt := 21) M hi9 dX5_linkHooks_11 (by decide) (fun hc => ?_) (fun hc => ?_)
    · have hf := ift hf hc
      refine x_iconst M dX5_linkHooks_21 ?_
      exact x_iret M hr hf hS10 ⟨by decide, by decide⟩ dX5_linkHooks_22
    · have hf := iff_ hf hc
      refine x_iload_n M hl0 dX5_linkHooks_14 3 rfl ?_
      obtain ⟨r11, w12, hc13, hf⟩ := bdt hf
      refine x_callNi (As := [iV x3]) (rest := []) M hl0 hS10 (c_X7_isHook l  hx3 hc13) (va_cnB 1 M.2.2.2.2.1 gX5_linkHooks_X7_isHook_n71 rfl rfl rfl M.2.2.2.2.2.2.2.2.2.2.2.2 (M.2.2.2.2.1 _ iniX5_linkHooks_X7) (by decide +kernel) ⟨Nat.le_of_ble_eq_true rfl, Nat.le_of_ble_eq_true rfl⟩) (M.2.2.2.2.1 _ stX5_linkHooks_X7_isHook) rfl (Nat.le_of_ble_eq_true rfl) dX5_linkHooks_15 rfl ⟨Nat.zero_le _, Nat.zero_le _⟩ (fun H locs hi14 hS15 => ?_)
      refine x_if_ne (tgt := 23) M hi14 dX5_linkHooks_18 (by decide) (fun hc => ?_) (fun hc => ?_)
      · have hf := iff_ hf hc
        refine x_aload_n M hl0 dX5_linkHooks_23 0 rfl ?_
        refine x_get (c0 := 0) (t0 := t) (v := .ref (G.1 1 t)) M hS15 (Or.inl ⟨by decide, ht⟩) (ref := "NamedMoves$Store") inX5_linkHooks_X5 (sE_0 G _ _) rfl 0 (by decide) (M.2.2.2.2.1 _ flX5_linkHooks_9) rfl rfl dX5_linkHooks_24 ?_
        refine x_iload_n M hl0 dX5_linkHooks_27 1 rfl ?_
        obtain ⟨g16, hf⟩ := gdt hf
        refine x_iald (c0 := 1) (t0 := t) M hS15 (Or.inl ⟨by decide, ht⟩) (hs_1 G _) rfl g16 (by decide) dX5_linkHooks_28 ?_
        refine x_sipush M dX5_linkHooks_29 rfl ?_
        refine x_icmp_ne (tgt := 38) M (hS15.inr _ _ _) ⟨by decide, by decide⟩ dX5_linkHooks_32 (by decide) (fun hc => ?_) (fun hc => ?_)
        · have hf := iff_ hf hc
          refine x_aload_n M hl0 dX5_linkHooks_38 0 rfl ?_
          refine x_aload_n M hl0 dX5_linkHooks_39 0 rfl ?_
          refine x_get (c0 := 0) (t0 := t) (v := .ref (G.1 1 t)) M hS15 (Or.inl ⟨by decide, ht⟩) (ref := "NamedMoves$Store") inX5_linkHooks_X5 (sE_0 G _ _) rfl 0 (by decide) (M.2.2.2.2.1 _ flX5_linkHooks_9) rfl rfl dX5_linkHooks_40 ?_
          refine x_iload_n M hl0 dX5_linkHooks_43 1 rfl ?_
          obtain ⟨r17, w18, hc19, hf⟩ := bdt hf
          refine x_callVi (c0 := 0) (t0 := t) (As := [.ref (G.1 1 t), iV x1]) (rest := []) M hl0 hS15 (c_X5_readIn_h l ht ht hx1 hc19) (cwV 2 M.2.2.2.2.1 gX5_linkHooks_X5_readIn rfl rfl rfl (by decide +kernel) ⟨Nat.le_of_ble_eq_true rfl, Nat.le_of_ble_eq_true rfl⟩) (Or.inl ⟨by decide, ht⟩) (sE_0 G _ _) rfl rfl (Nat.le_of_ble_eq_true rfl) dX5_linkHooks_44 rfl ⟨Nat.zero_le _, Nat.zero_le _⟩ (fun H locs hi20 hS21 => ?_)
          refine x_istore M hl0 dX5_linkHooks_47 (by decide) [(4, iV r17), (0, .ref (G.1 0 t)), (1, iV x1), (2, iV x2), (3, iV x3)] rfl (fun ls hl22 => ?_)
          refine x_aload_n M hl22 dX5_linkHooks_49 1 rfl ?_
          refine x_aload_n M hl22 dX5_linkHooks_50 1 rfl ?_
          refine x_get (c0 := 0) (t0 := t) (v := .ref (G.1 1 t)) M hS21 (Or.inl ⟨by decide, ht⟩) (ref := "NamedMoves$Store") inX5_linkHooks_X5 (sE_0 G _ _) rfl 0 (by decide) (M.2.2.2.2.1 _ flX5_linkHooks_9) rfl rfl dX5_linkHooks_51 ?_
          refine x_iload_n M hl22 dX5_linkHooks_54 4 rfl ?_
          obtain ⟨r23, w24, hc25, hf⟩ := bdt hf
          refine x_callVi (c0 := 0) (t0 := t) (As := [.ref (G.1 1 t), iV x3]) (rest := []) M hl22 hS21 (c_X5_readIn_h l ht ht hx3 hc25) (cwV 2 M.2.2.2.2.1 gX5_linkHooks_X5_readIn rfl rfl rfl (by decide +kernel) ⟨Nat.le_of_ble_eq_true rfl, Nat.le_of_ble_eq_true rfl⟩) (Or.inl ⟨by decide, ht⟩) (sE_0 G _ _) rfl rfl (Nat.le_of_ble_eq_true rfl) dX5_linkHooks_55 rfl ⟨Nat.zero_le _, Nat.zero_le _⟩ (fun H locs hi26 hS27 => ?_)
          refine x_istore M hl22 dX5_linkHooks_58 (by decide) [(5, iV r23), (4, iV r17), (0, .ref (G.1 0 t)), (1, iV x1), (2, iV x2), (3, iV x3)] rfl (fun ls hl28 => ?_)
          refine x_aload_n M hl28 dX5_linkHooks_60 2 rfl ?_
          refine x_get (c0 := 0) (t0 := t) (v := .ref (G.1 2 t)) M hS27 (Or.inl ⟨by decide, ht⟩) (ref := "NamedMoves$Store") inX5_linkHooks_X5 (sE_0 G _ _) rfl 1 (by decide) (M.2.2.2.2.1 _ flX5_linkHooks_18) rfl rfl dX5_linkHooks_61 ?_
          refine x_iload M hl28 dX5_linkHooks_64 1 rfl ?_
          refine x_iload_n M hl28 dX5_linkHooks_66 4 rfl ?_
          refine x_iload M hl28 dX5_linkHooks_67 0 rfl ?_
          obtain ⟨r29, w30, hc31, hf⟩ := bdt hf
          refine x_callVv (c0 := 2) (t0 := t) (As := [iV r17, iV x2, iV r23]) (rest := []) M hl28 hS27 (c_X0_setName l ht hi20 hx2 hi26 hc31) (cwV 3 M.2.2.2.2.1 gX5_linkHooks_X0_setName rfl rfl rfl (by decide +kernel) ⟨Nat.le_of_ble_eq_true rfl, Nat.le_of_ble_eq_true rfl⟩) (Or.inl ⟨by decide, ht⟩) (sE_2 G _ _) rfl rfl (Nat.le_of_ble_eq_true rfl) dX5_linkHooks_69 rfl ⟨Nat.zero_le _, Nat.zero_le _⟩ (fun H locs hS33 => ?_)
          refine x_iload M hl28 dX5_linkHooks_72 0 rfl ?_
          exact x_iret M hr hf hS33 hi26 dX5_linkHooks_74
        · have hf := ift hf (Decidable.of_not_not hc)
          refine x_bipush M dX5_linkHooks_35 rfl ?_
          exact x_iret M hr hf hS15 ⟨by decide, by decide⟩ dX5_linkHooks_37
      · have hf := ift hf (Decidable.of_not_not hc)
        refine x_iconst M dX5_linkHooks_21 ?_
        exact x_iret M hr hf hS15 ⟨by decide, by decide⟩ dX5_linkHooks_22

/-! X7_link -/
theorem flX7_link_12 : Cond.fieldLink RX7 12 "NamedMoves" "store" "LNamedMoves$Store;" ∈ wsX7_link := by decide +kernel
theorem flX7_link_22 : Cond.fieldLink RX7 22 "NamedMoves" "history" "LNamedMoves$History;" ∈ wsX7_link := by decide +kernel
theorem inX7_link_X7 : ∀ w ∈ u_ws RX7 TX7 6, w ∈ wsX7_link := by decide +kernel
set_option maxHeartbeats 4000000 in
set_option maxRecDepth 100000 in
theorem c_X7_link (l : Launch) {G : GG} {x1 : Int} (hx1 : InR x1) {x2 : Int} (hx2 : InR x2) {x3 : Int} (hx3 : InR x3) {w : Wd} {r : Int} {w' : Wd} (hf : X7_link x1 x2 x3 w = some (r, w')) : Met l yX7_link wsX7_link (rmk 4) (PcG G w [.ref (G.1 10 0), iV x1, iV x2, iV x3]) (QiG G r w') 0 0 (GA G) := by
  refine met_of (own := RX7) (by decide) rfl (Nat.le_of_ble_eq_true rfl) rfl ?_
  intro p e s m args below meth c M hr ls hl0 hS0
  have hl0 : lv_has ls 4 [(0, .ref (G.1 10 0)), (1, iV x1), (2, iV x2), (3, iV x3)] := hl0
  unfold X7_link at hf
  refine x_aload_n M hl0 dX7_link_0 0 rfl ?_
  refine x_get (c0 := 10) (t0 := 0) (v := .ref (G.1 11 0)) M hS0 (by decide) (ref := "NamedMoves") inX7_link_X7 (sE_10 G _ _) rfl 2 (by decide) (M.2.2.2.2.1 _ flX7_link_22) rfl rfl dX7_link_1 ?_
  refine x_aload_n M hl0 dX7_link_4 0 rfl ?_
  refine x_get (c0 := 10) (t0 := 0) (v := .ref (G.1 0 0)) M hS0 (by decide) (ref := "NamedMoves") inX7_link_X7 (sE_10 G _ _) rfl 0 (by decide) (M.2.2.2.2.1 _ flX7_link_12) rfl rfl dX7_link_5 ?_
  obtain ⟨r1, w2, hc3, hf⟩ := bdt hf
  refine x_callVv (c0 := 11) (t0 := 0) (As := [.ref (G.1 0 0)]) (rest := []) M hl0 hS0 (c_X2_draft l (by decide)  hc3) (cwV 1 M.2.2.2.2.1 gX7_link_X2_draft rfl rfl rfl (by decide +kernel) ⟨Nat.le_of_ble_eq_true rfl, Nat.le_of_ble_eq_true rfl⟩) (by decide) (sE_11 G _ _) rfl rfl (Nat.le_of_ble_eq_true rfl) dX7_link_8 rfl ⟨Nat.zero_le _, Nat.zero_le _⟩ (fun H locs hS5 => ?_)
  refine x_aload_n M hl0 dX7_link_11 0 rfl ?_
  refine x_aload_n M hl0 dX7_link_12 0 rfl ?_
  refine x_get (c0 := 10) (t0 := 0) (v := .ref (G.1 0 0)) M hS5 (by decide) (ref := "NamedMoves") inX7_link_X7 (sE_10 G _ _) rfl 0 (by decide) (M.2.2.2.2.1 _ flX7_link_12) rfl rfl dX7_link_13 ?_
  refine x_iload_n M hl0 dX7_link_16 1 rfl ?_
  refine x_iload_n M hl0 dX7_link_17 2 rfl ?_
  refine x_iload_n M hl0 dX7_link_18 3 rfl ?_
  obtain ⟨r6, w7, hc8, hf⟩ := bdt hf
  refine x_callVi (c0 := 0) (t0 := 0) (As := [iV x1, iV x2, iV x3]) (rest := [.ref (G.1 10 0)]) M hl0 hS5 (c_X5_linkHooks l (by decide) hx1 hx2 hx3 hc8) (cwV 3 M.2.2.2.2.1 gX7_link_X5_linkHooks rfl rfl rfl (by decide +kernel) ⟨Nat.le_of_ble_eq_true rfl, Nat.le_of_ble_eq_true rfl⟩) (by decide) (sE_0 G _ _) rfl rfl (Nat.le_of_ble_eq_true rfl) dX7_link_19 rfl ⟨Nat.zero_le _, Nat.zero_le _⟩ (fun H locs hi9 hS10 => ?_)
  obtain ⟨r11, w12, hc13, hf⟩ := bdt hf
  refine x_callVi (c0 := 10) (t0 := 0) (As := [iV r6]) (rest := []) M hl0 hS10 (c_X7_recorded l  hi9 hc13) (cwV 1 M.2.2.2.2.1 gX7_link_X7_recorded rfl rfl rfl (by decide +kernel) ⟨Nat.le_of_ble_eq_true rfl, Nat.le_of_ble_eq_true rfl⟩) (by decide) (sE_10 G _ _) rfl rfl (Nat.le_of_ble_eq_true rfl) dX7_link_22 rfl ⟨Nat.zero_le _, Nat.zero_le _⟩ (fun H locs hi14 hS15 => ?_)
  exact x_iret M hr hf hS15 hi14 dX7_link_25

/-! X5_followName -/
theorem flX5_followName_18 : Cond.fieldLink RX5 18 "NamedMoves$Store" "copies" "LNamedMoves$Copies;" ∈ wsX5_followName := by decide +kernel
theorem flX5_followName_9 : Cond.fieldLink RX5 9 "NamedMoves$Store" "hooks" "[I" ∈ wsX5_followName := by decide +kernel
theorem inX5_followName_X0 : ∀ w ∈ u_ws RX0 TX0 5, w ∈ wsX5_followName := by decide +kernel
theorem inX5_followName_X5 : ∀ w ∈ u_ws RX5 TX5 10, w ∈ wsX5_followName := by decide +kernel
theorem iniX5_followName_X7 : Cond.initialized RX7 ∈ wsX5_followName := by decide +kernel
theorem stX5_followName_X7_isHook : Cond.static yX7_isHook ∈ wsX5_followName := by decide +kernel
theorem stX5_followName_X7_isName : Cond.static yX7_isName ∈ wsX5_followName := by decide +kernel
set_option maxHeartbeats 4000000 in
set_option maxRecDepth 100000 in
theorem c_X5_followName (l : Launch) {G : GG} {t : Nat} (ht : t < 8) {x1 : Int} (hx1 : InR x1) {x2 : Int} (hx2 : InR x2) {x3 : Int} (hx3 : InR x3) {w : Wd} {r : Int} {w' : Wd} (hf : X5_followName t x1 x2 x3 w = some (r, w')) : Met l yX5_followName wsX5_followName (rmk 3) (PcG G w [.ref (G.1 0 t), iV x1, iV x2, iV x3]) (QiG G r w') 0 0 (GA G) := by
  refine met_of (own := RX5) (by decide) rfl (Nat.le_of_ble_eq_true rfl) rfl ?_
  intro p e s m args below meth c M hr ls hl0 hS0
  have hl0 : lv_has ls 5 [(0, .ref (G.1 0 t)), (1, iV x1), (2, iV x2), (3, iV x3)] := hl0
  unfold X5_followName at hf
  refine x_iload_n M hl0 dX5_followName_0 1 rfl ?_
  obtain ⟨r1, w2, hc3, hf⟩ := bdt hf
  refine x_callNi (As := [iV x1]) (rest := []) M hl0 hS0 (c_X7_isHook l  hx1 hc3) (va_cnB 1 M.2.2.2.2.1 gX5_followName_X7_isHook_n71 rfl rfl rfl M.2.2.2.2.2.2.2.2.2.2.2.2 (M.2.2.2.2.1 _ iniX5_followName_X7) (by decide +kernel) ⟨Nat.le_of_ble_eq_true rfl, Nat.le_of_ble_eq_true rfl⟩) (M.2.2.2.2.1 _ stX5_followName_X7_isHook) rfl (Nat.le_of_ble_eq_true rfl) dX5_followName_1 rfl ⟨Nat.zero_le _, Nat.zero_le _⟩ (fun H locs hi4 hS5 => ?_)
  refine x_if_eq (tgt := 21) M hi4 dX5_followName_4 (by decide) (fun hc => ?_) (fun hc => ?_)
  · have hf := ift hf hc
    refine x_iconst M dX5_followName_21 ?_
    exact x_iret M hr hf hS5 ⟨by decide, by decide⟩ dX5_followName_22
  · have hf := iff_ hf hc
    refine x_iload_n M hl0 dX5_followName_7 2 rfl ?_
    obtain ⟨r6, w7, hc8, hf⟩ := bdt hf
    refine x_callNi (As := [iV x2]) (rest := []) M hl0 hS5 (c_X7_isName l  hx2 hc8) (va_cnB 1 M.2.2.2.2.1 gX5_followName_X7_isName_n127 rfl rfl rfl M.2.2.2.2.2.2.2.2.2.2.2.1 (M.2.2.2.2.1 _ iniX5_followName_X7) (by decide +kernel) ⟨Nat.le_of_ble_eq_true rfl, Nat.le_of_ble_eq_true rfl⟩) (M.2.2.2.2.1 _ stX5_followName_X7_isName) rfl (Nat.le_of_ble_eq_true rfl) dX5_followName_8 rfl ⟨Nat.zero_le _, Nat.zero_le _⟩ (fun H locs hi9 hS10 => ?_)
    refine x_if_eq (tgt := 21) M hi9 dX5_followName_11 (by decide) (fun hc => ?_) (fun hc => ?_)
    · have hf := ift hf hc
      refine x_iconst M dX5_followName_21 ?_
      exact x_iret M hr hf hS10 ⟨by decide, by decide⟩ dX5_followName_22
    · have hf := iff_ hf hc
      refine x_iload_n M hl0 dX5_followName_14 3 rfl ?_
      obtain ⟨r11, w12, hc13, hf⟩ := bdt hf
      refine x_callNi (As := [iV x3]) (rest := []) M hl0 hS10 (c_X7_isHook l  hx3 hc13) (va_cnB 1 M.2.2.2.2.1 gX5_followName_X7_isHook_n71 rfl rfl rfl M.2.2.2.2.2.2.2.2.2.2.2.2 (M.2.2.2.2.1 _ iniX5_followName_X7) (by decide +kernel) ⟨Nat.le_of_ble_eq_true rfl, Nat.le_of_ble_eq_true rfl⟩) (M.2.2.2.2.1 _ stX5_followName_X7_isHook) rfl (Nat.le_of_ble_eq_true rfl) dX5_followName_15 rfl ⟨Nat.zero_le _, Nat.zero_le _⟩ (fun H locs hi14 hS15 => ?_)
      refine x_if_ne (tgt := 23) M hi14 dX5_followName_18 (by decide) (fun hc => ?_) (fun hc => ?_)
      · have hf := iff_ hf hc
        refine x_aload_n M hl0 dX5_followName_23 0 rfl ?_
        refine x_get (c0 := 0) (t0 := t) (v := .ref (G.1 1 t)) M hS15 (Or.inl ⟨by decide, ht⟩) (ref := "NamedMoves$Store") inX5_followName_X5 (sE_0 G _ _) rfl 0 (by decide) (M.2.2.2.2.1 _ flX5_followName_9) rfl rfl dX5_followName_24 ?_
        refine x_iload_n M hl0 dX5_followName_27 1 rfl ?_
        obtain ⟨g16, hf⟩ := gdt hf
        refine x_iald (c0 := 1) (t0 := t) M hS15 (Or.inl ⟨by decide, ht⟩) (hs_1 G _) rfl g16 (by decide) dX5_followName_28 ?_
        refine x_sipush M dX5_followName_29 rfl ?_
        refine x_icmp_ne (tgt := 38) M (hS15.inr _ _ _) ⟨by decide, by decide⟩ dX5_followName_32 (by decide) (fun hc => ?_) (fun hc => ?_)
        · have hf := iff_ hf hc
          refine x_aload_n M hl0 dX5_followName_38 0 rfl ?_
          refine x_aload_n M hl0 dX5_followName_39 0 rfl ?_
          refine x_get (c0 := 0) (t0 := t) (v := .ref (G.1 1 t)) M hS15 (Or.inl ⟨by decide, ht⟩) (ref := "NamedMoves$Store") inX5_followName_X5 (sE_0 G _ _) rfl 0 (by decide) (M.2.2.2.2.1 _ flX5_followName_9) rfl rfl dX5_followName_40 ?_
          refine x_iload_n M hl0 dX5_followName_43 1 rfl ?_
          obtain ⟨r17, w18, hc19, hf⟩ := bdt hf
          refine x_callVi (c0 := 0) (t0 := t) (As := [.ref (G.1 1 t), iV x1]) (rest := []) M hl0 hS15 (c_X5_readIn_h l ht ht hx1 hc19) (cwV 2 M.2.2.2.2.1 gX5_followName_X5_readIn rfl rfl rfl (by decide +kernel) ⟨Nat.le_of_ble_eq_true rfl, Nat.le_of_ble_eq_true rfl⟩) (Or.inl ⟨by decide, ht⟩) (sE_0 G _ _) rfl rfl (Nat.le_of_ble_eq_true rfl) dX5_followName_44 rfl ⟨Nat.zero_le _, Nat.zero_le _⟩ (fun H locs hi20 hS21 => ?_)
          refine x_istore M hl0 dX5_followName_47 (by decide) [(4, iV r17), (0, .ref (G.1 0 t)), (1, iV x1), (2, iV x2), (3, iV x3)] rfl (fun ls hl22 => ?_)
          refine x_aload_n M hl22 dX5_followName_49 1 rfl ?_
          refine x_get (c0 := 0) (t0 := t) (v := .ref (G.1 1 t)) M hS21 (Or.inl ⟨by decide, ht⟩) (ref := "NamedMoves$Store") inX5_followName_X5 (sE_0 G _ _) rfl 0 (by decide) (M.2.2.2.2.1 _ flX5_followName_9) rfl rfl dX5_followName_50 ?_
          refine x_iload_n M hl22 dX5_followName_53 4 rfl ?_
          refine x_aload_n M hl22 dX5_followName_54 1 rfl ?_
          refine x_aload_n M hl22 dX5_followName_55 1 rfl ?_
          refine x_get (c0 := 0) (t0 := t) (v := .ref (G.1 2 t)) M hS21 (Or.inl ⟨by decide, ht⟩) (ref := "NamedMoves$Store") inX5_followName_X5 (sE_0 G _ _) rfl 1 (by decide) (M.2.2.2.2.1 _ flX5_followName_18) rfl rfl dX5_followName_56 ?_
          refine x_getN (host := "NamedMoves") (c0 := 2) (t0 := t) (v := .ref (G.1 7 t)) M hS21 (Or.inl ⟨by decide, ht⟩) (ref := "NamedMoves$Copies") inX5_followName_X0 (sE_2 G _ _) rfl 4 (by decide) M.2.2.2.2.2.2.2.2.2.1 rfl rfl dX5_followName_59 ?_
          refine x_iload M hl22 dX5_followName_62 0 rfl ?_
          refine x_iconst M dX5_followName_64 ?_
          obtain ⟨g23, hf⟩ := gdt hf
          refine x_imul M dX5_followName_65 ?_
          refine x_iload_n M hl22 dX5_followName_66 3 rfl ?_
          obtain ⟨g24, hf⟩ := gdt hf
          refine x_iadd M dX5_followName_67 ?_
          obtain ⟨r25, w26, hc27, hf⟩ := bdt hf
          refine x_callVi (c0 := 0) (t0 := t) (As := [.ref (G.1 7 t), iV ((r17 * 2) + x2)]) (rest := [iV x3, .ref (G.1 1 t)]) M hl22 hS21 (c_X5_readIn_n l ht ht g24 hc27) (cwV 2 M.2.2.2.2.1 gX5_followName_X5_readIn rfl rfl rfl (by decide +kernel) ⟨Nat.le_of_ble_eq_true rfl, Nat.le_of_ble_eq_true rfl⟩) (Or.inl ⟨by decide, ht⟩) (sE_0 G _ _) rfl rfl (Nat.le_of_ble_eq_true rfl) dX5_followName_68 rfl ⟨Nat.zero_le _, Nat.zero_le _⟩ (fun H locs hi28 hS29 => ?_)
          obtain ⟨g30, hf⟩ := gdt hf
          refine x_iast (c0 := 1) (t0 := t) M hS29 (Or.inl ⟨by decide, ht⟩) (hs_1 G _) rfl g30 (by decide) hi28 dX5_followName_71 (fun H locs hS31 => ?_)
          refine x_aload_n M hl22 dX5_followName_72 1 rfl ?_
          refine x_get (c0 := 0) (t0 := t) (v := .ref (G.1 1 t)) M hS31 (Or.inl ⟨by decide, ht⟩) (ref := "NamedMoves$Store") inX5_followName_X5 (sE_0 G _ _) rfl 0 (by decide) (M.2.2.2.2.1 _ flX5_followName_9) rfl rfl dX5_followName_73 ?_
          refine x_iload_n M hl22 dX5_followName_76 4 rfl ?_
          refine x_iald (c0 := 1) (t0 := t) M hS31 (Or.inl ⟨by decide, ht⟩) (hs_1 G _) rfl g30 (by decide) dX5_followName_77 ?_
          exact x_iret M hr hf hS31 (hS31.inr _ _ _) dX5_followName_78
        · have hf := ift hf (Decidable.of_not_not hc)
          refine x_bipush M dX5_followName_35 rfl ?_
          exact x_iret M hr hf hS15 ⟨by decide, by decide⟩ dX5_followName_37
      · have hf := ift hf (Decidable.of_not_not hc)
        refine x_iconst M dX5_followName_21 ?_
        exact x_iret M hr hf hS15 ⟨by decide, by decide⟩ dX5_followName_22

end
