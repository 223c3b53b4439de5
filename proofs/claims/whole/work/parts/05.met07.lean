section
variable {p : Program} {l : Launch} {e : Env} {s : State} {m : MethodId} {args : Array Value} {below : List Frame} {meth : Method} {c : Code} {G : GG}
/-! X8_isHook -/
set_option maxHeartbeats 4000000 in
set_option maxRecDepth 100000 in
theorem c_X8_isHook (l : Launch) {G : GG} {x0 : Int} (hx0 : InR x0) {w : Wd} {r : Int} {w' : Wd} (hf : X8_isHook x0 w = some (r, w')) : Met l yX8_isHook wsX8_isHook (rmk 1) (PcG G w [iV x0]) (QiG G r w') 0 0 (GA G) := by
  refine met_of (own := RX8) (by decide) rfl (Nat.le_of_ble_eq_true rfl) rfl ?_
  intro p e s m args below meth c M hr ls hl0 hS0
  have hl0 : lv_has ls 1 [(0, iV x0)] := hl0
  unfold X8_isHook at hf
  refine x_iload_n M hl0 dX8_isHook_0 0 rfl ?_
  refine x_iconst M dX8_isHook_1 ?_
  refine x_bipush M dX8_isHook_2 rfl ?_
  obtain ⟨r1, w2, hc3, hf⟩ := bdt hf
  refine x_callSi (As := [iV x0, iV 0, iV 7]) (rest := []) M hl0 hS0 (c_X8_in l  hx0 ⟨by decide, by decide⟩ ⟨by decide, by decide⟩ hc3) (va_cwS 3 M.2.2.2.2.1 gX8_isHook_X8_in rfl rfl rfl (by decide +kernel) ⟨Nat.le_of_ble_eq_true rfl, Nat.le_of_ble_eq_true rfl⟩) rfl (Nat.le_of_ble_eq_true rfl) dX8_isHook_4 rfl ⟨Nat.zero_le _, Nat.zero_le _⟩ (fun H locs hi4 hS5 => ?_)
  obtain ⟨g6, hf⟩ := gdt hf
  exact x_zret M hr hf hS5 g6 dX8_isHook_7

/-! X8_isThing -/
theorem flX8_isThing_7 : Cond.fieldLink RX8 7 "NamedMovesModel" "s" "[I" ∈ wsX8_isThing := by decide +kernel
theorem inX8_isThing_X8 : ∀ w ∈ u_ws RX8 TX8 12, w ∈ wsX8_isThing := by decide +kernel
set_option maxHeartbeats 4000000 in
set_option maxRecDepth 100000 in
theorem c_X8_isThing (l : Launch) {G : GG} {x1 : Int} (hx1 : InR x1) {w : Wd} {r : Int} {w' : Wd} (hf : X8_isThing x1 w = some (r, w')) : Met l yX8_isThing wsX8_isThing (rmk 0) (PcG G w [.ref (G.1 21 0), iV x1]) (QiG G r w') 0 0 (GA G) := by
  refine met_of (own := RX8) (by decide) rfl (Nat.le_of_ble_eq_true rfl) rfl ?_
  intro p e s m args below meth c M hr ls hl0 hS0
  have hl0 : lv_has ls 2 [(0, .ref (G.1 21 0)), (1, iV x1)] := hl0
  unfold X8_isThing at hf
  refine x_iload_n M hl0 dX8_isThing_0 1 rfl ?_
  refine x_if_lt (tgt := 18) M hx1 dX8_isThing_1 (by decide) (fun hc => ?_) (fun hc => ?_)
  · have hf := ift hf hc
    refine x_iconst M dX8_isThing_18 ?_
    exact x_zret M hr hf hS0 (Or.inl rfl) dX8_isThing_19
  · have hf := iff_ hf hc
    refine x_iload_n M hl0 dX8_isThing_4 1 rfl ?_
    refine x_aload_n M hl0 dX8_isThing_5 0 rfl ?_
    refine x_get (c0 := 21) (t0 := 0) (v := .ref (G.1 22 0)) M hS0 (by decide) (ref := "NamedMovesModel") inX8_isThing_X8 (sE_21 G _ _) rfl 0 (by decide) (M.2.2.2.2.1 _ flX8_isThing_7) rfl rfl dX8_isThing_6 ?_
    refine x_iconst M dX8_isThing_9 ?_
    refine x_iald (c0 := 22) (t0 := 0) M hS0 (by decide) (hs_22 G _) rfl ⟨by decide, by decide⟩ (by decide) dX8_isThing_10 ?_
    refine x_icmp_ge (tgt := 18) M hx1 (hS0.inr _ _ _) dX8_isThing_11 (by decide) (fun hc => ?_) (fun hc => ?_)
    · have hf := iff_ hf (Int.not_lt.mpr hc)
      refine x_iconst M dX8_isThing_18 ?_
      exact x_zret M hr hf hS0 (Or.inl rfl) dX8_isThing_19
    · have hf := ift hf (Int.not_le.mp hc)
      refine x_iconst M dX8_isThing_14 ?_
      refine x_goto (tgt := 19) M dX8_isThing_15 (by decide) ?_
      exact x_zret M hr hf hS0 (Or.inr rfl) dX8_isThing_19

/-! X8_isAddress -/
set_option maxHeartbeats 4000000 in
set_option maxRecDepth 100000 in
theorem X8_isAddress_b21_ok (M : MC p s m args meth c cX8_isAddress 1 RX8 wsX8_isAddress G) (hr : meth.sig.returnType = (some .boolean)) : ∀ x0 : Int, ∀ w : Wd, InR x0 → ∀ (H : Heap) (locs : List Loc), ST G s w H locs → ∀ ls : Array Slot, lv_has ls 1 [(0, iV x0)] → ∀ (r : Int) (w' : Wd), X8_isAddress_b21 x0 w = some (r, w') → W p l e (rmk 0) s m args below meth c H locs 0 0 (MQ below (QiG G r w') args s 0 0 (GA G)) (F0 m 21 ls []) := by
  intro x0 w hx0 H locs hS0 ls hl0 r w' hf
  unfold X8_isAddress_b21 at hf
  refine x_iload_n M hl0 dX8_isAddress_21 0 rfl ?_
  refine x_bipush M dX8_isAddress_22 rfl ?_
  obtain ⟨g2, hf⟩ := gdt hf
  refine x_idiv M hx0 ⟨by decide, by decide⟩ ⟨g2, by decide⟩ dX8_isAddress_24 ?_
  refine x_iconst M dX8_isAddress_25 ?_
  refine x_icmp_ne (tgt := 42) M (o_inr_div hx0 ⟨g2, by decide⟩) ⟨by decide, by decide⟩ dX8_isAddress_26 (by decide) (fun hc => ?_) (fun hc => ?_)
  · have hf := iff_ hf hc
    refine x_iconst M dX8_isAddress_42 ?_
    exact x_zret M hr hf hS0 (Or.inl rfl) dX8_isAddress_43
  · have hf := ift hf (Decidable.of_not_not hc)
    refine x_iload_n M hl0 dX8_isAddress_29 0 rfl ?_
    refine x_bipush M dX8_isAddress_30 rfl ?_
    refine x_irem M hx0 ⟨by decide, by decide⟩ ⟨g2, by decide⟩ dX8_isAddress_32 ?_
    refine x_bipush M dX8_isAddress_33 rfl ?_
    refine x_icmp_ge (tgt := 42) M (o_inr_rem ⟨by decide, by decide⟩ ⟨g2, by decide⟩) ⟨by decide, by decide⟩ dX8_isAddress_35 (by decide) (fun hc => ?_) (fun hc => ?_)
    · have hf := iff_ hf (Int.not_lt.mpr hc)
      refine x_iconst M dX8_isAddress_42 ?_
      exact x_zret M hr hf hS0 (Or.inl rfl) dX8_isAddress_43
    · have hf := ift hf (Int.not_le.mp hc)
      refine x_iconst M dX8_isAddress_38 ?_
      refine x_goto (tgt := 43) M dX8_isAddress_39 (by decide) ?_
      exact x_zret M hr hf hS0 (Or.inr rfl) dX8_isAddress_43

set_option maxHeartbeats 4000000 in
set_option maxRecDepth 100000 in
theorem c_X8_isAddress (l : Launch) {G : GG} {x0 : Int} (hx0 : InR x0) {w : Wd} {r : Int} {w' : Wd} (hf : X8_isAddress x0 w = some (r, w')) : Met l yX8_isAddress wsX8_isAddress (rmk 0) (PcG G w [iV x0]) (QiG G r w') 0 0 (GA G) := by
  refine met_of (own := RX8) (by decide) rfl (Nat.le_of_ble_eq_true rfl) rfl ?_
  intro p e s m args below meth c M hr ls hl0 hS0
  have hl0 : lv_has ls 1 [(0, iV x0)] := hl0
  unfold X8_isAddress at hf
  refine x_iload_n M hl0 dX8_isAddress_0 0 rfl ?_
  refine x_if_lt (tgt := 42) M hx0 dX8_isAddress_1 (by decide) (fun hc => ?_) (fun hc => ?_)
  · have hf := ift hf hc
    refine x_iconst M dX8_isAddress_42 ?_
    exact x_zret M hr hf hS0 (Or.inl rfl) dX8_isAddress_43
  · have hf := iff_ hf hc
    refine x_iload_n M hl0 dX8_isAddress_4 0 rfl ?_
    refine x_bipush M dX8_isAddress_5 rfl ?_
    obtain ⟨g1, hf⟩ := gdt hf
    refine x_idiv M hx0 ⟨by decide, by decide⟩ ⟨g1, by decide⟩ dX8_isAddress_7 ?_
    refine x_iconst M dX8_isAddress_8 ?_
    refine x_icmp_ge (tgt := 21) M (o_inr_div hx0 ⟨g1, by decide⟩) ⟨by decide, by decide⟩ dX8_isAddress_9 (by decide) (fun hc => ?_) (fun hc => ?_)
    · have hf := iff_ hf (Int.not_lt.mpr hc)
      exact X8_isAddress_b21_ok M hr x0 w hx0 _ _ hS0 _ (lv_sub hl0 [0] rfl) _ _ hf
    · have hf := ift hf (Int.not_le.mp hc)
      refine x_iload_n M hl0 dX8_isAddress_12 0 rfl ?_
      refine x_bipush M dX8_isAddress_13 rfl ?_
      refine x_irem M hx0 ⟨by decide, by decide⟩ ⟨g1, by decide⟩ dX8_isAddress_15 ?_
      refine x_bipush M dX8_isAddress_16 rfl ?_
      refine x_icmp_lt (tgt := 38) M (o_inr_rem ⟨by decide, by decide⟩ ⟨g1, by decide⟩) ⟨by decide, by decide⟩ dX8_isAddress_18 (by decide) (fun hc => ?_) (fun hc => ?_)
      · have hf := ift hf hc
        refine x_iconst M dX8_isAddress_38 ?_
        refine x_goto (tgt := 43) M dX8_isAddress_39 (by decide) ?_
        exact x_zret M hr hf hS0 (Or.inr rfl) dX8_isAddress_43
      · have hf := iff_ hf hc
        exact X8_isAddress_b21_ok M hr x0 w hx0 _ _ hS0 _ (lv_sub hl0 [0] rfl) _ _ hf

/-! X8_cell -/
set_option maxHeartbeats 4000000 in
set_option maxRecDepth 100000 in
theorem c_X8_cell (l : Launch) {G : GG} {x0 : Int} (hx0 : InR x0) {w : Wd} {r : Int} {w' : Wd} (hf : X8_cell x0 w = some (r, w')) : Met l yX8_cell wsX8_cell (rmk 0) (PcG G w [iV x0]) (QiG G r w') 0 0 (GA G) := by
  refine met_of (own := RX8) (by decide) rfl (Nat.le_of_ble_eq_true rfl) rfl ?_
  intro p e s m args below meth c M hr ls hl0 hS0
  have hl0 : lv_has ls 1 [(0, iV x0)] := hl0
  unfold X8_cell at hf
  refine x_bipush M dX8_cell_0 rfl ?_
  refine x_iload_n M hl0 dX8_cell_2 0 rfl ?_
  refine x_bipush M dX8_cell_3 rfl ?_
  obtain ⟨g1, hf⟩ := gdt hf
  refine x_idiv M hx0 ⟨by decide, by decide⟩ ⟨g1, by decide⟩ dX8_cell_5 ?_
  obtain ⟨g2, hf⟩ := gdt hf
  refine x_imul M dX8_cell_6 ?_
  refine x_iload_n M hl0 dX8_cell_7 0 rfl ?_
  refine x_bipush M dX8_cell_8 rfl ?_
  refine x_irem M hx0 ⟨by decide, by decide⟩ ⟨g1, by decide⟩ dX8_cell_10 ?_
  obtain ⟨g3, hf⟩ := gdt hf
  refine x_iadd M dX8_cell_11 ?_
  exact x_iret M hr hf hS0 g3 dX8_cell_12

/-! X8_address -/
set_option maxHeartbeats 4000000 in
set_option maxRecDepth 100000 in
theorem c_X8_address (l : Launch) {G : GG} {x0 : Int} (hx0 : InR x0) {w : Wd} {r : Int} {w' : Wd} (hf : X8_address x0 w = some (r, w')) : Met l yX8_address wsX8_address (rmk 0) (PcG G w [iV x0]) (QiG G r w') 0 0 (GA G) := by
  refine met_of (own := RX8) (by decide) rfl (Nat.le_of_ble_eq_true rfl) rfl ?_
  intro p e s m args below meth c M hr ls hl0 hS0
  have hl0 : lv_has ls 1 [(0, iV x0)] := hl0
  unfold X8_address at hf
  refine x_bipush M dX8_address_0 rfl ?_
  refine x_iload_n M hl0 dX8_address_2 0 rfl ?_
  refine x_bipush M dX8_address_3 rfl ?_
  obtain ⟨g1, hf⟩ := gdt hf
  refine x_idiv M hx0 ⟨by decide, by decide⟩ ⟨g1, by decide⟩ dX8_address_5 ?_
  obtain ⟨g2, hf⟩ := gdt hf
  refine x_imul M dX8_address_6 ?_
  refine x_iload_n M hl0 dX8_address_7 0 rfl ?_
  refine x_bipush M dX8_address_8 rfl ?_
  refine x_irem M hx0 ⟨by decide, by decide⟩ ⟨g1, by decide⟩ dX8_address_10 ?_
  obtain ⟨g3, hf⟩ := gdt hf
  refine x_iadd M dX8_address_11 ?_
  exact x_iret M hr hf hS0 g3 dX8_address_12

/-! X8_ofCopy -/
theorem flX8_ofCopy_7 : Cond.fieldLink RX8 7 "NamedMovesModel" "s" "[I" ∈ wsX8_ofCopy := by decide +kernel
theorem inX8_ofCopy_X8 : ∀ w ∈ u_ws RX8 TX8 12, w ∈ wsX8_ofCopy := by decide +kernel
set_option maxHeartbeats 4000000 in
set_option maxRecDepth 100000 in
theorem c_X8_ofCopy (l : Launch) {G : GG} {x1 : Int} (hx1 : InR x1) {x2 : Int} (hx2 : InR x2) {w : Wd} {r : Int} {w' : Wd} (hf : X8_ofCopy x1 x2 w = some (r, w')) : Met l yX8_ofCopy wsX8_ofCopy (rmk 0) (PcG G w [.ref (G.1 21 0), iV x1, iV x2]) (QiG G r w') 0 0 (GA G) := by
  refine met_of (own := RX8) (by decide) rfl (Nat.le_of_ble_eq_true rfl) rfl ?_
  intro p e s m args below meth c M hr ls hl0 hS0
  have hl0 : lv_has ls 3 [(0, .ref (G.1 21 0)), (1, iV x1), (2, iV x2)] := hl0
  unfold X8_ofCopy at hf
  refine x_aload_n M hl0 dX8_ofCopy_0 0 rfl ?_
  refine x_get (c0 := 21) (t0 := 0) (v := .ref (G.1 22 0)) M hS0 (by decide) (ref := "NamedMovesModel") inX8_ofCopy_X8 (sE_21 G _ _) rfl 0 (by decide) (M.2.2.2.2.1 _ flX8_ofCopy_7) rfl rfl dX8_ofCopy_1 ?_
  refine x_sipush M dX8_ofCopy_4 rfl ?_
  refine x_iconst M dX8_ofCopy_7 ?_
  refine x_iload_n M hl0 dX8_ofCopy_8 1 rfl ?_
  obtain ⟨g1, hf⟩ := gdt hf
  refine x_imul M dX8_ofCopy_9 ?_
  obtain ⟨g2, hf⟩ := gdt hf
  refine x_iadd M dX8_ofCopy_10 ?_
  refine x_iload_n M hl0 dX8_ofCopy_11 2 rfl ?_
  obtain ⟨g3, hf⟩ := gdt hf
  refine x_iadd M dX8_ofCopy_12 ?_
  obtain ⟨g4, hf⟩ := gdt hf
  refine x_iald (c0 := 22) (t0 := 0) M hS0 (by decide) (hs_22 G _) rfl g4 (by decide) dX8_ofCopy_13 ?_
  exact x_iret M hr hf hS0 (hS0.inr _ _ _) dX8_ofCopy_14

/-! X8_isCopy -/
set_option maxHeartbeats 4000000 in
set_option maxRecDepth 100000 in
theorem c_X8_isCopy (l : Launch) {G : GG} {x1 : Int} (hx1 : InR x1) {w : Wd} {r : Int} {w' : Wd} (hf : X8_isCopy x1 w = some (r, w')) : Met l yX8_isCopy wsX8_isCopy (rmk 1) (PcG G w [.ref (G.1 21 0), iV x1]) (QiG G r w') 0 0 (GA G) := by
  refine met_of (own := RX8) (by decide) rfl (Nat.le_of_ble_eq_true rfl) rfl ?_
  intro p e s m args below meth c M hr ls hl0 hS0
  have hl0 : lv_has ls 2 [(0, .ref (G.1 21 0)), (1, iV x1)] := hl0
  unfold X8_isCopy at hf
  refine x_aload_n M hl0 dX8_isCopy_0 0 rfl ?_
  refine x_iload_n M hl0 dX8_isCopy_1 1 rfl ?_
  refine x_iconst M dX8_isCopy_2 ?_
  obtain ⟨r1, w2, hc3, hf⟩ := bdt hf
  refine x_callVi (c0 := 21) (t0 := 0) (As := [iV x1, iV 0]) (rest := []) M hl0 hS0 (c_X8_ofCopy l  hx1 ⟨by decide, by decide⟩ hc3) (cwV 2 M.2.2.2.2.1 gX8_isCopy_X8_ofCopy rfl rfl rfl (by decide +kernel) ⟨Nat.le_of_ble_eq_true rfl, Nat.le_of_ble_eq_true rfl⟩) (by decide) (sE_21 G _ _) rfl rfl (Nat.le_of_ble_eq_true rfl) dX8_isCopy_3 rfl ⟨Nat.zero_le _, Nat.zero_le _⟩ (fun H locs hi4 hS5 => ?_)
  refine x_if_le (tgt := 13) M hi4 dX8_isCopy_6 (by decide) (fun hc => ?_) (fun hc => ?_)
  · have hf := iff_ hf (Int.not_lt.mpr hc)
    refine x_iconst M dX8_isCopy_13 ?_
    exact x_zret M hr hf hS5 (Or.inl rfl) dX8_isCopy_14
  · have hf := ift hf (Int.not_le.mp hc)
    refine x_iconst M dX8_isCopy_9 ?_
    refine x_goto (tgt := 14) M dX8_isCopy_10 (by decide) ?_
    exact x_zret M hr hf hS5 (Or.inr rfl) dX8_isCopy_14

/-! X8_sizeAt -/
theorem flX8_sizeAt_7 : Cond.fieldLink RX8 7 "NamedMovesModel" "s" "[I" ∈ wsX8_sizeAt := by decide +kernel
theorem inX8_sizeAt_X8 : ∀ w ∈ u_ws RX8 TX8 12, w ∈ wsX8_sizeAt := by decide +kernel
set_option maxHeartbeats 4000000 in
set_option maxRecDepth 100000 in
theorem c_X8_sizeAt (l : Launch) {G : GG} {x1 : Int} (hx1 : InR x1) {w : Wd} {r : Int} {w' : Wd} (hf : X8_sizeAt x1 w = some (r, w')) : Met l yX8_sizeAt wsX8_sizeAt (rmk 2) (PcG G w [.ref (G.1 21 0), iV x1]) (QiG G r w') 0 0 (GA G) := by
  refine met_of (own := RX8) (by decide) rfl (Nat.le_of_ble_eq_true rfl) rfl ?_
  intro p e s m args below meth c M hr ls hl0 hS0
  have hl0 : lv_has ls 2 [(0, .ref (G.1 21 0)), (1, iV x1)] := hl0
  unfold X8_sizeAt at hf
  refine x_aload_n M hl0 dX8_sizeAt_0 0 rfl ?_
  refine x_iload_n M hl0 dX8_sizeAt_1 1 rfl ?_
  obtain ⟨r1, w2, hc3, hf⟩ := bdt hf
  refine x_callVi (c0 := 21) (t0 := 0) (As := [iV x1]) (rest := []) M hl0 hS0 (c_X8_isCopy l  hx1 hc3) (cwV 1 M.2.2.2.2.1 gX8_sizeAt_X8_isCopy rfl rfl rfl (by decide +kernel) ⟨Nat.le_of_ble_eq_true rfl, Nat.le_of_ble_eq_true rfl⟩) (by decide) (sE_21 G _ _) rfl rfl (Nat.le_of_ble_eq_true rfl) dX8_sizeAt_2 rfl ⟨Nat.zero_le _, Nat.zero_le _⟩ (fun H locs hi4 hS5 => ?_)
  refine x_if_eq (tgt := 27) M hi4 dX8_sizeAt_5 (by decide) (fun hc => ?_) (fun hc => ?_)
  · have hf := ift hf hc
    refine x_iconst M dX8_sizeAt_27 ?_
    exact x_iret M hr hf hS5 ⟨by decide, by decide⟩ dX8_sizeAt_28
  · have hf := iff_ hf hc
    refine x_aload_n M hl0 dX8_sizeAt_8 0 rfl ?_
    refine x_get (c0 := 21) (t0 := 0) (v := .ref (G.1 22 0)) M hS5 (by decide) (ref := "NamedMovesModel") inX8_sizeAt_X8 (sE_21 G _ _) rfl 0 (by decide) (M.2.2.2.2.1 _ flX8_sizeAt_7) rfl rfl dX8_sizeAt_9 ?_
    refine x_bipush M dX8_sizeAt_12 rfl ?_
    refine x_aload_n M hl0 dX8_sizeAt_14 0 rfl ?_
    refine x_iload_n M hl0 dX8_sizeAt_15 1 rfl ?_
    refine x_iconst M dX8_sizeAt_16 ?_
    obtain ⟨r6, w7, hc8, hf⟩ := bdt hf
    refine x_callVi (c0 := 21) (t0 := 0) (As := [iV x1, iV 0]) (rest := [iV 17, .ref (G.1 22 0)]) M hl0 hS5 (c_X8_ofCopy l  hx1 ⟨by decide, by decide⟩ hc8) (cwV 2 M.2.2.2.2.1 gX8_sizeAt_X8_ofCopy rfl rfl rfl (by decide +kernel) ⟨Nat.le_of_ble_eq_true rfl, Nat.le_of_ble_eq_true rfl⟩) (by decide) (sE_21 G _ _) rfl rfl (Nat.le_of_ble_eq_true rfl) dX8_sizeAt_17 rfl ⟨Nat.zero_le _, Nat.zero_le _⟩ (fun H locs hi9 hS10 => ?_)
    obtain ⟨g11, hf⟩ := gdt hf
    refine x_iadd M dX8_sizeAt_20 ?_
    refine x_iconst M dX8_sizeAt_21 ?_
    obtain ⟨g12, hf⟩ := gdt hf
    refine x_isub M dX8_sizeAt_22 ?_
    obtain ⟨g13, hf⟩ := gdt hf
    refine x_iald (c0 := 22) (t0 := 0) M hS10 (by decide) (hs_22 G _) rfl g13 (by decide) dX8_sizeAt_23 ?_
    refine x_goto (tgt := 28) M dX8_sizeAt_24 (by decide) ?_
    exact x_iret M hr hf hS10 (hS10.inr _ _ _) dX8_sizeAt_28

/-! X8_isMoving -/
theorem flX8_isMoving_7 : Cond.fieldLink RX8 7 "NamedMovesModel" "s" "[I" ∈ wsX8_isMoving := by decide +kernel
theorem inX8_isMoving_X8 : ∀ w ∈ u_ws RX8 TX8 12, w ∈ wsX8_isMoving := by decide +kernel
set_option maxHeartbeats 4000000 in
set_option maxRecDepth 100000 in
theorem c_X8_isMoving (l : Launch) {G : GG} {w : Wd} {r : Int} {w' : Wd} (hf : X8_isMoving w = some (r, w')) : Met l yX8_isMoving wsX8_isMoving (rmk 0) (PcG G w [.ref (G.1 21 0)]) (QiG G r w') 0 0 (GA G) := by
  refine met_of (own := RX8) (by decide) rfl (Nat.le_of_ble_eq_true rfl) rfl ?_
  intro p e s m args below meth c M hr ls hl0 hS0
  have hl0 : lv_has ls 1 [(0, .ref (G.1 21 0))] := hl0
  unfold X8_isMoving at hf
  refine x_aload_n M hl0 dX8_isMoving_0 0 rfl ?_
  refine x_get (c0 := 21) (t0 := 0) (v := .ref (G.1 22 0)) M hS0 (by decide) (ref := "NamedMovesModel") inX8_isMoving_X8 (sE_21 G _ _) rfl 0 (by decide) (M.2.2.2.2.1 _ flX8_isMoving_7) rfl rfl dX8_isMoving_1 ?_
  refine x_iconst M dX8_isMoving_4 ?_
  refine x_iald (c0 := 22) (t0 := 0) M hS0 (by decide) (hs_22 G _) rfl ⟨by decide, by decide⟩ (by decide) dX8_isMoving_5 ?_
  refine x_iconst M dX8_isMoving_6 ?_
  refine x_icmp_ne (tgt := 14) M (hS0.inr _ _ _) ⟨by decide, by decide⟩ dX8_isMoving_7 (by decide) (fun hc => ?_) (fun hc => ?_)
  · have hf := iff_ hf hc
    refine x_iconst M dX8_isMoving_14 ?_
    exact x_zret M hr hf hS0 (Or.inl rfl) dX8_isMoving_15
  · have hf := ift hf (Decidable.of_not_not hc)
    refine x_iconst M dX8_isMoving_10 ?_
    refine x_goto (tgt := 15) M dX8_isMoving_11 (by decide) ?_
    exact x_zret M hr hf hS0 (Or.inr rfl) dX8_isMoving_15

/-! X8_old -/
theorem flX8_old_7 : Cond.fieldLink RX8 7 "NamedMovesModel" "s" "[I" ∈ wsX8_old := by decide +kernel
theorem inX8_old_X8 : ∀ w ∈ u_ws RX8 TX8 12, w ∈ wsX8_old := by decide +kernel
set_option maxHeartbeats 4000000 in
set_option maxRecDepth 100000 in
theorem c_X8_old (l : Launch) {G : GG} {w : Wd} {r : Int} {w' : Wd} (hf : X8_old w = some (r, w')) : Met l yX8_old wsX8_old (rmk 0) (PcG G w [.ref (G.1 21 0)]) (QiG G r w') 0 0 (GA G) := by
  refine met_of (own := RX8) (by decide) rfl (Nat.le_of_ble_eq_true rfl) rfl ?_
  intro p e s m args below meth c M hr ls hl0 hS0
  have hl0 : lv_has ls 1 [(0, .ref (G.1 21 0))] := hl0
  unfold X8_old at hf
  refine x_iconst M dX8_old_0 ?_
  refine x_aload_n M hl0 dX8_old_1 0 rfl ?_
  refine x_get (c0 := 21) (t0 := 0) (v := .ref (G.1 22 0)) M hS0 (by decide) (ref := "NamedMovesModel") inX8_old_X8 (sE_21 G _ _) rfl 0 (by decide) (M.2.2.2.2.1 _ flX8_old_7) rfl rfl dX8_old_2 ?_
  refine x_iconst M dX8_old_5 ?_
  refine x_iald (c0 := 22) (t0 := 0) M hS0 (by decide) (hs_22 G _) rfl ⟨by decide, by decide⟩ (by decide) dX8_old_6 ?_
  obtain ⟨g1, hf⟩ := gdt hf
  refine x_isub M dX8_old_7 ?_
  exact x_iret M hr hf hS0 g1 dX8_old_8

/-! X8_free -/
theorem flX8_free_7 : Cond.fieldLink RX8 7 "NamedMovesModel" "s" "[I" ∈ wsX8_free := by decide +kernel
theorem inX8_free_X8 : ∀ w ∈ u_ws RX8 TX8 12, w ∈ wsX8_free := by decide +kernel
set_option maxHeartbeats 4000000 in
set_option maxRecDepth 100000 in
theorem c_X8_free (l : Launch) {G : GG} {x1 : Int} (hx1 : InR x1) {w : Wd} {r : Int} {w' : Wd} (hf : X8_free x1 w = some (r, w')) : Met l yX8_free wsX8_free (rmk 0) (PcG G w [.ref (G.1 21 0), iV x1]) (QiG G r w') 0 0 (GA G) := by
  refine met_of (own := RX8) (by decide) rfl (Nat.le_of_ble_eq_true rfl) rfl ?_
  intro p e s m args below meth c M hr ls hl0 hS0
  have hl0 : lv_has ls 2 [(0, .ref (G.1 21 0)), (1, iV x1)] := hl0
  unfold X8_free at hf
  refine x_bipush M dX8_free_0 rfl ?_
  refine x_aload_n M hl0 dX8_free_2 0 rfl ?_
  refine x_get (c0 := 21) (t0 := 0) (v := .ref (G.1 22 0)) M hS0 (by decide) (ref := "NamedMovesModel") inX8_free_X8 (sE_21 G _ _) rfl 0 (by decide) (M.2.2.2.2.1 _ flX8_free_7) rfl rfl dX8_free_3 ?_
  refine x_iconst M dX8_free_6 ?_
  refine x_iload_n M hl0 dX8_free_7 1 rfl ?_
  obtain ⟨g1, hf⟩ := gdt hf
  refine x_iadd M dX8_free_8 ?_
  obtain ⟨g2, hf⟩ := gdt hf
  refine x_iald (c0 := 22) (t0 := 0) M hS0 (by decide) (hs_22 G _) rfl g2 (by decide) dX8_free_9 ?_
  obtain ⟨g3, hf⟩ := gdt hf
  refine x_isub M dX8_free_10 ?_
  exact x_iret M hr hf hS0 g3 dX8_free_11

/-! X8_kept -/
set_option maxHeartbeats 4000000 in
set_option maxRecDepth 100000 in
theorem X8_kept_b10_ok (M : MC p s m args meth c cX8_kept 3 RX8 wsX8_kept G) (hr : meth.sig.returnType = (some .int)) : ∀ n : Nat, ∀ x1 : Int, ∀ x2 : Int, ∀ w : Wd, InR x1 → InR x2 → ∀ (H : Heap) (locs : List Loc), ST G s w H locs → ∀ ls : Array Slot, lv_has ls 3 [(0, .ref (G.1 21 0)), (1, iV x1), (2, iV x2)] → ∀ (r : Int) (w' : Wd), X8_kept_b10 n x1 x2 w = some (r, w') → W p l e (rmk 3) s m args below meth c H locs 0 0 (MQ below (QiG G r w') args s 0 0 (GA G)) (F0 m 10 ls []) := by
  intro n
  induction n with
  | zero =>
    intro x1 x2 w hx1 hx2 H locs hS0 ls hl0 r w' hf
    cases hf
  | succ n ih =>
    intro x1 x2 w hx1 hx2 H locs hS0 ls hl0 r w' hf
    rw [X8_kept_b10_s] at hf
    refine x_iload_n M hl0 dX8_kept_10 2 rfl ?_
    refine x_bipush M dX8_kept_11 rfl ?_
    refine x_aload_n M hl0 dX8_kept_13 0 rfl ?_
    obtain ⟨r9, w10, hc11, hf⟩ := bdt hf
    refine x_callVi (c0 := 21) (t0 := 0) (As := []) (rest := [iV 64, iV x2]) M hl0 hS0 (c_X8_old l   hc11) (cwV 0 M.2.2.2.2.1 gX8_kept_X8_old rfl rfl rfl (by decide +kernel) ⟨Nat.le_of_ble_eq_true rfl, Nat.le_of_ble_eq_true rfl⟩) (by decide) (sE_21 G _ _) rfl rfl (Nat.le_of_ble_eq_true rfl) dX8_kept_14 rfl ⟨Nat.zero_le _, Nat.zero_le _⟩ (fun H locs hi12 hS13 => ?_)
    obtain ⟨g14, hf⟩ := gdt hf
    refine x_imul M dX8_kept_17 ?_
    refine x_bipush M dX8_kept_18 rfl ?_
    obtain ⟨g15, hf⟩ := gdt hf
    refine x_iadd M dX8_kept_20 ?_
    refine x_icmp_ge (tgt := 68) M hx2 g15 dX8_kept_21 (by decide) (fun hc => ?_) (fun hc => ?_)
    · have hf := iff_ hf (Int.not_lt.mpr hc)
      refine x_iload_n M hl0 dX8_kept_68 1 rfl ?_
      exact x_iret M hr hf hS13 hx1 dX8_kept_69
    · have hf := ift hf (Int.not_le.mp hc)
      refine x_aload_n M hl0 dX8_kept_24 0 rfl ?_
      obtain ⟨r16, w17, hc18, hf⟩ := bdt hf
      refine x_callVi (c0 := 21) (t0 := 0) (As := []) (rest := []) M hl0 hS13 (c_X8_isMoving l   hc18) (cwV 0 M.2.2.2.2.1 gX8_kept_X8_isMoving rfl rfl rfl (by decide +kernel) ⟨Nat.le_of_ble_eq_true rfl, Nat.le_of_ble_eq_true rfl⟩) (by decide) (sE_21 G _ _) rfl rfl (Nat.le_of_ble_eq_true rfl) dX8_kept_25 rfl ⟨Nat.zero_le _, Nat.zero_le _⟩ (fun H locs hi19 hS20 => ?_)
      refine x_if_eq (tgt := 68) M hi19 dX8_kept_28 (by decide) (fun hc => ?_) (fun hc => ?_)
      · have hf := ift hf hc
        refine x_iload_n M hl0 dX8_kept_68 1 rfl ?_
        exact x_iret M hr hf hS20 hx1 dX8_kept_69
      · have hf := iff_ hf hc
        refine x_iload_n M hl0 dX8_kept_31 1 rfl ?_
        refine x_aload_n M hl0 dX8_kept_32 0 rfl ?_
        refine x_iload_n M hl0 dX8_kept_33 2 rfl ?_
        obtain ⟨r21, w22, hc23, hf⟩ := bdt hf
        refine x_callVi (c0 := 21) (t0 := 0) (As := [iV x2]) (rest := [iV x1]) M hl0 hS20 (c_X8_isCopy l  hx2 hc23) (cwV 1 M.2.2.2.2.1 gX8_kept_X8_isCopy rfl rfl rfl (by decide +kernel) ⟨Nat.le_of_ble_eq_true rfl, Nat.le_of_ble_eq_true rfl⟩) (by decide) (sE_21 G _ _) rfl rfl (Nat.le_of_ble_eq_true rfl) dX8_kept_34 rfl ⟨Nat.zero_le _, Nat.zero_le _⟩ (fun H locs hi24 hS25 => ?_)
        refine x_if_eq (tgt := 59) M hi24 dX8_kept_37 (by decide) (fun hc => ?_) (fun hc => ?_)
        · have hf := ift hf hc
          refine x_iconst M dX8_kept_59 ?_
          obtain ⟨g26, hf⟩ := gdt hf
          refine x_iadd M dX8_kept_60 ?_
          refine x_istore_n M hl0 dX8_kept_61 (by decide) [(1, iV (x1 + 0)), (0, .ref (G.1 21 0)), (2, iV x2)] rfl (fun ls hl27 => ?_)
          obtain ⟨g28, hf⟩ := gdt hf
          refine x_iinc M hl27 dX8_kept_62 2 rfl (by decide) [(2, iV (x2 + 1)), (1, iV (x1 + 0)), (0, .ref (G.1 21 0))] rfl (fun ls hl29 => ?_)
          refine x_goto (tgt := 10) M dX8_kept_65 (by decide) ?_
          exact ih (x1 + 0) (x2 + 1) w22 g26 g28 _ _ hS25 _ (lv_sub hl29 [2, 1, 0] rfl) _ _ hf
        · have hf := iff_ hf hc
          refine x_aload_n M hl0 dX8_kept_40 0 rfl ?_
          refine x_iload_n M hl0 dX8_kept_41 2 rfl ?_
          refine x_iconst M dX8_kept_42 ?_
          obtain ⟨r30, w31, hc32, hf⟩ := bdt hf
          refine x_callVi (c0 := 21) (t0 := 0) (As := [iV x2, iV 3]) (rest := [iV x1]) M hl0 hS25 (c_X8_ofCopy l  hx2 ⟨by decide, by decide⟩ hc32) (cwV 2 M.2.2.2.2.1 gX8_kept_X8_ofCopy rfl rfl rfl (by decide +kernel) ⟨Nat.le_of_ble_eq_true rfl, Nat.le_of_ble_eq_true rfl⟩) (by decide) (sE_21 G _ _) rfl rfl (Nat.le_of_ble_eq_true rfl) dX8_kept_43 rfl ⟨Nat.zero_le _, Nat.zero_le _⟩ (fun H locs hi33 hS34 => ?_)
          refine x_bipush M dX8_kept_46 rfl ?_
          refine x_icmp_ne (tgt := 59) M hi33 ⟨by decide, by decide⟩ dX8_kept_48 (by decide) (fun hc => ?_) (fun hc => ?_)
          · have hf := iff_ hf hc
            refine x_iconst M dX8_kept_59 ?_
            obtain ⟨g35, hf⟩ := gdt hf
            refine x_iadd M dX8_kept_60 ?_
            refine x_istore_n M hl0 dX8_kept_61 (by decide) [(1, iV (x1 + 0)), (0, .ref (G.1 21 0)), (2, iV x2)] rfl (fun ls hl36 => ?_)
            obtain ⟨g37, hf⟩ := gdt hf
            refine x_iinc M hl36 dX8_kept_62 2 rfl (by decide) [(2, iV (x2 + 1)), (1, iV (x1 + 0)), (0, .ref (G.1 21 0))] rfl (fun ls hl38 => ?_)
            refine x_goto (tgt := 10) M dX8_kept_65 (by decide) ?_
            exact ih (x1 + 0) (x2 + 1) w31 g35 g37 _ _ hS34 _ (lv_sub hl38 [2, 1, 0] rfl) _ _ hf
          · have hf := ift hf (Decidable.of_not_not hc)
            refine x_aload_n M hl0 dX8_kept_51 0 rfl ?_
            refine x_iload_n M hl0 dX8_kept_52 2 rfl ?_
            obtain ⟨r39, w40, hc41, hf⟩ := bdt hf
            refine x_callVi (c0 := 21) (t0 := 0) (As := [iV x2]) (rest := [iV x1]) M hl0 hS34 (c_X8_sizeAt l  hx2 hc41) (cwV 1 M.2.2.2.2.1 gX8_kept_X8_sizeAt rfl rfl rfl (by decide +kernel) ⟨Nat.le_of_ble_eq_true rfl, Nat.le_of_ble_eq_true rfl⟩) (by decide) (sE_21 G _ _) rfl rfl (Nat.le_of_ble_eq_true rfl) dX8_kept_53 rfl ⟨Nat.zero_le _, Nat.zero_le _⟩ (fun H locs hi42 hS43 => ?_)
            refine x_goto (tgt := 60) M dX8_kept_56 (by decide) ?_
            obtain ⟨g44, hf⟩ := gdt hf
            refine x_iadd M dX8_kept_60 ?_
            refine x_istore_n M hl0 dX8_kept_61 (by decide) [(1, iV (x1 + r39)), (0, .ref (G.1 21 0)), (2, iV x2)] rfl (fun ls hl45 => ?_)
            obtain ⟨g46, hf⟩ := gdt hf
            refine x_iinc M hl45 dX8_kept_62 2 rfl (by decide) [(2, iV (x2 + 1)), (1, iV (x1 + r39)), (0, .ref (G.1 21 0))] rfl (fun ls hl47 => ?_)
            refine x_goto (tgt := 10) M dX8_kept_65 (by decide) ?_
            exact ih (x1 + r39) (x2 + 1) w40 g44 g46 _ _ hS43 _ (lv_sub hl47 [2, 1, 0] rfl) _ _ hf

set_option maxHeartbeats 4000000 in
set_option maxRecDepth 100000 in
theorem c_X8_kept (l : Launch) {G : GG} {w : Wd} {r : Int} {w' : Wd} (hf : X8_kept w = some (r, w')) : Met l yX8_kept wsX8_kept (rmk 3) (PcG G w [.ref (G.1 21 0)]) (QiG G r w') 0 0 (GA G) := by
  refine met_of (own := RX8) (by decide) rfl (Nat.le_of_ble_eq_true rfl) rfl ?_
  intro p e s m args below meth c M hr ls hl0 hS0
  have hl0 : lv_has ls 3 [(0, .ref (G.1 21 0))] := hl0
  unfold X8_kept at hf
  refine x_iconst M dX8_kept_0 ?_
  refine x_istore_n M hl0 dX8_kept_1 (by decide) [(1, iV 0), (0, .ref (G.1 21 0))] rfl (fun ls hl1 => ?_)
  refine x_bipush M dX8_kept_2 rfl ?_
  refine x_aload_n M hl1 dX8_kept_4 1 rfl ?_
  obtain ⟨r2, w3, hc4, hf⟩ := bdt hf
  refine x_callVi (c0 := 21) (t0 := 0) (As := []) (rest := [iV 64]) M hl1 hS0 (c_X8_old l   hc4) (cwV 0 M.2.2.2.2.1 gX8_kept_X8_old rfl rfl rfl (by decide +kernel) ⟨Nat.le_of_ble_eq_true rfl, Nat.le_of_ble_eq_true rfl⟩) (by decide) (sE_21 G _ _) rfl rfl (Nat.le_of_ble_eq_true rfl) dX8_kept_5 rfl ⟨Nat.zero_le _, Nat.zero_le _⟩ (fun H locs hi5 hS6 => ?_)
  obtain ⟨g7, hf⟩ := gdt hf
  refine x_imul M dX8_kept_8 ?_
  refine x_istore_n M hl1 dX8_kept_9 (by decide) [(2, iV (64 * r2)), (1, iV 0), (0, .ref (G.1 21 0))] rfl (fun ls hl8 => ?_)
  exact X8_kept_b10_ok M hr LF 0 (64 * r2) w3 ⟨by decide, by decide⟩ g7 _ _ hS6 _ (lv_sub hl8 [2, 1, 0] rfl) _ _ hf

/-! X8_lays -/
theorem flX8_lays_7 : Cond.fieldLink RX8 7 "NamedMovesModel" "s" "[I" ∈ wsX8_lays := by decide +kernel
theorem inX8_lays_X8 : ∀ w ∈ u_ws RX8 TX8 12, w ∈ wsX8_lays := by decide +kernel
set_option maxHeartbeats 4000000 in
set_option maxRecDepth 100000 in
theorem c_X8_lays (l : Launch) {G : GG} {x1 : Int} (hx1 : InR x1) {x2 : Int} (hx2 : InR x2) {x3 : Int} (hx3 : InR x3) {x4 : Int} (hx4 : InR x4) {x5 : Int} (hx5 : InR x5) {w : Wd} {r : Int} {w' : Wd} (hf : X8_lays x1 x2 x3 x4 x5 w = some (r, w')) : Met l yX8_lays wsX8_lays (rmk 0) (PcG G w [.ref (G.1 21 0), iV x1, iV x2, iV x3, iV x4, iV x5]) (QvG G w') 0 0 (GA G) := by
  refine met_of (own := RX8) (by decide) rfl (Nat.le_of_ble_eq_true rfl) rfl ?_
  intro p e s m args below meth c M hr ls hl0 hS0
  have hl0 : lv_has ls 7 [(0, .ref (G.1 21 0)), (1, iV x1), (2, iV x2), (3, iV x3), (4, iV x4), (5, iV x5)] := hl0
  unfold X8_lays at hf
  refine x_sipush M dX8_lays_0 rfl ?_
  refine x_iconst M dX8_lays_3 ?_
  refine x_iload_n M hl0 dX8_lays_4 1 rfl ?_
  obtain ⟨g1, hf⟩ := gdt hf
  refine x_imul M dX8_lays_5 ?_
  obtain ⟨g2, hf⟩ := gdt hf
  refine x_iadd M dX8_lays_6 ?_
  refine x_istore M hl0 dX8_lays_7 (by decide) [(6, iV (185 + (5 * x1))), (0, .ref (G.1 21 0)), (1, iV x1), (2, iV x2), (3, iV x3), (4, iV x4), (5, iV x5)] rfl (fun ls hl3 => ?_)
  refine x_aload_n M hl3 dX8_lays_9 1 rfl ?_
  refine x_get (c0 := 21) (t0 := 0) (v := .ref (G.1 22 0)) M hS0 (by decide) (ref := "NamedMovesModel") inX8_lays_X8 (sE_21 G _ _) rfl 0 (by decide) (M.2.2.2.2.1 _ flX8_lays_7) rfl rfl dX8_lays_10 ?_
  refine x_iload M hl3 dX8_lays_13 0 rfl ?_
  refine x_iconst M dX8_lays_15 ?_
  obtain ⟨g4, hf⟩ := gdt hf
  refine x_iadd M dX8_lays_16 ?_
  refine x_iload_n M hl3 dX8_lays_17 3 rfl ?_
  refine x_iconst M dX8_lays_18 ?_
  obtain ⟨g5, hf⟩ := gdt hf
  refine x_iadd M dX8_lays_19 ?_
  obtain ⟨g6, hf⟩ := gdt hf
  refine x_iast (c0 := 22) (t0 := 0) M hS0 (by decide) (hs_22 G _) rfl g6 (by decide) g5 dX8_lays_20 (fun H locs hS7 => ?_)
  refine x_aload_n M hl3 dX8_lays_21 1 rfl ?_
  refine x_get (c0 := 21) (t0 := 0) (v := .ref (G.1 22 0)) M hS7 (by decide) (ref := "NamedMovesModel") inX8_lays_X8 (sE_21 G _ _) rfl 0 (by decide) (M.2.2.2.2.1 _ flX8_lays_7) rfl rfl dX8_lays_22 ?_
  refine x_iload M hl3 dX8_lays_25 0 rfl ?_
  refine x_iconst M dX8_lays_27 ?_
  obtain ⟨g8, hf⟩ := gdt hf
  refine x_iadd M dX8_lays_28 ?_
  refine x_iload_n M hl3 dX8_lays_29 4 rfl ?_
  obtain ⟨g9, hf⟩ := gdt hf
  refine x_iast (c0 := 22) (t0 := 0) M hS7 (by decide) (hs_22 G _) rfl g9 (by decide) hx3 dX8_lays_30 (fun H locs hS10 => ?_)
  refine x_aload_n M hl3 dX8_lays_31 1 rfl ?_
  refine x_get (c0 := 21) (t0 := 0) (v := .ref (G.1 22 0)) M hS10 (by decide) (ref := "NamedMovesModel") inX8_lays_X8 (sE_21 G _ _) rfl 0 (by decide) (M.2.2.2.2.1 _ flX8_lays_7) rfl rfl dX8_lays_32 ?_
  refine x_iload M hl3 dX8_lays_35 0 rfl ?_
  refine x_iconst M dX8_lays_37 ?_
  refine x_iadd M dX8_lays_38 ?_
  refine x_iconst M dX8_lays_39 ?_
  obtain ⟨g11, hf⟩ := gdt hf
  refine x_iadd M dX8_lays_40 ?_
  refine x_iload M hl3 dX8_lays_41 5 rfl ?_
  obtain ⟨g12, hf⟩ := gdt hf
  refine x_iast (c0 := 22) (t0 := 0) M hS10 (by decide) (hs_22 G _) rfl g12 (by decide) hx4 dX8_lays_43 (fun H locs hS13 => ?_)
  refine x_aload_n M hl3 dX8_lays_44 1 rfl ?_
  refine x_get (c0 := 21) (t0 := 0) (v := .ref (G.1 22 0)) M hS13 (by decide) (ref := "NamedMovesModel") inX8_lays_X8 (sE_21 G _ _) rfl 0 (by decide) (M.2.2.2.2.1 _ flX8_lays_7) rfl rfl dX8_lays_45 ?_
  refine x_iload M hl3 dX8_lays_48 0 rfl ?_
  refine x_iconst M dX8_lays_50 ?_
  obtain ⟨g14, hf⟩ := gdt hf
  refine x_iadd M dX8_lays_51 ?_
  refine x_bipush M dX8_lays_52 rfl ?_
  obtain ⟨g15, hf⟩ := gdt hf
  refine x_iast (c0 := 22) (t0 := 0) M hS13 (by decide) (hs_22 G _) rfl g15 (by decide) ⟨by decide, by decide⟩ dX8_lays_54 (fun H locs hS16 => ?_)
  refine x_aload_n M hl3 dX8_lays_55 1 rfl ?_
  refine x_get (c0 := 21) (t0 := 0) (v := .ref (G.1 22 0)) M hS16 (by decide) (ref := "NamedMovesModel") inX8_lays_X8 (sE_21 G _ _) rfl 0 (by decide) (M.2.2.2.2.1 _ flX8_lays_7) rfl rfl dX8_lays_56 ?_
  refine x_iload M hl3 dX8_lays_59 0 rfl ?_
  refine x_iconst M dX8_lays_61 ?_
  obtain ⟨g17, hf⟩ := gdt hf
  refine x_iadd M dX8_lays_62 ?_
  refine x_iload M hl3 dX8_lays_63 6 rfl ?_
  obtain ⟨g18, hf⟩ := gdt hf
  refine x_iast (c0 := 22) (t0 := 0) M hS16 (by decide) (hs_22 G _) rfl g18 (by decide) hx5 dX8_lays_65 (fun H locs hS19 => ?_)
  exact x_vret M hr hf hS19 dX8_lays_66

/-! X8_joins -/
theorem flX8_joins_7 : Cond.fieldLink RX8 7 "NamedMovesModel" "s" "[I" ∈ wsX8_joins := by decide +kernel
theorem inX8_joins_X8 : ∀ w ∈ u_ws RX8 TX8 12, w ∈ wsX8_joins := by decide +kernel
set_option maxHeartbeats 4000000 in
set_option maxRecDepth 100000 in
theorem c_X8_joins (l : Launch) {G : GG} {x1 : Int} (hx1 : InR x1) {w : Wd} {r : Int} {w' : Wd} (hf : X8_joins x1 w = some (r, w')) : Met l yX8_joins wsX8_joins (rmk 0) (PcG G w [.ref (G.1 21 0), iV x1]) (QvG G w') 0 0 (GA G) := by
  refine met_of (own := RX8) (by decide) rfl (Nat.le_of_ble_eq_true rfl) rfl ?_
  intro p e s m args below meth c M hr ls hl0 hS0
  have hl0 : lv_has ls 2 [(0, .ref (G.1 21 0)), (1, iV x1)] := hl0
  unfold X8_joins at hf
  refine x_aload_n M hl0 dX8_joins_0 0 rfl ?_
  refine x_get (c0 := 21) (t0 := 0) (v := .ref (G.1 22 0)) M hS0 (by decide) (ref := "NamedMovesModel") inX8_joins_X8 (sE_21 G _ _) rfl 0 (by decide) (M.2.2.2.2.1 _ flX8_joins_7) rfl rfl dX8_joins_1 ?_
  refine x_bipush M dX8_joins_4 rfl ?_
  refine x_aload_n M hl0 dX8_joins_6 0 rfl ?_
  refine x_get (c0 := 21) (t0 := 0) (v := .ref (G.1 22 0)) M hS0 (by decide) (ref := "NamedMovesModel") inX8_joins_X8 (sE_21 G _ _) rfl 0 (by decide) (M.2.2.2.2.1 _ flX8_joins_7) rfl rfl dX8_joins_7 ?_
  refine x_bipush M dX8_joins_10 rfl ?_
  refine x_iald (c0 := 22) (t0 := 0) M hS0 (by decide) (hs_22 G _) rfl ⟨by decide, by decide⟩ (by decide) dX8_joins_12 ?_
  obtain ⟨g1, hf⟩ := gdt hf
  refine x_iadd M dX8_joins_13 ?_
  refine x_iload_n M hl0 dX8_joins_14 1 rfl ?_
  obtain ⟨g2, hf⟩ := gdt hf
  refine x_iast (c0 := 22) (t0 := 0) M hS0 (by decide) (hs_22 G _) rfl g2 (by decide) hx1 dX8_joins_15 (fun H locs hS3 => ?_)
  refine x_aload_n M hl0 dX8_joins_16 0 rfl ?_
  refine x_get (c0 := 21) (t0 := 0) (v := .ref (G.1 22 0)) M hS3 (by decide) (ref := "NamedMovesModel") inX8_joins_X8 (sE_21 G _ _) rfl 0 (by decide) (M.2.2.2.2.1 _ flX8_joins_7) rfl rfl dX8_joins_17 ?_
  refine x_bipush M dX8_joins_20 rfl ?_
  refine x_dup2 M dX8_joins_22 rfl rfl ?_
  refine x_iald (c0 := 22) (t0 := 0) M hS3 (by decide) (hs_22 G _) rfl ⟨by decide, by decide⟩ (by decide) dX8_joins_23 ?_
  refine x_iconst M dX8_joins_24 ?_
  obtain ⟨g4, hf⟩ := gdt hf
  refine x_iadd M dX8_joins_25 ?_
  refine x_iast (c0 := 22) (t0 := 0) M hS3 (by decide) (hs_22 G _) rfl ⟨by decide, by decide⟩ (by decide) g4 dX8_joins_26 (fun H locs hS5 => ?_)
  exact x_vret M hr hf hS5 dX8_joins_27

/-! X8_laysInHalf -/
theorem flX8_laysInHalf_7 : Cond.fieldLink RX8 7 "NamedMovesModel" "s" "[I" ∈ wsX8_laysInHalf := by decide +kernel
theorem inX8_laysInHalf_X8 : ∀ w ∈ u_ws RX8 TX8 12, w ∈ wsX8_laysInHalf := by decide +kernel
set_option maxHeartbeats 4000000 in
set_option maxRecDepth 100000 in
theorem c_X8_laysInHalf (l : Launch) {G : GG} {x1 : Int} (hx1 : InR x1) {x2 : Int} (hx2 : InR x2) {x3 : Int} (hx3 : InR x3) {w : Wd} {r : Int} {w' : Wd} (hf : X8_laysInHalf x1 x2 x3 w = some (r, w')) : Met l yX8_laysInHalf wsX8_laysInHalf (rmk 1) (PcG G w [.ref (G.1 21 0), iV x1, iV x2, iV x3]) (QiG G r w') 0 0 (GA G) := by
  refine met_of (own := RX8) (by decide) rfl (Nat.le_of_ble_eq_true rfl) rfl ?_
  intro p e s m args below meth c M hr ls hl0 hS0
  have hl0 : lv_has ls 5 [(0, .ref (G.1 21 0)), (1, iV x1), (2, iV x2), (3, iV x3)] := hl0
  unfold X8_laysInHalf at hf
  refine x_bipush M dX8_laysInHalf_0 rfl ?_
  refine x_aload_n M hl0 dX8_laysInHalf_2 0 rfl ?_
  refine x_get (c0 := 21) (t0 := 0) (v := .ref (G.1 22 0)) M hS0 (by decide) (ref := "NamedMovesModel") inX8_laysInHalf_X8 (sE_21 G _ _) rfl 0 (by decide) (M.2.2.2.2.1 _ flX8_laysInHalf_7) rfl rfl dX8_laysInHalf_3 ?_
  refine x_iconst M dX8_laysInHalf_6 ?_
  refine x_iald (c0 := 22) (t0 := 0) M hS0 (by decide) (hs_22 G _) rfl ⟨by decide, by decide⟩ (by decide) dX8_laysInHalf_7 ?_
  obtain ⟨g1, hf⟩ := gdt hf
  refine x_imul M dX8_laysInHalf_8 ?_
  refine x_aload_n M hl0 dX8_laysInHalf_9 0 rfl ?_
  refine x_get (c0 := 21) (t0 := 0) (v := .ref (G.1 22 0)) M hS0 (by decide) (ref := "NamedMovesModel") inX8_laysInHalf_X8 (sE_21 G _ _) rfl 0 (by decide) (M.2.2.2.2.1 _ flX8_laysInHalf_7) rfl rfl dX8_laysInHalf_10 ?_
  refine x_iconst M dX8_laysInHalf_13 ?_
  refine x_aload_n M hl0 dX8_laysInHalf_14 0 rfl ?_
  refine x_get (c0 := 21) (t0 := 0) (v := .ref (G.1 22 0)) M hS0 (by decide) (ref := "NamedMovesModel") inX8_laysInHalf_X8 (sE_21 G _ _) rfl 0 (by decide) (M.2.2.2.2.1 _ flX8_laysInHalf_7) rfl rfl dX8_laysInHalf_15 ?_
  refine x_iconst M dX8_laysInHalf_18 ?_
  refine x_iald (c0 := 22) (t0 := 0) M hS0 (by decide) (hs_22 G _) rfl ⟨by decide, by decide⟩ (by decide) dX8_laysInHalf_19 ?_
  obtain ⟨g2, hf⟩ := gdt hf
  refine x_iadd M dX8_laysInHalf_20 ?_
  obtain ⟨g3, hf⟩ := gdt hf
  refine x_iald (c0 := 22) (t0 := 0) M hS0 (by decide) (hs_22 G _) rfl g3 (by decide) dX8_laysInHalf_21 ?_
  obtain ⟨g4, hf⟩ := gdt hf
  refine x_iadd M dX8_laysInHalf_22 ?_
  refine x_istore M hl0 dX8_laysInHalf_23 (by decide) [(4, iV ((64 * (w 22 0 3)) + (w 22 0 (4 + (w 22 0 3)).toNat))), (0, .ref (G.1 21 0)), (1, iV x1), (2, iV x2), (3, iV x3)] rfl (fun ls hl5 => ?_)
  refine x_aload_n M hl5 dX8_laysInHalf_25 1 rfl ?_
  refine x_iload M hl5 dX8_laysInHalf_26 0 rfl ?_
  refine x_iload_n M hl5 dX8_laysInHalf_28 2 rfl ?_
  refine x_iload_n M hl5 dX8_laysInHalf_29 3 rfl ?_
  refine x_iload_n M hl5 dX8_laysInHalf_30 4 rfl ?_
  refine x_iconst M dX8_laysInHalf_31 ?_
  obtain ⟨r6, w7, hc8, hf⟩ := bdt hf
  refine x_callVv (c0 := 21) (t0 := 0) (As := [iV ((64 * (w 22 0 3)) + (w 22 0 (4 + (w 22 0 3)).toNat)), iV x1, iV x2, iV x3, iV 0]) (rest := []) M hl5 hS0 (c_X8_lays l  g4 hx1 hx2 hx3 ⟨by decide, by decide⟩ hc8) (cwV 5 M.2.2.2.2.1 gX8_laysInHalf_X8_lays rfl rfl rfl (by decide +kernel) ⟨Nat.le_of_ble_eq_true rfl, Nat.le_of_ble_eq_true rfl⟩) (by decide) (sE_21 G _ _) rfl rfl (Nat.le_of_ble_eq_true rfl) dX8_laysInHalf_32 rfl ⟨Nat.zero_le _, Nat.zero_le _⟩ (fun H locs hS10 => ?_)
  refine x_aload_n M hl5 dX8_laysInHalf_35 1 rfl ?_
  refine x_get (c0 := 21) (t0 := 0) (v := .ref (G.1 22 0)) M hS10 (by decide) (ref := "NamedMovesModel") inX8_laysInHalf_X8 (sE_21 G _ _) rfl 0 (by decide) (M.2.2.2.2.1 _ flX8_laysInHalf_7) rfl rfl dX8_laysInHalf_36 ?_
  refine x_iconst M dX8_laysInHalf_39 ?_
  refine x_aload_n M hl5 dX8_laysInHalf_40 1 rfl ?_
  refine x_get (c0 := 21) (t0 := 0) (v := .ref (G.1 22 0)) M hS10 (by decide) (ref := "NamedMovesModel") inX8_laysInHalf_X8 (sE_21 G _ _) rfl 0 (by decide) (M.2.2.2.2.1 _ flX8_laysInHalf_7) rfl rfl dX8_laysInHalf_41 ?_
  refine x_iconst M dX8_laysInHalf_44 ?_
  refine x_iald (c0 := 22) (t0 := 0) M hS10 (by decide) (hs_22 G _) rfl ⟨by decide, by decide⟩ (by decide) dX8_laysInHalf_45 ?_
  obtain ⟨g11, hf⟩ := gdt hf
  refine x_iadd M dX8_laysInHalf_46 ?_
  refine x_dup2 M dX8_laysInHalf_47 rfl rfl ?_
  obtain ⟨g12, hf⟩ := gdt hf
  refine x_iald (c0 := 22) (t0 := 0) M hS10 (by decide) (hs_22 G _) rfl g12 (by decide) dX8_laysInHalf_48 ?_
  refine x_aload_n M hl5 dX8_laysInHalf_49 1 rfl ?_
  refine x_get (c0 := 21) (t0 := 0) (v := .ref (G.1 22 0)) M hS10 (by decide) (ref := "NamedMovesModel") inX8_laysInHalf_X8 (sE_21 G _ _) rfl 0 (by decide) (M.2.2.2.2.1 _ flX8_laysInHalf_7) rfl rfl dX8_laysInHalf_50 ?_
  refine x_bipush M dX8_laysInHalf_53 rfl ?_
  refine x_iload_n M hl5 dX8_laysInHalf_55 2 rfl ?_
  obtain ⟨g13, hf⟩ := gdt hf
  refine x_iadd M dX8_laysInHalf_56 ?_
  obtain ⟨g14, hf⟩ := gdt hf
  refine x_iald (c0 := 22) (t0 := 0) M hS10 (by decide) (hs_22 G _) rfl g14 (by decide) dX8_laysInHalf_57 ?_
  obtain ⟨g15, hf⟩ := gdt hf
  refine x_iadd M dX8_laysInHalf_58 ?_
  refine x_iast (c0 := 22) (t0 := 0) M hS10 (by decide) (hs_22 G _) rfl g12 (by decide) g15 dX8_laysInHalf_59 (fun H locs hS16 => ?_)
  refine x_iload M hl5 dX8_laysInHalf_60 0 rfl ?_
  exact x_iret M hr hf hS16 g4 dX8_laysInHalf_62

/-! X8_carries -/
theorem flX8_carries_7 : Cond.fieldLink RX8 7 "NamedMovesModel" "s" "[I" ∈ wsX8_carries := by decide +kernel
theorem inX8_carries_X8 : ∀ w ∈ u_ws RX8 TX8 12, w ∈ wsX8_carries := by decide +kernel
set_option maxHeartbeats 4000000 in
set_option maxRecDepth 100000 in
theorem c_X8_carries (l : Launch) {G : GG} {x1 : Int} (hx1 : InR x1) {w : Wd} {r : Int} {w' : Wd} (hf : X8_carries x1 w = some (r, w')) : Met l yX8_carries wsX8_carries (rmk 2) (PcG G w [.ref (G.1 21 0), iV x1]) (QiG G r w') 0 0 (GA G) := by
  refine met_of (own := RX8) (by decide) rfl (Nat.le_of_ble_eq_true rfl) rfl ?_
  intro p e s m args below meth c M hr ls hl0 hS0
  have hl0 : lv_has ls 3 [(0, .ref (G.1 21 0)), (1, iV x1)] := hl0
  unfold X8_carries at hf
  refine x_aload_n M hl0 dX8_carries_0 0 rfl ?_
  refine x_aload_n M hl0 dX8_carries_1 0 rfl ?_
  refine x_iload_n M hl0 dX8_carries_2 1 rfl ?_
  refine x_iconst M dX8_carries_3 ?_
  obtain ⟨r1, w2, hc3, hf⟩ := bdt hf
  refine x_callVi (c0 := 21) (t0 := 0) (As := [iV x1, iV 0]) (rest := [.ref (G.1 21 0)]) M hl0 hS0 (c_X8_ofCopy l  hx1 ⟨by decide, by decide⟩ hc3) (cwV 2 M.2.2.2.2.1 gX8_carries_X8_ofCopy rfl rfl rfl (by decide +kernel) ⟨Nat.le_of_ble_eq_true rfl, Nat.le_of_ble_eq_true rfl⟩) (by decide) (sE_21 G _ _) rfl rfl (Nat.le_of_ble_eq_true rfl) dX8_carries_4 rfl ⟨Nat.zero_le _, Nat.zero_le _⟩ (fun H locs hi4 hS5 => ?_)
  refine x_iconst M dX8_carries_7 ?_
  obtain ⟨g6, hf⟩ := gdt hf
  refine x_isub M dX8_carries_8 ?_
  refine x_aload_n M hl0 dX8_carries_9 0 rfl ?_
  refine x_iload_n M hl0 dX8_carries_10 1 rfl ?_
  refine x_iconst M dX8_carries_11 ?_
  obtain ⟨r7, w8, hc9, hf⟩ := bdt hf
  refine x_callVi (c0 := 21) (t0 := 0) (As := [iV x1, iV 1]) (rest := [iV (r1 - 1), .ref (G.1 21 0)]) M hl0 hS5 (c_X8_ofCopy l  hx1 ⟨by decide, by decide⟩ hc9) (cwV 2 M.2.2.2.2.1 gX8_carries_X8_ofCopy rfl rfl rfl (by decide +kernel) ⟨Nat.le_of_ble_eq_true rfl, Nat.le_of_ble_eq_true rfl⟩) (by decide) (sE_21 G _ _) rfl rfl (Nat.le_of_ble_eq_true rfl) dX8_carries_12 rfl ⟨Nat.zero_le _, Nat.zero_le _⟩ (fun H locs hi10 hS11 => ?_)
  refine x_aload_n M hl0 dX8_carries_15 0 rfl ?_
  refine x_iload_n M hl0 dX8_carries_16 1 rfl ?_
  refine x_iconst M dX8_carries_17 ?_
  obtain ⟨r12, w13, hc14, hf⟩ := bdt hf
  refine x_callVi (c0 := 21) (t0 := 0) (As := [iV x1, iV 2]) (rest := [iV r7, iV (r1 - 1), .ref (G.1 21 0)]) M hl0 hS11 (c_X8_ofCopy l  hx1 ⟨by decide, by decide⟩ hc14) (cwV 2 M.2.2.2.2.1 gX8_carries_X8_ofCopy rfl rfl rfl (by decide +kernel) ⟨Nat.le_of_ble_eq_true rfl, Nat.le_of_ble_eq_true rfl⟩) (by decide) (sE_21 G _ _) rfl rfl (Nat.le_of_ble_eq_true rfl) dX8_carries_18 rfl ⟨Nat.zero_le _, Nat.zero_le _⟩ (fun H locs hi15 hS16 => ?_)
  obtain ⟨r17, w18, hc19, hf⟩ := bdt hf
  refine x_callVi (c0 := 21) (t0 := 0) (As := [iV (r1 - 1), iV r7, iV r12]) (rest := []) M hl0 hS16 (c_X8_laysInHalf l  g6 hi10 hi15 hc19) (cwV 3 M.2.2.2.2.1 gX8_carries_X8_laysInHalf rfl rfl rfl (by decide +kernel) ⟨Nat.le_of_ble_eq_true rfl, Nat.le_of_ble_eq_true rfl⟩) (by decide) (sE_21 G _ _) rfl rfl (Nat.le_of_ble_eq_true rfl) dX8_carries_21 rfl ⟨Nat.zero_le _, Nat.zero_le _⟩ (fun H locs hi20 hS21 => ?_)
  refine x_istore_n M hl0 dX8_carries_24 (by decide) [(2, iV r17), (0, .ref (G.1 21 0)), (1, iV x1)] rfl (fun ls hl22 => ?_)
  refine x_aload_n M hl22 dX8_carries_25 1 rfl ?_
  refine x_iload_n M hl22 dX8_carries_26 0 rfl ?_
  obtain ⟨r23, w24, hc25, hf⟩ := bdt hf
  refine x_callVv (c0 := 21) (t0 := 0) (As := [iV r17]) (rest := []) M hl22 hS21 (c_X8_joins l  hi20 hc25) (cwV 1 M.2.2.2.2.1 gX8_carries_X8_joins rfl rfl rfl (by decide +kernel) ⟨Nat.le_of_ble_eq_true rfl, Nat.le_of_ble_eq_true rfl⟩) (by decide) (sE_21 G _ _) rfl rfl (Nat.le_of_ble_eq_true rfl) dX8_carries_27 rfl ⟨Nat.zero_le _, Nat.zero_le _⟩ (fun H locs hS27 => ?_)
  refine x_aload_n M hl22 dX8_carries_30 1 rfl ?_
  refine x_get (c0 := 21) (t0 := 0) (v := .ref (G.1 22 0)) M hS27 (by decide) (ref := "NamedMovesModel") inX8_carries_X8 (sE_21 G _ _) rfl 0 (by decide) (M.2.2.2.2.1 _ flX8_carries_7) rfl rfl dX8_carries_31 ?_
  refine x_sipush M dX8_carries_34 rfl ?_
  refine x_iconst M dX8_carries_37 ?_
  refine x_iload_n M hl22 dX8_carries_38 2 rfl ?_
  obtain ⟨g28, hf⟩ := gdt hf
  refine x_imul M dX8_carries_39 ?_
  obtain ⟨g29, hf⟩ := gdt hf
  refine x_iadd M dX8_carries_40 ?_
  refine x_iconst M dX8_carries_41 ?_
  obtain ⟨g30, hf⟩ := gdt hf
  refine x_iadd M dX8_carries_42 ?_
  refine x_iload_n M hl22 dX8_carries_43 0 rfl ?_
  obtain ⟨r31, w32, hc33, hf⟩ := bdt hf
  refine x_callSi (As := [iV r17]) (rest := [iV ((185 + (5 * x1)) + 3), .ref (G.1 22 0)]) M hl22 hS27 (c_X8_address l  hi20 hc33) (va_cwS 1 M.2.2.2.2.1 gX8_carries_X8_address rfl rfl rfl (by decide +kernel) ⟨Nat.le_of_ble_eq_true rfl, Nat.le_of_ble_eq_true rfl⟩) rfl (Nat.le_of_ble_eq_true rfl) dX8_carries_44 rfl ⟨Nat.zero_le _, Nat.zero_le _⟩ (fun H locs hi34 hS35 => ?_)
  obtain ⟨g36, hf⟩ := gdt hf
  refine x_iast (c0 := 22) (t0 := 0) M hS35 (by decide) (hs_22 G _) rfl g36 (by decide) hi34 dX8_carries_47 (fun H locs hS37 => ?_)
  refine x_iload_n M hl22 dX8_carries_48 0 rfl ?_
  obtain ⟨r38, w39, hc40, hf⟩ := bdt hf
  refine x_callSi (As := [iV r17]) (rest := []) M hl22 hS37 (c_X8_address l  hi20 hc40) (va_cwS 1 M.2.2.2.2.1 gX8_carries_X8_address rfl rfl rfl (by decide +kernel) ⟨Nat.le_of_ble_eq_true rfl, Nat.le_of_ble_eq_true rfl⟩) rfl (Nat.le_of_ble_eq_true rfl) dX8_carries_49 rfl ⟨Nat.zero_le _, Nat.zero_le _⟩ (fun H locs hi41 hS42 => ?_)
  exact x_iret M hr hf hS42 hi41 dX8_carries_52

/-! X8_reads -/
theorem flX8_reads_7 : Cond.fieldLink RX8 7 "NamedMovesModel" "s" "[I" ∈ wsX8_reads := by decide +kernel
theorem inX8_reads_X8 : ∀ w ∈ u_ws RX8 TX8 12, w ∈ wsX8_reads := by decide +kernel
set_option maxHeartbeats 4000000 in
set_option maxRecDepth 100000 in
theorem c_X8_reads (l : Launch) {G : GG} {x1 : Int} (hx1 : InR x1) {w : Wd} {r : Int} {w' : Wd} (hf : X8_reads x1 w = some (r, w')) : Met l yX8_reads wsX8_reads (rmk 3) (PcG G w [.ref (G.1 21 0), iV x1]) (QvG G w') 0 0 (GA G) := by
  refine met_of (own := RX8) (by decide) rfl (Nat.le_of_ble_eq_true rfl) rfl ?_
  intro p e s m args below meth c M hr ls hl0 hS0
  have hl0 : lv_has ls 4 [(0, .ref (G.1 21 0)), (1, iV x1)] := hl0
  unfold X8_reads at hf
  refine x_aload_n M hl0 dX8_reads_0 0 rfl ?_
  refine x_get (c0 := 21) (t0 := 0) (v := .ref (G.1 22 0)) M hS0 (by decide) (ref := "NamedMovesModel") inX8_reads_X8 (sE_21 G _ _) rfl 0 (by decide) (M.2.2.2.2.1 _ flX8_reads_7) rfl rfl dX8_reads_1 ?_
  refine x_iload_n M hl0 dX8_reads_4 1 rfl ?_
  obtain ⟨g1, hf⟩ := gdt hf
  refine x_iald (c0 := 22) (t0 := 0) M hS0 (by decide) (hs_22 G _) rfl g1 (by decide) dX8_reads_5 ?_
  refine x_istore_n M hl0 dX8_reads_6 (by decide) [(2, iV (w 22 0 x1.toNat)), (0, .ref (G.1 21 0)), (1, iV x1)] rfl (fun ls hl2 => ?_)
  refine x_iload_n M hl2 dX8_reads_7 0 rfl ?_
  refine x_bipush M dX8_reads_8 rfl ?_
  refine x_icmp_eq (tgt := 20) M (hS0.inr _ _ _) ⟨by decide, by decide⟩ dX8_reads_10 (by decide) (fun hc => ?_) (fun hc => ?_)
  · have hf := ift hf hc
    exact x_vret M hr hf hS0 dX8_reads_20
  · have hf := iff_ hf hc
    refine x_aload_n M hl2 dX8_reads_13 1 rfl ?_
    obtain ⟨r3, w4, hc5, hf⟩ := bdt hf
    refine x_callVi (c0 := 21) (t0 := 0) (As := []) (rest := []) M hl2 hS0 (c_X8_isMoving l   hc5) (cwV 0 M.2.2.2.2.1 gX8_reads_X8_isMoving rfl rfl rfl (by decide +kernel) ⟨Nat.le_of_ble_eq_true rfl, Nat.le_of_ble_eq_true rfl⟩) (by decide) (sE_21 G _ _) rfl rfl (Nat.le_of_ble_eq_true rfl) dX8_reads_14 rfl ⟨Nat.zero_le _, Nat.zero_le _⟩ (fun H locs hi6 hS7 => ?_)
    refine x_if_ne (tgt := 21) M hi6 dX8_reads_17 (by decide) (fun hc => ?_) (fun hc => ?_)
    · have hf := iff_ hf hc
      refine x_iload_n M hl2 dX8_reads_21 0 rfl ?_
      obtain ⟨r8, w9, hc10, hf⟩ := bdt hf
      refine x_callSi (As := [iV (w 22 0 x1.toNat)]) (rest := []) M hl2 hS7 (c_X8_cell l  (hS0.inr _ _ _) hc10) (va_cwS 1 M.2.2.2.2.1 gX8_reads_X8_cell rfl rfl rfl (by decide +kernel) ⟨Nat.le_of_ble_eq_true rfl, Nat.le_of_ble_eq_true rfl⟩) rfl (Nat.le_of_ble_eq_true rfl) dX8_reads_22 rfl ⟨Nat.zero_le _, Nat.zero_le _⟩ (fun H locs hi11 hS12 => ?_)
      refine x_istore_n M hl2 dX8_reads_25 (by decide) [(3, iV r8), (2, iV (w 22 0 x1.toNat)), (0, .ref (G.1 21 0)), (1, iV x1)] rfl (fun ls hl13 => ?_)
      refine x_iload_n M hl13 dX8_reads_26 1 rfl ?_
      refine x_bipush M dX8_reads_27 rfl ?_
      obtain ⟨g14, hf⟩ := gdt hf
      refine x_idiv M (hS0.inr _ _ _) ⟨by decide, by decide⟩ ⟨g14, by decide⟩ dX8_reads_29 ?_
      refine x_aload_n M hl13 dX8_reads_30 2 rfl ?_
      obtain ⟨r15, w16, hc17, hf⟩ := bdt hf
      refine x_callVi (c0 := 21) (t0 := 0) (As := []) (rest := [iV ((w 22 0 x1.toNat) / 100)]) M hl13 hS12 (c_X8_old l   hc17) (cwV 0 M.2.2.2.2.1 gX8_reads_X8_old rfl rfl rfl (by decide +kernel) ⟨Nat.le_of_ble_eq_true rfl, Nat.le_of_ble_eq_true rfl⟩) (by decide) (sE_21 G _ _) rfl rfl (Nat.le_of_ble_eq_true rfl) dX8_reads_31 rfl ⟨Nat.zero_le _, Nat.zero_le _⟩ (fun H locs hi18 hS19 => ?_)
      refine x_icmp_ne (tgt := 71) M (o_inr_div (hS0.inr _ _ _) ⟨g14, by decide⟩) hi18 dX8_reads_34 (by decide) (fun hc => ?_) (fun hc => ?_)
      · have hf := iff_ hf hc
        refine x_iload_n M hl13 dX8_reads_71 1 rfl ?_
        refine x_bipush M dX8_reads_72 rfl ?_
        refine x_idiv M (hS0.inr _ _ _) ⟨by decide, by decide⟩ ⟨g14, by decide⟩ dX8_reads_74 ?_
        refine x_iconst M dX8_reads_75 ?_
        refine x_icmp_ne (tgt := 108) M (o_inr_div (hS0.inr _ _ _) ⟨g14, by decide⟩) ⟨by decide, by decide⟩ dX8_reads_76 (by decide) (fun hc => ?_) (fun hc => ?_)
        · have hf := iff_ hf hc
          exact x_vret M hr hf hS19 dX8_reads_108
        · have hf := ift hf (Decidable.of_not_not hc)
          refine x_aload_n M hl13 dX8_reads_79 2 rfl ?_
          refine x_iload_n M hl13 dX8_reads_80 0 rfl ?_
          refine x_iconst M dX8_reads_81 ?_
          obtain ⟨r20, w21, hc22, hf⟩ := bdt hf
          refine x_callVi (c0 := 21) (t0 := 0) (As := [iV r8, iV 4]) (rest := []) M hl13 hS19 (c_X8_ofCopy l  hi11 ⟨by decide, by decide⟩ hc22) (cwV 2 M.2.2.2.2.1 gX8_reads_X8_ofCopy rfl rfl rfl (by decide +kernel) ⟨Nat.le_of_ble_eq_true rfl, Nat.le_of_ble_eq_true rfl⟩) (by decide) (sE_21 G _ _) rfl rfl (Nat.le_of_ble_eq_true rfl) dX8_reads_82 rfl ⟨Nat.zero_le _, Nat.zero_le _⟩ (fun H locs hi23 hS24 => ?_)
          refine x_if_ne (tgt := 108) M hi23 dX8_reads_85 (by decide) (fun hc => ?_) (fun hc => ?_)
          · have hf := iff_ hf hc
            exact x_vret M hr hf hS24 dX8_reads_108
          · have hf := ift hf (Decidable.of_not_not hc)
            refine x_aload_n M hl13 dX8_reads_88 2 rfl ?_
            refine x_get (c0 := 21) (t0 := 0) (v := .ref (G.1 22 0)) M hS24 (by decide) (ref := "NamedMovesModel") inX8_reads_X8 (sE_21 G _ _) rfl 0 (by decide) (M.2.2.2.2.1 _ flX8_reads_7) rfl rfl dX8_reads_89 ?_
            refine x_sipush M dX8_reads_92 rfl ?_
            refine x_iconst M dX8_reads_95 ?_
            refine x_iload_n M hl13 dX8_reads_96 0 rfl ?_
            obtain ⟨g25, hf⟩ := gdt hf
            refine x_imul M dX8_reads_97 ?_
            obtain ⟨g26, hf⟩ := gdt hf
            refine x_iadd M dX8_reads_98 ?_
            refine x_iconst M dX8_reads_99 ?_
            obtain ⟨g27, hf⟩ := gdt hf
            refine x_iadd M dX8_reads_100 ?_
            refine x_iconst M dX8_reads_101 ?_
            obtain ⟨g28, hf⟩ := gdt hf
            refine x_iast (c0 := 22) (t0 := 0) M hS24 (by decide) (hs_22 G _) rfl g28 (by decide) ⟨by decide, by decide⟩ dX8_reads_102 (fun H locs hS29 => ?_)
            refine x_aload_n M hl13 dX8_reads_103 2 rfl ?_
            refine x_iload_n M hl13 dX8_reads_104 0 rfl ?_
            obtain ⟨r30, w31, hc32, hf⟩ := bdt hf
            refine x_callVv (c0 := 21) (t0 := 0) (As := [iV r8]) (rest := []) M hl13 hS29 (c_X8_joins l  hi11 hc32) (cwV 1 M.2.2.2.2.1 gX8_reads_X8_joins rfl rfl rfl (by decide +kernel) ⟨Nat.le_of_ble_eq_true rfl, Nat.le_of_ble_eq_true rfl⟩) (by decide) (sE_21 G _ _) rfl rfl (Nat.le_of_ble_eq_true rfl) dX8_reads_105 rfl ⟨Nat.zero_le _, Nat.zero_le _⟩ (fun H locs hS34 => ?_)
            exact x_vret M hr hf hS34 dX8_reads_108
      · have hf := ift hf (Decidable.of_not_not hc)
        refine x_aload_n M hl13 dX8_reads_37 2 rfl ?_
        refine x_get (c0 := 21) (t0 := 0) (v := .ref (G.1 22 0)) M hS19 (by decide) (ref := "NamedMovesModel") inX8_reads_X8 (sE_21 G _ _) rfl 0 (by decide) (M.2.2.2.2.1 _ flX8_reads_7) rfl rfl dX8_reads_38 ?_
        refine x_iload_n M hl13 dX8_reads_41 3 rfl ?_
        refine x_aload_n M hl13 dX8_reads_42 2 rfl ?_
        refine x_iload_n M hl13 dX8_reads_43 0 rfl ?_
        refine x_iconst M dX8_reads_44 ?_
        obtain ⟨r35, w36, hc37, hf⟩ := bdt hf
        refine x_callVi (c0 := 21) (t0 := 0) (As := [iV r8, iV 3]) (rest := [iV x1, .ref (G.1 22 0)]) M hl13 hS19 (c_X8_ofCopy l  hi11 ⟨by decide, by decide⟩ hc37) (cwV 2 M.2.2.2.2.1 gX8_reads_X8_ofCopy rfl rfl rfl (by decide +kernel) ⟨Nat.le_of_ble_eq_true rfl, Nat.le_of_ble_eq_true rfl⟩) (by decide) (sE_21 G _ _) rfl rfl (Nat.le_of_ble_eq_true rfl) dX8_reads_45 rfl ⟨Nat.zero_le _, Nat.zero_le _⟩ (fun H locs hi38 hS39 => ?_)
        refine x_bipush M dX8_reads_48 rfl ?_
        refine x_icmp_eq (tgt := 62) M hi38 ⟨by decide, by decide⟩ dX8_reads_50 (by decide) (fun hc => ?_) (fun hc => ?_)
        · have hf := ift hf hc
          refine x_aload_n M hl13 dX8_reads_62 2 rfl ?_
          refine x_iload_n M hl13 dX8_reads_63 0 rfl ?_
          obtain ⟨r40, w41, hc42, hf⟩ := bdt hf
          refine x_callVi (c0 := 21) (t0 := 0) (As := [iV r8]) (rest := [iV x1, .ref (G.1 22 0)]) M hl13 hS39 (c_X8_carries l  hi11 hc42) (cwV 1 M.2.2.2.2.1 gX8_reads_X8_carries rfl rfl rfl (by decide +kernel) ⟨Nat.le_of_ble_eq_true rfl, Nat.le_of_ble_eq_true rfl⟩) (by decide) (sE_21 G _ _) rfl rfl (Nat.le_of_ble_eq_true rfl) dX8_reads_64 rfl ⟨Nat.zero_le _, Nat.zero_le _⟩ (fun H locs hi43 hS44 => ?_)
          refine x_iast (c0 := 22) (t0 := 0) M hS44 (by decide) (hs_22 G _) rfl g1 (by decide) hi43 dX8_reads_67 (fun H locs hS45 => ?_)
          refine x_goto (tgt := 108) M dX8_reads_68 (by decide) ?_
          exact x_vret M hr hf hS45 dX8_reads_108
        · have hf := iff_ hf hc
          refine x_aload_n M hl13 dX8_reads_53 2 rfl ?_
          refine x_iload_n M hl13 dX8_reads_54 0 rfl ?_
          refine x_iconst M dX8_reads_55 ?_
          obtain ⟨r46, w47, hc48, hf⟩ := bdt hf
          refine x_callVi (c0 := 21) (t0 := 0) (As := [iV r8, iV 3]) (rest := [iV x1, .ref (G.1 22 0)]) M hl13 hS39 (c_X8_ofCopy l  hi11 ⟨by decide, by decide⟩ hc48) (cwV 2 M.2.2.2.2.1 gX8_reads_X8_ofCopy rfl rfl rfl (by decide +kernel) ⟨Nat.le_of_ble_eq_true rfl, Nat.le_of_ble_eq_true rfl⟩) (by decide) (sE_21 G _ _) rfl rfl (Nat.le_of_ble_eq_true rfl) dX8_reads_56 rfl ⟨Nat.zero_le _, Nat.zero_le _⟩ (fun H locs hi49 hS50 => ?_)
          refine x_goto (tgt := 67) M dX8_reads_59 (by decide) ?_
          refine x_iast (c0 := 22) (t0 := 0) M hS50 (by decide) (hs_22 G _) rfl g1 (by decide) hi49 dX8_reads_67 (fun H locs hS51 => ?_)
          refine x_goto (tgt := 108) M dX8_reads_68 (by decide) ?_
          exact x_vret M hr hf hS51 dX8_reads_108
    · have hf := ift hf (Decidable.of_not_not hc)
      exact x_vret M hr hf hS7 dX8_reads_20

/-! X8_ends -/
theorem flX8_ends_7 : Cond.fieldLink RX8 7 "NamedMovesModel" "s" "[I" ∈ wsX8_ends := by decide +kernel
theorem inX8_ends_X8 : ∀ w ∈ u_ws RX8 TX8 12, w ∈ wsX8_ends := by decide +kernel
set_option maxHeartbeats 4000000 in
set_option maxRecDepth 100000 in
theorem X8_ends_b80_ok (M : MC p s m args meth c cX8_ends 3 RX8 wsX8_ends G) (hr : meth.sig.returnType = none) {K13 : Int → Wd → Option (Int × Wd)} (hK13 : ∀ x1 : Int, ∀ w : Wd, InR x1 → ∀ (H : Heap) (locs : List Loc), ST G s w H locs → ∀ ls : Array Slot, lv_has ls 3 [(0, .ref (G.1 21 0)), (1, iV x1)] → ∀ (r : Int) (w' : Wd), K13 x1 w = some (r, w') → W p l e (rmk 1) s m args below meth c H locs 0 0 (MQ below (QvG G w') args s 0 0 (GA G)) (F0 m 13 ls [])) : ∀ x1 : Int, ∀ s0 : Int, ∀ s1 : Int, ∀ w : Wd, InR x1 → InR s0 → InR s1 → ∀ (H : Heap) (locs : List Loc), ST G s w H locs → ∀ ls : Array Slot, lv_has ls 3 [(0, .ref (G.1 21 0)), (1, iV x1)] → ∀ (r : Int) (w' : Wd), X8_ends_b80 K13 x1 s0 s1 w = some (r, w') → W p l e (rmk 1) s m args below meth c H locs 0 0 (MQ below (QvG G w') args s 0 0 (GA G)) (F0 m 80 ls [iV s0, iV s1, .ref (G.1 22 0)]) := by
  intro x1 s0 s1 w hx1 hs0 hs1 H locs hS0 ls hl0 r w' hf
  unfold X8_ends_b80 at hf
  obtain ⟨g28, hf⟩ := gdt hf
  refine x_iast (c0 := 22) (t0 := 0) M hS0 (by decide) (hs_22 G _) rfl g28 (by decide) hs0 dX8_ends_80 (fun H locs hS29 => ?_)
  refine x_aload_n M hl0 dX8_ends_81 0 rfl ?_
  refine x_get (c0 := 21) (t0 := 0) (v := .ref (G.1 22 0)) M hS29 (by decide) (ref := "NamedMovesModel") inX8_ends_X8 (sE_21 G _ _) rfl 0 (by decide) (M.2.2.2.2.1 _ flX8_ends_7) rfl rfl dX8_ends_82 ?_
  refine x_sipush M dX8_ends_85 rfl ?_
  refine x_iconst M dX8_ends_88 ?_
  refine x_iload_n M hl0 dX8_ends_89 1 rfl ?_
  obtain ⟨g30, hf⟩ := gdt hf
  refine x_imul M dX8_ends_90 ?_
  obtain ⟨g31, hf⟩ := gdt hf
  refine x_iadd M dX8_ends_91 ?_
  refine x_iconst M dX8_ends_92 ?_
  obtain ⟨g32, hf⟩ := gdt hf
  refine x_iadd M dX8_ends_93 ?_
  refine x_iconst M dX8_ends_94 ?_
  obtain ⟨g33, hf⟩ := gdt hf
  refine x_iast (c0 := 22) (t0 := 0) M hS29 (by decide) (hs_22 G _) rfl g33 (by decide) ⟨by decide, by decide⟩ dX8_ends_95 (fun H locs hS34 => ?_)
  obtain ⟨g35, hf⟩ := gdt hf
  refine x_iinc M hl0 dX8_ends_96 1 rfl (by decide) [(1, iV (x1 + 1)), (0, .ref (G.1 21 0))] rfl (fun ls hl36 => ?_)
  refine x_goto (tgt := 13) M dX8_ends_99 (by decide) ?_
  exact hK13 (x1 + 1) (up (up w 22 0 s1.toNat s0) 22 0 ((185 + (5 * x1)) + 4).toNat 0) g35 _ _ hS34 _ (lv_sub hl36 [1, 0] rfl) _ _ hf

set_option maxHeartbeats 4000000 in
set_option maxRecDepth 100000 in
theorem X8_ends_b52_ok (M : MC p s m args meth c cX8_ends 3 RX8 wsX8_ends G) (hr : meth.sig.returnType = none) {K13 : Int → Wd → Option (Int × Wd)} (hK13 : ∀ x1 : Int, ∀ w : Wd, InR x1 → ∀ (H : Heap) (locs : List Loc), ST G s w H locs → ∀ ls : Array Slot, lv_has ls 3 [(0, .ref (G.1 21 0)), (1, iV x1)] → ∀ (r : Int) (w' : Wd), K13 x1 w = some (r, w') → W p l e (rmk 1) s m args below meth c H locs 0 0 (MQ below (QvG G w') args s 0 0 (GA G)) (F0 m 13 ls [])) : ∀ x1 : Int, ∀ s0 : Int, ∀ w : Wd, InR x1 → InR s0 → ∀ (H : Heap) (locs : List Loc), ST G s w H locs → ∀ ls : Array Slot, lv_has ls 3 [(0, .ref (G.1 21 0)), (1, iV x1)] → ∀ (r : Int) (w' : Wd), X8_ends_b52 K13 x1 s0 w = some (r, w') → W p l e (rmk 1) s m args below meth c H locs 0 0 (MQ below (QvG G w') args s 0 0 (GA G)) (F0 m 52 ls [iV s0]) := by
  intro x1 s0 w hx1 hs0 H locs hS0 ls hl0 r w' hf
  unfold X8_ends_b52 at hf
  refine x_istore_n M hl0 dX8_ends_52 (by decide) [(2, iV s0), (0, .ref (G.1 21 0)), (1, iV x1)] rfl (fun ls hl19 => ?_)
  refine x_aload_n M hl19 dX8_ends_53 1 rfl ?_
  refine x_get (c0 := 21) (t0 := 0) (v := .ref (G.1 22 0)) M hS0 (by decide) (ref := "NamedMovesModel") inX8_ends_X8 (sE_21 G _ _) rfl 0 (by decide) (M.2.2.2.2.1 _ flX8_ends_7) rfl rfl dX8_ends_54 ?_
  refine x_sipush M dX8_ends_57 rfl ?_
  refine x_iconst M dX8_ends_60 ?_
  refine x_iload_n M hl19 dX8_ends_61 2 rfl ?_
  obtain ⟨g20, hf⟩ := gdt hf
  refine x_imul M dX8_ends_62 ?_
  obtain ⟨g21, hf⟩ := gdt hf
  refine x_iadd M dX8_ends_63 ?_
  refine x_iconst M dX8_ends_64 ?_
  obtain ⟨g22, hf⟩ := gdt hf
  refine x_iadd M dX8_ends_65 ?_
  refine x_iload_n M hl19 dX8_ends_66 0 rfl ?_
  refine x_if_eq (tgt := 74) M hs0 dX8_ends_67 (by decide) (fun hc => ?_) (fun hc => ?_)
  · have hf := ift hf hc
    refine x_aload_n M hl19 dX8_ends_74 1 rfl ?_
    refine x_iload_n M hl19 dX8_ends_75 2 rfl ?_
    refine x_iconst M dX8_ends_76 ?_
    obtain ⟨r23, w24, hc25, hf⟩ := bdt hf
    refine x_callVi (c0 := 21) (t0 := 0) (As := [iV x1, iV 0]) (rest := [iV ((185 + (5 * x1)) + 0), .ref (G.1 22 0)]) M hl19 hS0 (c_X8_ofCopy l  hx1 ⟨by decide, by decide⟩ hc25) (cwV 2 M.2.2.2.2.1 gX8_ends_X8_ofCopy rfl rfl rfl (by decide +kernel) ⟨Nat.le_of_ble_eq_true rfl, Nat.le_of_ble_eq_true rfl⟩) (by decide) (sE_21 G _ _) rfl rfl (Nat.le_of_ble_eq_true rfl) dX8_ends_77 rfl ⟨Nat.zero_le _, Nat.zero_le _⟩ (fun H locs hi26 hS27 => ?_)
    exact X8_ends_b80_ok M hr hK13 x1 r23 ((185 + (5 * x1)) + 0) w24 hx1 hi26 g22 _ _ hS27 _ (lv_sub hl19 [1, 2] rfl) _ _ hf
  · have hf := iff_ hf hc
    refine x_iconst M dX8_ends_70 ?_
    refine x_goto (tgt := 80) M dX8_ends_71 (by decide) ?_
    exact X8_ends_b80_ok M hr hK13 x1 0 ((185 + (5 * x1)) + 0) w hx1 ⟨by decide, by decide⟩ g22 _ _ hS0 _ (lv_sub hl19 [1, 2] rfl) _ _ hf

set_option maxHeartbeats 4000000 in
set_option maxRecDepth 100000 in
theorem X8_ends_b13_ok (M : MC p s m args meth c cX8_ends 3 RX8 wsX8_ends G) (hr : meth.sig.returnType = none) : ∀ n : Nat, ∀ x1 : Int, ∀ w : Wd, InR x1 → ∀ (H : Heap) (locs : List Loc), ST G s w H locs → ∀ ls : Array Slot, lv_has ls 3 [(0, .ref (G.1 21 0)), (1, iV x1)] → ∀ (r : Int) (w' : Wd), X8_ends_b13 n x1 w = some (r, w') → W p l e (rmk 1) s m args below meth c H locs 0 0 (MQ below (QvG G w') args s 0 0 (GA G)) (F0 m 13 ls []) := by
  intro n
  induction n with
  | zero =>
    intro x1 w hx1 H locs hS0 ls hl0 r w' hf
    cases hf
  | succ n ih =>
    intro x1 w hx1 H locs hS0 ls hl0 r w' hf
    rw [X8_ends_b13_s] at hf
    refine x_iload_n M hl0 dX8_ends_13 1 rfl ?_
    refine x_sipush M dX8_ends_14 rfl ?_
    refine x_icmp_ge (tgt := 102) M hx1 ⟨by decide, by decide⟩ dX8_ends_17 (by decide) (fun hc => ?_) (fun hc => ?_)
    · have hf := iff_ hf (Int.not_lt.mpr hc)
      refine x_aload_n M hl0 dX8_ends_102 0 rfl ?_
      refine x_get (c0 := 21) (t0 := 0) (v := .ref (G.1 22 0)) M hS0 (by decide) (ref := "NamedMovesModel") inX8_ends_X8 (sE_21 G _ _) rfl 0 (by decide) (M.2.2.2.2.1 _ flX8_ends_7) rfl rfl dX8_ends_103 ?_
      refine x_iconst M dX8_ends_106 ?_
      refine x_aload_n M hl0 dX8_ends_107 0 rfl ?_
      obtain ⟨r2, w3, hc4, hf⟩ := bdt hf
      refine x_callVi (c0 := 21) (t0 := 0) (As := []) (rest := [iV 4, .ref (G.1 22 0)]) M hl0 hS0 (c_X8_old l   hc4) (cwV 0 M.2.2.2.2.1 gX8_ends_X8_old rfl rfl rfl (by decide +kernel) ⟨Nat.le_of_ble_eq_true rfl, Nat.le_of_ble_eq_true rfl⟩) (by decide) (sE_21 G _ _) rfl rfl (Nat.le_of_ble_eq_true rfl) dX8_ends_108 rfl ⟨Nat.zero_le _, Nat.zero_le _⟩ (fun H locs hi5 hS6 => ?_)
      obtain ⟨g7, hf⟩ := gdt hf
      refine x_iadd M dX8_ends_111 ?_
      refine x_iconst M dX8_ends_112 ?_
      obtain ⟨g8, hf⟩ := gdt hf
      refine x_iast (c0 := 22) (t0 := 0) M hS6 (by decide) (hs_22 G _) rfl g8 (by decide) ⟨by decide, by decide⟩ dX8_ends_113 (fun H locs hS9 => ?_)
      refine x_aload_n M hl0 dX8_ends_114 0 rfl ?_
      refine x_get (c0 := 21) (t0 := 0) (v := .ref (G.1 22 0)) M hS9 (by decide) (ref := "NamedMovesModel") inX8_ends_X8 (sE_21 G _ _) rfl 0 (by decide) (M.2.2.2.2.1 _ flX8_ends_7) rfl rfl dX8_ends_115 ?_
      refine x_iconst M dX8_ends_118 ?_
      refine x_iconst M dX8_ends_119 ?_
      refine x_iast (c0 := 22) (t0 := 0) M hS9 (by decide) (hs_22 G _) rfl ⟨by decide, by decide⟩ (by decide) ⟨by decide, by decide⟩ dX8_ends_120 (fun H locs hS10 => ?_)
      refine x_aload_n M hl0 dX8_ends_121 0 rfl ?_
      refine x_get (c0 := 21) (t0 := 0) (v := .ref (G.1 22 0)) M hS10 (by decide) (ref := "NamedMovesModel") inX8_ends_X8 (sE_21 G _ _) rfl 0 (by decide) (M.2.2.2.2.1 _ flX8_ends_7) rfl rfl dX8_ends_122 ?_
      refine x_bipush M dX8_ends_125 rfl ?_
      refine x_dup2 M dX8_ends_127 rfl rfl ?_
      refine x_iald (c0 := 22) (t0 := 0) M hS10 (by decide) (hs_22 G _) rfl ⟨by decide, by decide⟩ (by decide) dX8_ends_128 ?_
      refine x_iconst M dX8_ends_129 ?_
      obtain ⟨g11, hf⟩ := gdt hf
      refine x_iadd M dX8_ends_130 ?_
      refine x_iast (c0 := 22) (t0 := 0) M hS10 (by decide) (hs_22 G _) rfl ⟨by decide, by decide⟩ (by decide) g11 dX8_ends_131 (fun H locs hS12 => ?_)
      exact x_vret M hr hf hS12 dX8_ends_132
    · have hf := ift hf (Int.not_le.mp hc)
      refine x_iload_n M hl0 dX8_ends_20 1 rfl ?_
      refine x_bipush M dX8_ends_21 rfl ?_
      obtain ⟨g13, hf⟩ := gdt hf
      refine x_idiv M hx1 ⟨by decide, by decide⟩ ⟨g13, by decide⟩ dX8_ends_23 ?_
      refine x_aload_n M hl0 dX8_ends_24 0 rfl ?_
      obtain ⟨r14, w15, hc16, hf⟩ := bdt hf
      refine x_callVi (c0 := 21) (t0 := 0) (As := []) (rest := [iV (x1 / 64)]) M hl0 hS0 (c_X8_old l   hc16) (cwV 0 M.2.2.2.2.1 gX8_ends_X8_old rfl rfl rfl (by decide +kernel) ⟨Nat.le_of_ble_eq_true rfl, Nat.le_of_ble_eq_true rfl⟩) (by decide) (sE_21 G _ _) rfl rfl (Nat.le_of_ble_eq_true rfl) dX8_ends_25 rfl ⟨Nat.zero_le _, Nat.zero_le _⟩ (fun H locs hi17 hS18 => ?_)
      refine x_icmp_eq (tgt := 47) M (o_inr_div hx1 ⟨g13, by decide⟩) hi17 dX8_ends_28 (by decide) (fun hc => ?_) (fun hc => ?_)
      · have hf := ift hf hc
        refine x_iconst M dX8_ends_47 ?_
        refine x_goto (tgt := 52) M dX8_ends_48 (by decide) ?_
        exact X8_ends_b52_ok M hr ih x1 1 w15 hx1 ⟨by decide, by decide⟩ _ _ hS18 _ (lv_sub hl0 [0, 1] rfl) _ _ hf
      · have hf := iff_ hf hc
        refine x_iload_n M hl0 dX8_ends_31 1 rfl ?_
        refine x_sipush M dX8_ends_32 rfl ?_
        refine x_icmp_lt (tgt := 51) M hx1 ⟨by decide, by decide⟩ dX8_ends_35 (by decide) (fun hc => ?_) (fun hc => ?_)
        · have hf := ift hf hc
          refine x_iconst M dX8_ends_51 ?_
          exact X8_ends_b52_ok M hr ih x1 0 w15 hx1 ⟨by decide, by decide⟩ _ _ hS18 _ (lv_sub hl0 [0, 1] rfl) _ _ hf
        · have hf := iff_ hf hc
          refine x_aload_n M hl0 dX8_ends_38 0 rfl ?_
          refine x_iload_n M hl0 dX8_ends_39 1 rfl ?_
          refine x_iconst M dX8_ends_40 ?_
          obtain ⟨r37, w38, hc39, hf⟩ := bdt hf
          refine x_callVi (c0 := 21) (t0 := 0) (As := [iV x1, iV 4]) (rest := []) M hl0 hS18 (c_X8_ofCopy l  hx1 ⟨by decide, by decide⟩ hc39) (cwV 2 M.2.2.2.2.1 gX8_ends_X8_ofCopy rfl rfl rfl (by decide +kernel) ⟨Nat.le_of_ble_eq_true rfl, Nat.le_of_ble_eq_true rfl⟩) (by decide) (sE_21 G _ _) rfl rfl (Nat.le_of_ble_eq_true rfl) dX8_ends_41 rfl ⟨Nat.zero_le _, Nat.zero_le _⟩ (fun H locs hi40 hS41 => ?_)
          refine x_if_ne (tgt := 51) M hi40 dX8_ends_44 (by decide) (fun hc => ?_) (fun hc => ?_)
          · have hf := iff_ hf hc
            refine x_iconst M dX8_ends_51 ?_
            exact X8_ends_b52_ok M hr ih x1 0 w38 hx1 ⟨by decide, by decide⟩ _ _ hS41 _ (lv_sub hl0 [0, 1] rfl) _ _ hf
          · have hf := ift hf (Decidable.of_not_not hc)
            refine x_iconst M dX8_ends_47 ?_
            refine x_goto (tgt := 52) M dX8_ends_48 (by decide) ?_
            exact X8_ends_b52_ok M hr ih x1 1 w38 hx1 ⟨by decide, by decide⟩ _ _ hS41 _ (lv_sub hl0 [0, 1] rfl) _ _ hf

set_option maxHeartbeats 4000000 in
set_option maxRecDepth 100000 in
theorem c_X8_ends (l : Launch) {G : GG} {w : Wd} {r : Int} {w' : Wd} (hf : X8_ends w = some (r, w')) : Met l yX8_ends wsX8_ends (rmk 1) (PcG G w [.ref (G.1 21 0)]) (QvG G w') 0 0 (GA G) := by
  refine met_of (own := RX8) (by decide) rfl (Nat.le_of_ble_eq_true rfl) rfl ?_
  intro p e s m args below meth c M hr ls hl0 hS0
  have hl0 : lv_has ls 3 [(0, .ref (G.1 21 0))] := hl0
  unfold X8_ends at hf
  refine x_aload_n M hl0 dX8_ends_0 0 rfl ?_
  refine x_get (c0 := 21) (t0 := 0) (v := .ref (G.1 22 0)) M hS0 (by decide) (ref := "NamedMovesModel") inX8_ends_X8 (sE_21 G _ _) rfl 0 (by decide) (M.2.2.2.2.1 _ flX8_ends_7) rfl rfl dX8_ends_1 ?_
  refine x_bipush M dX8_ends_4 rfl ?_
  refine x_iald (c0 := 22) (t0 := 0) M hS0 (by decide) (hs_22 G _) rfl ⟨by decide, by decide⟩ (by decide) dX8_ends_6 ?_
  refine x_if_le (tgt := 11) M (hS0.inr _ _ _) dX8_ends_7 (by decide) (fun hc => ?_) (fun hc => ?_)
  · have hf := iff_ hf (Int.not_lt.mpr hc)
    refine x_iconst M dX8_ends_11 ?_
    refine x_istore_n M hl0 dX8_ends_12 (by decide) [(1, iV 0), (0, .ref (G.1 21 0))] rfl (fun ls hl1 => ?_)
    exact X8_ends_b13_ok M hr LF 0 w ⟨by decide, by decide⟩ _ _ hS0 _ (lv_sub hl1 [1, 0] rfl) _ _ hf
  · have hf := ift hf (Int.not_le.mp hc)
    exact x_vret M hr hf hS0 dX8_ends_10

end
