section
variable {p : Program} {l : Launch} {e : Env} {s : State} {m : MethodId} {args : Array Value} {below : List Frame} {meth : Method} {c : Code} {G : GG}
/-! J9_floorMod_7cf53 -/
set_option maxHeartbeats 4000000 in
set_option maxRecDepth 100000 in
theorem c_J9_floorMod_7cf53 (l : Launch) {G : GG} {x0 : Int} (hx0 : InR x0) {x1 : Int} (hx1 : InR x1) {w : Wd} {r : Int} {w' : Wd} (hf : J9_floorMod_7cf53 x0 x1 w = some (r, w')) : Met l yJ9_floorMod_7cf53 wsJ9_floorMod_7cf53 (rmk 0) (PcG G w [iV x0, iV x1]) (QiG G r w') 0 0 (GA G) := by
  refine met_ofF (own := RJ9) (by decide +kernel) rfl (Nat.le_of_ble_eq_true rfl) rfl ?_
  intro p e s m args below meth c M hr ls hl0 hS0
  have hl0 : lv_has ls 3 [(0, iV x0), (1, iV x1)] := hl0
  unfold J9_floorMod_7cf53 at hf
  refine x_iload_n M hl0 dJ9_floorMod_7cf53_0 0 rfl ?_
  refine x_iload_n M hl0 dJ9_floorMod_7cf53_1 1 rfl ?_
  obtain ⟨g1, hf⟩ := gdt hf
  refine x_irem M hx0 hx1 g1 dJ9_floorMod_7cf53_2 ?_
  refine x_istore_n M hl0 dJ9_floorMod_7cf53_3 (by decide) [(2, iV (x0 % x1)), (0, iV x0), (1, iV x1)] rfl (fun ls hl2 => ?_)
  refine x_iload_n M hl2 dJ9_floorMod_7cf53_4 1 rfl ?_
  refine x_iload_n M hl2 dJ9_floorMod_7cf53_5 2 rfl ?_
  refine x_ixor M dJ9_floorMod_7cf53_6 ?_
  refine x_if_ge (tgt := 18) M (o_inr _) dJ9_floorMod_7cf53_7 (by decide) (fun hc => ?_) (fun hc => ?_)
  · have hf := iff_ hf (Int.not_lt.mpr hc)
    refine x_iload_n M hl2 dJ9_floorMod_7cf53_18 0 rfl ?_
    exact x_iret M hr hf hS0 (o_inr_rem hx1 g1) dJ9_floorMod_7cf53_19
  · have hf := ift hf (Int.not_le.mp hc)
    refine x_iload_n M hl2 dJ9_floorMod_7cf53_10 0 rfl ?_
    refine x_if_eq (tgt := 18) M (o_inr_rem hx1 g1) dJ9_floorMod_7cf53_11 (by decide) (fun hc => ?_) (fun hc => ?_)
    · have hf := ift hf hc
      refine x_iload_n M hl2 dJ9_floorMod_7cf53_18 0 rfl ?_
      exact x_iret M hr hf hS0 (o_inr_rem hx1 g1) dJ9_floorMod_7cf53_19
    · have hf := iff_ hf hc
      refine x_iload_n M hl2 dJ9_floorMod_7cf53_14 0 rfl ?_
      refine x_iload_n M hl2 dJ9_floorMod_7cf53_15 2 rfl ?_
      obtain ⟨g3, hf⟩ := gdt hf
      refine x_iadd M dJ9_floorMod_7cf53_16 ?_
      exact x_iret M hr hf hS0 g3 dJ9_floorMod_7cf53_17

/-! X2_slotOfDraft -/
theorem flX2_slotOfDraft_18 : Cond.fieldLink RX2 18 "NamedMoves$History" "held" "I" ∈ wsX2_slotOfDraft := by decide +kernel
theorem flX2_slotOfDraft_22 : Cond.fieldLink RX2 22 "NamedMoves$History" "first" "I" ∈ wsX2_slotOfDraft := by decide +kernel
theorem inX2_slotOfDraft_X2 : ∀ w ∈ u_ws RX2 TX2 3, w ∈ wsX2_slotOfDraft := by decide +kernel
set_option maxHeartbeats 4000000 in
set_option maxRecDepth 100000 in
theorem c_X2_slotOfDraft (l : Launch) {G : GG} {w : Wd} {r : Int} {w' : Wd} (hf : X2_slotOfDraft w = some (r, w')) : Met l yX2_slotOfDraft wsX2_slotOfDraft (rmk 1) (PcG G w [.ref (G.1 11 0)]) (QiG G r w') 0 0 (GA G) := by
  refine met_of (own := RX2) (by decide) rfl (Nat.le_of_ble_eq_true rfl) rfl ?_
  intro p e s m args below meth c M hr ls hl0 hS0
  have hl0 : lv_has ls 1 [(0, .ref (G.1 11 0))] := hl0
  unfold X2_slotOfDraft at hf
  refine x_aload_n M hl0 dX2_slotOfDraft_0 0 rfl ?_
  refine x_get (c0 := 11) (t0 := 0) (v := iV (w 11 0 0)) M hS0 (by decide) (ref := "NamedMoves$History") inX2_slotOfDraft_X2 (sE_11 G _ _) rfl 1 (by decide) (M.2.2.2.2.1 _ flX2_slotOfDraft_22) rfl rfl dX2_slotOfDraft_1 ?_
  refine x_aload_n M hl0 dX2_slotOfDraft_4 0 rfl ?_
  refine x_get (c0 := 11) (t0 := 0) (v := iV (w 11 0 1)) M hS0 (by decide) (ref := "NamedMoves$History") inX2_slotOfDraft_X2 (sE_11 G _ _) rfl 2 (by decide) (M.2.2.2.2.1 _ flX2_slotOfDraft_18) rfl rfl dX2_slotOfDraft_5 ?_
  obtain ⟨g1, hf⟩ := gdt hf
  refine x_iadd M dX2_slotOfDraft_8 ?_
  refine x_bipush M dX2_slotOfDraft_9 rfl ?_
  obtain ⟨r2, w3, hc4, hf⟩ := bdt hf
  refine x_callSi (As := [iV ((w 11 0 0) + (w 11 0 1)), iV 6]) (rest := []) M hl0 hS0 (c_J9_floorMod_7cf53 l  g1 ⟨by decide, by decide⟩ hc4) (va_cwS 2 M.2.2.2.2.1 gX2_slotOfDraft_J9_floorMod_7cf53 rfl rfl rfl (by decide +kernel) ⟨Nat.le_of_ble_eq_true rfl, Nat.le_of_ble_eq_true rfl⟩) rfl (Nat.le_of_ble_eq_true rfl) dX2_slotOfDraft_11 rfl ⟨Nat.zero_le _, Nat.zero_le _⟩ (fun H locs hi5 hS6 => ?_)
  exact x_iret M hr hf hS6 hi5 dX2_slotOfDraft_14

/-! X0_become -/
theorem acX0_become_33 : Cond.methodLink RX0 33 arraycopyName ∈ wsX0_become := by decide +kernel
theorem acnX0_become : Cond.native arraycopyName ∈ wsX0_become := by decide +kernel
theorem acsX0_become : Cond.static arraycopyName ∈ wsX0_become := by decide +kernel
theorem aciX0_become : Cond.initialized "java/lang/System" ∈ wsX0_become := by decide +kernel
theorem flX0_become_15 : Cond.fieldLink RX0 15 "NamedMoves$Copies" "sizes" "[I" ∈ wsX0_become := by decide +kernel
theorem flX0_become_18 : Cond.fieldLink RX0 18 "NamedMoves$Copies" "notes" "[I" ∈ wsX0_become := by decide +kernel
theorem flX0_become_21 : Cond.fieldLink RX0 21 "NamedMoves$Copies" "marks" "[I" ∈ wsX0_become := by decide +kernel
theorem flX0_become_24 : Cond.fieldLink RX0 24 "NamedMoves$Copies" "names" "[I" ∈ wsX0_become := by decide +kernel
theorem flX0_become_9 : Cond.fieldLink RX0 9 "NamedMoves$Copies" "things" "[I" ∈ wsX0_become := by decide +kernel
theorem inX0_become_X0 : ∀ w ∈ u_ws RX0 TX0 5, w ∈ wsX0_become := by decide +kernel
set_option maxHeartbeats 4000000 in
set_option maxRecDepth 100000 in
theorem c_X0_become (l : Launch) {G : GG} {t : Nat} (ht : t < 8) {t1 : Nat} (ht1 : t1 < 8) {w : Wd} {r : Int} {w' : Wd} (hf : X0_become t t1 w = some (r, w')) : Met l yX0_become wsX0_become (rmk 1) (PcG G w [.ref (G.1 2 t), .ref (G.1 2 t1)]) (QvG G w') 0 0 (GA G) := by
  refine met_of (own := RX0) (by decide) rfl (Nat.le_of_ble_eq_true rfl) rfl ?_
  intro p e s m args below meth c M hr ls hl0 hS0
  have hl0 : lv_has ls 2 [(0, .ref (G.1 2 t)), (1, .ref (G.1 2 t1))] := hl0
  unfold X0_become at hf
  refine x_aload_n M hl0 dX0_become_0 1 rfl ?_
  refine x_get (c0 := 2) (t0 := t1) (v := .ref (G.1 3 t1)) M hS0 (Or.inl ⟨by decide, ht1⟩) (ref := "NamedMoves$Copies") inX0_become_X0 (sE_2 G _ _) rfl 0 (by decide) (M.2.2.2.2.1 _ flX0_become_9) rfl rfl dX0_become_1 ?_
  refine x_iconst M dX0_become_4 ?_
  refine x_aload_n M hl0 dX0_become_5 0 rfl ?_
  refine x_get (c0 := 2) (t0 := t) (v := .ref (G.1 3 t)) M hS0 (Or.inl ⟨by decide, ht⟩) (ref := "NamedMoves$Copies") inX0_become_X0 (sE_2 G _ _) rfl 0 (by decide) (M.2.2.2.2.1 _ flX0_become_9) rfl rfl dX0_become_6 ?_
  refine x_iconst M dX0_become_9 ?_
  refine x_sipush M dX0_become_10 rfl ?_
  refine x_copy (c0 := 3) (t0 := t1) (c1 := 3) (t1 := t) M hl0 hS0 (M.2.2.2.2.1 _ acX0_become_33) (M.2.2.2.2.1 _ acnX0_become) (M.2.2.2.2.1 _ acsX0_become) (M.2.2.2.2.1 _ aciX0_become) (Or.inl ⟨by decide, ht1⟩) (Or.inl ⟨by decide, ht⟩) (hs_3 G _) (hs_3 G _) 260 rfl (by decide) (by decide) (by decide) (by decide) (Nat.le_of_ble_eq_true rfl) dX0_become_13 (fun H locs hS1 => ?_)
  refine x_aload_n M hl0 dX0_become_16 1 rfl ?_
  refine x_get (c0 := 2) (t0 := t1) (v := .ref (G.1 4 t1)) M hS1 (Or.inl ⟨by decide, ht1⟩) (ref := "NamedMoves$Copies") inX0_become_X0 (sE_2 G _ _) rfl 1 (by decide) (M.2.2.2.2.1 _ flX0_become_15) rfl rfl dX0_become_17 ?_
  refine x_iconst M dX0_become_20 ?_
  refine x_aload_n M hl0 dX0_become_21 0 rfl ?_
  refine x_get (c0 := 2) (t0 := t) (v := .ref (G.1 4 t)) M hS1 (Or.inl ⟨by decide, ht⟩) (ref := "NamedMoves$Copies") inX0_become_X0 (sE_2 G _ _) rfl 1 (by decide) (M.2.2.2.2.1 _ flX0_become_15) rfl rfl dX0_become_22 ?_
  refine x_iconst M dX0_become_25 ?_
  refine x_sipush M dX0_become_26 rfl ?_
  refine x_copy (c0 := 4) (t0 := t1) (c1 := 4) (t1 := t) M hl0 hS1 (M.2.2.2.2.1 _ acX0_become_33) (M.2.2.2.2.1 _ acnX0_become) (M.2.2.2.2.1 _ acsX0_become) (M.2.2.2.2.1 _ aciX0_become) (Or.inl ⟨by decide, ht1⟩) (Or.inl ⟨by decide, ht⟩) (hs_4 G _) (hs_4 G _) 260 rfl (by decide) (by decide) (by decide) (by decide) (Nat.le_of_ble_eq_true rfl) dX0_become_29 (fun H locs hS2 => ?_)
  refine x_aload_n M hl0 dX0_become_32 1 rfl ?_
  refine x_get (c0 := 2) (t0 := t1) (v := .ref (G.1 5 t1)) M hS2 (Or.inl ⟨by decide, ht1⟩) (ref := "NamedMoves$Copies") inX0_become_X0 (sE_2 G _ _) rfl 2 (by decide) (M.2.2.2.2.1 _ flX0_become_18) rfl rfl dX0_become_33 ?_
  refine x_iconst M dX0_become_36 ?_
  refine x_aload_n M hl0 dX0_become_37 0 rfl ?_
  refine x_get (c0 := 2) (t0 := t) (v := .ref (G.1 5 t)) M hS2 (Or.inl ⟨by decide, ht⟩) (ref := "NamedMoves$Copies") inX0_become_X0 (sE_2 G _ _) rfl 2 (by decide) (M.2.2.2.2.1 _ flX0_become_18) rfl rfl dX0_become_38 ?_
  refine x_iconst M dX0_become_41 ?_
  refine x_sipush M dX0_become_42 rfl ?_
  refine x_copy (c0 := 5) (t0 := t1) (c1 := 5) (t1 := t) M hl0 hS2 (M.2.2.2.2.1 _ acX0_become_33) (M.2.2.2.2.1 _ acnX0_become) (M.2.2.2.2.1 _ acsX0_become) (M.2.2.2.2.1 _ aciX0_become) (Or.inl ⟨by decide, ht1⟩) (Or.inl ⟨by decide, ht⟩) (hs_5 G _) (hs_5 G _) 260 rfl (by decide) (by decide) (by decide) (by decide) (Nat.le_of_ble_eq_true rfl) dX0_become_45 (fun H locs hS3 => ?_)
  refine x_aload_n M hl0 dX0_become_48 1 rfl ?_
  refine x_get (c0 := 2) (t0 := t1) (v := .ref (G.1 6 t1)) M hS3 (Or.inl ⟨by decide, ht1⟩) (ref := "NamedMoves$Copies") inX0_become_X0 (sE_2 G _ _) rfl 3 (by decide) (M.2.2.2.2.1 _ flX0_become_21) rfl rfl dX0_become_49 ?_
  refine x_iconst M dX0_become_52 ?_
  refine x_aload_n M hl0 dX0_become_53 0 rfl ?_
  refine x_get (c0 := 2) (t0 := t) (v := .ref (G.1 6 t)) M hS3 (Or.inl ⟨by decide, ht⟩) (ref := "NamedMoves$Copies") inX0_become_X0 (sE_2 G _ _) rfl 3 (by decide) (M.2.2.2.2.1 _ flX0_become_21) rfl rfl dX0_become_54 ?_
  refine x_iconst M dX0_become_57 ?_
  refine x_sipush M dX0_become_58 rfl ?_
  refine x_copy (c0 := 6) (t0 := t1) (c1 := 6) (t1 := t) M hl0 hS3 (M.2.2.2.2.1 _ acX0_become_33) (M.2.2.2.2.1 _ acnX0_become) (M.2.2.2.2.1 _ acsX0_become) (M.2.2.2.2.1 _ aciX0_become) (Or.inl ⟨by decide, ht1⟩) (Or.inl ⟨by decide, ht⟩) (hs_6 G _) (hs_6 G _) 260 rfl (by decide) (by decide) (by decide) (by decide) (Nat.le_of_ble_eq_true rfl) dX0_become_61 (fun H locs hS4 => ?_)
  refine x_aload_n M hl0 dX0_become_64 1 rfl ?_
  refine x_get (c0 := 2) (t0 := t1) (v := .ref (G.1 7 t1)) M hS4 (Or.inl ⟨by decide, ht1⟩) (ref := "NamedMoves$Copies") inX0_become_X0 (sE_2 G _ _) rfl 4 (by decide) (M.2.2.2.2.1 _ flX0_become_24) rfl rfl dX0_become_65 ?_
  refine x_iconst M dX0_become_68 ?_
  refine x_aload_n M hl0 dX0_become_69 0 rfl ?_
  refine x_get (c0 := 2) (t0 := t) (v := .ref (G.1 7 t)) M hS4 (Or.inl ⟨by decide, ht⟩) (ref := "NamedMoves$Copies") inX0_become_X0 (sE_2 G _ _) rfl 4 (by decide) (M.2.2.2.2.1 _ flX0_become_24) rfl rfl dX0_become_70 ?_
  refine x_iconst M dX0_become_73 ?_
  refine x_sipush M dX0_become_74 rfl ?_
  refine x_copy (c0 := 7) (t0 := t1) (c1 := 7) (t1 := t) M hl0 hS4 (M.2.2.2.2.1 _ acX0_become_33) (M.2.2.2.2.1 _ acnX0_become) (M.2.2.2.2.1 _ acsX0_become) (M.2.2.2.2.1 _ aciX0_become) (Or.inl ⟨by decide, ht1⟩) (Or.inl ⟨by decide, ht⟩) (hs_7 G _) (hs_7 G _) 520 rfl (by decide) (by decide) (by decide) (by decide) (Nat.le_of_ble_eq_true rfl) dX0_become_77 (fun H locs hS5 => ?_)
  exact x_vret M hr hf hS5 dX0_become_80

/-! X3_become -/
theorem acX3_become_15 : Cond.methodLink RX3 15 arraycopyName ∈ wsX3_become := by decide +kernel
theorem acnX3_become : Cond.native arraycopyName ∈ wsX3_become := by decide +kernel
theorem acsX3_become : Cond.static arraycopyName ∈ wsX3_become := by decide +kernel
theorem aciX3_become : Cond.initialized "java/lang/System" ∈ wsX3_become := by decide +kernel
theorem flX3_become_21 : Cond.fieldLink RX3 21 "NamedMoves$Queue" "first" "I" ∈ wsX3_become := by decide +kernel
theorem flX3_become_25 : Cond.fieldLink RX3 25 "NamedMoves$Queue" "end" "I" ∈ wsX3_become := by decide +kernel
theorem flX3_become_9 : Cond.fieldLink RX3 9 "NamedMoves$Queue" "addresses" "[I" ∈ wsX3_become := by decide +kernel
theorem inX3_become_X3 : ∀ w ∈ u_ws RX3 TX3 3, w ∈ wsX3_become := by decide +kernel
set_option maxHeartbeats 4000000 in
set_option maxRecDepth 100000 in
theorem c_X3_become (l : Launch) {G : GG} {t : Nat} (ht : t < 8) {t1 : Nat} (ht1 : t1 < 8) {w : Wd} {r : Int} {w' : Wd} (hf : X3_become t t1 w = some (r, w')) : Met l yX3_become wsX3_become (rmk 1) (PcG G w [.ref (G.1 8 t), .ref (G.1 8 t1)]) (QvG G w') 0 0 (GA G) := by
  refine met_of (own := RX3) (by decide) rfl (Nat.le_of_ble_eq_true rfl) rfl ?_
  intro p e s m args below meth c M hr ls hl0 hS0
  have hl0 : lv_has ls 2 [(0, .ref (G.1 8 t)), (1, .ref (G.1 8 t1))] := hl0
  unfold X3_become at hf
  refine x_aload_n M hl0 dX3_become_0 1 rfl ?_
  refine x_get (c0 := 8) (t0 := t1) (v := .ref (G.1 9 t1)) M hS0 (Or.inl ⟨by decide, ht1⟩) (ref := "NamedMoves$Queue") inX3_become_X3 (sE_8 G _ _) rfl 0 (by decide) (M.2.2.2.2.1 _ flX3_become_9) rfl rfl dX3_become_1 ?_
  refine x_iconst M dX3_become_4 ?_
  refine x_aload_n M hl0 dX3_become_5 0 rfl ?_
  refine x_get (c0 := 8) (t0 := t) (v := .ref (G.1 9 t)) M hS0 (Or.inl ⟨by decide, ht⟩) (ref := "NamedMoves$Queue") inX3_become_X3 (sE_8 G _ _) rfl 0 (by decide) (M.2.2.2.2.1 _ flX3_become_9) rfl rfl dX3_become_6 ?_
  refine x_iconst M dX3_become_9 ?_
  refine x_bipush M dX3_become_10 rfl ?_
  refine x_copy (c0 := 9) (t0 := t1) (c1 := 9) (t1 := t) M hl0 hS0 (M.2.2.2.2.1 _ acX3_become_15) (M.2.2.2.2.1 _ acnX3_become) (M.2.2.2.2.1 _ acsX3_become) (M.2.2.2.2.1 _ aciX3_become) (Or.inl ⟨by decide, ht1⟩) (Or.inl ⟨by decide, ht⟩) (hs_9 G _) (hs_9 G _) 124 rfl (by decide) (by decide) (by decide) (by decide) (Nat.le_of_ble_eq_true rfl) dX3_become_12 (fun H locs hS1 => ?_)
  refine x_aload_n M hl0 dX3_become_15 0 rfl ?_
  refine x_aload_n M hl0 dX3_become_16 1 rfl ?_
  refine x_get (c0 := 8) (t0 := t1) (v := iV ((cpy w 9 t1 9 t 124) 8 t1 0)) M hS1 (Or.inl ⟨by decide, ht1⟩) (ref := "NamedMoves$Queue") inX3_become_X3 (sE_8 G _ _) rfl 1 (by decide) (M.2.2.2.2.1 _ flX3_become_21) rfl rfl dX3_become_17 ?_
  refine x_put (c0 := 8) (t0 := t) M hS1 (Or.inl ⟨by decide, ht⟩) (ref := "NamedMoves$Queue") inX3_become_X3 tyX3 tyX3_ok nmX3 (sE_8 G _ _) rfl 1 (by decide) (M.2.2.2.2.1 _ flX3_become_21) rfl rfl (ty := tyX3 1) (hS1.inr _ _ _) (tyX3_ok 1 (by decide)) rfl rfl (by simp) 0 (pset_8_0 G _ _ _) dX3_become_20 (fun H locs hS2 => ?_)
  refine x_aload_n M hl0 dX3_become_23 0 rfl ?_
  refine x_aload_n M hl0 dX3_become_24 1 rfl ?_
  refine x_get (c0 := 8) (t0 := t1) (v := iV ((up (cpy w 9 t1 9 t 124) 8 t 0 ((cpy w 9 t1 9 t 124) 8 t1 0)) 8 t1 1)) M hS2 (Or.inl ⟨by decide, ht1⟩) (ref := "NamedMoves$Queue") inX3_become_X3 (sE_8 G _ _) rfl 2 (by decide) (M.2.2.2.2.1 _ flX3_become_25) rfl rfl dX3_become_25 ?_
  refine x_put (c0 := 8) (t0 := t) M hS2 (Or.inl ⟨by decide, ht⟩) (ref := "NamedMoves$Queue") inX3_become_X3 tyX3 tyX3_ok nmX3 (sE_8 G _ _) rfl 2 (by decide) (M.2.2.2.2.1 _ flX3_become_25) rfl rfl (ty := tyX3 2) (hS2.inr _ _ _) (tyX3_ok 2 (by decide)) rfl rfl (by simp) 1 (pset_8_1 G _ _ _) dX3_become_28 (fun H locs hS3 => ?_)
  exact x_vret M hr hf hS3 dX3_become_31

/-! X5_become -/
theorem acX5_become_39 : Cond.methodLink RX5 39 arraycopyName ∈ wsX5_become := by decide +kernel
theorem acnX5_become : Cond.native arraycopyName ∈ wsX5_become := by decide +kernel
theorem acsX5_become : Cond.static arraycopyName ∈ wsX5_become := by decide +kernel
theorem aciX5_become : Cond.initialized "java/lang/System" ∈ wsX5_become := by decide +kernel
theorem flX5_become_18 : Cond.fieldLink RX5 18 "NamedMoves$Store" "copies" "LNamedMoves$Copies;" ∈ wsX5_become := by decide +kernel
theorem flX5_become_25 : Cond.fieldLink RX5 25 "NamedMoves$Store" "queue" "LNamedMoves$Queue;" ∈ wsX5_become := by decide +kernel
theorem flX5_become_29 : Cond.fieldLink RX5 29 "NamedMoves$Store" "heavyBound" "I" ∈ wsX5_become := by decide +kernel
theorem flX5_become_52 : Cond.fieldLink RX5 52 "NamedMoves$Store" "made" "I" ∈ wsX5_become := by decide +kernel
theorem flX5_become_55 : Cond.fieldLink RX5 55 "NamedMoves$Store" "moving" "Z" ∈ wsX5_become := by decide +kernel
theorem flX5_become_59 : Cond.fieldLink RX5 59 "NamedMoves$Store" "half" "I" ∈ wsX5_become := by decide +kernel
theorem flX5_become_62 : Cond.fieldLink RX5 62 "NamedMoves$Store" "taken" "I" ∈ wsX5_become := by decide +kernel
theorem flX5_become_65 : Cond.fieldLink RX5 65 "NamedMoves$Store" "notesLost" "I" ∈ wsX5_become := by decide +kernel
theorem flX5_become_68 : Cond.fieldLink RX5 68 "NamedMoves$Store" "movesEnded" "I" ∈ wsX5_become := by decide +kernel
theorem flX5_become_9 : Cond.fieldLink RX5 9 "NamedMoves$Store" "hooks" "[I" ∈ wsX5_become := by decide +kernel
theorem inX5_become_X5 : ∀ w ∈ u_ws RX5 TX5 10, w ∈ wsX5_become := by decide +kernel
set_option maxHeartbeats 4000000 in
set_option maxRecDepth 100000 in
theorem c_X5_become (l : Launch) {G : GG} {t : Nat} (ht : t < 8) {t1 : Nat} (ht1 : t1 < 8) {w : Wd} {r : Int} {w' : Wd} (hf : X5_become t t1 w = some (r, w')) : Met l yX5_become wsX5_become (rmk 2) (PcG G w [.ref (G.1 0 t), .ref (G.1 0 t1)]) (QvG G w') 0 0 (GA G) := by
  refine met_of (own := RX5) (by decide) rfl (Nat.le_of_ble_eq_true rfl) rfl ?_
  intro p e s m args below meth c M hr ls hl0 hS0
  have hl0 : lv_has ls 2 [(0, .ref (G.1 0 t)), (1, .ref (G.1 0 t1))] := hl0
  unfold X5_become at hf
  refine x_aload_n M hl0 dX5_become_0 1 rfl ?_
  refine x_get (c0 := 0) (t0 := t1) (v := .ref (G.1 1 t1)) M hS0 (Or.inl ⟨by decide, ht1⟩) (ref := "NamedMoves$Store") inX5_become_X5 (sE_0 G _ _) rfl 0 (by decide) (M.2.2.2.2.1 _ flX5_become_9) rfl rfl dX5_become_1 ?_
  refine x_iconst M dX5_become_4 ?_
  refine x_aload_n M hl0 dX5_become_5 0 rfl ?_
  refine x_get (c0 := 0) (t0 := t) (v := .ref (G.1 1 t)) M hS0 (Or.inl ⟨by decide, ht⟩) (ref := "NamedMoves$Store") inX5_become_X5 (sE_0 G _ _) rfl 0 (by decide) (M.2.2.2.2.1 _ flX5_become_9) rfl rfl dX5_become_6 ?_
  refine x_iconst M dX5_become_9 ?_
  refine x_bipush M dX5_become_10 rfl ?_
  refine x_copy (c0 := 1) (t0 := t1) (c1 := 1) (t1 := t) M hl0 hS0 (M.2.2.2.2.1 _ acX5_become_39) (M.2.2.2.2.1 _ acnX5_become) (M.2.2.2.2.1 _ acsX5_become) (M.2.2.2.2.1 _ aciX5_become) (Or.inl ⟨by decide, ht1⟩) (Or.inl ⟨by decide, ht⟩) (hs_1 G _) (hs_1 G _) 8 rfl (by decide) (by decide) (by decide) (by decide) (Nat.le_of_ble_eq_true rfl) dX5_become_12 (fun H locs hS1 => ?_)
  refine x_aload_n M hl0 dX5_become_15 0 rfl ?_
  refine x_get (c0 := 0) (t0 := t) (v := .ref (G.1 2 t)) M hS1 (Or.inl ⟨by decide, ht⟩) (ref := "NamedMoves$Store") inX5_become_X5 (sE_0 G _ _) rfl 1 (by decide) (M.2.2.2.2.1 _ flX5_become_18) rfl rfl dX5_become_16 ?_
  refine x_aload_n M hl0 dX5_become_19 1 rfl ?_
  refine x_get (c0 := 0) (t0 := t1) (v := .ref (G.1 2 t1)) M hS1 (Or.inl ⟨by decide, ht1⟩) (ref := "NamedMoves$Store") inX5_become_X5 (sE_0 G _ _) rfl 1 (by decide) (M.2.2.2.2.1 _ flX5_become_18) rfl rfl dX5_become_20 ?_
  obtain ⟨r2, w3, hc4, hf⟩ := bdt hf
  refine x_callVv (c0 := 2) (t0 := t) (As := [.ref (G.1 2 t1)]) (rest := []) M hl0 hS1 (c_X0_become l ht ht1  hc4) (cwV 1 M.2.2.2.2.1 gX5_become_X0_become rfl rfl rfl (by decide +kernel) ⟨Nat.le_of_ble_eq_true rfl, Nat.le_of_ble_eq_true rfl⟩) (Or.inl ⟨by decide, ht⟩) (sE_2 G _ _) rfl rfl (Nat.le_of_ble_eq_true rfl) dX5_become_23 rfl ⟨Nat.zero_le _, Nat.zero_le _⟩ (fun H locs hS6 => ?_)
  refine x_aload_n M hl0 dX5_become_26 0 rfl ?_
  refine x_get (c0 := 0) (t0 := t) (v := .ref (G.1 8 t)) M hS6 (Or.inl ⟨by decide, ht⟩) (ref := "NamedMoves$Store") inX5_become_X5 (sE_0 G _ _) rfl 2 (by decide) (M.2.2.2.2.1 _ flX5_become_25) rfl rfl dX5_become_27 ?_
  refine x_aload_n M hl0 dX5_become_30 1 rfl ?_
  refine x_get (c0 := 0) (t0 := t1) (v := .ref (G.1 8 t1)) M hS6 (Or.inl ⟨by decide, ht1⟩) (ref := "NamedMoves$Store") inX5_become_X5 (sE_0 G _ _) rfl 2 (by decide) (M.2.2.2.2.1 _ flX5_become_25) rfl rfl dX5_become_31 ?_
  obtain ⟨r7, w8, hc9, hf⟩ := bdt hf
  refine x_callVv (c0 := 8) (t0 := t) (As := [.ref (G.1 8 t1)]) (rest := []) M hl0 hS6 (c_X3_become l ht ht1  hc9) (cwV 1 M.2.2.2.2.1 gX5_become_X3_become rfl rfl rfl (by decide +kernel) ⟨Nat.le_of_ble_eq_true rfl, Nat.le_of_ble_eq_true rfl⟩) (Or.inl ⟨by decide, ht⟩) (sE_8 G _ _) rfl rfl (Nat.le_of_ble_eq_true rfl) dX5_become_34 rfl ⟨Nat.zero_le _, Nat.zero_le _⟩ (fun H locs hS11 => ?_)
  refine x_aload_n M hl0 dX5_become_37 0 rfl ?_
  refine x_aload_n M hl0 dX5_become_38 1 rfl ?_
  refine x_get (c0 := 0) (t0 := t1) (v := iV (w8 0 t1 0)) M hS11 (Or.inl ⟨by decide, ht1⟩) (ref := "NamedMoves$Store") inX5_become_X5 (sE_0 G _ _) rfl 3 (by decide) (M.2.2.2.2.1 _ flX5_become_29) rfl rfl dX5_become_39 ?_
  refine x_put (c0 := 0) (t0 := t) M hS11 (Or.inl ⟨by decide, ht⟩) (ref := "NamedMoves$Store") inX5_become_X5 tyX5 tyX5_ok nmX5 (sE_0 G _ _) rfl 3 (by decide) (M.2.2.2.2.1 _ flX5_become_29) rfl rfl (ty := tyX5 3) (hS11.inr _ _ _) (tyX5_ok 3 (by decide)) rfl rfl (by simp) 0 (pset_0_0 G _ _ _) dX5_become_42 (fun H locs hS12 => ?_)
  refine x_aload_n M hl0 dX5_become_45 0 rfl ?_
  refine x_aload_n M hl0 dX5_become_46 1 rfl ?_
  refine x_get (c0 := 0) (t0 := t1) (v := iV ((up w8 0 t 0 (w8 0 t1 0)) 0 t1 1)) M hS12 (Or.inl ⟨by decide, ht1⟩) (ref := "NamedMoves$Store") inX5_become_X5 (sE_0 G _ _) rfl 4 (by decide) (M.2.2.2.2.1 _ flX5_become_52) rfl rfl dX5_become_47 ?_
  refine x_put (c0 := 0) (t0 := t) M hS12 (Or.inl ⟨by decide, ht⟩) (ref := "NamedMoves$Store") inX5_become_X5 tyX5 tyX5_ok nmX5 (sE_0 G _ _) rfl 4 (by decide) (M.2.2.2.2.1 _ flX5_become_52) rfl rfl (ty := tyX5 4) (hS12.inr _ _ _) (tyX5_ok 4 (by decide)) rfl rfl (by simp) 1 (pset_0_1 G _ _ _) dX5_become_50 (fun H locs hS13 => ?_)
  refine x_aload_n M hl0 dX5_become_53 0 rfl ?_
  refine x_aload_n M hl0 dX5_become_54 1 rfl ?_
  refine x_get (c0 := 0) (t0 := t1) (v := iV ((up (up w8 0 t 0 (w8 0 t1 0)) 0 t 1 ((up w8 0 t 0 (w8 0 t1 0)) 0 t1 1)) 0 t1 2)) M hS13 (Or.inl ⟨by decide, ht1⟩) (ref := "NamedMoves$Store") inX5_become_X5 (sE_0 G _ _) rfl 5 (by decide) (M.2.2.2.2.1 _ flX5_become_55) rfl rfl dX5_become_55 ?_
  obtain ⟨g15, hf⟩ := gdt hf
  refine x_put (c0 := 0) (t0 := t) M hS13 (Or.inl ⟨by decide, ht⟩) (ref := "NamedMoves$Store") inX5_become_X5 tyX5 tyX5_ok nmX5 (sE_0 G _ _) rfl 5 (by decide) (M.2.2.2.2.1 _ flX5_become_55) rfl rfl (ty := tyX5 5) (hS13.inr _ _ _) (tyX5_ok 5 (by decide)) (o_bool g15 _ rfl) (o_fitb g15 _ rfl) (by simp) 2 (pset_0_2 G _ _ _) dX5_become_58 (fun H locs hS14 => ?_)
  refine x_aload_n M hl0 dX5_become_61 0 rfl ?_
  refine x_aload_n M hl0 dX5_become_62 1 rfl ?_
  refine x_get (c0 := 0) (t0 := t1) (v := iV ((up (up (up w8 0 t 0 (w8 0 t1 0)) 0 t 1 ((up w8 0 t 0 (w8 0 t1 0)) 0 t1 1)) 0 t 2 ((up (up w8 0 t 0 (w8 0 t1 0)) 0 t 1 ((up w8 0 t 0 (w8 0 t1 0)) 0 t1 1)) 0 t1 2)) 0 t1 3)) M hS14 (Or.inl ⟨by decide, ht1⟩) (ref := "NamedMoves$Store") inX5_become_X5 (sE_0 G _ _) rfl 6 (by decide) (M.2.2.2.2.1 _ flX5_become_59) rfl rfl dX5_become_63 ?_
  refine x_put (c0 := 0) (t0 := t) M hS14 (Or.inl ⟨by decide, ht⟩) (ref := "NamedMoves$Store") inX5_become_X5 tyX5 tyX5_ok nmX5 (sE_0 G _ _) rfl 6 (by decide) (M.2.2.2.2.1 _ flX5_become_59) rfl rfl (ty := tyX5 6) (hS14.inr _ _ _) (tyX5_ok 6 (by decide)) rfl rfl (by simp) 3 (pset_0_3 G _ _ _) dX5_become_66 (fun H locs hS16 => ?_)
  refine x_aload_n M hl0 dX5_become_69 0 rfl ?_
  refine x_aload_n M hl0 dX5_become_70 1 rfl ?_
  refine x_get (c0 := 0) (t0 := t1) (v := iV ((up (up (up (up w8 0 t 0 (w8 0 t1 0)) 0 t 1 ((up w8 0 t 0 (w8 0 t1 0)) 0 t1 1)) 0 t 2 ((up (up w8 0 t 0 (w8 0 t1 0)) 0 t 1 ((up w8 0 t 0 (w8 0 t1 0)) 0 t1 1)) 0 t1 2)) 0 t 3 ((up (up (up w8 0 t 0 (w8 0 t1 0)) 0 t 1 ((up w8 0 t 0 (w8 0 t1 0)) 0 t1 1)) 0 t 2 ((up (up w8 0 t 0 (w8 0 t1 0)) 0 t 1 ((up w8 0 t 0 (w8 0 t1 0)) 0 t1 1)) 0 t1 2)) 0 t1 3)) 0 t1 4)) M hS16 (Or.inl ⟨by decide, ht1⟩) (ref := "NamedMoves$Store") inX5_become_X5 (sE_0 G _ _) rfl 7 (by decide) (M.2.2.2.2.1 _ flX5_become_62) rfl rfl dX5_become_71 ?_
  refine x_put (c0 := 0) (t0 := t) M hS16 (Or.inl ⟨by decide, ht⟩) (ref := "NamedMoves$Store") inX5_become_X5 tyX5 tyX5_ok nmX5 (sE_0 G _ _) rfl 7 (by decide) (M.2.2.2.2.1 _ flX5_become_62) rfl rfl (ty := tyX5 7) (hS16.inr _ _ _) (tyX5_ok 7 (by decide)) rfl rfl (by simp) 4 (pset_0_4 G _ _ _) dX5_become_74 (fun H locs hS17 => ?_)
  refine x_aload_n M hl0 dX5_become_77 0 rfl ?_
  refine x_aload_n M hl0 dX5_become_78 1 rfl ?_
  refine x_get (c0 := 0) (t0 := t1) (v := iV ((up (up (up (up (up w8 0 t 0 (w8 0 t1 0)) 0 t 1 ((up w8 0 t 0 (w8 0 t1 0)) 0 t1 1)) 0 t 2 ((up (up w8 0 t 0 (w8 0 t1 0)) 0 t 1 ((up w8 0 t 0 (w8 0 t1 0)) 0 t1 1)) 0 t1 2)) 0 t 3 ((up (up (up w8 0 t 0 (w8 0 t1 0)) 0 t 1 ((up w8 0 t 0 (w8 0 t1 0)) 0 t1 1)) 0 t 2 ((up (up w8 0 t 0 (w8 0 t1 0)) 0 t 1 ((up w8 0 t 0 (w8 0 t1 0)) 0 t1 1)) 0 t1 2)) 0 t1 3)) 0 t 4 ((up (up (up (up w8 0 t 0 (w8 0 t1 0)) 0 t 1 ((up w8 0 t 0 (w8 0 t1 0)) 0 t1 1)) 0 t 2 ((up (up w8 0 t 0 (w8 0 t1 0)) 0 t 1 ((up w8 0 t 0 (w8 0 t1 0)) 0 t1 1)) 0 t1 2)) 0 t 3 ((up (up (up w8 0 t 0 (w8 0 t1 0)) 0 t 1 ((up w8 0 t 0 (w8 0 t1 0)) 0 t1 1)) 0 t 2 ((up (up w8 0 t 0 (w8 0 t1 0)) 0 t 1 ((up w8 0 t 0 (w8 0 t1 0)) 0 t1 1)) 0 t1 2)) 0 t1 3)) 0 t1 4)) 0 t1 5)) M hS17 (Or.inl ⟨by decide, ht1⟩) (ref := "NamedMoves$Store") inX5_become_X5 (sE_0 G _ _) rfl 8 (by decide) (M.2.2.2.2.1 _ flX5_become_65) rfl rfl dX5_become_79 ?_
  refine x_put (c0 := 0) (t0 := t) M hS17 (Or.inl ⟨by decide, ht⟩) (ref := "NamedMoves$Store") inX5_become_X5 tyX5 tyX5_ok nmX5 (sE_0 G _ _) rfl 8 (by decide) (M.2.2.2.2.1 _ flX5_become_65) rfl rfl (ty := tyX5 8) (hS17.inr _ _ _) (tyX5_ok 8 (by decide)) rfl rfl (by simp) 5 (pset_0_5 G _ _ _) dX5_become_82 (fun H locs hS18 => ?_)
  refine x_aload_n M hl0 dX5_become_85 0 rfl ?_
  refine x_aload_n M hl0 dX5_become_86 1 rfl ?_
  refine x_get (c0 := 0) (t0 := t1) (v := iV ((up (up (up (up (up (up w8 0 t 0 (w8 0 t1 0)) 0 t 1 ((up w8 0 t 0 (w8 0 t1 0)) 0 t1 1)) 0 t 2 ((up (up w8 0 t 0 (w8 0 t1 0)) 0 t 1 ((up w8 0 t 0 (w8 0 t1 0)) 0 t1 1)) 0 t1 2)) 0 t 3 ((up (up (up w8 0 t 0 (w8 0 t1 0)) 0 t 1 ((up w8 0 t 0 (w8 0 t1 0)) 0 t1 1)) 0 t 2 ((up (up w8 0 t 0 (w8 0 t1 0)) 0 t 1 ((up w8 0 t 0 (w8 0 t1 0)) 0 t1 1)) 0 t1 2)) 0 t1 3)) 0 t 4 ((up (up (up (up w8 0 t 0 (w8 0 t1 0)) 0 t 1 ((up w8 0 t 0 (w8 0 t1 0)) 0 t1 1)) 0 t 2 ((up (up w8 0 t 0 (w8 0 t1 0)) 0 t 1 ((up w8 0 t 0 (w8 0 t1 0)) 0 t1 1)) 0 t1 2)) 0 t 3 ((up (up (up w8 0 t 0 (w8 0 t1 0)) 0 t 1 ((up w8 0 t 0 (w8 0 t1 0)) 0 t1 1)) 0 t 2 ((up (up w8 0 t 0 (w8 0 t1 0)) 0 t 1 ((up w8 0 t 0 (w8 0 t1 0)) 0 t1 1)) 0 t1 2)) 0 t1 3)) 0 t1 4)) 0 t 5 ((up (up (up (up (up w8 0 t 0 (w8 0 t1 0)) 0 t 1 ((up w8 0 t 0 (w8 0 t1 0)) 0 t1 1)) 0 t 2 ((up (up w8 0 t 0 (w8 0 t1 0)) 0 t 1 ((up w8 0 t 0 (w8 0 t1 0)) 0 t1 1)) 0 t1 2)) 0 t 3 ((up (up (up w8 0 t 0 (w8 0 t1 0)) 0 t 1 ((up w8 0 t 0 (w8 0 t1 0)) 0 t1 1)) 0 t 2 ((up (up w8 0 t 0 (w8 0 t1 0)) 0 t 1 ((up w8 0 t 0 (w8 0 t1 0)) 0 t1 1)) 0 t1 2)) 0 t1 3)) 0 t 4 ((up (up (up (up w8 0 t 0 (w8 0 t1 0)) 0 t 1 ((up w8 0 t 0 (w8 0 t1 0)) 0 t1 1)) 0 t 2 ((up (up w8 0 t 0 (w8 0 t1 0)) 0 t 1 ((up w8 0 t 0 (w8 0 t1 0)) 0 t1 1)) 0 t1 2)) 0 t 3 ((up (up (up w8 0 t 0 (w8 0 t1 0)) 0 t 1 ((up w8 0 t 0 (w8 0 t1 0)) 0 t1 1)) 0 t 2 ((up (up w8 0 t 0 (w8 0 t1 0)) 0 t 1 ((up w8 0 t 0 (w8 0 t1 0)) 0 t1 1)) 0 t1 2)) 0 t1 3)) 0 t1 4)) 0 t1 5)) 0 t1 6)) M hS18 (Or.inl ⟨by decide, ht1⟩) (ref := "NamedMoves$Store") inX5_become_X5 (sE_0 G _ _) rfl 9 (by decide) (M.2.2.2.2.1 _ flX5_become_68) rfl rfl dX5_become_87 ?_
  refine x_put (c0 := 0) (t0 := t) M hS18 (Or.inl ⟨by decide, ht⟩) (ref := "NamedMoves$Store") inX5_become_X5 tyX5 tyX5_ok nmX5 (sE_0 G _ _) rfl 9 (by decide) (M.2.2.2.2.1 _ flX5_become_68) rfl rfl (ty := tyX5 9) (hS18.inr _ _ _) (tyX5_ok 9 (by decide)) rfl rfl (by simp) 6 (pset_0_6 G _ _ _) dX5_become_90 (fun H locs hS19 => ?_)
  exact x_vret M hr hf hS19 dX5_become_93

/-! X2_draft -/
theorem flX2_draft_11 : Cond.fieldLink RX2 11 "NamedMoves$History" "states" "[LNamedMoves$Store;" ∈ wsX2_draft := by decide +kernel
theorem inX2_draft_X2 : ∀ w ∈ u_ws RX2 TX2 3, w ∈ wsX2_draft := by decide +kernel
set_option maxHeartbeats 4000000 in
set_option maxRecDepth 100000 in
theorem c_X2_draft (l : Launch) {G : GG} {t1 : Nat} (ht1 : t1 < 8) {w : Wd} {r : Int} {w' : Wd} (hf : X2_draft t1 w = some (r, w')) : Met l yX2_draft wsX2_draft (rmk 3) (PcG G w [.ref (G.1 11 0), .ref (G.1 0 t1)]) (QvG G w') 0 0 (GA G) := by
  refine met_of (own := RX2) (by decide) rfl (Nat.le_of_ble_eq_true rfl) rfl ?_
  intro p e s m args below meth c M hr ls hl0 hS0
  have hl0 : lv_has ls 3 [(0, .ref (G.1 11 0)), (1, .ref (G.1 0 t1))] := hl0
  unfold X2_draft at hf
  refine x_aload_n M hl0 dX2_draft_0 0 rfl ?_
  refine x_get (c0 := 11) (t0 := 0) (v := .ref (G.1 12 0)) M hS0 (by decide) (ref := "NamedMoves$History") inX2_draft_X2 (sE_11 G _ _) rfl 0 (by decide) (M.2.2.2.2.1 _ flX2_draft_11) rfl rfl dX2_draft_1 ?_
  refine x_aload_n M hl0 dX2_draft_4 0 rfl ?_
  obtain ⟨r1, w2, hc3, hf⟩ := bdt hf
  refine x_callVi (c0 := 11) (t0 := 0) (As := []) (rest := [.ref (G.1 12 0)]) M hl0 hS0 (c_X2_slotOfDraft l   hc3) (cwV 0 M.2.2.2.2.1 gX2_draft_X2_slotOfDraft rfl rfl rfl (by decide +kernel) ⟨Nat.le_of_ble_eq_true rfl, Nat.le_of_ble_eq_true rfl⟩) (by decide) (sE_11 G _ _) rfl rfl (Nat.le_of_ble_eq_true rfl) dX2_draft_5 rfl ⟨Nat.zero_le _, Nat.zero_le _⟩ (fun H locs hi4 hS5 => ?_)
  obtain ⟨g6, hf⟩ := gdt hf
  have ht7 : r1.toNat + 2 < 8 := by omega
  refine x_aald M hS5 g6 dX2_draft_8 ?_
  refine x_astore_n M hl0 dX2_draft_9 (by decide) [(2, .ref (G.1 0 (r1.toNat + 2))), (0, .ref (G.1 11 0)), (1, .ref (G.1 0 t1))] rfl (fun ls hl8 => ?_)
  refine x_aload_n M hl8 dX2_draft_10 0 rfl ?_
  refine x_ifnull M dX2_draft_11 ?_
  refine x_aload_n M hl8 dX2_draft_14 0 rfl ?_
  refine x_aload_n M hl8 dX2_draft_15 2 rfl ?_
  obtain ⟨r9, w10, hc11, hf⟩ := bdt hf
  refine x_callVv (c0 := 0) (t0 := r1.toNat + 2) (As := [.ref (G.1 0 t1)]) (rest := []) M hl8 hS5 (c_X5_become l ht7 ht1  hc11) (cwV 1 M.2.2.2.2.1 gX2_draft_X5_become rfl rfl rfl (by decide +kernel) ⟨Nat.le_of_ble_eq_true rfl, Nat.le_of_ble_eq_true rfl⟩) (Or.inl ⟨by decide, ht7⟩) (sE_0 G _ _) rfl rfl (Nat.le_of_ble_eq_true rfl) dX2_draft_16 rfl ⟨Nat.zero_le _, Nat.zero_le _⟩ (fun H locs hS13 => ?_)
  exact x_vret M hr hf hS13 dX2_draft_19

/-! X5_changeBound -/
theorem flX5_changeBound_29 : Cond.fieldLink RX5 29 "NamedMoves$Store" "heavyBound" "I" ∈ wsX5_changeBound := by decide +kernel
theorem inX5_changeBound_X5 : ∀ w ∈ u_ws RX5 TX5 10, w ∈ wsX5_changeBound := by decide +kernel
set_option maxHeartbeats 4000000 in
set_option maxRecDepth 100000 in
theorem c_X5_changeBound (l : Launch) {G : GG} {t : Nat} (ht : t < 8) {x1 : Int} (hx1 : InR x1) {w : Wd} {r : Int} {w' : Wd} (hf : X5_changeBound t x1 w = some (r, w')) : Met l yX5_changeBound wsX5_changeBound (rmk 0) (PcG G w [.ref (G.1 0 t), iV x1]) (QiG G r w') 0 0 (GA G) := by
  refine met_of (own := RX5) (by decide) rfl (Nat.le_of_ble_eq_true rfl) rfl ?_
  intro p e s m args below meth c M hr ls hl0 hS0
  have hl0 : lv_has ls 3 [(0, .ref (G.1 0 t)), (1, iV x1)] := hl0
  unfold X5_changeBound at hf
  refine x_iload_n M hl0 dX5_changeBound_0 1 rfl ?_
  refine x_iconst M dX5_changeBound_1 ?_
  refine x_icmp_lt (tgt := 11) M hx1 ⟨by decide, by decide⟩ dX5_changeBound_2 (by decide) (fun hc => ?_) (fun hc => ?_)
  · have hf := ift hf hc
    refine x_iconst M dX5_changeBound_11 ?_
    exact x_iret M hr hf hS0 ⟨by decide, by decide⟩ dX5_changeBound_12
  · have hf := iff_ hf hc
    refine x_iload_n M hl0 dX5_changeBound_5 1 rfl ?_
    refine x_bipush M dX5_changeBound_6 rfl ?_
    refine x_icmp_le (tgt := 13) M hx1 ⟨by decide, by decide⟩ dX5_changeBound_8 (by decide) (fun hc => ?_) (fun hc => ?_)
    · have hf := iff_ hf (Int.not_lt.mpr hc)
      refine x_aload_n M hl0 dX5_changeBound_13 0 rfl ?_
      refine x_get (c0 := 0) (t0 := t) (v := iV (w 0 t 0)) M hS0 (Or.inl ⟨by decide, ht⟩) (ref := "NamedMoves$Store") inX5_changeBound_X5 (sE_0 G _ _) rfl 3 (by decide) (M.2.2.2.2.1 _ flX5_changeBound_29) rfl rfl dX5_changeBound_14 ?_
      refine x_istore_n M hl0 dX5_changeBound_17 (by decide) [(2, iV (w 0 t 0)), (0, .ref (G.1 0 t)), (1, iV x1)] rfl (fun ls hl1 => ?_)
      refine x_aload_n M hl1 dX5_changeBound_18 1 rfl ?_
      refine x_iload_n M hl1 dX5_changeBound_19 2 rfl ?_
      refine x_put (c0 := 0) (t0 := t) M hS0 (Or.inl ⟨by decide, ht⟩) (ref := "NamedMoves$Store") inX5_changeBound_X5 tyX5 tyX5_ok nmX5 (sE_0 G _ _) rfl 3 (by decide) (M.2.2.2.2.1 _ flX5_changeBound_29) rfl rfl (ty := tyX5 3) hx1 (tyX5_ok 3 (by decide)) rfl rfl (by simp) 0 (pset_0_0 G _ _ _) dX5_changeBound_20 (fun H locs hS2 => ?_)
      refine x_iload_n M hl1 dX5_changeBound_23 0 rfl ?_
      exact x_iret M hr hf hS2 (hS0.inr _ _ _) dX5_changeBound_24
    · have hf := ift hf (Int.not_le.mp hc)
      refine x_iconst M dX5_changeBound_11 ?_
      exact x_iret M hr hf hS0 ⟨by decide, by decide⟩ dX5_changeBound_12

/-! X2_keepDraft -/
theorem flX2_keepDraft_18 : Cond.fieldLink RX2 18 "NamedMoves$History" "held" "I" ∈ wsX2_keepDraft := by decide +kernel
theorem flX2_keepDraft_22 : Cond.fieldLink RX2 22 "NamedMoves$History" "first" "I" ∈ wsX2_keepDraft := by decide +kernel
theorem inX2_keepDraft_X2 : ∀ w ∈ u_ws RX2 TX2 3, w ∈ wsX2_keepDraft := by decide +kernel
set_option maxHeartbeats 4000000 in
set_option maxRecDepth 100000 in
theorem c_X2_keepDraft (l : Launch) {G : GG} {w : Wd} {r : Int} {w' : Wd} (hf : X2_keepDraft w = some (r, w')) : Met l yX2_keepDraft wsX2_keepDraft (rmk 1) (PcG G w [.ref (G.1 11 0)]) (QvG G w') 0 0 (GA G) := by
  refine met_of (own := RX2) (by decide) rfl (Nat.le_of_ble_eq_true rfl) rfl ?_
  intro p e s m args below meth c M hr ls hl0 hS0
  have hl0 : lv_has ls 1 [(0, .ref (G.1 11 0))] := hl0
  unfold X2_keepDraft at hf
  refine x_aload_n M hl0 dX2_keepDraft_0 0 rfl ?_
  refine x_get (c0 := 11) (t0 := 0) (v := iV (w 11 0 1)) M hS0 (by decide) (ref := "NamedMoves$History") inX2_keepDraft_X2 (sE_11 G _ _) rfl 2 (by decide) (M.2.2.2.2.1 _ flX2_keepDraft_18) rfl rfl dX2_keepDraft_1 ?_
  refine x_iconst M dX2_keepDraft_4 ?_
  refine x_icmp_ge (tgt := 21) M (hS0.inr _ _ _) ⟨by decide, by decide⟩ dX2_keepDraft_5 (by decide) (fun hc => ?_) (fun hc => ?_)
  · have hf := iff_ hf (Int.not_lt.mpr hc)
    refine x_aload_n M hl0 dX2_keepDraft_21 0 rfl ?_
    refine x_aload_n M hl0 dX2_keepDraft_22 0 rfl ?_
    refine x_get (c0 := 11) (t0 := 0) (v := iV (w 11 0 0)) M hS0 (by decide) (ref := "NamedMoves$History") inX2_keepDraft_X2 (sE_11 G _ _) rfl 1 (by decide) (M.2.2.2.2.1 _ flX2_keepDraft_22) rfl rfl dX2_keepDraft_23 ?_
    refine x_iconst M dX2_keepDraft_26 ?_
    obtain ⟨g1, hf⟩ := gdt hf
    refine x_iadd M dX2_keepDraft_27 ?_
    refine x_bipush M dX2_keepDraft_28 rfl ?_
    obtain ⟨r2, w3, hc4, hf⟩ := bdt hf
    refine x_callSi (As := [iV ((w 11 0 0) + 1), iV 6]) (rest := [.ref (G.1 11 0)]) M hl0 hS0 (c_J9_floorMod_7cf53 l  g1 ⟨by decide, by decide⟩ hc4) (va_cwS 2 M.2.2.2.2.1 gX2_keepDraft_J9_floorMod_7cf53 rfl rfl rfl (by decide +kernel) ⟨Nat.le_of_ble_eq_true rfl, Nat.le_of_ble_eq_true rfl⟩) rfl (Nat.le_of_ble_eq_true rfl) dX2_keepDraft_30 rfl ⟨Nat.zero_le _, Nat.zero_le _⟩ (fun H locs hi5 hS6 => ?_)
    refine x_put (c0 := 11) (t0 := 0) M hS6 (by decide) (ref := "NamedMoves$History") inX2_keepDraft_X2 tyX2 tyX2_ok nmX2 (sE_11 G _ _) rfl 1 (by decide) (M.2.2.2.2.1 _ flX2_keepDraft_22) rfl rfl (ty := tyX2 1) hi5 (tyX2_ok 1 (by decide)) rfl rfl (by simp) 0 (pset_11_0 G _ _ _) dX2_keepDraft_33 (fun H locs hS7 => ?_)
    exact x_vret M hr hf hS7 dX2_keepDraft_36
  · have hf := ift hf (Int.not_le.mp hc)
    refine x_aload_n M hl0 dX2_keepDraft_8 0 rfl ?_
    refine x_dup M dX2_keepDraft_9 rfl ?_
    refine x_get (c0 := 11) (t0 := 0) (v := iV (w 11 0 1)) M hS0 (by decide) (ref := "NamedMoves$History") inX2_keepDraft_X2 (sE_11 G _ _) rfl 2 (by decide) (M.2.2.2.2.1 _ flX2_keepDraft_18) rfl rfl dX2_keepDraft_10 ?_
    refine x_iconst M dX2_keepDraft_13 ?_
    obtain ⟨g8, hf⟩ := gdt hf
    refine x_iadd M dX2_keepDraft_14 ?_
    refine x_put (c0 := 11) (t0 := 0) M hS0 (by decide) (ref := "NamedMoves$History") inX2_keepDraft_X2 tyX2 tyX2_ok nmX2 (sE_11 G _ _) rfl 2 (by decide) (M.2.2.2.2.1 _ flX2_keepDraft_18) rfl rfl (ty := tyX2 2) g8 (tyX2_ok 2 (by decide)) rfl rfl (by simp) 1 (pset_11_1 G _ _ _) dX2_keepDraft_15 (fun H locs hS9 => ?_)
    refine x_goto (tgt := 36) M dX2_keepDraft_18 (by decide) ?_
    exact x_vret M hr hf hS9 dX2_keepDraft_36

/-! X7_recorded -/
theorem flX7_recorded_22 : Cond.fieldLink RX7 22 "NamedMoves" "history" "LNamedMoves$History;" ∈ wsX7_recorded := by decide +kernel
theorem inX7_recorded_X7 : ∀ w ∈ u_ws RX7 TX7 6, w ∈ wsX7_recorded := by decide +kernel
set_option maxHeartbeats 4000000 in
set_option maxRecDepth 100000 in
theorem c_X7_recorded (l : Launch) {G : GG} {x1 : Int} (hx1 : InR x1) {w : Wd} {r : Int} {w' : Wd} (hf : X7_recorded x1 w = some (r, w')) : Met l yX7_recorded wsX7_recorded (rmk 2) (PcG G w [.ref (G.1 10 0), iV x1]) (QiG G r w') 0 0 (GA G) := by
  refine met_of (own := RX7) (by decide) rfl (Nat.le_of_ble_eq_true rfl) rfl ?_
  intro p e s m args below meth c M hr ls hl0 hS0
  have hl0 : lv_has ls 2 [(0, .ref (G.1 10 0)), (1, iV x1)] := hl0
  unfold X7_recorded at hf
  refine x_iload_n M hl0 dX7_recorded_0 1 rfl ?_
  refine x_if_lt (tgt := 11) M hx1 dX7_recorded_1 (by decide) (fun hc => ?_) (fun hc => ?_)
  · have hf := ift hf hc
    refine x_iload_n M hl0 dX7_recorded_11 1 rfl ?_
    exact x_iret M hr hf hS0 hx1 dX7_recorded_12
  · have hf := iff_ hf hc
    refine x_aload_n M hl0 dX7_recorded_4 0 rfl ?_
    refine x_get (c0 := 10) (t0 := 0) (v := .ref (G.1 11 0)) M hS0 (by decide) (ref := "NamedMoves") inX7_recorded_X7 (sE_10 G _ _) rfl 2 (by decide) (M.2.2.2.2.1 _ flX7_recorded_22) rfl rfl dX7_recorded_5 ?_
    obtain ⟨r1, w2, hc3, hf⟩ := bdt hf
    refine x_callVv (c0 := 11) (t0 := 0) (As := []) (rest := []) M hl0 hS0 (c_X2_keepDraft l   hc3) (cwV 0 M.2.2.2.2.1 gX7_recorded_X2_keepDraft rfl rfl rfl (by decide +kernel) ⟨Nat.le_of_ble_eq_true rfl, Nat.le_of_ble_eq_true rfl⟩) (by decide) (sE_11 G _ _) rfl rfl (Nat.le_of_ble_eq_true rfl) dX7_recorded_8 rfl ⟨Nat.zero_le _, Nat.zero_le _⟩ (fun H locs hS5 => ?_)
    refine x_iload_n M hl0 dX7_recorded_11 1 rfl ?_
    exact x_iret M hr hf hS5 hx1 dX7_recorded_12

/-! X7_setHeavy -/
theorem flX7_setHeavy_12 : Cond.fieldLink RX7 12 "NamedMoves" "store" "LNamedMoves$Store;" ∈ wsX7_setHeavy := by decide +kernel
theorem flX7_setHeavy_22 : Cond.fieldLink RX7 22 "NamedMoves" "history" "LNamedMoves$History;" ∈ wsX7_setHeavy := by decide +kernel
theorem inX7_setHeavy_X7 : ∀ w ∈ u_ws RX7 TX7 6, w ∈ wsX7_setHeavy := by decide +kernel
set_option maxHeartbeats 4000000 in
set_option maxRecDepth 100000 in
theorem c_X7_setHeavy (l : Launch) {G : GG} {x1 : Int} (hx1 : InR x1) {w : Wd} {r : Int} {w' : Wd} (hf : X7_setHeavy x1 w = some (r, w')) : Met l yX7_setHeavy wsX7_setHeavy (rmk 4) (PcG G w [.ref (G.1 10 0), iV x1]) (QiG G r w') 0 0 (GA G) := by
  refine met_of (own := RX7) (by decide) rfl (Nat.le_of_ble_eq_true rfl) rfl ?_
  intro p e s m args below meth c M hr ls hl0 hS0
  have hl0 : lv_has ls 2 [(0, .ref (G.1 10 0)), (1, iV x1)] := hl0
  unfold X7_setHeavy at hf
  refine x_aload_n M hl0 dX7_setHeavy_0 0 rfl ?_
  refine x_get (c0 := 10) (t0 := 0) (v := .ref (G.1 11 0)) M hS0 (by decide) (ref := "NamedMoves") inX7_setHeavy_X7 (sE_10 G _ _) rfl 2 (by decide) (M.2.2.2.2.1 _ flX7_setHeavy_22) rfl rfl dX7_setHeavy_1 ?_
  refine x_aload_n M hl0 dX7_setHeavy_4 0 rfl ?_
  refine x_get (c0 := 10) (t0 := 0) (v := .ref (G.1 0 0)) M hS0 (by decide) (ref := "NamedMoves") inX7_setHeavy_X7 (sE_10 G _ _) rfl 0 (by decide) (M.2.2.2.2.1 _ flX7_setHeavy_12) rfl rfl dX7_setHeavy_5 ?_
  obtain ⟨r1, w2, hc3, hf⟩ := bdt hf
  refine x_callVv (c0 := 11) (t0 := 0) (As := [.ref (G.1 0 0)]) (rest := []) M hl0 hS0 (c_X2_draft l (by decide)  hc3) (cwV 1 M.2.2.2.2.1 gX7_setHeavy_X2_draft rfl rfl rfl (by decide +kernel) ⟨Nat.le_of_ble_eq_true rfl, Nat.le_of_ble_eq_true rfl⟩) (by decide) (sE_11 G _ _) rfl rfl (Nat.le_of_ble_eq_true rfl) dX7_setHeavy_8 rfl ⟨Nat.zero_le _, Nat.zero_le _⟩ (fun H locs hS5 => ?_)
  refine x_aload_n M hl0 dX7_setHeavy_11 0 rfl ?_
  refine x_aload_n M hl0 dX7_setHeavy_12 0 rfl ?_
  refine x_get (c0 := 10) (t0 := 0) (v := .ref (G.1 0 0)) M hS5 (by decide) (ref := "NamedMoves") inX7_setHeavy_X7 (sE_10 G _ _) rfl 0 (by decide) (M.2.2.2.2.1 _ flX7_setHeavy_12) rfl rfl dX7_setHeavy_13 ?_
  refine x_iload_n M hl0 dX7_setHeavy_16 1 rfl ?_
  obtain ⟨r6, w7, hc8, hf⟩ := bdt hf
  refine x_callVi (c0 := 0) (t0 := 0) (As := [iV x1]) (rest := [.ref (G.1 10 0)]) M hl0 hS5 (c_X5_changeBound l (by decide) hx1 hc8) (cwV 1 M.2.2.2.2.1 gX7_setHeavy_X5_changeBound rfl rfl rfl (by decide +kernel) ⟨Nat.le_of_ble_eq_true rfl, Nat.le_of_ble_eq_true rfl⟩) (by decide) (sE_0 G _ _) rfl rfl (Nat.le_of_ble_eq_true rfl) dX7_setHeavy_17 rfl ⟨Nat.zero_le _, Nat.zero_le _⟩ (fun H locs hi9 hS10 => ?_)
  obtain ⟨r11, w12, hc13, hf⟩ := bdt hf
  refine x_callVi (c0 := 10) (t0 := 0) (As := [iV r6]) (rest := []) M hl0 hS10 (c_X7_recorded l  hi9 hc13) (cwV 1 M.2.2.2.2.1 gX7_setHeavy_X7_recorded rfl rfl rfl (by decide +kernel) ⟨Nat.le_of_ble_eq_true rfl, Nat.le_of_ble_eq_true rfl⟩) (by decide) (sE_10 G _ _) rfl rfl (Nat.le_of_ble_eq_true rfl) dX7_setHeavy_20 rfl ⟨Nat.zero_le _, Nat.zero_le _⟩ (fun H locs hi14 hS15 => ?_)
  exact x_iret M hr hf hS15 hi14 dX7_setHeavy_23

/-! X7_isHook -/
set_option maxHeartbeats 4000000 in
set_option maxRecDepth 100000 in
theorem c_X7_isHook (l : Launch) {G : GG} {x0 : Int} (hx0 : InR x0) {w : Wd} {r : Int} {w' : Wd} (hf : X7_isHook x0 w = some (r, w')) : Met l yX7_isHook wsX7_isHook (rmk 0) (PcG G w [iV x0]) (QiG G r w') 0 0 (GA G) := by
  refine met_of (own := RX7) (by decide) rfl (Nat.le_of_ble_eq_true rfl) rfl ?_
  intro p e s m args below meth c M hr ls hl0 hS0
  have hl0 : lv_has ls 1 [(0, iV x0)] := hl0
  unfold X7_isHook at hf
  refine x_iload_n M hl0 dX7_isHook_0 0 rfl ?_
  refine x_if_lt (tgt := 14) M hx0 dX7_isHook_1 (by decide) (fun hc => ?_) (fun hc => ?_)
  · have hf := ift hf hc
    refine x_iconst M dX7_isHook_14 ?_
    exact x_zret M hr hf hS0 (Or.inl rfl) dX7_isHook_15
  · have hf := iff_ hf hc
    refine x_iload_n M hl0 dX7_isHook_4 0 rfl ?_
    refine x_bipush M dX7_isHook_5 rfl ?_
    refine x_icmp_ge (tgt := 14) M hx0 ⟨by decide, by decide⟩ dX7_isHook_7 (by decide) (fun hc => ?_) (fun hc => ?_)
    · have hf := iff_ hf (Int.not_lt.mpr hc)
      refine x_iconst M dX7_isHook_14 ?_
      exact x_zret M hr hf hS0 (Or.inl rfl) dX7_isHook_15
    · have hf := ift hf (Int.not_le.mp hc)
      refine x_iconst M dX7_isHook_10 ?_
      refine x_goto (tgt := 15) M dX7_isHook_11 (by decide) ?_
      exact x_zret M hr hf hS0 (Or.inr rfl) dX7_isHook_15

/-! X0_isAt -/
theorem flX0_isAt_15 : Cond.fieldLink RX0 15 "NamedMoves$Copies" "sizes" "[I" ∈ wsX0_isAt := by decide +kernel
theorem inX0_isAt_X0 : ∀ w ∈ u_ws RX0 TX0 5, w ∈ wsX0_isAt := by decide +kernel
set_option maxHeartbeats 4000000 in
set_option maxRecDepth 100000 in
theorem c_X0_isAt (l : Launch) {G : GG} {t : Nat} (ht : t < 8) {x1 : Int} (hx1 : InR x1) {w : Wd} {r : Int} {w' : Wd} (hf : X0_isAt t x1 w = some (r, w')) : Met l yX0_isAt wsX0_isAt (rmk 0) (PcG G w [.ref (G.1 2 t), iV x1]) (QiG G r w') 0 0 (GA G) := by
  refine met_of (own := RX0) (by decide) rfl (Nat.le_of_ble_eq_true rfl) rfl ?_
  intro p e s m args below meth c M hr ls hl0 hS0
  have hl0 : lv_has ls 2 [(0, .ref (G.1 2 t)), (1, iV x1)] := hl0
  unfold X0_isAt at hf
  refine x_iload_n M hl0 dX0_isAt_0 1 rfl ?_
  refine x_if_lt (tgt := 24) M hx1 dX0_isAt_1 (by decide) (fun hc => ?_) (fun hc => ?_)
  · have hf := ift hf hc
    refine x_iconst M dX0_isAt_24 ?_
    exact x_zret M hr hf hS0 (Or.inl rfl) dX0_isAt_25
  · have hf := iff_ hf hc
    refine x_iload_n M hl0 dX0_isAt_4 1 rfl ?_
    refine x_sipush M dX0_isAt_5 rfl ?_
    refine x_icmp_ge (tgt := 24) M hx1 ⟨by decide, by decide⟩ dX0_isAt_8 (by decide) (fun hc => ?_) (fun hc => ?_)
    · have hf := iff_ hf (Int.not_lt.mpr hc)
      refine x_iconst M dX0_isAt_24 ?_
      exact x_zret M hr hf hS0 (Or.inl rfl) dX0_isAt_25
    · have hf := ift hf (Int.not_le.mp hc)
      refine x_aload_n M hl0 dX0_isAt_11 0 rfl ?_
      refine x_get (c0 := 2) (t0 := t) (v := .ref (G.1 4 t)) M hS0 (Or.inl ⟨by decide, ht⟩) (ref := "NamedMoves$Copies") inX0_isAt_X0 (sE_2 G _ _) rfl 1 (by decide) (M.2.2.2.2.1 _ flX0_isAt_15) rfl rfl dX0_isAt_12 ?_
      refine x_iload_n M hl0 dX0_isAt_15 1 rfl ?_
      obtain ⟨g1, hf⟩ := gdt hf
      refine x_iald (c0 := 4) (t0 := t) M hS0 (Or.inl ⟨by decide, ht⟩) (hs_4 G _) rfl g1 (by decide) dX0_isAt_16 ?_
      refine x_if_le (tgt := 24) M (hS0.inr _ _ _) dX0_isAt_17 (by decide) (fun hc => ?_) (fun hc => ?_)
      · have hf := iff_ hf (Int.not_lt.mpr hc)
        refine x_iconst M dX0_isAt_24 ?_
        exact x_zret M hr hf hS0 (Or.inl rfl) dX0_isAt_25
      · have hf := ift hf (Int.not_le.mp hc)
        refine x_iconst M dX0_isAt_20 ?_
        refine x_goto (tgt := 25) M dX0_isAt_21 (by decide) ?_
        exact x_zret M hr hf hS0 (Or.inr rfl) dX0_isAt_25

/-! X0_sizeAt -/
theorem flX0_sizeAt_15 : Cond.fieldLink RX0 15 "NamedMoves$Copies" "sizes" "[I" ∈ wsX0_sizeAt := by decide +kernel
theorem inX0_sizeAt_X0 : ∀ w ∈ u_ws RX0 TX0 5, w ∈ wsX0_sizeAt := by decide +kernel
set_option maxHeartbeats 4000000 in
set_option maxRecDepth 100000 in
theorem c_X0_sizeAt (l : Launch) {G : GG} {t : Nat} (ht : t < 8) {x1 : Int} (hx1 : InR x1) {w : Wd} {r : Int} {w' : Wd} (hf : X0_sizeAt t x1 w = some (r, w')) : Met l yX0_sizeAt wsX0_sizeAt (rmk 1) (PcG G w [.ref (G.1 2 t), iV x1]) (QiG G r w') 0 0 (GA G) := by
  refine met_of (own := RX0) (by decide) rfl (Nat.le_of_ble_eq_true rfl) rfl ?_
  intro p e s m args below meth c M hr ls hl0 hS0
  have hl0 : lv_has ls 2 [(0, .ref (G.1 2 t)), (1, iV x1)] := hl0
  unfold X0_sizeAt at hf
  refine x_aload_n M hl0 dX0_sizeAt_0 0 rfl ?_
  refine x_iload_n M hl0 dX0_sizeAt_1 1 rfl ?_
  obtain ⟨r1, w2, hc3, hf⟩ := bdt hf
  refine x_callVi (c0 := 2) (t0 := t) (As := [iV x1]) (rest := []) M hl0 hS0 (c_X0_isAt l ht hx1 hc3) (cwV 1 M.2.2.2.2.1 gX0_sizeAt_X0_isAt rfl rfl rfl (by decide +kernel) ⟨Nat.le_of_ble_eq_true rfl, Nat.le_of_ble_eq_true rfl⟩) (Or.inl ⟨by decide, ht⟩) (sE_2 G _ _) rfl rfl (Nat.le_of_ble_eq_true rfl) dX0_sizeAt_2 rfl ⟨Nat.zero_le _, Nat.zero_le _⟩ (fun H locs hi4 hS5 => ?_)
  refine x_if_eq (tgt := 17) M hi4 dX0_sizeAt_5 (by decide) (fun hc => ?_) (fun hc => ?_)
  · have hf := ift hf hc
    refine x_iconst M dX0_sizeAt_17 ?_
    exact x_iret M hr hf hS5 ⟨by decide, by decide⟩ dX0_sizeAt_18
  · have hf := iff_ hf hc
    refine x_aload_n M hl0 dX0_sizeAt_8 0 rfl ?_
    refine x_get (c0 := 2) (t0 := t) (v := .ref (G.1 4 t)) M hS5 (Or.inl ⟨by decide, ht⟩) (ref := "NamedMoves$Copies") inX0_sizeAt_X0 (sE_2 G _ _) rfl 1 (by decide) (M.2.2.2.2.1 _ flX0_sizeAt_15) rfl rfl dX0_sizeAt_9 ?_
    refine x_iload_n M hl0 dX0_sizeAt_12 1 rfl ?_
    obtain ⟨g6, hf⟩ := gdt hf
    refine x_iald (c0 := 4) (t0 := t) M hS5 (Or.inl ⟨by decide, ht⟩) (hs_4 G _) rfl g6 (by decide) dX0_sizeAt_13 ?_
    refine x_goto (tgt := 18) M dX0_sizeAt_14 (by decide) ?_
    exact x_iret M hr hf hS5 (hS5.inr _ _ _) dX0_sizeAt_18

/-! X0_floorAddressFor -/
set_option maxHeartbeats 4000000 in
set_option maxRecDepth 100000 in
theorem X0_floorAddressFor_b4_ok (M : MC p s m args meth c cX0_floorAddressFor 5 RX0 wsX0_floorAddressFor G) (hr : meth.sig.returnType = (some .int)) {t : Nat} (ht : t < 8) : ∀ n : Nat, ∀ x1 : Int, ∀ x2 : Int, ∀ x3 : Int, ∀ w : Wd, InR x1 → InR x2 → InR x3 → ∀ (H : Heap) (locs : List Loc), ST G s w H locs → ∀ ls : Array Slot, lv_has ls 5 [(0, .ref (G.1 2 t)), (1, iV x1), (2, iV x2), (3, iV x3)] → ∀ (r : Int) (w' : Wd), X0_floorAddressFor_b4 t n x1 x2 x3 w = some (r, w') → W p l e (rmk 2) s m args below meth c H locs 0 0 (MQ below (QiG G r w') args s 0 0 (GA G)) (F0 m 4 ls []) := by
  intro n
  induction n with
  | zero =>
    intro x1 x2 x3 w hx1 hx2 hx3 H locs hS0 ls hl0 r w' hf
    cases hf
  | succ n ih =>
    intro x1 x2 x3 w hx1 hx2 hx3 H locs hS0 ls hl0 r w' hf
    rw [X0_floorAddressFor_b4_s] at hf
    refine x_iload_n M hl0 dX0_floorAddressFor_4 3 rfl ?_
    refine x_bipush M dX0_floorAddressFor_5 rfl ?_
    refine x_icmp_ge (tgt := 44) M hx3 ⟨by decide, by decide⟩ dX0_floorAddressFor_7 (by decide) (fun hc => ?_) (fun hc => ?_)
    · have hf := iff_ hf (Int.not_lt.mpr hc)
      refine x_iload_n M hl0 dX0_floorAddressFor_44 2 rfl ?_
      refine x_iload_n M hl0 dX0_floorAddressFor_45 1 rfl ?_
      obtain ⟨g3, hf⟩ := gdt hf
      refine x_iadd M dX0_floorAddressFor_46 ?_
      refine x_bipush M dX0_floorAddressFor_47 rfl ?_
      refine x_icmp_gt (tgt := 60) M g3 ⟨by decide, by decide⟩ dX0_floorAddressFor_49 (by decide) (fun hc => ?_) (fun hc => ?_)
      · have hf := ift hf hc
        refine x_sipush M dX0_floorAddressFor_60 rfl ?_
        exact x_iret M hr hf hS0 ⟨by decide, by decide⟩ dX0_floorAddressFor_63
      · have hf := iff_ hf hc
        refine x_sipush M dX0_floorAddressFor_52 rfl ?_
        refine x_iload_n M hl0 dX0_floorAddressFor_55 2 rfl ?_
        obtain ⟨g4, hf⟩ := gdt hf
        refine x_iadd M dX0_floorAddressFor_56 ?_
        refine x_goto (tgt := 63) M dX0_floorAddressFor_57 (by decide) ?_
        exact x_iret M hr hf hS0 g4 dX0_floorAddressFor_63
    · have hf := ift hf (Int.not_le.mp hc)
      refine x_iload_n M hl0 dX0_floorAddressFor_10 3 rfl ?_
      refine x_iload_n M hl0 dX0_floorAddressFor_11 2 rfl ?_
      obtain ⟨g5, hf⟩ := gdt hf
      refine x_isub M dX0_floorAddressFor_12 ?_
      refine x_iload_n M hl0 dX0_floorAddressFor_13 1 rfl ?_
      refine x_icmp_ge (tgt := 44) M g5 hx1 dX0_floorAddressFor_14 (by decide) (fun hc => ?_) (fun hc => ?_)
      · have hf := iff_ hf (Int.not_lt.mpr hc)
        refine x_iload_n M hl0 dX0_floorAddressFor_44 2 rfl ?_
        refine x_iload_n M hl0 dX0_floorAddressFor_45 1 rfl ?_
        obtain ⟨g6, hf⟩ := gdt hf
        refine x_iadd M dX0_floorAddressFor_46 ?_
        refine x_bipush M dX0_floorAddressFor_47 rfl ?_
        refine x_icmp_gt (tgt := 60) M g6 ⟨by decide, by decide⟩ dX0_floorAddressFor_49 (by decide) (fun hc => ?_) (fun hc => ?_)
        · have hf := ift hf hc
          refine x_sipush M dX0_floorAddressFor_60 rfl ?_
          exact x_iret M hr hf hS0 ⟨by decide, by decide⟩ dX0_floorAddressFor_63
        · have hf := iff_ hf hc
          refine x_sipush M dX0_floorAddressFor_52 rfl ?_
          refine x_iload_n M hl0 dX0_floorAddressFor_55 2 rfl ?_
          obtain ⟨g7, hf⟩ := gdt hf
          refine x_iadd M dX0_floorAddressFor_56 ?_
          refine x_goto (tgt := 63) M dX0_floorAddressFor_57 (by decide) ?_
          exact x_iret M hr hf hS0 g7 dX0_floorAddressFor_63
      · have hf := ift hf (Int.not_le.mp hc)
        refine x_aload_n M hl0 dX0_floorAddressFor_17 0 rfl ?_
        refine x_sipush M dX0_floorAddressFor_18 rfl ?_
        refine x_iload_n M hl0 dX0_floorAddressFor_21 3 rfl ?_
        obtain ⟨g8, hf⟩ := gdt hf
        refine x_iadd M dX0_floorAddressFor_22 ?_
        obtain ⟨r9, w10, hc11, hf⟩ := bdt hf
        refine x_callVi (c0 := 2) (t0 := t) (As := [iV (200 + x3)]) (rest := []) M hl0 hS0 (c_X0_sizeAt l ht g8 hc11) (cwV 1 M.2.2.2.2.1 gX0_floorAddressFor_X0_sizeAt rfl rfl rfl (by decide +kernel) ⟨Nat.le_of_ble_eq_true rfl, Nat.le_of_ble_eq_true rfl⟩) (Or.inl ⟨by decide, ht⟩) (sE_2 G _ _) rfl rfl (Nat.le_of_ble_eq_true rfl) dX0_floorAddressFor_23 rfl ⟨Nat.zero_le _, Nat.zero_le _⟩ (fun H locs hi12 hS13 => ?_)
        refine x_istore M hl0 dX0_floorAddressFor_26 (by decide) [(4, iV r9), (0, .ref (G.1 2 t)), (1, iV x1), (2, iV x2), (3, iV x3)] rfl (fun ls hl14 => ?_)
        refine x_iload M hl14 dX0_floorAddressFor_28 0 rfl ?_
        refine x_if_le (tgt := 38) M hi12 dX0_floorAddressFor_30 (by decide) (fun hc => ?_) (fun hc => ?_)
        · have hf := iff_ hf (Int.not_lt.mpr hc)
          obtain ⟨g15, hf⟩ := gdt hf
          refine x_iinc M hl14 dX0_floorAddressFor_38 4 rfl (by decide) [(3, iV (x3 + 1)), (4, iV r9), (0, .ref (G.1 2 t)), (1, iV x1), (2, iV x2)] rfl (fun ls hl16 => ?_)
          refine x_goto (tgt := 4) M dX0_floorAddressFor_41 (by decide) ?_
          exact ih x1 x2 (x3 + 1) w10 hx1 hx2 g15 _ _ hS13 _ (lv_sub hl16 [2, 3, 4, 0] rfl) _ _ hf
        · have hf := ift hf (Int.not_le.mp hc)
          refine x_iload_n M hl14 dX0_floorAddressFor_33 4 rfl ?_
          refine x_iload M hl14 dX0_floorAddressFor_34 0 rfl ?_
          obtain ⟨g17, hf⟩ := gdt hf
          refine x_iadd M dX0_floorAddressFor_36 ?_
          refine x_istore_n M hl14 dX0_floorAddressFor_37 (by decide) [(2, iV (x3 + r9)), (4, iV r9), (0, .ref (G.1 2 t)), (1, iV x1), (3, iV x3)] rfl (fun ls hl18 => ?_)
          obtain ⟨g19, hf⟩ := gdt hf
          refine x_iinc M hl18 dX0_floorAddressFor_38 4 rfl (by decide) [(3, iV (x3 + 1)), (2, iV (x3 + r9)), (4, iV r9), (0, .ref (G.1 2 t)), (1, iV x1)] rfl (fun ls hl20 => ?_)
          refine x_goto (tgt := 4) M dX0_floorAddressFor_41 (by decide) ?_
          exact ih x1 (x3 + r9) (x3 + 1) w10 hx1 g17 g19 _ _ hS13 _ (lv_sub hl20 [3, 4, 1, 0] rfl) _ _ hf

set_option maxHeartbeats 4000000 in
set_option maxRecDepth 100000 in
theorem c_X0_floorAddressFor (l : Launch) {G : GG} {t : Nat} (ht : t < 8) {x1 : Int} (hx1 : InR x1) {w : Wd} {r : Int} {w' : Wd} (hf : X0_floorAddressFor t x1 w = some (r, w')) : Met l yX0_floorAddressFor wsX0_floorAddressFor (rmk 2) (PcG G w [.ref (G.1 2 t), iV x1]) (QiG G r w') 0 0 (GA G) := by
  refine met_of (own := RX0) (by decide) rfl (Nat.le_of_ble_eq_true rfl) rfl ?_
  intro p e s m args below meth c M hr ls hl0 hS0
  have hl0 : lv_has ls 5 [(0, .ref (G.1 2 t)), (1, iV x1)] := hl0
  unfold X0_floorAddressFor at hf
  refine x_iconst M dX0_floorAddressFor_0 ?_
  refine x_istore_n M hl0 dX0_floorAddressFor_1 (by decide) [(2, iV 0), (0, .ref (G.1 2 t)), (1, iV x1)] rfl (fun ls hl1 => ?_)
  refine x_iconst M dX0_floorAddressFor_2 ?_
  refine x_istore_n M hl1 dX0_floorAddressFor_3 (by decide) [(3, iV 0), (2, iV 0), (0, .ref (G.1 2 t)), (1, iV x1)] rfl (fun ls hl2 => ?_)
  exact X0_floorAddressFor_b4_ok M hr ht LF x1 0 0 w hx1 ⟨by decide, by decide⟩ ⟨by decide, by decide⟩ _ _ hS0 _ (lv_sub hl2 [2, 3, 1, 0] rfl) _ _ hf

/-! X5_freeInHalf -/
theorem flX5_freeInHalf_62 : Cond.fieldLink RX5 62 "NamedMoves$Store" "taken" "I" ∈ wsX5_freeInHalf := by decide +kernel
theorem inX5_freeInHalf_X5 : ∀ w ∈ u_ws RX5 TX5 10, w ∈ wsX5_freeInHalf := by decide +kernel
set_option maxHeartbeats 4000000 in
set_option maxRecDepth 100000 in
theorem c_X5_freeInHalf (l : Launch) {G : GG} {t : Nat} (ht : t < 8) {w : Wd} {r : Int} {w' : Wd} (hf : X5_freeInHalf t w = some (r, w')) : Met l yX5_freeInHalf wsX5_freeInHalf (rmk 0) (PcG G w [.ref (G.1 0 t)]) (QiG G r w') 0 0 (GA G) := by
  refine met_of (own := RX5) (by decide) rfl (Nat.le_of_ble_eq_true rfl) rfl ?_
  intro p e s m args below meth c M hr ls hl0 hS0
  have hl0 : lv_has ls 1 [(0, .ref (G.1 0 t))] := hl0
  unfold X5_freeInHalf at hf
  refine x_bipush M dX5_freeInHalf_0 rfl ?_
  refine x_aload_n M hl0 dX5_freeInHalf_2 0 rfl ?_
  refine x_get (c0 := 0) (t0 := t) (v := iV (w 0 t 4)) M hS0 (Or.inl ⟨by decide, ht⟩) (ref := "NamedMoves$Store") inX5_freeInHalf_X5 (sE_0 G _ _) rfl 7 (by decide) (M.2.2.2.2.1 _ flX5_freeInHalf_62) rfl rfl dX5_freeInHalf_3 ?_
  obtain ⟨g1, hf⟩ := gdt hf
  refine x_isub M dX5_freeInHalf_6 ?_
  exact x_iret M hr hf hS0 g1 dX5_freeInHalf_7

/-! X5_addressOfHalf -/
set_option maxHeartbeats 4000000 in
set_option maxRecDepth 100000 in
theorem c_X5_addressOfHalf (l : Launch) {G : GG} {t : Nat} (ht : t < 8) {x1 : Int} (hx1 : InR x1) {w : Wd} {r : Int} {w' : Wd} (hf : X5_addressOfHalf t x1 w = some (r, w')) : Met l yX5_addressOfHalf wsX5_addressOfHalf (rmk 0) (PcG G w [.ref (G.1 0 t), iV x1]) (QiG G r w') 0 0 (GA G) := by
  refine met_of (own := RX5) (by decide) rfl (Nat.le_of_ble_eq_true rfl) rfl ?_
  intro p e s m args below meth c M hr ls hl0 hS0
  have hl0 : lv_has ls 2 [(0, .ref (G.1 0 t)), (1, iV x1)] := hl0
  unfold X5_addressOfHalf at hf
  refine x_iload_n M hl0 dX5_addressOfHalf_0 1 rfl ?_
  refine x_bipush M dX5_addressOfHalf_1 rfl ?_
  obtain ⟨g1, hf⟩ := gdt hf
  refine x_imul M dX5_addressOfHalf_3 ?_
  exact x_iret M hr hf hS0 g1 dX5_addressOfHalf_4

/-! X0_noteAt -/
theorem flX0_noteAt_18 : Cond.fieldLink RX0 18 "NamedMoves$Copies" "notes" "[I" ∈ wsX0_noteAt := by decide +kernel
theorem inX0_noteAt_X0 : ∀ w ∈ u_ws RX0 TX0 5, w ∈ wsX0_noteAt := by decide +kernel
set_option maxHeartbeats 4000000 in
set_option maxRecDepth 100000 in
theorem c_X0_noteAt (l : Launch) {G : GG} {t : Nat} (ht : t < 8) {x1 : Int} (hx1 : InR x1) {w : Wd} {r : Int} {w' : Wd} (hf : X0_noteAt t x1 w = some (r, w')) : Met l yX0_noteAt wsX0_noteAt (rmk 1) (PcG G w [.ref (G.1 2 t), iV x1]) (QiG G r w') 0 0 (GA G) := by
  refine met_of (own := RX0) (by decide) rfl (Nat.le_of_ble_eq_true rfl) rfl ?_
  intro p e s m args below meth c M hr ls hl0 hS0
  have hl0 : lv_has ls 2 [(0, .ref (G.1 2 t)), (1, iV x1)] := hl0
  unfold X0_noteAt at hf
  refine x_aload_n M hl0 dX0_noteAt_0 0 rfl ?_
  refine x_iload_n M hl0 dX0_noteAt_1 1 rfl ?_
  obtain ⟨r1, w2, hc3, hf⟩ := bdt hf
  refine x_callVi (c0 := 2) (t0 := t) (As := [iV x1]) (rest := []) M hl0 hS0 (c_X0_isAt l ht hx1 hc3) (cwV 1 M.2.2.2.2.1 gX0_noteAt_X0_isAt rfl rfl rfl (by decide +kernel) ⟨Nat.le_of_ble_eq_true rfl, Nat.le_of_ble_eq_true rfl⟩) (Or.inl ⟨by decide, ht⟩) (sE_2 G _ _) rfl rfl (Nat.le_of_ble_eq_true rfl) dX0_noteAt_2 rfl ⟨Nat.zero_le _, Nat.zero_le _⟩ (fun H locs hi4 hS5 => ?_)
  refine x_if_eq (tgt := 17) M hi4 dX0_noteAt_5 (by decide) (fun hc => ?_) (fun hc => ?_)
  · have hf := ift hf hc
    refine x_sipush M dX0_noteAt_17 rfl ?_
    exact x_iret M hr hf hS5 ⟨by decide, by decide⟩ dX0_noteAt_20
  · have hf := iff_ hf hc
    refine x_aload_n M hl0 dX0_noteAt_8 0 rfl ?_
    refine x_get (c0 := 2) (t0 := t) (v := .ref (G.1 5 t)) M hS5 (Or.inl ⟨by decide, ht⟩) (ref := "NamedMoves$Copies") inX0_noteAt_X0 (sE_2 G _ _) rfl 2 (by decide) (M.2.2.2.2.1 _ flX0_noteAt_18) rfl rfl dX0_noteAt_9 ?_
    refine x_iload_n M hl0 dX0_noteAt_12 1 rfl ?_
    obtain ⟨g6, hf⟩ := gdt hf
    refine x_iald (c0 := 5) (t0 := t) M hS5 (Or.inl ⟨by decide, ht⟩) (hs_5 G _) rfl g6 (by decide) dX0_noteAt_13 ?_
    refine x_goto (tgt := 20) M dX0_noteAt_14 (by decide) ?_
    exact x_iret M hr hf hS5 (hS5.inr _ _ _) dX0_noteAt_20

/-! X5_roomKept -/
theorem flX5_roomKept_18 : Cond.fieldLink RX5 18 "NamedMoves$Store" "copies" "LNamedMoves$Copies;" ∈ wsX5_roomKept := by decide +kernel
theorem flX5_roomKept_55 : Cond.fieldLink RX5 55 "NamedMoves$Store" "moving" "Z" ∈ wsX5_roomKept := by decide +kernel
theorem flX5_roomKept_59 : Cond.fieldLink RX5 59 "NamedMoves$Store" "half" "I" ∈ wsX5_roomKept := by decide +kernel
theorem inX5_roomKept_X5 : ∀ w ∈ u_ws RX5 TX5 10, w ∈ wsX5_roomKept := by decide +kernel
set_option maxHeartbeats 4000000 in
set_option maxRecDepth 100000 in
theorem X5_roomKept_b15_ok (M : MC p s m args meth c cX5_roomKept 4 RX5 wsX5_roomKept G) (hr : meth.sig.returnType = (some .int)) {t : Nat} (ht : t < 8) : ∀ n : Nat, ∀ x1 : Int, ∀ x2 : Int, ∀ x3 : Int, ∀ w : Wd, InR x1 → InR x2 → InR x3 → ∀ (H : Heap) (locs : List Loc), ST G s w H locs → ∀ ls : Array Slot, lv_has ls 4 [(0, .ref (G.1 0 t)), (1, iV x1), (2, iV x2), (3, iV x3)] → ∀ (r : Int) (w' : Wd), X5_roomKept_b15 t n x1 x2 x3 w = some (r, w') → W p l e (rmk 2) s m args below meth c H locs 0 0 (MQ below (QiG G r w') args s 0 0 (GA G)) (F0 m 15 ls []) := by
  intro n
  induction n with
  | zero =>
    intro x1 x2 x3 w hx1 hx2 hx3 H locs hS0 ls hl0 r w' hf
    cases hf
  | succ n ih =>
    intro x1 x2 x3 w hx1 hx2 hx3 H locs hS0 ls hl0 r w' hf
    rw [X5_roomKept_b15_s] at hf
    refine x_aload_n M hl0 dX5_roomKept_15 0 rfl ?_
    refine x_get (c0 := 0) (t0 := t) (v := iV (w 0 t 2)) M hS0 (Or.inl ⟨by decide, ht⟩) (ref := "NamedMoves$Store") inX5_roomKept_X5 (sE_0 G _ _) rfl 5 (by decide) (M.2.2.2.2.1 _ flX5_roomKept_55) rfl rfl dX5_roomKept_16 ?_
    refine x_if_eq (tgt := 63) M (hS0.inr _ _ _) dX5_roomKept_19 (by decide) (fun hc => ?_) (fun hc => ?_)
    · have hf := ift hf hc
      refine x_iload_n M hl0 dX5_roomKept_63 1 rfl ?_
      exact x_iret M hr hf hS0 hx1 dX5_roomKept_64
    · have hf := iff_ hf hc
      refine x_iload_n M hl0 dX5_roomKept_22 3 rfl ?_
      refine x_bipush M dX5_roomKept_23 rfl ?_
      refine x_icmp_ge (tgt := 63) M hx3 ⟨by decide, by decide⟩ dX5_roomKept_25 (by decide) (fun hc => ?_) (fun hc => ?_)
      · have hf := iff_ hf (Int.not_lt.mpr hc)
        refine x_iload_n M hl0 dX5_roomKept_63 1 rfl ?_
        exact x_iret M hr hf hS0 hx1 dX5_roomKept_64
      · have hf := ift hf (Int.not_le.mp hc)
        refine x_aload_n M hl0 dX5_roomKept_28 0 rfl ?_
        refine x_get (c0 := 0) (t0 := t) (v := .ref (G.1 2 t)) M hS0 (Or.inl ⟨by decide, ht⟩) (ref := "NamedMoves$Store") inX5_roomKept_X5 (sE_0 G _ _) rfl 1 (by decide) (M.2.2.2.2.1 _ flX5_roomKept_18) rfl rfl dX5_roomKept_29 ?_
        refine x_iload_n M hl0 dX5_roomKept_32 2 rfl ?_
        refine x_iload_n M hl0 dX5_roomKept_33 3 rfl ?_
        obtain ⟨g10, hf⟩ := gdt hf
        refine x_iadd M dX5_roomKept_34 ?_
        obtain ⟨r11, w12, hc13, hf⟩ := bdt hf
        refine x_callVi (c0 := 2) (t0 := t) (As := [iV (x2 + x3)]) (rest := []) M hl0 hS0 (c_X0_noteAt l ht g10 hc13) (cwV 1 M.2.2.2.2.1 gX5_roomKept_X0_noteAt rfl rfl rfl (by decide +kernel) ⟨Nat.le_of_ble_eq_true rfl, Nat.le_of_ble_eq_true rfl⟩) (Or.inl ⟨by decide, ht⟩) (sE_2 G _ _) rfl rfl (Nat.le_of_ble_eq_true rfl) dX5_roomKept_35 rfl ⟨Nat.zero_le _, Nat.zero_le _⟩ (fun H locs hi14 hS15 => ?_)
        refine x_sipush M dX5_roomKept_38 rfl ?_
        refine x_icmp_ne (tgt := 57) M hi14 ⟨by decide, by decide⟩ dX5_roomKept_41 (by decide) (fun hc => ?_) (fun hc => ?_)
        · have hf := iff_ hf hc
          obtain ⟨g16, hf⟩ := gdt hf
          refine x_iinc M hl0 dX5_roomKept_57 3 rfl (by decide) [(3, iV (x3 + 1)), (0, .ref (G.1 0 t)), (1, iV x1), (2, iV x2)] rfl (fun ls hl17 => ?_)
          refine x_goto (tgt := 15) M dX5_roomKept_60 (by decide) ?_
          exact ih x1 x2 (x3 + 1) w12 hx1 hx2 g16 _ _ hS15 _ (lv_sub hl17 [1, 2, 3, 0] rfl) _ _ hf
        · have hf := ift hf (Decidable.of_not_not hc)
          refine x_iload_n M hl0 dX5_roomKept_44 1 rfl ?_
          refine x_aload_n M hl0 dX5_roomKept_45 0 rfl ?_
          refine x_get (c0 := 0) (t0 := t) (v := .ref (G.1 2 t)) M hS15 (Or.inl ⟨by decide, ht⟩) (ref := "NamedMoves$Store") inX5_roomKept_X5 (sE_0 G _ _) rfl 1 (by decide) (M.2.2.2.2.1 _ flX5_roomKept_18) rfl rfl dX5_roomKept_46 ?_
          refine x_iload_n M hl0 dX5_roomKept_49 2 rfl ?_
          refine x_iload_n M hl0 dX5_roomKept_50 3 rfl ?_
          refine x_iadd M dX5_roomKept_51 ?_
          obtain ⟨r18, w19, hc20, hf⟩ := bdt hf
          refine x_callVi (c0 := 2) (t0 := t) (As := [iV (x2 + x3)]) (rest := [iV x1]) M hl0 hS15 (c_X0_sizeAt l ht g10 hc20) (cwV 1 M.2.2.2.2.1 gX5_roomKept_X0_sizeAt rfl rfl rfl (by decide +kernel) ⟨Nat.le_of_ble_eq_true rfl, Nat.le_of_ble_eq_true rfl⟩) (Or.inl ⟨by decide, ht⟩) (sE_2 G _ _) rfl rfl (Nat.le_of_ble_eq_true rfl) dX5_roomKept_52 rfl ⟨Nat.zero_le _, Nat.zero_le _⟩ (fun H locs hi21 hS22 => ?_)
          obtain ⟨g23, hf⟩ := gdt hf
          refine x_iadd M dX5_roomKept_55 ?_
          refine x_istore_n M hl0 dX5_roomKept_56 (by decide) [(1, iV (x1 + r18)), (0, .ref (G.1 0 t)), (2, iV x2), (3, iV x3)] rfl (fun ls hl24 => ?_)
          obtain ⟨g25, hf⟩ := gdt hf
          refine x_iinc M hl24 dX5_roomKept_57 3 rfl (by decide) [(3, iV (x3 + 1)), (1, iV (x1 + r18)), (0, .ref (G.1 0 t)), (2, iV x2)] rfl (fun ls hl26 => ?_)
          refine x_goto (tgt := 15) M dX5_roomKept_60 (by decide) ?_
          exact ih (x1 + r18) x2 (x3 + 1) w19 g23 hx2 g25 _ _ hS22 _ (lv_sub hl26 [2, 1, 3, 0] rfl) _ _ hf

set_option maxHeartbeats 4000000 in
set_option maxRecDepth 100000 in
theorem c_X5_roomKept (l : Launch) {G : GG} {t : Nat} (ht : t < 8) {w : Wd} {r : Int} {w' : Wd} (hf : X5_roomKept t w = some (r, w')) : Met l yX5_roomKept wsX5_roomKept (rmk 2) (PcG G w [.ref (G.1 0 t)]) (QiG G r w') 0 0 (GA G) := by
  refine met_of (own := RX5) (by decide) rfl (Nat.le_of_ble_eq_true rfl) rfl ?_
  intro p e s m args below meth c M hr ls hl0 hS0
  have hl0 : lv_has ls 4 [(0, .ref (G.1 0 t))] := hl0
  unfold X5_roomKept at hf
  refine x_iconst M dX5_roomKept_0 ?_
  refine x_istore_n M hl0 dX5_roomKept_1 (by decide) [(1, iV 0), (0, .ref (G.1 0 t))] rfl (fun ls hl1 => ?_)
  refine x_aload_n M hl1 dX5_roomKept_2 1 rfl ?_
  refine x_iconst M dX5_roomKept_3 ?_
  refine x_aload_n M hl1 dX5_roomKept_4 1 rfl ?_
  refine x_get (c0 := 0) (t0 := t) (v := iV (w 0 t 3)) M hS0 (Or.inl ⟨by decide, ht⟩) (ref := "NamedMoves$Store") inX5_roomKept_X5 (sE_0 G _ _) rfl 6 (by decide) (M.2.2.2.2.1 _ flX5_roomKept_59) rfl rfl dX5_roomKept_5 ?_
  obtain ⟨g2, hf⟩ := gdt hf
  refine x_isub M dX5_roomKept_8 ?_
  obtain ⟨r3, w4, hc5, hf⟩ := bdt hf
  refine x_callVi (c0 := 0) (t0 := t) (As := [iV (1 - (w 0 t 3))]) (rest := []) M hl1 hS0 (c_X5_addressOfHalf l ht g2 hc5) (cwV 1 M.2.2.2.2.1 gX5_roomKept_X5_addressOfHalf rfl rfl rfl (by decide +kernel) ⟨Nat.le_of_ble_eq_true rfl, Nat.le_of_ble_eq_true rfl⟩) (Or.inl ⟨by decide, ht⟩) (sE_0 G _ _) rfl rfl (Nat.le_of_ble_eq_true rfl) dX5_roomKept_9 rfl ⟨Nat.zero_le _, Nat.zero_le _⟩ (fun H locs hi6 hS7 => ?_)
  refine x_istore_n M hl1 dX5_roomKept_12 (by decide) [(2, iV r3), (1, iV 0), (0, .ref (G.1 0 t))] rfl (fun ls hl8 => ?_)
  refine x_iconst M dX5_roomKept_13 ?_
  refine x_istore_n M hl8 dX5_roomKept_14 (by decide) [(3, iV 0), (2, iV r3), (1, iV 0), (0, .ref (G.1 0 t))] rfl (fun ls hl9 => ?_)
  exact X5_roomKept_b15_ok M hr ht LF 0 r3 0 w4 ⟨by decide, by decide⟩ hi6 ⟨by decide, by decide⟩ _ _ hS7 _ (lv_sub hl9 [3, 2, 1, 0] rfl) _ _ hf

/-! X5_halfAddressFor -/
theorem flX5_halfAddressFor_59 : Cond.fieldLink RX5 59 "NamedMoves$Store" "half" "I" ∈ wsX5_halfAddressFor := by decide +kernel
theorem flX5_halfAddressFor_62 : Cond.fieldLink RX5 62 "NamedMoves$Store" "taken" "I" ∈ wsX5_halfAddressFor := by decide +kernel
theorem inX5_halfAddressFor_X5 : ∀ w ∈ u_ws RX5 TX5 10, w ∈ wsX5_halfAddressFor := by decide +kernel
set_option maxHeartbeats 4000000 in
set_option maxRecDepth 100000 in
theorem c_X5_halfAddressFor (l : Launch) {G : GG} {t : Nat} (ht : t < 8) {x1 : Int} (hx1 : InR x1) {w : Wd} {r : Int} {w' : Wd} (hf : X5_halfAddressFor t x1 w = some (r, w')) : Met l yX5_halfAddressFor wsX5_halfAddressFor (rmk 3) (PcG G w [.ref (G.1 0 t), iV x1]) (QiG G r w') 0 0 (GA G) := by
  refine met_of (own := RX5) (by decide) rfl (Nat.le_of_ble_eq_true rfl) rfl ?_
  intro p e s m args below meth c M hr ls hl0 hS0
  have hl0 : lv_has ls 2 [(0, .ref (G.1 0 t)), (1, iV x1)] := hl0
  unfold X5_halfAddressFor at hf
  refine x_aload_n M hl0 dX5_halfAddressFor_0 0 rfl ?_
  obtain ⟨r1, w2, hc3, hf⟩ := bdt hf
  refine x_callVi (c0 := 0) (t0 := t) (As := []) (rest := []) M hl0 hS0 (c_X5_freeInHalf l ht  hc3) (cwV 0 M.2.2.2.2.1 gX5_halfAddressFor_X5_freeInHalf rfl rfl rfl (by decide +kernel) ⟨Nat.le_of_ble_eq_true rfl, Nat.le_of_ble_eq_true rfl⟩) (Or.inl ⟨by decide, ht⟩) (sE_0 G _ _) rfl rfl (Nat.le_of_ble_eq_true rfl) dX5_halfAddressFor_1 rfl ⟨Nat.zero_le _, Nat.zero_le _⟩ (fun H locs hi4 hS5 => ?_)
  refine x_iload_n M hl0 dX5_halfAddressFor_4 1 rfl ?_
  obtain ⟨g6, hf⟩ := gdt hf
  refine x_isub M dX5_halfAddressFor_5 ?_
  refine x_aload_n M hl0 dX5_halfAddressFor_6 0 rfl ?_
  obtain ⟨r7, w8, hc9, hf⟩ := bdt hf
  refine x_callVi (c0 := 0) (t0 := t) (As := []) (rest := [iV (r1 - x1)]) M hl0 hS5 (c_X5_roomKept l ht  hc9) (cwV 0 M.2.2.2.2.1 gX5_halfAddressFor_X5_roomKept rfl rfl rfl (by decide +kernel) ⟨Nat.le_of_ble_eq_true rfl, Nat.le_of_ble_eq_true rfl⟩) (Or.inl ⟨by decide, ht⟩) (sE_0 G _ _) rfl rfl (Nat.le_of_ble_eq_true rfl) dX5_halfAddressFor_7 rfl ⟨Nat.zero_le _, Nat.zero_le _⟩ (fun H locs hi10 hS11 => ?_)
  refine x_icmp_lt (tgt := 29) M g6 hi10 dX5_halfAddressFor_10 (by decide) (fun hc => ?_) (fun hc => ?_)
  · have hf := ift hf hc
    refine x_sipush M dX5_halfAddressFor_29 rfl ?_
    exact x_iret M hr hf hS11 ⟨by decide, by decide⟩ dX5_halfAddressFor_32
  · have hf := iff_ hf hc
    refine x_aload_n M hl0 dX5_halfAddressFor_13 0 rfl ?_
    refine x_aload_n M hl0 dX5_halfAddressFor_14 0 rfl ?_
    refine x_get (c0 := 0) (t0 := t) (v := iV (w8 0 t 3)) M hS11 (Or.inl ⟨by decide, ht⟩) (ref := "NamedMoves$Store") inX5_halfAddressFor_X5 (sE_0 G _ _) rfl 6 (by decide) (M.2.2.2.2.1 _ flX5_halfAddressFor_59) rfl rfl dX5_halfAddressFor_15 ?_
    obtain ⟨r12, w13, hc14, hf⟩ := bdt hf
    refine x_callVi (c0 := 0) (t0 := t) (As := [iV (w8 0 t 3)]) (rest := []) M hl0 hS11 (c_X5_addressOfHalf l ht (hS11.inr _ _ _) hc14) (cwV 1 M.2.2.2.2.1 gX5_halfAddressFor_X5_addressOfHalf rfl rfl rfl (by decide +kernel) ⟨Nat.le_of_ble_eq_true rfl, Nat.le_of_ble_eq_true rfl⟩) (Or.inl ⟨by decide, ht⟩) (sE_0 G _ _) rfl rfl (Nat.le_of_ble_eq_true rfl) dX5_halfAddressFor_18 rfl ⟨Nat.zero_le _, Nat.zero_le _⟩ (fun H locs hi15 hS16 => ?_)
    refine x_aload_n M hl0 dX5_halfAddressFor_21 0 rfl ?_
    refine x_get (c0 := 0) (t0 := t) (v := iV (w13 0 t 4)) M hS16 (Or.inl ⟨by decide, ht⟩) (ref := "NamedMoves$Store") inX5_halfAddressFor_X5 (sE_0 G _ _) rfl 7 (by decide) (M.2.2.2.2.1 _ flX5_halfAddressFor_62) rfl rfl dX5_halfAddressFor_22 ?_
    obtain ⟨g17, hf⟩ := gdt hf
    refine x_iadd M dX5_halfAddressFor_25 ?_
    refine x_goto (tgt := 32) M dX5_halfAddressFor_26 (by decide) ?_
    exact x_iret M hr hf hS16 g17 dX5_halfAddressFor_32

/-! X0_lay -/
theorem flX0_lay_15 : Cond.fieldLink RX0 15 "NamedMoves$Copies" "sizes" "[I" ∈ wsX0_lay := by decide +kernel
theorem flX0_lay_18 : Cond.fieldLink RX0 18 "NamedMoves$Copies" "notes" "[I" ∈ wsX0_lay := by decide +kernel
theorem flX0_lay_21 : Cond.fieldLink RX0 21 "NamedMoves$Copies" "marks" "[I" ∈ wsX0_lay := by decide +kernel
theorem flX0_lay_24 : Cond.fieldLink RX0 24 "NamedMoves$Copies" "names" "[I" ∈ wsX0_lay := by decide +kernel
theorem flX0_lay_9 : Cond.fieldLink RX0 9 "NamedMoves$Copies" "things" "[I" ∈ wsX0_lay := by decide +kernel
theorem inX0_lay_X0 : ∀ w ∈ u_ws RX0 TX0 5, w ∈ wsX0_lay := by decide +kernel
set_option maxHeartbeats 4000000 in
set_option maxRecDepth 100000 in
theorem c_X0_lay (l : Launch) {G : GG} {t : Nat} (ht : t < 8) {x1 : Int} (hx1 : InR x1) {x2 : Int} (hx2 : InR x2) {x3 : Int} (hx3 : InR x3) {w : Wd} {r : Int} {w' : Wd} (hf : X0_lay t x1 x2 x3 w = some (r, w')) : Met l yX0_lay wsX0_lay (rmk 0) (PcG G w [.ref (G.1 2 t), iV x1, iV x2, iV x3]) (QvG G w') 0 0 (GA G) := by
  refine met_of (own := RX0) (by decide) rfl (Nat.le_of_ble_eq_true rfl) rfl ?_
  intro p e s m args below meth c M hr ls hl0 hS0
  have hl0 : lv_has ls 4 [(0, .ref (G.1 2 t)), (1, iV x1), (2, iV x2), (3, iV x3)] := hl0
  unfold X0_lay at hf
  refine x_iload_n M hl0 dX0_lay_0 1 rfl ?_
  refine x_if_lt (tgt := 11) M hx1 dX0_lay_1 (by decide) (fun hc => ?_) (fun hc => ?_)
  · have hf := ift hf hc
    exact x_vret M hr hf hS0 dX0_lay_11
  · have hf := iff_ hf hc
    refine x_iload_n M hl0 dX0_lay_4 1 rfl ?_
    refine x_sipush M dX0_lay_5 rfl ?_
    refine x_icmp_lt (tgt := 12) M hx1 ⟨by decide, by decide⟩ dX0_lay_8 (by decide) (fun hc => ?_) (fun hc => ?_)
    · have hf := ift hf hc
      refine x_aload_n M hl0 dX0_lay_12 0 rfl ?_
      refine x_get (c0 := 2) (t0 := t) (v := .ref (G.1 3 t)) M hS0 (Or.inl ⟨by decide, ht⟩) (ref := "NamedMoves$Copies") inX0_lay_X0 (sE_2 G _ _) rfl 0 (by decide) (M.2.2.2.2.1 _ flX0_lay_9) rfl rfl dX0_lay_13 ?_
      refine x_iload_n M hl0 dX0_lay_16 1 rfl ?_
      refine x_iload_n M hl0 dX0_lay_17 2 rfl ?_
      obtain ⟨g1, hf⟩ := gdt hf
      refine x_iast (c0 := 3) (t0 := t) M hS0 (Or.inl ⟨by decide, ht⟩) (hs_3 G _) rfl g1 (by decide) hx2 dX0_lay_18 (fun H locs hS2 => ?_)
      refine x_aload_n M hl0 dX0_lay_19 0 rfl ?_
      refine x_get (c0 := 2) (t0 := t) (v := .ref (G.1 4 t)) M hS2 (Or.inl ⟨by decide, ht⟩) (ref := "NamedMoves$Copies") inX0_lay_X0 (sE_2 G _ _) rfl 1 (by decide) (M.2.2.2.2.1 _ flX0_lay_15) rfl rfl dX0_lay_20 ?_
      refine x_iload_n M hl0 dX0_lay_23 1 rfl ?_
      refine x_iload_n M hl0 dX0_lay_24 3 rfl ?_
      refine x_iast (c0 := 4) (t0 := t) M hS2 (Or.inl ⟨by decide, ht⟩) (hs_4 G _) rfl g1 (by decide) hx3 dX0_lay_25 (fun H locs hS3 => ?_)
      refine x_aload_n M hl0 dX0_lay_26 0 rfl ?_
      refine x_get (c0 := 2) (t0 := t) (v := .ref (G.1 5 t)) M hS3 (Or.inl ⟨by decide, ht⟩) (ref := "NamedMoves$Copies") inX0_lay_X0 (sE_2 G _ _) rfl 2 (by decide) (M.2.2.2.2.1 _ flX0_lay_18) rfl rfl dX0_lay_27 ?_
      refine x_iload_n M hl0 dX0_lay_30 1 rfl ?_
      refine x_sipush M dX0_lay_31 rfl ?_
      refine x_iast (c0 := 5) (t0 := t) M hS3 (Or.inl ⟨by decide, ht⟩) (hs_5 G _) rfl g1 (by decide) ⟨by decide, by decide⟩ dX0_lay_34 (fun H locs hS4 => ?_)
      refine x_aload_n M hl0 dX0_lay_35 0 rfl ?_
      refine x_get (c0 := 2) (t0 := t) (v := .ref (G.1 6 t)) M hS4 (Or.inl ⟨by decide, ht⟩) (ref := "NamedMoves$Copies") inX0_lay_X0 (sE_2 G _ _) rfl 3 (by decide) (M.2.2.2.2.1 _ flX0_lay_21) rfl rfl dX0_lay_36 ?_
      refine x_iload_n M hl0 dX0_lay_39 1 rfl ?_
      refine x_iconst M dX0_lay_40 ?_
      refine x_iast (c0 := 6) (t0 := t) M hS4 (Or.inl ⟨by decide, ht⟩) (hs_6 G _) rfl g1 (by decide) ⟨by decide, by decide⟩ dX0_lay_41 (fun H locs hS5 => ?_)
      refine x_aload_n M hl0 dX0_lay_42 0 rfl ?_
      refine x_get (c0 := 2) (t0 := t) (v := .ref (G.1 7 t)) M hS5 (Or.inl ⟨by decide, ht⟩) (ref := "NamedMoves$Copies") inX0_lay_X0 (sE_2 G _ _) rfl 4 (by decide) (M.2.2.2.2.1 _ flX0_lay_24) rfl rfl dX0_lay_43 ?_
      refine x_iload_n M hl0 dX0_lay_46 1 rfl ?_
      refine x_iconst M dX0_lay_47 ?_
      obtain ⟨g6, hf⟩ := gdt hf
      refine x_imul M dX0_lay_48 ?_
      refine x_sipush M dX0_lay_49 rfl ?_
      obtain ⟨g7, hf⟩ := gdt hf
      refine x_iast (c0 := 7) (t0 := t) M hS5 (Or.inl ⟨by decide, ht⟩) (hs_7 G _) rfl g7 (by decide) ⟨by decide, by decide⟩ dX0_lay_52 (fun H locs hS8 => ?_)
      refine x_aload_n M hl0 dX0_lay_53 0 rfl ?_
      refine x_get (c0 := 2) (t0 := t) (v := .ref (G.1 7 t)) M hS8 (Or.inl ⟨by decide, ht⟩) (ref := "NamedMoves$Copies") inX0_lay_X0 (sE_2 G _ _) rfl 4 (by decide) (M.2.2.2.2.1 _ flX0_lay_24) rfl rfl dX0_lay_54 ?_
      refine x_iload_n M hl0 dX0_lay_57 1 rfl ?_
      refine x_iconst M dX0_lay_58 ?_
      refine x_imul M dX0_lay_59 ?_
      refine x_iconst M dX0_lay_60 ?_
      obtain ⟨g9, hf⟩ := gdt hf
      refine x_iadd M dX0_lay_61 ?_
      refine x_sipush M dX0_lay_62 rfl ?_
      obtain ⟨g10, hf⟩ := gdt hf
      refine x_iast (c0 := 7) (t0 := t) M hS8 (Or.inl ⟨by decide, ht⟩) (hs_7 G _) rfl g10 (by decide) ⟨by decide, by decide⟩ dX0_lay_65 (fun H locs hS11 => ?_)
      exact x_vret M hr hf hS11 dX0_lay_66
    · have hf := iff_ hf hc
      exact x_vret M hr hf hS0 dX0_lay_11

/-! X0_mark -/
theorem flX0_mark_21 : Cond.fieldLink RX0 21 "NamedMoves$Copies" "marks" "[I" ∈ wsX0_mark := by decide +kernel
theorem inX0_mark_X0 : ∀ w ∈ u_ws RX0 TX0 5, w ∈ wsX0_mark := by decide +kernel
set_option maxHeartbeats 4000000 in
set_option maxRecDepth 100000 in
theorem c_X0_mark (l : Launch) {G : GG} {t : Nat} (ht : t < 8) {x1 : Int} (hx1 : InR x1) {w : Wd} {r : Int} {w' : Wd} (hf : X0_mark t x1 w = some (r, w')) : Met l yX0_mark wsX0_mark (rmk 1) (PcG G w [.ref (G.1 2 t), iV x1]) (QiG G r w') 0 0 (GA G) := by
  refine met_of (own := RX0) (by decide) rfl (Nat.le_of_ble_eq_true rfl) rfl ?_
  intro p e s m args below meth c M hr ls hl0 hS0
  have hl0 : lv_has ls 2 [(0, .ref (G.1 2 t)), (1, iV x1)] := hl0
  unfold X0_mark at hf
  refine x_aload_n M hl0 dX0_mark_0 0 rfl ?_
  refine x_iload_n M hl0 dX0_mark_1 1 rfl ?_
  obtain ⟨r1, w2, hc3, hf⟩ := bdt hf
  refine x_callVi (c0 := 2) (t0 := t) (As := [iV x1]) (rest := []) M hl0 hS0 (c_X0_isAt l ht hx1 hc3) (cwV 1 M.2.2.2.2.1 gX0_mark_X0_isAt rfl rfl rfl (by decide +kernel) ⟨Nat.le_of_ble_eq_true rfl, Nat.le_of_ble_eq_true rfl⟩) (Or.inl ⟨by decide, ht⟩) (sE_2 G _ _) rfl rfl (Nat.le_of_ble_eq_true rfl) dX0_mark_2 rfl ⟨Nat.zero_le _, Nat.zero_le _⟩ (fun H locs hi4 hS5 => ?_)
  refine x_if_eq (tgt := 18) M hi4 dX0_mark_5 (by decide) (fun hc => ?_) (fun hc => ?_)
  · have hf := ift hf hc
    refine x_iconst M dX0_mark_18 ?_
    exact x_zret M hr hf hS5 (Or.inl rfl) dX0_mark_19
  · have hf := iff_ hf hc
    refine x_aload_n M hl0 dX0_mark_8 0 rfl ?_
    refine x_get (c0 := 2) (t0 := t) (v := .ref (G.1 6 t)) M hS5 (Or.inl ⟨by decide, ht⟩) (ref := "NamedMoves$Copies") inX0_mark_X0 (sE_2 G _ _) rfl 3 (by decide) (M.2.2.2.2.1 _ flX0_mark_21) rfl rfl dX0_mark_9 ?_
    refine x_iload_n M hl0 dX0_mark_12 1 rfl ?_
    obtain ⟨g6, hf⟩ := gdt hf
    refine x_iald (c0 := 6) (t0 := t) M hS5 (Or.inl ⟨by decide, ht⟩) (hs_6 G _) rfl g6 (by decide) dX0_mark_13 ?_
    refine x_iconst M dX0_mark_14 ?_
    refine x_icmp_ne (tgt := 20) M (hS5.inr _ _ _) ⟨by decide, by decide⟩ dX0_mark_15 (by decide) (fun hc => ?_) (fun hc => ?_)
    · have hf := iff_ hf hc
      refine x_aload_n M hl0 dX0_mark_20 0 rfl ?_
      refine x_get (c0 := 2) (t0 := t) (v := .ref (G.1 6 t)) M hS5 (Or.inl ⟨by decide, ht⟩) (ref := "NamedMoves$Copies") inX0_mark_X0 (sE_2 G _ _) rfl 3 (by decide) (M.2.2.2.2.1 _ flX0_mark_21) rfl rfl dX0_mark_21 ?_
      refine x_iload_n M hl0 dX0_mark_24 1 rfl ?_
      refine x_iconst M dX0_mark_25 ?_
      refine x_iast (c0 := 6) (t0 := t) M hS5 (Or.inl ⟨by decide, ht⟩) (hs_6 G _) rfl g6 (by decide) ⟨by decide, by decide⟩ dX0_mark_26 (fun H locs hS7 => ?_)
      refine x_iconst M dX0_mark_27 ?_
      exact x_zret M hr hf hS7 (Or.inr rfl) dX0_mark_28
    · have hf := ift hf (Decidable.of_not_not hc)
      refine x_iconst M dX0_mark_18 ?_
      exact x_zret M hr hf hS5 (Or.inl rfl) dX0_mark_19

end
