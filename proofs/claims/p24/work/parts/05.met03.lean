section
variable {p : Program} {l : Launch} {e : Env} {s : State} {m : MethodId} {args : Array Value} {below : List Frame} {meth : Method} {c : Code} {G : GG}
/-! X7_follow -/
theorem flX7_follow_12 : Cond.fieldLink RX7 12 "NamedMoves" "store" "LNamedMoves$Store;" ∈ wsX7_follow := by decide +kernel
theorem flX7_follow_22 : Cond.fieldLink RX7 22 "NamedMoves" "history" "LNamedMoves$History;" ∈ wsX7_follow := by decide +kernel
theorem inX7_follow_X7 : ∀ w ∈ u_ws RX7 TX7 6, w ∈ wsX7_follow := by decide +kernel
set_option maxHeartbeats 4000000 in
set_option maxRecDepth 100000 in
theorem c_X7_follow (l : Launch) {G : GG} {x1 : Int} (hx1 : InR x1) {x2 : Int} (hx2 : InR x2) {x3 : Int} (hx3 : InR x3) {w : Wd} {r : Int} {w' : Wd} (hf : X7_follow x1 x2 x3 w = some (r, w')) : Met l yX7_follow wsX7_follow (rmk 4) (PcG G w [.ref (G.1 10 0), iV x1, iV x2, iV x3]) (QiG G r w') 0 0 (GA G) := by
  refine met_of (own := RX7) (by decide) rfl (Nat.le_of_ble_eq_true rfl) rfl ?_
  intro p e s m args below meth c M hr ls hl0 hS0
  have hl0 : lv_has ls 4 [(0, .ref (G.1 10 0)), (1, iV x1), (2, iV x2), (3, iV x3)] := hl0
  unfold X7_follow at hf
  refine x_aload_n M hl0 dX7_follow_0 0 rfl ?_
  refine x_get (c0 := 10) (t0 := 0) (v := .ref (G.1 11 0)) M hS0 (by decide) (ref := "NamedMoves") inX7_follow_X7 (sE_10 G _ _) rfl 2 (by decide) (M.2.2.2.2.1 _ flX7_follow_22) rfl rfl dX7_follow_1 ?_
  refine x_aload_n M hl0 dX7_follow_4 0 rfl ?_
  refine x_get (c0 := 10) (t0 := 0) (v := .ref (G.1 0 0)) M hS0 (by decide) (ref := "NamedMoves") inX7_follow_X7 (sE_10 G _ _) rfl 0 (by decide) (M.2.2.2.2.1 _ flX7_follow_12) rfl rfl dX7_follow_5 ?_
  obtain ⟨r1, w2, hc3, hf⟩ := bdt hf
  refine x_callVv (c0 := 11) (t0 := 0) (As := [.ref (G.1 0 0)]) (rest := []) M hl0 hS0 (c_X2_draft l (by decide)  hc3) (cwV 1 M.2.2.2.2.1 gX7_follow_X2_draft rfl rfl rfl (by decide +kernel) ⟨Nat.le_of_ble_eq_true rfl, Nat.le_of_ble_eq_true rfl⟩) (by decide) (sE_11 G _ _) rfl rfl (Nat.le_of_ble_eq_true rfl) dX7_follow_8 rfl ⟨Nat.zero_le _, Nat.zero_le _⟩ (fun H locs hS5 => ?_)
  refine x_aload_n M hl0 dX7_follow_11 0 rfl ?_
  refine x_aload_n M hl0 dX7_follow_12 0 rfl ?_
  refine x_get (c0 := 10) (t0 := 0) (v := .ref (G.1 0 0)) M hS5 (by decide) (ref := "NamedMoves") inX7_follow_X7 (sE_10 G _ _) rfl 0 (by decide) (M.2.2.2.2.1 _ flX7_follow_12) rfl rfl dX7_follow_13 ?_
  refine x_iload_n M hl0 dX7_follow_16 1 rfl ?_
  refine x_iload_n M hl0 dX7_follow_17 2 rfl ?_
  refine x_iload_n M hl0 dX7_follow_18 3 rfl ?_
  obtain ⟨r6, w7, hc8, hf⟩ := bdt hf
  refine x_callVi (c0 := 0) (t0 := 0) (As := [iV x1, iV x2, iV x3]) (rest := [.ref (G.1 10 0)]) M hl0 hS5 (c_X5_followName l (by decide) hx1 hx2 hx3 hc8) (cwV 3 M.2.2.2.2.1 gX7_follow_X5_followName rfl rfl rfl (by decide +kernel) ⟨Nat.le_of_ble_eq_true rfl, Nat.le_of_ble_eq_true rfl⟩) (by decide) (sE_0 G _ _) rfl rfl (Nat.le_of_ble_eq_true rfl) dX7_follow_19 rfl ⟨Nat.zero_le _, Nat.zero_le _⟩ (fun H locs hi9 hS10 => ?_)
  obtain ⟨r11, w12, hc13, hf⟩ := bdt hf
  refine x_callVi (c0 := 10) (t0 := 0) (As := [iV r6]) (rest := []) M hl0 hS10 (c_X7_recorded l  hi9 hc13) (cwV 1 M.2.2.2.2.1 gX7_follow_X7_recorded rfl rfl rfl (by decide +kernel) ⟨Nat.le_of_ble_eq_true rfl, Nat.le_of_ble_eq_true rfl⟩) (by decide) (sE_10 G _ _) rfl rfl (Nat.le_of_ble_eq_true rfl) dX7_follow_22 rfl ⟨Nat.zero_le _, Nat.zero_le _⟩ (fun H locs hi14 hS15 => ?_)
  exact x_iret M hr hf hS15 hi14 dX7_follow_25

/-! X5_dropHook -/
theorem flX5_dropHook_9 : Cond.fieldLink RX5 9 "NamedMoves$Store" "hooks" "[I" ∈ wsX5_dropHook := by decide +kernel
theorem inX5_dropHook_X5 : ∀ w ∈ u_ws RX5 TX5 10, w ∈ wsX5_dropHook := by decide +kernel
theorem iniX5_dropHook_X7 : Cond.initialized RX7 ∈ wsX5_dropHook := by decide +kernel
theorem stX5_dropHook_X7_isHook : Cond.static yX7_isHook ∈ wsX5_dropHook := by decide +kernel
set_option maxHeartbeats 4000000 in
set_option maxRecDepth 100000 in
theorem c_X5_dropHook (l : Launch) {G : GG} {t : Nat} (ht : t < 8) {x1 : Int} (hx1 : InR x1) {w : Wd} {r : Int} {w' : Wd} (hf : X5_dropHook t x1 w = some (r, w')) : Met l yX5_dropHook wsX5_dropHook (rmk 1) (PcG G w [.ref (G.1 0 t), iV x1]) (QiG G r w') 0 0 (GA G) := by
  refine met_of (own := RX5) (by decide) rfl (Nat.le_of_ble_eq_true rfl) rfl ?_
  intro p e s m args below meth c M hr ls hl0 hS0
  have hl0 : lv_has ls 3 [(0, .ref (G.1 0 t)), (1, iV x1)] := hl0
  unfold X5_dropHook at hf
  refine x_iload_n M hl0 dX5_dropHook_0 1 rfl ?_
  obtain ⟨r1, w2, hc3, hf⟩ := bdt hf
  refine x_callNi (As := [iV x1]) (rest := []) M hl0 hS0 (c_X7_isHook l  hx1 hc3) (va_cnB 1 M.2.2.2.2.1 gX5_dropHook_X7_isHook_n71 rfl rfl rfl M.2.2.2.2.2.2.2.2.2.2.2.2 (M.2.2.2.2.1 _ iniX5_dropHook_X7) (by decide +kernel) ⟨Nat.le_of_ble_eq_true rfl, Nat.le_of_ble_eq_true rfl⟩) (M.2.2.2.2.1 _ stX5_dropHook_X7_isHook) rfl (Nat.le_of_ble_eq_true rfl) dX5_dropHook_1 rfl ⟨Nat.zero_le _, Nat.zero_le _⟩ (fun H locs hi4 hS5 => ?_)
  refine x_if_ne (tgt := 9) M hi4 dX5_dropHook_4 (by decide) (fun hc => ?_) (fun hc => ?_)
  · have hf := iff_ hf hc
    refine x_aload_n M hl0 dX5_dropHook_9 0 rfl ?_
    refine x_get (c0 := 0) (t0 := t) (v := .ref (G.1 1 t)) M hS5 (Or.inl ⟨by decide, ht⟩) (ref := "NamedMoves$Store") inX5_dropHook_X5 (sE_0 G _ _) rfl 0 (by decide) (M.2.2.2.2.1 _ flX5_dropHook_9) rfl rfl dX5_dropHook_10 ?_
    refine x_iload_n M hl0 dX5_dropHook_13 1 rfl ?_
    obtain ⟨g6, hf⟩ := gdt hf
    refine x_iald (c0 := 1) (t0 := t) M hS5 (Or.inl ⟨by decide, ht⟩) (hs_1 G _) rfl g6 (by decide) dX5_dropHook_14 ?_
    refine x_istore_n M hl0 dX5_dropHook_15 (by decide) [(2, iV (w2 1 t x1.toNat)), (0, .ref (G.1 0 t)), (1, iV x1)] rfl (fun ls hl7 => ?_)
    refine x_aload_n M hl7 dX5_dropHook_16 1 rfl ?_
    refine x_get (c0 := 0) (t0 := t) (v := .ref (G.1 1 t)) M hS5 (Or.inl ⟨by decide, ht⟩) (ref := "NamedMoves$Store") inX5_dropHook_X5 (sE_0 G _ _) rfl 0 (by decide) (M.2.2.2.2.1 _ flX5_dropHook_9) rfl rfl dX5_dropHook_17 ?_
    refine x_iload_n M hl7 dX5_dropHook_20 2 rfl ?_
    refine x_sipush M dX5_dropHook_21 rfl ?_
    refine x_iast (c0 := 1) (t0 := t) M hS5 (Or.inl ⟨by decide, ht⟩) (hs_1 G _) rfl g6 (by decide) ⟨by decide, by decide⟩ dX5_dropHook_24 (fun H locs hS8 => ?_)
    refine x_iload_n M hl7 dX5_dropHook_25 0 rfl ?_
    exact x_iret M hr hf hS8 (hS5.inr _ _ _) dX5_dropHook_26
  · have hf := ift hf (Decidable.of_not_not hc)
    refine x_iconst M dX5_dropHook_7 ?_
    exact x_iret M hr hf hS5 ⟨by decide, by decide⟩ dX5_dropHook_8

/-! X7_drop -/
theorem flX7_drop_12 : Cond.fieldLink RX7 12 "NamedMoves" "store" "LNamedMoves$Store;" ∈ wsX7_drop := by decide +kernel
theorem flX7_drop_22 : Cond.fieldLink RX7 22 "NamedMoves" "history" "LNamedMoves$History;" ∈ wsX7_drop := by decide +kernel
theorem inX7_drop_X7 : ∀ w ∈ u_ws RX7 TX7 6, w ∈ wsX7_drop := by decide +kernel
set_option maxHeartbeats 4000000 in
set_option maxRecDepth 100000 in
theorem c_X7_drop (l : Launch) {G : GG} {x1 : Int} (hx1 : InR x1) {w : Wd} {r : Int} {w' : Wd} (hf : X7_drop x1 w = some (r, w')) : Met l yX7_drop wsX7_drop (rmk 4) (PcG G w [.ref (G.1 10 0), iV x1]) (QiG G r w') 0 0 (GA G) := by
  refine met_of (own := RX7) (by decide) rfl (Nat.le_of_ble_eq_true rfl) rfl ?_
  intro p e s m args below meth c M hr ls hl0 hS0
  have hl0 : lv_has ls 2 [(0, .ref (G.1 10 0)), (1, iV x1)] := hl0
  unfold X7_drop at hf
  refine x_aload_n M hl0 dX7_drop_0 0 rfl ?_
  refine x_get (c0 := 10) (t0 := 0) (v := .ref (G.1 11 0)) M hS0 (by decide) (ref := "NamedMoves") inX7_drop_X7 (sE_10 G _ _) rfl 2 (by decide) (M.2.2.2.2.1 _ flX7_drop_22) rfl rfl dX7_drop_1 ?_
  refine x_aload_n M hl0 dX7_drop_4 0 rfl ?_
  refine x_get (c0 := 10) (t0 := 0) (v := .ref (G.1 0 0)) M hS0 (by decide) (ref := "NamedMoves") inX7_drop_X7 (sE_10 G _ _) rfl 0 (by decide) (M.2.2.2.2.1 _ flX7_drop_12) rfl rfl dX7_drop_5 ?_
  obtain ⟨r1, w2, hc3, hf⟩ := bdt hf
  refine x_callVv (c0 := 11) (t0 := 0) (As := [.ref (G.1 0 0)]) (rest := []) M hl0 hS0 (c_X2_draft l (by decide)  hc3) (cwV 1 M.2.2.2.2.1 gX7_drop_X2_draft rfl rfl rfl (by decide +kernel) ⟨Nat.le_of_ble_eq_true rfl, Nat.le_of_ble_eq_true rfl⟩) (by decide) (sE_11 G _ _) rfl rfl (Nat.le_of_ble_eq_true rfl) dX7_drop_8 rfl ⟨Nat.zero_le _, Nat.zero_le _⟩ (fun H locs hS5 => ?_)
  refine x_aload_n M hl0 dX7_drop_11 0 rfl ?_
  refine x_aload_n M hl0 dX7_drop_12 0 rfl ?_
  refine x_get (c0 := 10) (t0 := 0) (v := .ref (G.1 0 0)) M hS5 (by decide) (ref := "NamedMoves") inX7_drop_X7 (sE_10 G _ _) rfl 0 (by decide) (M.2.2.2.2.1 _ flX7_drop_12) rfl rfl dX7_drop_13 ?_
  refine x_iload_n M hl0 dX7_drop_16 1 rfl ?_
  obtain ⟨r6, w7, hc8, hf⟩ := bdt hf
  refine x_callVi (c0 := 0) (t0 := 0) (As := [iV x1]) (rest := [.ref (G.1 10 0)]) M hl0 hS5 (c_X5_dropHook l (by decide) hx1 hc8) (cwV 1 M.2.2.2.2.1 gX7_drop_X5_dropHook rfl rfl rfl (by decide +kernel) ⟨Nat.le_of_ble_eq_true rfl, Nat.le_of_ble_eq_true rfl⟩) (by decide) (sE_0 G _ _) rfl rfl (Nat.le_of_ble_eq_true rfl) dX7_drop_17 rfl ⟨Nat.zero_le _, Nat.zero_le _⟩ (fun H locs hi9 hS10 => ?_)
  obtain ⟨r11, w12, hc13, hf⟩ := bdt hf
  refine x_callVi (c0 := 10) (t0 := 0) (As := [iV r6]) (rest := []) M hl0 hS10 (c_X7_recorded l  hi9 hc13) (cwV 1 M.2.2.2.2.1 gX7_drop_X7_recorded rfl rfl rfl (by decide +kernel) ⟨Nat.le_of_ble_eq_true rfl, Nat.le_of_ble_eq_true rfl⟩) (by decide) (sE_10 G _ _) rfl rfl (Nat.le_of_ble_eq_true rfl) dX7_drop_20 rfl ⟨Nat.zero_le _, Nat.zero_le _⟩ (fun H locs hi14 hS15 => ?_)
  exact x_iret M hr hf hS15 hi14 dX7_drop_23

/-! X3_clear -/
theorem flX3_clear_21 : Cond.fieldLink RX3 21 "NamedMoves$Queue" "first" "I" ∈ wsX3_clear := by decide +kernel
theorem flX3_clear_25 : Cond.fieldLink RX3 25 "NamedMoves$Queue" "end" "I" ∈ wsX3_clear := by decide +kernel
theorem inX3_clear_X3 : ∀ w ∈ u_ws RX3 TX3 3, w ∈ wsX3_clear := by decide +kernel
set_option maxHeartbeats 4000000 in
set_option maxRecDepth 100000 in
theorem c_X3_clear (l : Launch) {G : GG} {t : Nat} (ht : t < 8) {w : Wd} {r : Int} {w' : Wd} (hf : X3_clear t w = some (r, w')) : Met l yX3_clear wsX3_clear (rmk 0) (PcG G w [.ref (G.1 8 t)]) (QvG G w') 0 0 (GA G) := by
  refine met_of (own := RX3) (by decide) rfl (Nat.le_of_ble_eq_true rfl) rfl ?_
  intro p e s m args below meth c M hr ls hl0 hS0
  have hl0 : lv_has ls 1 [(0, .ref (G.1 8 t))] := hl0
  unfold X3_clear at hf
  refine x_aload_n M hl0 dX3_clear_0 0 rfl ?_
  refine x_iconst M dX3_clear_1 ?_
  refine x_put (c0 := 8) (t0 := t) M hS0 (Or.inl ⟨by decide, ht⟩) (ref := "NamedMoves$Queue") inX3_clear_X3 tyX3 tyX3_ok nmX3 (sE_8 G _ _) rfl 1 (by decide) (M.2.2.2.2.1 _ flX3_clear_21) rfl rfl (ty := tyX3 1) ⟨by decide, by decide⟩ (tyX3_ok 1 (by decide)) rfl rfl (by simp) 0 (pset_8_0 G _ _ _) dX3_clear_2 (fun H locs hS1 => ?_)
  refine x_aload_n M hl0 dX3_clear_5 0 rfl ?_
  refine x_iconst M dX3_clear_6 ?_
  refine x_put (c0 := 8) (t0 := t) M hS1 (Or.inl ⟨by decide, ht⟩) (ref := "NamedMoves$Queue") inX3_clear_X3 tyX3 tyX3_ok nmX3 (sE_8 G _ _) rfl 2 (by decide) (M.2.2.2.2.1 _ flX3_clear_25) rfl rfl (ty := tyX3 2) ⟨by decide, by decide⟩ (tyX3_ok 2 (by decide)) rfl rfl (by simp) 1 (pset_8_1 G _ _ _) dX3_clear_7 (fun H locs hS2 => ?_)
  exact x_vret M hr hf hS2 dX3_clear_10

/-! X3_size -/
theorem flX3_size_21 : Cond.fieldLink RX3 21 "NamedMoves$Queue" "first" "I" ∈ wsX3_size := by decide +kernel
theorem flX3_size_25 : Cond.fieldLink RX3 25 "NamedMoves$Queue" "end" "I" ∈ wsX3_size := by decide +kernel
theorem inX3_size_X3 : ∀ w ∈ u_ws RX3 TX3 3, w ∈ wsX3_size := by decide +kernel
set_option maxHeartbeats 4000000 in
set_option maxRecDepth 100000 in
theorem c_X3_size (l : Launch) {G : GG} {t : Nat} (ht : t < 8) {w : Wd} {r : Int} {w' : Wd} (hf : X3_size t w = some (r, w')) : Met l yX3_size wsX3_size (rmk 0) (PcG G w [.ref (G.1 8 t)]) (QiG G r w') 0 0 (GA G) := by
  refine met_of (own := RX3) (by decide) rfl (Nat.le_of_ble_eq_true rfl) rfl ?_
  intro p e s m args below meth c M hr ls hl0 hS0
  have hl0 : lv_has ls 1 [(0, .ref (G.1 8 t))] := hl0
  unfold X3_size at hf
  refine x_aload_n M hl0 dX3_size_0 0 rfl ?_
  refine x_get (c0 := 8) (t0 := t) (v := iV (w 8 t 1)) M hS0 (Or.inl ⟨by decide, ht⟩) (ref := "NamedMoves$Queue") inX3_size_X3 (sE_8 G _ _) rfl 2 (by decide) (M.2.2.2.2.1 _ flX3_size_25) rfl rfl dX3_size_1 ?_
  refine x_aload_n M hl0 dX3_size_4 0 rfl ?_
  refine x_get (c0 := 8) (t0 := t) (v := iV (w 8 t 0)) M hS0 (Or.inl ⟨by decide, ht⟩) (ref := "NamedMoves$Queue") inX3_size_X3 (sE_8 G _ _) rfl 1 (by decide) (M.2.2.2.2.1 _ flX3_size_21) rfl rfl dX3_size_5 ?_
  obtain ⟨g1, hf⟩ := gdt hf
  refine x_isub M dX3_size_8 ?_
  exact x_iret M hr hf hS0 g1 dX3_size_9

/-! X0_remove -/
theorem flX0_remove_15 : Cond.fieldLink RX0 15 "NamedMoves$Copies" "sizes" "[I" ∈ wsX0_remove := by decide +kernel
theorem inX0_remove_X0 : ∀ w ∈ u_ws RX0 TX0 5, w ∈ wsX0_remove := by decide +kernel
set_option maxHeartbeats 4000000 in
set_option maxRecDepth 100000 in
theorem c_X0_remove (l : Launch) {G : GG} {t : Nat} (ht : t < 8) {x1 : Int} (hx1 : InR x1) {w : Wd} {r : Int} {w' : Wd} (hf : X0_remove t x1 w = some (r, w')) : Met l yX0_remove wsX0_remove (rmk 0) (PcG G w [.ref (G.1 2 t), iV x1]) (QvG G w') 0 0 (GA G) := by
  refine met_of (own := RX0) (by decide) rfl (Nat.le_of_ble_eq_true rfl) rfl ?_
  intro p e s m args below meth c M hr ls hl0 hS0
  have hl0 : lv_has ls 2 [(0, .ref (G.1 2 t)), (1, iV x1)] := hl0
  unfold X0_remove at hf
  refine x_iload_n M hl0 dX0_remove_0 1 rfl ?_
  refine x_if_lt (tgt := 18) M hx1 dX0_remove_1 (by decide) (fun hc => ?_) (fun hc => ?_)
  · have hf := ift hf hc
    exact x_vret M hr hf hS0 dX0_remove_18
  · have hf := iff_ hf hc
    refine x_iload_n M hl0 dX0_remove_4 1 rfl ?_
    refine x_sipush M dX0_remove_5 rfl ?_
    refine x_icmp_ge (tgt := 18) M hx1 ⟨by decide, by decide⟩ dX0_remove_8 (by decide) (fun hc => ?_) (fun hc => ?_)
    · have hf := iff_ hf (Int.not_lt.mpr hc)
      exact x_vret M hr hf hS0 dX0_remove_18
    · have hf := ift hf (Int.not_le.mp hc)
      refine x_aload_n M hl0 dX0_remove_11 0 rfl ?_
      refine x_get (c0 := 2) (t0 := t) (v := .ref (G.1 4 t)) M hS0 (Or.inl ⟨by decide, ht⟩) (ref := "NamedMoves$Copies") inX0_remove_X0 (sE_2 G _ _) rfl 1 (by decide) (M.2.2.2.2.1 _ flX0_remove_15) rfl rfl dX0_remove_12 ?_
      refine x_iload_n M hl0 dX0_remove_15 1 rfl ?_
      refine x_iconst M dX0_remove_16 ?_
      obtain ⟨g1, hf⟩ := gdt hf
      refine x_iast (c0 := 4) (t0 := t) M hS0 (Or.inl ⟨by decide, ht⟩) (hs_4 G _) rfl g1 (by decide) ⟨by decide, by decide⟩ dX0_remove_17 (fun H locs hS2 => ?_)
      exact x_vret M hr hf hS2 dX0_remove_18

/-! X0_emptyHalf -/
set_option maxHeartbeats 4000000 in
set_option maxRecDepth 100000 in
theorem X0_emptyHalf_b2_ok (M : MC p s m args meth c cX0_emptyHalf 3 RX0 wsX0_emptyHalf G) (hr : meth.sig.returnType = none) {t : Nat} (ht : t < 8) : ∀ n : Nat, ∀ x1 : Int, ∀ x2 : Int, ∀ w : Wd, InR x1 → InR x2 → ∀ (H : Heap) (locs : List Loc), ST G s w H locs → ∀ ls : Array Slot, lv_has ls 3 [(0, .ref (G.1 2 t)), (1, iV x1), (2, iV x2)] → ∀ (r : Int) (w' : Wd), X0_emptyHalf_b2 t n x1 x2 w = some (r, w') → W p l e (rmk 1) s m args below meth c H locs 0 0 (MQ below (QvG G w') args s 0 0 (GA G)) (F0 m 2 ls []) := by
  intro n
  induction n with
  | zero =>
    intro x1 x2 w hx1 hx2 H locs hS0 ls hl0 r w' hf
    cases hf
  | succ n ih =>
    intro x1 x2 w hx1 hx2 H locs hS0 ls hl0 r w' hf
    rw [X0_emptyHalf_b2_s] at hf
    refine x_iload_n M hl0 dX0_emptyHalf_2 2 rfl ?_
    refine x_bipush M dX0_emptyHalf_3 rfl ?_
    refine x_icmp_ge (tgt := 24) M hx2 ⟨by decide, by decide⟩ dX0_emptyHalf_5 (by decide) (fun hc => ?_) (fun hc => ?_)
    · have hf := iff_ hf (Int.not_lt.mpr hc)
      exact x_vret M hr hf hS0 dX0_emptyHalf_24
    · have hf := ift hf (Int.not_le.mp hc)
      refine x_aload_n M hl0 dX0_emptyHalf_8 0 rfl ?_
      refine x_iload_n M hl0 dX0_emptyHalf_9 1 rfl ?_
      refine x_bipush M dX0_emptyHalf_10 rfl ?_
      obtain ⟨g2, hf⟩ := gdt hf
      refine x_imul M dX0_emptyHalf_12 ?_
      refine x_iload_n M hl0 dX0_emptyHalf_13 2 rfl ?_
      obtain ⟨g3, hf⟩ := gdt hf
      refine x_iadd M dX0_emptyHalf_14 ?_
      obtain ⟨r4, w5, hc6, hf⟩ := bdt hf
      refine x_callVv (c0 := 2) (t0 := t) (As := [iV ((x1 * 100) + x2)]) (rest := []) M hl0 hS0 (c_X0_remove l ht g3 hc6) (cwV 1 M.2.2.2.2.1 gX0_emptyHalf_X0_remove rfl rfl rfl (by decide +kernel) ⟨Nat.le_of_ble_eq_true rfl, Nat.le_of_ble_eq_true rfl⟩) (Or.inl ⟨by decide, ht⟩) (sE_2 G _ _) rfl rfl (Nat.le_of_ble_eq_true rfl) dX0_emptyHalf_15 rfl ⟨Nat.zero_le _, Nat.zero_le _⟩ (fun H locs hS8 => ?_)
      obtain ⟨g9, hf⟩ := gdt hf
      refine x_iinc M hl0 dX0_emptyHalf_18 2 rfl (by decide) [(2, iV (x2 + 1)), (0, .ref (G.1 2 t)), (1, iV x1)] rfl (fun ls hl10 => ?_)
      refine x_goto (tgt := 2) M dX0_emptyHalf_21 (by decide) ?_
      exact ih x1 (x2 + 1) w5 hx1 g9 _ _ hS8 _ (lv_sub hl10 [1, 2, 0] rfl) _ _ hf

set_option maxHeartbeats 4000000 in
set_option maxRecDepth 100000 in
theorem c_X0_emptyHalf (l : Launch) {G : GG} {t : Nat} (ht : t < 8) {x1 : Int} (hx1 : InR x1) {w : Wd} {r : Int} {w' : Wd} (hf : X0_emptyHalf t x1 w = some (r, w')) : Met l yX0_emptyHalf wsX0_emptyHalf (rmk 1) (PcG G w [.ref (G.1 2 t), iV x1]) (QvG G w') 0 0 (GA G) := by
  refine met_of (own := RX0) (by decide) rfl (Nat.le_of_ble_eq_true rfl) rfl ?_
  intro p e s m args below meth c M hr ls hl0 hS0
  have hl0 : lv_has ls 3 [(0, .ref (G.1 2 t)), (1, iV x1)] := hl0
  unfold X0_emptyHalf at hf
  refine x_iconst M dX0_emptyHalf_0 ?_
  refine x_istore_n M hl0 dX0_emptyHalf_1 (by decide) [(2, iV 0), (0, .ref (G.1 2 t)), (1, iV x1)] rfl (fun ls hl1 => ?_)
  exact X0_emptyHalf_b2_ok M hr ht LF x1 0 w hx1 ⟨by decide, by decide⟩ _ _ hS0 _ (lv_sub hl1 [1, 2, 0] rfl) _ _ hf

/-! X0_sweepFloor -/
theorem flX0_sweepFloor_21 : Cond.fieldLink RX0 21 "NamedMoves$Copies" "marks" "[I" ∈ wsX0_sweepFloor := by decide +kernel
theorem inX0_sweepFloor_X0 : ∀ w ∈ u_ws RX0 TX0 5, w ∈ wsX0_sweepFloor := by decide +kernel
set_option maxHeartbeats 4000000 in
set_option maxRecDepth 100000 in
theorem X0_sweepFloor_b4_ok (M : MC p s m args meth c cX0_sweepFloor 2 RX0 wsX0_sweepFloor G) (hr : meth.sig.returnType = none) {t : Nat} (ht : t < 8) : ∀ n : Nat, ∀ x1 : Int, ∀ w : Wd, InR x1 → ∀ (H : Heap) (locs : List Loc), ST G s w H locs → ∀ ls : Array Slot, lv_has ls 2 [(0, .ref (G.1 2 t)), (1, iV x1)] → ∀ (r : Int) (w' : Wd), X0_sweepFloor_b4 t n x1 w = some (r, w') → W p l e (rmk 1) s m args below meth c H locs 0 0 (MQ below (QvG G w') args s 0 0 (GA G)) (F0 m 4 ls []) := by
  intro n
  induction n with
  | zero =>
    intro x1 w hx1 H locs hS0 ls hl0 r w' hf
    cases hf
  | succ n ih =>
    intro x1 w hx1 H locs hS0 ls hl0 r w' hf
    rw [X0_sweepFloor_b4_s] at hf
    refine x_iload_n M hl0 dX0_sweepFloor_4 1 rfl ?_
    refine x_sipush M dX0_sweepFloor_5 rfl ?_
    refine x_icmp_ge (tgt := 38) M hx1 ⟨by decide, by decide⟩ dX0_sweepFloor_8 (by decide) (fun hc => ?_) (fun hc => ?_)
    · have hf := iff_ hf (Int.not_lt.mpr hc)
      exact x_vret M hr hf hS0 dX0_sweepFloor_38
    · have hf := ift hf (Int.not_le.mp hc)
      refine x_aload_n M hl0 dX0_sweepFloor_11 0 rfl ?_
      refine x_get (c0 := 2) (t0 := t) (v := .ref (G.1 6 t)) M hS0 (Or.inl ⟨by decide, ht⟩) (ref := "NamedMoves$Copies") inX0_sweepFloor_X0 (sE_2 G _ _) rfl 3 (by decide) (M.2.2.2.2.1 _ flX0_sweepFloor_21) rfl rfl dX0_sweepFloor_12 ?_
      refine x_iload_n M hl0 dX0_sweepFloor_15 1 rfl ?_
      obtain ⟨g2, hf⟩ := gdt hf
      refine x_iald (c0 := 6) (t0 := t) M hS0 (Or.inl ⟨by decide, ht⟩) (hs_6 G _) rfl g2 (by decide) dX0_sweepFloor_16 ?_
      refine x_if_ne (tgt := 25) M (hS0.inr _ _ _) dX0_sweepFloor_17 (by decide) (fun hc => ?_) (fun hc => ?_)
      · have hf := iff_ hf hc
        refine x_aload_n M hl0 dX0_sweepFloor_25 0 rfl ?_
        refine x_get (c0 := 2) (t0 := t) (v := .ref (G.1 6 t)) M hS0 (Or.inl ⟨by decide, ht⟩) (ref := "NamedMoves$Copies") inX0_sweepFloor_X0 (sE_2 G _ _) rfl 3 (by decide) (M.2.2.2.2.1 _ flX0_sweepFloor_21) rfl rfl dX0_sweepFloor_26 ?_
        refine x_iload_n M hl0 dX0_sweepFloor_29 1 rfl ?_
        refine x_iconst M dX0_sweepFloor_30 ?_
        refine x_iast (c0 := 6) (t0 := t) M hS0 (Or.inl ⟨by decide, ht⟩) (hs_6 G _) rfl g2 (by decide) ⟨by decide, by decide⟩ dX0_sweepFloor_31 (fun H locs hS3 => ?_)
        obtain ⟨g4, hf⟩ := gdt hf
        refine x_iinc M hl0 dX0_sweepFloor_32 1 rfl (by decide) [(1, iV (x1 + 1)), (0, .ref (G.1 2 t))] rfl (fun ls hl5 => ?_)
        refine x_goto (tgt := 4) M dX0_sweepFloor_35 (by decide) ?_
        exact ih (x1 + 1) (up w 6 t x1.toNat 0) g4 _ _ hS3 _ (lv_sub hl5 [1, 0] rfl) _ _ hf
      · have hf := ift hf (Decidable.of_not_not hc)
        refine x_aload_n M hl0 dX0_sweepFloor_20 0 rfl ?_
        refine x_iload_n M hl0 dX0_sweepFloor_21 1 rfl ?_
        obtain ⟨r6, w7, hc8, hf⟩ := bdt hf
        refine x_callVv (c0 := 2) (t0 := t) (As := [iV x1]) (rest := []) M hl0 hS0 (c_X0_remove l ht hx1 hc8) (cwV 1 M.2.2.2.2.1 gX0_sweepFloor_X0_remove rfl rfl rfl (by decide +kernel) ⟨Nat.le_of_ble_eq_true rfl, Nat.le_of_ble_eq_true rfl⟩) (Or.inl ⟨by decide, ht⟩) (sE_2 G _ _) rfl rfl (Nat.le_of_ble_eq_true rfl) dX0_sweepFloor_22 rfl ⟨Nat.zero_le _, Nat.zero_le _⟩ (fun H locs hS10 => ?_)
        refine x_aload_n M hl0 dX0_sweepFloor_25 0 rfl ?_
        refine x_get (c0 := 2) (t0 := t) (v := .ref (G.1 6 t)) M hS10 (Or.inl ⟨by decide, ht⟩) (ref := "NamedMoves$Copies") inX0_sweepFloor_X0 (sE_2 G _ _) rfl 3 (by decide) (M.2.2.2.2.1 _ flX0_sweepFloor_21) rfl rfl dX0_sweepFloor_26 ?_
        refine x_iload_n M hl0 dX0_sweepFloor_29 1 rfl ?_
        refine x_iconst M dX0_sweepFloor_30 ?_
        refine x_iast (c0 := 6) (t0 := t) M hS10 (Or.inl ⟨by decide, ht⟩) (hs_6 G _) rfl g2 (by decide) ⟨by decide, by decide⟩ dX0_sweepFloor_31 (fun H locs hS11 => ?_)
        obtain ⟨g12, hf⟩ := gdt hf
        refine x_iinc M hl0 dX0_sweepFloor_32 1 rfl (by decide) [(1, iV (x1 + 1)), (0, .ref (G.1 2 t))] rfl (fun ls hl13 => ?_)
        refine x_goto (tgt := 4) M dX0_sweepFloor_35 (by decide) ?_
        exact ih (x1 + 1) (up w7 6 t x1.toNat 0) g12 _ _ hS11 _ (lv_sub hl13 [1, 0] rfl) _ _ hf

set_option maxHeartbeats 4000000 in
set_option maxRecDepth 100000 in
theorem c_X0_sweepFloor (l : Launch) {G : GG} {t : Nat} (ht : t < 8) {w : Wd} {r : Int} {w' : Wd} (hf : X0_sweepFloor t w = some (r, w')) : Met l yX0_sweepFloor wsX0_sweepFloor (rmk 1) (PcG G w [.ref (G.1 2 t)]) (QvG G w') 0 0 (GA G) := by
  refine met_of (own := RX0) (by decide) rfl (Nat.le_of_ble_eq_true rfl) rfl ?_
  intro p e s m args below meth c M hr ls hl0 hS0
  have hl0 : lv_has ls 2 [(0, .ref (G.1 2 t))] := hl0
  unfold X0_sweepFloor at hf
  refine x_sipush M dX0_sweepFloor_0 rfl ?_
  refine x_istore_n M hl0 dX0_sweepFloor_3 (by decide) [(1, iV 200), (0, .ref (G.1 2 t))] rfl (fun ls hl1 => ?_)
  exact X0_sweepFloor_b4_ok M hr ht LF 200 w ⟨by decide, by decide⟩ _ _ hS0 _ (lv_sub hl1 [1, 0] rfl) _ _ hf

/-! X5_endMove -/
theorem flX5_endMove_18 : Cond.fieldLink RX5 18 "NamedMoves$Store" "copies" "LNamedMoves$Copies;" ∈ wsX5_endMove := by decide +kernel
theorem flX5_endMove_55 : Cond.fieldLink RX5 55 "NamedMoves$Store" "moving" "Z" ∈ wsX5_endMove := by decide +kernel
theorem flX5_endMove_59 : Cond.fieldLink RX5 59 "NamedMoves$Store" "half" "I" ∈ wsX5_endMove := by decide +kernel
theorem flX5_endMove_68 : Cond.fieldLink RX5 68 "NamedMoves$Store" "movesEnded" "I" ∈ wsX5_endMove := by decide +kernel
theorem inX5_endMove_X5 : ∀ w ∈ u_ws RX5 TX5 10, w ∈ wsX5_endMove := by decide +kernel
set_option maxHeartbeats 4000000 in
set_option maxRecDepth 100000 in
theorem c_X5_endMove (l : Launch) {G : GG} {t : Nat} (ht : t < 8) {w : Wd} {r : Int} {w' : Wd} (hf : X5_endMove t w = some (r, w')) : Met l yX5_endMove wsX5_endMove (rmk 2) (PcG G w [.ref (G.1 0 t)]) (QvG G w') 0 0 (GA G) := by
  refine met_of (own := RX5) (by decide) rfl (Nat.le_of_ble_eq_true rfl) rfl ?_
  intro p e s m args below meth c M hr ls hl0 hS0
  have hl0 : lv_has ls 1 [(0, .ref (G.1 0 t))] := hl0
  unfold X5_endMove at hf
  refine x_aload_n M hl0 dX5_endMove_0 0 rfl ?_
  refine x_get (c0 := 0) (t0 := t) (v := .ref (G.1 2 t)) M hS0 (Or.inl ⟨by decide, ht⟩) (ref := "NamedMoves$Store") inX5_endMove_X5 (sE_0 G _ _) rfl 1 (by decide) (M.2.2.2.2.1 _ flX5_endMove_18) rfl rfl dX5_endMove_1 ?_
  refine x_iconst M dX5_endMove_4 ?_
  refine x_aload_n M hl0 dX5_endMove_5 0 rfl ?_
  refine x_get (c0 := 0) (t0 := t) (v := iV (w 0 t 3)) M hS0 (Or.inl ⟨by decide, ht⟩) (ref := "NamedMoves$Store") inX5_endMove_X5 (sE_0 G _ _) rfl 6 (by decide) (M.2.2.2.2.1 _ flX5_endMove_59) rfl rfl dX5_endMove_6 ?_
  obtain ⟨g1, hf⟩ := gdt hf
  refine x_isub M dX5_endMove_9 ?_
  obtain ⟨r2, w3, hc4, hf⟩ := bdt hf
  refine x_callVv (c0 := 2) (t0 := t) (As := [iV (1 - (w 0 t 3))]) (rest := []) M hl0 hS0 (c_X0_emptyHalf l ht g1 hc4) (cwV 1 M.2.2.2.2.1 gX5_endMove_X0_emptyHalf rfl rfl rfl (by decide +kernel) ⟨Nat.le_of_ble_eq_true rfl, Nat.le_of_ble_eq_true rfl⟩) (Or.inl ⟨by decide, ht⟩) (sE_2 G _ _) rfl rfl (Nat.le_of_ble_eq_true rfl) dX5_endMove_10 rfl ⟨Nat.zero_le _, Nat.zero_le _⟩ (fun H locs hS6 => ?_)
  refine x_aload_n M hl0 dX5_endMove_13 0 rfl ?_
  refine x_get (c0 := 0) (t0 := t) (v := .ref (G.1 2 t)) M hS6 (Or.inl ⟨by decide, ht⟩) (ref := "NamedMoves$Store") inX5_endMove_X5 (sE_0 G _ _) rfl 1 (by decide) (M.2.2.2.2.1 _ flX5_endMove_18) rfl rfl dX5_endMove_14 ?_
  obtain ⟨r7, w8, hc9, hf⟩ := bdt hf
  refine x_callVv (c0 := 2) (t0 := t) (As := []) (rest := []) M hl0 hS6 (c_X0_sweepFloor l ht  hc9) (cwV 0 M.2.2.2.2.1 gX5_endMove_X0_sweepFloor rfl rfl rfl (by decide +kernel) ⟨Nat.le_of_ble_eq_true rfl, Nat.le_of_ble_eq_true rfl⟩) (Or.inl ⟨by decide, ht⟩) (sE_2 G _ _) rfl rfl (Nat.le_of_ble_eq_true rfl) dX5_endMove_17 rfl ⟨Nat.zero_le _, Nat.zero_le _⟩ (fun H locs hS11 => ?_)
  refine x_aload_n M hl0 dX5_endMove_20 0 rfl ?_
  refine x_iconst M dX5_endMove_21 ?_
  refine x_put (c0 := 0) (t0 := t) M hS11 (Or.inl ⟨by decide, ht⟩) (ref := "NamedMoves$Store") inX5_endMove_X5 tyX5 tyX5_ok nmX5 (sE_0 G _ _) rfl 5 (by decide) (M.2.2.2.2.1 _ flX5_endMove_55) rfl rfl (ty := tyX5 5) ⟨by decide, by decide⟩ (tyX5_ok 5 (by decide)) (o_bool (Or.inl rfl) _ rfl) rfl (by simp) 2 (pset_0_2 G _ _ _) dX5_endMove_22 (fun H locs hS12 => ?_)
  refine x_aload_n M hl0 dX5_endMove_25 0 rfl ?_
  refine x_dup M dX5_endMove_26 rfl ?_
  refine x_get (c0 := 0) (t0 := t) (v := iV ((up w8 0 t 2 0) 0 t 6)) M hS12 (Or.inl ⟨by decide, ht⟩) (ref := "NamedMoves$Store") inX5_endMove_X5 (sE_0 G _ _) rfl 9 (by decide) (M.2.2.2.2.1 _ flX5_endMove_68) rfl rfl dX5_endMove_27 ?_
  refine x_iconst M dX5_endMove_30 ?_
  obtain ⟨g13, hf⟩ := gdt hf
  refine x_iadd M dX5_endMove_31 ?_
  refine x_put (c0 := 0) (t0 := t) M hS12 (Or.inl ⟨by decide, ht⟩) (ref := "NamedMoves$Store") inX5_endMove_X5 tyX5 tyX5_ok nmX5 (sE_0 G _ _) rfl 9 (by decide) (M.2.2.2.2.1 _ flX5_endMove_68) rfl rfl (ty := tyX5 9) g13 (tyX5_ok 9 (by decide)) rfl rfl (by simp) 6 (pset_0_6 G _ _ _) dX5_endMove_32 (fun H locs hS14 => ?_)
  exact x_vret M hr hf hS14 dX5_endMove_35

/-! X5_beginMove -/
theorem flX5_beginMove_25 : Cond.fieldLink RX5 25 "NamedMoves$Store" "queue" "LNamedMoves$Queue;" ∈ wsX5_beginMove := by decide +kernel
theorem flX5_beginMove_55 : Cond.fieldLink RX5 55 "NamedMoves$Store" "moving" "Z" ∈ wsX5_beginMove := by decide +kernel
theorem flX5_beginMove_59 : Cond.fieldLink RX5 59 "NamedMoves$Store" "half" "I" ∈ wsX5_beginMove := by decide +kernel
theorem flX5_beginMove_62 : Cond.fieldLink RX5 62 "NamedMoves$Store" "taken" "I" ∈ wsX5_beginMove := by decide +kernel
theorem flX5_beginMove_9 : Cond.fieldLink RX5 9 "NamedMoves$Store" "hooks" "[I" ∈ wsX5_beginMove := by decide +kernel
theorem inX5_beginMove_X5 : ∀ w ∈ u_ws RX5 TX5 10, w ∈ wsX5_beginMove := by decide +kernel
set_option maxHeartbeats 4000000 in
set_option maxRecDepth 100000 in
theorem X5_beginMove_b39_ok (M : MC p s m args meth c cX5_beginMove 2 RX5 wsX5_beginMove G) (hr : meth.sig.returnType = (some .int)) {t : Nat} (ht : t < 8) : ∀ n : Nat, ∀ x1 : Int, ∀ w : Wd, InR x1 → ∀ (H : Heap) (locs : List Loc), ST G s w H locs → ∀ ls : Array Slot, lv_has ls 2 [(0, .ref (G.1 0 t)), (1, iV x1)] → ∀ (r : Int) (w' : Wd), X5_beginMove_b39 t n x1 w = some (r, w') → W p l e (rmk 3) s m args below meth c H locs 0 0 (MQ below (QiG G r w') args s 0 0 (GA G)) (F0 m 39 ls []) := by
  intro n
  induction n with
  | zero =>
    intro x1 w hx1 H locs hS0 ls hl0 r w' hf
    cases hf
  | succ n ih =>
    intro x1 w hx1 H locs hS0 ls hl0 r w' hf
    rw [X5_beginMove_b39_s] at hf
    refine x_iload_n M hl0 dX5_beginMove_39 1 rfl ?_
    refine x_bipush M dX5_beginMove_40 rfl ?_
    refine x_icmp_ge (tgt := 61) M hx1 ⟨by decide, by decide⟩ dX5_beginMove_42 (by decide) (fun hc => ?_) (fun hc => ?_)
    · have hf := iff_ hf (Int.not_lt.mpr hc)
      refine x_aload_n M hl0 dX5_beginMove_61 0 rfl ?_
      refine x_get (c0 := 0) (t0 := t) (v := .ref (G.1 8 t)) M hS0 (Or.inl ⟨by decide, ht⟩) (ref := "NamedMoves$Store") inX5_beginMove_X5 (sE_0 G _ _) rfl 2 (by decide) (M.2.2.2.2.1 _ flX5_beginMove_25) rfl rfl dX5_beginMove_62 ?_
      obtain ⟨r11, w12, hc13, hf⟩ := bdt hf
      refine x_callVi (c0 := 8) (t0 := t) (As := []) (rest := []) M hl0 hS0 (c_X3_size l ht  hc13) (cwV 0 M.2.2.2.2.1 gX5_beginMove_X3_size rfl rfl rfl (by decide +kernel) ⟨Nat.le_of_ble_eq_true rfl, Nat.le_of_ble_eq_true rfl⟩) (Or.inl ⟨by decide, ht⟩) (sE_8 G _ _) rfl rfl (Nat.le_of_ble_eq_true rfl) dX5_beginMove_65 rfl ⟨Nat.zero_le _, Nat.zero_le _⟩ (fun H locs hi14 hS15 => ?_)
      refine x_istore_n M hl0 dX5_beginMove_68 (by decide) [(1, iV r11), (0, .ref (G.1 0 t))] rfl (fun ls hl16 => ?_)
      refine x_iload_n M hl16 dX5_beginMove_69 0 rfl ?_
      refine x_if_ne (tgt := 77) M hi14 dX5_beginMove_70 (by decide) (fun hc => ?_) (fun hc => ?_)
      · have hf := iff_ hf hc
        refine x_iload_n M hl16 dX5_beginMove_77 0 rfl ?_
        exact x_iret M hr hf hS15 hi14 dX5_beginMove_78
      · have hf := ift hf (Decidable.of_not_not hc)
        refine x_aload_n M hl16 dX5_beginMove_73 1 rfl ?_
        obtain ⟨r17, w18, hc19, hf⟩ := bdt hf
        refine x_callVv (c0 := 0) (t0 := t) (As := []) (rest := []) M hl16 hS15 (c_X5_endMove l ht  hc19) (cwV 0 M.2.2.2.2.1 gX5_beginMove_X5_endMove rfl rfl rfl (by decide +kernel) ⟨Nat.le_of_ble_eq_true rfl, Nat.le_of_ble_eq_true rfl⟩) (Or.inl ⟨by decide, ht⟩) (sE_0 G _ _) rfl rfl (Nat.le_of_ble_eq_true rfl) dX5_beginMove_74 rfl ⟨Nat.zero_le _, Nat.zero_le _⟩ (fun H locs hS21 => ?_)
        refine x_iload_n M hl16 dX5_beginMove_77 0 rfl ?_
        exact x_iret M hr hf hS21 hi14 dX5_beginMove_78
    · have hf := ift hf (Int.not_le.mp hc)
      refine x_aload_n M hl0 dX5_beginMove_45 0 rfl ?_
      refine x_aload_n M hl0 dX5_beginMove_46 0 rfl ?_
      refine x_get (c0 := 0) (t0 := t) (v := .ref (G.1 1 t)) M hS0 (Or.inl ⟨by decide, ht⟩) (ref := "NamedMoves$Store") inX5_beginMove_X5 (sE_0 G _ _) rfl 0 (by decide) (M.2.2.2.2.1 _ flX5_beginMove_9) rfl rfl dX5_beginMove_47 ?_
      refine x_iload_n M hl0 dX5_beginMove_50 1 rfl ?_
      obtain ⟨r22, w23, hc24, hf⟩ := bdt hf
      refine x_callVi (c0 := 0) (t0 := t) (As := [.ref (G.1 1 t), iV x1]) (rest := []) M hl0 hS0 (c_X5_readIn_h l ht ht hx1 hc24) (cwV 2 M.2.2.2.2.1 gX5_beginMove_X5_readIn rfl rfl rfl (by decide +kernel) ⟨Nat.le_of_ble_eq_true rfl, Nat.le_of_ble_eq_true rfl⟩) (Or.inl ⟨by decide, ht⟩) (sE_0 G _ _) rfl rfl (Nat.le_of_ble_eq_true rfl) dX5_beginMove_51 rfl ⟨Nat.zero_le _, Nat.zero_le _⟩ (fun H locs hi25 hS26 => ?_)
      refine x_pop M dX5_beginMove_54 rfl ?_
      obtain ⟨g27, hf⟩ := gdt hf
      refine x_iinc M hl0 dX5_beginMove_55 1 rfl (by decide) [(1, iV (x1 + 1)), (0, .ref (G.1 0 t))] rfl (fun ls hl28 => ?_)
      refine x_goto (tgt := 39) M dX5_beginMove_58 (by decide) ?_
      exact ih (x1 + 1) w23 g27 _ _ hS26 _ (lv_sub hl28 [1, 0] rfl) _ _ hf

set_option maxHeartbeats 4000000 in
set_option maxRecDepth 100000 in
theorem c_X5_beginMove (l : Launch) {G : GG} {t : Nat} (ht : t < 8) {w : Wd} {r : Int} {w' : Wd} (hf : X5_beginMove t w = some (r, w')) : Met l yX5_beginMove wsX5_beginMove (rmk 3) (PcG G w [.ref (G.1 0 t)]) (QiG G r w') 0 0 (GA G) := by
  refine met_of (own := RX5) (by decide) rfl (Nat.le_of_ble_eq_true rfl) rfl ?_
  intro p e s m args below meth c M hr ls hl0 hS0
  have hl0 : lv_has ls 2 [(0, .ref (G.1 0 t))] := hl0
  unfold X5_beginMove at hf
  refine x_aload_n M hl0 dX5_beginMove_0 0 rfl ?_
  refine x_get (c0 := 0) (t0 := t) (v := iV (w 0 t 2)) M hS0 (Or.inl ⟨by decide, ht⟩) (ref := "NamedMoves$Store") inX5_beginMove_X5 (sE_0 G _ _) rfl 5 (by decide) (M.2.2.2.2.1 _ flX5_beginMove_55) rfl rfl dX5_beginMove_1 ?_
  refine x_if_eq (tgt := 10) M (hS0.inr _ _ _) dX5_beginMove_4 (by decide) (fun hc => ?_) (fun hc => ?_)
  · have hf := ift hf hc
    refine x_aload_n M hl0 dX5_beginMove_10 0 rfl ?_
    refine x_iconst M dX5_beginMove_11 ?_
    refine x_put (c0 := 0) (t0 := t) M hS0 (Or.inl ⟨by decide, ht⟩) (ref := "NamedMoves$Store") inX5_beginMove_X5 tyX5 tyX5_ok nmX5 (sE_0 G _ _) rfl 5 (by decide) (M.2.2.2.2.1 _ flX5_beginMove_55) rfl rfl (ty := tyX5 5) ⟨by decide, by decide⟩ (tyX5_ok 5 (by decide)) (o_bool (Or.inr rfl) _ rfl) rfl (by simp) 2 (pset_0_2 G _ _ _) dX5_beginMove_12 (fun H locs hS1 => ?_)
    refine x_aload_n M hl0 dX5_beginMove_15 0 rfl ?_
    refine x_iconst M dX5_beginMove_16 ?_
    refine x_aload_n M hl0 dX5_beginMove_17 0 rfl ?_
    refine x_get (c0 := 0) (t0 := t) (v := iV ((up w 0 t 2 1) 0 t 3)) M hS1 (Or.inl ⟨by decide, ht⟩) (ref := "NamedMoves$Store") inX5_beginMove_X5 (sE_0 G _ _) rfl 6 (by decide) (M.2.2.2.2.1 _ flX5_beginMove_59) rfl rfl dX5_beginMove_18 ?_
    obtain ⟨g2, hf⟩ := gdt hf
    refine x_isub M dX5_beginMove_21 ?_
    refine x_put (c0 := 0) (t0 := t) M hS1 (Or.inl ⟨by decide, ht⟩) (ref := "NamedMoves$Store") inX5_beginMove_X5 tyX5 tyX5_ok nmX5 (sE_0 G _ _) rfl 6 (by decide) (M.2.2.2.2.1 _ flX5_beginMove_59) rfl rfl (ty := tyX5 6) g2 (tyX5_ok 6 (by decide)) rfl rfl (by simp) 3 (pset_0_3 G _ _ _) dX5_beginMove_22 (fun H locs hS3 => ?_)
    refine x_aload_n M hl0 dX5_beginMove_25 0 rfl ?_
    refine x_iconst M dX5_beginMove_26 ?_
    refine x_put (c0 := 0) (t0 := t) M hS3 (Or.inl ⟨by decide, ht⟩) (ref := "NamedMoves$Store") inX5_beginMove_X5 tyX5 tyX5_ok nmX5 (sE_0 G _ _) rfl 7 (by decide) (M.2.2.2.2.1 _ flX5_beginMove_62) rfl rfl (ty := tyX5 7) ⟨by decide, by decide⟩ (tyX5_ok 7 (by decide)) rfl rfl (by simp) 4 (pset_0_4 G _ _ _) dX5_beginMove_27 (fun H locs hS4 => ?_)
    refine x_aload_n M hl0 dX5_beginMove_30 0 rfl ?_
    refine x_get (c0 := 0) (t0 := t) (v := .ref (G.1 8 t)) M hS4 (Or.inl ⟨by decide, ht⟩) (ref := "NamedMoves$Store") inX5_beginMove_X5 (sE_0 G _ _) rfl 2 (by decide) (M.2.2.2.2.1 _ flX5_beginMove_25) rfl rfl dX5_beginMove_31 ?_
    obtain ⟨r5, w6, hc7, hf⟩ := bdt hf
    refine x_callVv (c0 := 8) (t0 := t) (As := []) (rest := []) M hl0 hS4 (c_X3_clear l ht  hc7) (cwV 0 M.2.2.2.2.1 gX5_beginMove_X3_clear rfl rfl rfl (by decide +kernel) ⟨Nat.le_of_ble_eq_true rfl, Nat.le_of_ble_eq_true rfl⟩) (Or.inl ⟨by decide, ht⟩) (sE_8 G _ _) rfl rfl (Nat.le_of_ble_eq_true rfl) dX5_beginMove_34 rfl ⟨Nat.zero_le _, Nat.zero_le _⟩ (fun H locs hS9 => ?_)
    refine x_iconst M dX5_beginMove_37 ?_
    refine x_istore_n M hl0 dX5_beginMove_38 (by decide) [(1, iV 0), (0, .ref (G.1 0 t))] rfl (fun ls hl10 => ?_)
    exact X5_beginMove_b39_ok M hr ht LF 0 w6 ⟨by decide, by decide⟩ _ _ hS9 _ (lv_sub hl10 [1, 0] rfl) _ _ hf
  · have hf := iff_ hf hc
    refine x_bipush M dX5_beginMove_7 rfl ?_
    exact x_iret M hr hf hS0 ⟨by decide, by decide⟩ dX5_beginMove_9

/-! X7_begin -/
theorem flX7_begin_12 : Cond.fieldLink RX7 12 "NamedMoves" "store" "LNamedMoves$Store;" ∈ wsX7_begin := by decide +kernel
theorem flX7_begin_22 : Cond.fieldLink RX7 22 "NamedMoves" "history" "LNamedMoves$History;" ∈ wsX7_begin := by decide +kernel
theorem inX7_begin_X7 : ∀ w ∈ u_ws RX7 TX7 6, w ∈ wsX7_begin := by decide +kernel
set_option maxHeartbeats 4000000 in
set_option maxRecDepth 100000 in
theorem c_X7_begin (l : Launch) {G : GG} {w : Wd} {r : Int} {w' : Wd} (hf : X7_begin w = some (r, w')) : Met l yX7_begin wsX7_begin (rmk 4) (PcG G w [.ref (G.1 10 0)]) (QiG G r w') 0 0 (GA G) := by
  refine met_of (own := RX7) (by decide) rfl (Nat.le_of_ble_eq_true rfl) rfl ?_
  intro p e s m args below meth c M hr ls hl0 hS0
  have hl0 : lv_has ls 1 [(0, .ref (G.1 10 0))] := hl0
  unfold X7_begin at hf
  refine x_aload_n M hl0 dX7_begin_0 0 rfl ?_
  refine x_get (c0 := 10) (t0 := 0) (v := .ref (G.1 11 0)) M hS0 (by decide) (ref := "NamedMoves") inX7_begin_X7 (sE_10 G _ _) rfl 2 (by decide) (M.2.2.2.2.1 _ flX7_begin_22) rfl rfl dX7_begin_1 ?_
  refine x_aload_n M hl0 dX7_begin_4 0 rfl ?_
  refine x_get (c0 := 10) (t0 := 0) (v := .ref (G.1 0 0)) M hS0 (by decide) (ref := "NamedMoves") inX7_begin_X7 (sE_10 G _ _) rfl 0 (by decide) (M.2.2.2.2.1 _ flX7_begin_12) rfl rfl dX7_begin_5 ?_
  obtain ⟨r1, w2, hc3, hf⟩ := bdt hf
  refine x_callVv (c0 := 11) (t0 := 0) (As := [.ref (G.1 0 0)]) (rest := []) M hl0 hS0 (c_X2_draft l (by decide)  hc3) (cwV 1 M.2.2.2.2.1 gX7_begin_X2_draft rfl rfl rfl (by decide +kernel) ⟨Nat.le_of_ble_eq_true rfl, Nat.le_of_ble_eq_true rfl⟩) (by decide) (sE_11 G _ _) rfl rfl (Nat.le_of_ble_eq_true rfl) dX7_begin_8 rfl ⟨Nat.zero_le _, Nat.zero_le _⟩ (fun H locs hS5 => ?_)
  refine x_aload_n M hl0 dX7_begin_11 0 rfl ?_
  refine x_aload_n M hl0 dX7_begin_12 0 rfl ?_
  refine x_get (c0 := 10) (t0 := 0) (v := .ref (G.1 0 0)) M hS5 (by decide) (ref := "NamedMoves") inX7_begin_X7 (sE_10 G _ _) rfl 0 (by decide) (M.2.2.2.2.1 _ flX7_begin_12) rfl rfl dX7_begin_13 ?_
  obtain ⟨r6, w7, hc8, hf⟩ := bdt hf
  refine x_callVi (c0 := 0) (t0 := 0) (As := []) (rest := [.ref (G.1 10 0)]) M hl0 hS5 (c_X5_beginMove l (by decide)  hc8) (cwV 0 M.2.2.2.2.1 gX7_begin_X5_beginMove rfl rfl rfl (by decide +kernel) ⟨Nat.le_of_ble_eq_true rfl, Nat.le_of_ble_eq_true rfl⟩) (by decide) (sE_0 G _ _) rfl rfl (Nat.le_of_ble_eq_true rfl) dX7_begin_16 rfl ⟨Nat.zero_le _, Nat.zero_le _⟩ (fun H locs hi9 hS10 => ?_)
  obtain ⟨r11, w12, hc13, hf⟩ := bdt hf
  refine x_callVi (c0 := 10) (t0 := 0) (As := [iV r6]) (rest := []) M hl0 hS10 (c_X7_recorded l  hi9 hc13) (cwV 1 M.2.2.2.2.1 gX7_begin_X7_recorded rfl rfl rfl (by decide +kernel) ⟨Nat.le_of_ble_eq_true rfl, Nat.le_of_ble_eq_true rfl⟩) (by decide) (sE_10 G _ _) rfl rfl (Nat.le_of_ble_eq_true rfl) dX7_begin_19 rfl ⟨Nat.zero_le _, Nat.zero_le _⟩ (fun H locs hi14 hS15 => ?_)
  exact x_iret M hr hf hS15 hi14 dX7_begin_22

/-! X3_takeFirst -/
theorem flX3_takeFirst_21 : Cond.fieldLink RX3 21 "NamedMoves$Queue" "first" "I" ∈ wsX3_takeFirst := by decide +kernel
theorem flX3_takeFirst_25 : Cond.fieldLink RX3 25 "NamedMoves$Queue" "end" "I" ∈ wsX3_takeFirst := by decide +kernel
theorem flX3_takeFirst_9 : Cond.fieldLink RX3 9 "NamedMoves$Queue" "addresses" "[I" ∈ wsX3_takeFirst := by decide +kernel
theorem inX3_takeFirst_X3 : ∀ w ∈ u_ws RX3 TX3 3, w ∈ wsX3_takeFirst := by decide +kernel
set_option maxHeartbeats 4000000 in
set_option maxRecDepth 100000 in
theorem c_X3_takeFirst (l : Launch) {G : GG} {t : Nat} (ht : t < 8) {w : Wd} {r : Int} {w' : Wd} (hf : X3_takeFirst t w = some (r, w')) : Met l yX3_takeFirst wsX3_takeFirst (rmk 0) (PcG G w [.ref (G.1 8 t)]) (QiG G r w') 0 0 (GA G) := by
  refine met_of (own := RX3) (by decide) rfl (Nat.le_of_ble_eq_true rfl) rfl ?_
  intro p e s m args below meth c M hr ls hl0 hS0
  have hl0 : lv_has ls 1 [(0, .ref (G.1 8 t))] := hl0
  unfold X3_takeFirst at hf
  refine x_aload_n M hl0 dX3_takeFirst_0 0 rfl ?_
  refine x_get (c0 := 8) (t0 := t) (v := iV (w 8 t 0)) M hS0 (Or.inl ⟨by decide, ht⟩) (ref := "NamedMoves$Queue") inX3_takeFirst_X3 (sE_8 G _ _) rfl 1 (by decide) (M.2.2.2.2.1 _ flX3_takeFirst_21) rfl rfl dX3_takeFirst_1 ?_
  refine x_if_lt (tgt := 27) M (hS0.inr _ _ _) dX3_takeFirst_4 (by decide) (fun hc => ?_) (fun hc => ?_)
  · have hf := ift hf hc
    refine x_sipush M dX3_takeFirst_27 rfl ?_
    exact x_iret M hr hf hS0 ⟨by decide, by decide⟩ dX3_takeFirst_30
  · have hf := iff_ hf hc
    refine x_aload_n M hl0 dX3_takeFirst_7 0 rfl ?_
    refine x_get (c0 := 8) (t0 := t) (v := iV (w 8 t 0)) M hS0 (Or.inl ⟨by decide, ht⟩) (ref := "NamedMoves$Queue") inX3_takeFirst_X3 (sE_8 G _ _) rfl 1 (by decide) (M.2.2.2.2.1 _ flX3_takeFirst_21) rfl rfl dX3_takeFirst_8 ?_
    refine x_aload_n M hl0 dX3_takeFirst_11 0 rfl ?_
    refine x_get (c0 := 8) (t0 := t) (v := iV (w 8 t 1)) M hS0 (Or.inl ⟨by decide, ht⟩) (ref := "NamedMoves$Queue") inX3_takeFirst_X3 (sE_8 G _ _) rfl 2 (by decide) (M.2.2.2.2.1 _ flX3_takeFirst_25) rfl rfl dX3_takeFirst_12 ?_
    refine x_icmp_ge (tgt := 27) M (hS0.inr _ _ _) (hS0.inr _ _ _) dX3_takeFirst_15 (by decide) (fun hc => ?_) (fun hc => ?_)
    · have hf := iff_ hf (Int.not_lt.mpr hc)
      refine x_sipush M dX3_takeFirst_27 rfl ?_
      exact x_iret M hr hf hS0 ⟨by decide, by decide⟩ dX3_takeFirst_30
    · have hf := ift hf (Int.not_le.mp hc)
      refine x_aload_n M hl0 dX3_takeFirst_18 0 rfl ?_
      refine x_get (c0 := 8) (t0 := t) (v := iV (w 8 t 0)) M hS0 (Or.inl ⟨by decide, ht⟩) (ref := "NamedMoves$Queue") inX3_takeFirst_X3 (sE_8 G _ _) rfl 1 (by decide) (M.2.2.2.2.1 _ flX3_takeFirst_21) rfl rfl dX3_takeFirst_19 ?_
      refine x_bipush M dX3_takeFirst_22 rfl ?_
      refine x_icmp_lt (tgt := 31) M (hS0.inr _ _ _) ⟨by decide, by decide⟩ dX3_takeFirst_24 (by decide) (fun hc => ?_) (fun hc => ?_)
      · have hf := ift hf hc
        refine x_aload_n M hl0 dX3_takeFirst_31 0 rfl ?_
        refine x_dup M dX3_takeFirst_32 rfl ?_
        refine x_get (c0 := 8) (t0 := t) (v := iV (w 8 t 0)) M hS0 (Or.inl ⟨by decide, ht⟩) (ref := "NamedMoves$Queue") inX3_takeFirst_X3 (sE_8 G _ _) rfl 1 (by decide) (M.2.2.2.2.1 _ flX3_takeFirst_21) rfl rfl dX3_takeFirst_33 ?_
        refine x_iconst M dX3_takeFirst_36 ?_
        obtain ⟨g1, hf⟩ := gdt hf
        refine x_iadd M dX3_takeFirst_37 ?_
        refine x_put (c0 := 8) (t0 := t) M hS0 (Or.inl ⟨by decide, ht⟩) (ref := "NamedMoves$Queue") inX3_takeFirst_X3 tyX3 tyX3_ok nmX3 (sE_8 G _ _) rfl 1 (by decide) (M.2.2.2.2.1 _ flX3_takeFirst_21) rfl rfl (ty := tyX3 1) g1 (tyX3_ok 1 (by decide)) rfl rfl (by simp) 0 (pset_8_0 G _ _ _) dX3_takeFirst_38 (fun H locs hS2 => ?_)
        refine x_aload_n M hl0 dX3_takeFirst_41 0 rfl ?_
        refine x_get (c0 := 8) (t0 := t) (v := .ref (G.1 9 t)) M hS2 (Or.inl ⟨by decide, ht⟩) (ref := "NamedMoves$Queue") inX3_takeFirst_X3 (sE_8 G _ _) rfl 0 (by decide) (M.2.2.2.2.1 _ flX3_takeFirst_9) rfl rfl dX3_takeFirst_42 ?_
        refine x_aload_n M hl0 dX3_takeFirst_45 0 rfl ?_
        refine x_get (c0 := 8) (t0 := t) (v := iV ((up w 8 t 0 ((w 8 t 0) + 1)) 8 t 0)) M hS2 (Or.inl ⟨by decide, ht⟩) (ref := "NamedMoves$Queue") inX3_takeFirst_X3 (sE_8 G _ _) rfl 1 (by decide) (M.2.2.2.2.1 _ flX3_takeFirst_21) rfl rfl dX3_takeFirst_46 ?_
        refine x_iconst M dX3_takeFirst_49 ?_
        obtain ⟨g3, hf⟩ := gdt hf
        refine x_isub M dX3_takeFirst_50 ?_
        obtain ⟨g4, hf⟩ := gdt hf
        refine x_iald (c0 := 9) (t0 := t) M hS2 (Or.inl ⟨by decide, ht⟩) (hs_9 G _) rfl g4 (by decide) dX3_takeFirst_51 ?_
        exact x_iret M hr hf hS2 (hS2.inr _ _ _) dX3_takeFirst_52
      · have hf := iff_ hf hc
        refine x_sipush M dX3_takeFirst_27 rfl ?_
        exact x_iret M hr hf hS0 ⟨by decide, by decide⟩ dX3_takeFirst_30

/-! X5_stepsUpTo -/
theorem flX5_stepsUpTo_18 : Cond.fieldLink RX5 18 "NamedMoves$Store" "copies" "LNamedMoves$Copies;" ∈ wsX5_stepsUpTo := by decide +kernel
theorem flX5_stepsUpTo_25 : Cond.fieldLink RX5 25 "NamedMoves$Store" "queue" "LNamedMoves$Queue;" ∈ wsX5_stepsUpTo := by decide +kernel
theorem flX5_stepsUpTo_55 : Cond.fieldLink RX5 55 "NamedMoves$Store" "moving" "Z" ∈ wsX5_stepsUpTo := by decide +kernel
theorem inX5_stepsUpTo_X0 : ∀ w ∈ u_ws RX0 TX0 5, w ∈ wsX5_stepsUpTo := by decide +kernel
theorem inX5_stepsUpTo_X5 : ∀ w ∈ u_ws RX5 TX5 10, w ∈ wsX5_stepsUpTo := by decide +kernel
set_option maxHeartbeats 4000000 in
set_option maxRecDepth 100000 in
theorem X5_stepsUpTo_b2_ok (M : MC p s m args meth c cX5_stepsUpTo 4 RX5 wsX5_stepsUpTo G) (hr : meth.sig.returnType = (some .int)) {t : Nat} (ht : t < 8) : ∀ n : Nat, ∀ x1 : Int, ∀ x2 : Int, ∀ w : Wd, InR x1 → InR x2 → ∀ (H : Heap) (locs : List Loc), ST G s w H locs → ∀ ls : Array Slot, lv_has ls 4 [(0, .ref (G.1 0 t)), (1, iV x1), (2, iV x2)] → ∀ (r : Int) (w' : Wd), X5_stepsUpTo_b2 t n x1 x2 w = some (r, w') → W p l e (rmk 3) s m args below meth c H locs 0 0 (MQ below (QiG G r w') args s 0 0 (GA G)) (F0 m 2 ls []) := by
  intro n
  induction n with
  | zero =>
    intro x1 x2 w hx1 hx2 H locs hS0 ls hl0 r w' hf
    cases hf
  | succ n ih =>
    intro x1 x2 w hx1 hx2 H locs hS0 ls hl0 r w' hf
    rw [X5_stepsUpTo_b2_s] at hf
    refine x_aload_n M hl0 dX5_stepsUpTo_2 0 rfl ?_
    refine x_get (c0 := 0) (t0 := t) (v := iV (w 0 t 2)) M hS0 (Or.inl ⟨by decide, ht⟩) (ref := "NamedMoves$Store") inX5_stepsUpTo_X5 (sE_0 G _ _) rfl 5 (by decide) (M.2.2.2.2.1 _ flX5_stepsUpTo_55) rfl rfl dX5_stepsUpTo_3 ?_
    refine x_if_eq (tgt := 74) M (hS0.inr _ _ _) dX5_stepsUpTo_6 (by decide) (fun hc => ?_) (fun hc => ?_)
    · have hf := ift hf hc
      refine x_iload_n M hl0 dX5_stepsUpTo_74 2 rfl ?_
      exact x_iret M hr hf hS0 hx2 dX5_stepsUpTo_75
    · have hf := iff_ hf hc
      refine x_iload_n M hl0 dX5_stepsUpTo_9 2 rfl ?_
      refine x_iload_n M hl0 dX5_stepsUpTo_10 1 rfl ?_
      refine x_icmp_ge (tgt := 74) M hx2 hx1 dX5_stepsUpTo_11 (by decide) (fun hc => ?_) (fun hc => ?_)
      · have hf := iff_ hf (Int.not_lt.mpr hc)
        refine x_iload_n M hl0 dX5_stepsUpTo_74 2 rfl ?_
        exact x_iret M hr hf hS0 hx2 dX5_stepsUpTo_75
      · have hf := ift hf (Int.not_le.mp hc)
        refine x_aload_n M hl0 dX5_stepsUpTo_14 0 rfl ?_
        refine x_get (c0 := 0) (t0 := t) (v := .ref (G.1 8 t)) M hS0 (Or.inl ⟨by decide, ht⟩) (ref := "NamedMoves$Store") inX5_stepsUpTo_X5 (sE_0 G _ _) rfl 2 (by decide) (M.2.2.2.2.1 _ flX5_stepsUpTo_25) rfl rfl dX5_stepsUpTo_15 ?_
        obtain ⟨r2, w3, hc4, hf⟩ := bdt hf
        refine x_callVi (c0 := 8) (t0 := t) (As := []) (rest := []) M hl0 hS0 (c_X3_takeFirst l ht  hc4) (cwV 0 M.2.2.2.2.1 gX5_stepsUpTo_X3_takeFirst rfl rfl rfl (by decide +kernel) ⟨Nat.le_of_ble_eq_true rfl, Nat.le_of_ble_eq_true rfl⟩) (Or.inl ⟨by decide, ht⟩) (sE_8 G _ _) rfl rfl (Nat.le_of_ble_eq_true rfl) dX5_stepsUpTo_18 rfl ⟨Nat.zero_le _, Nat.zero_le _⟩ (fun H locs hi5 hS6 => ?_)
        refine x_istore_n M hl0 dX5_stepsUpTo_21 (by decide) [(3, iV r2), (0, .ref (G.1 0 t)), (1, iV x1), (2, iV x2)] rfl (fun ls hl7 => ?_)
        refine x_aload_n M hl7 dX5_stepsUpTo_22 1 rfl ?_
        refine x_aload_n M hl7 dX5_stepsUpTo_23 1 rfl ?_
        refine x_get (c0 := 0) (t0 := t) (v := .ref (G.1 2 t)) M hS6 (Or.inl ⟨by decide, ht⟩) (ref := "NamedMoves$Store") inX5_stepsUpTo_X5 (sE_0 G _ _) rfl 1 (by decide) (M.2.2.2.2.1 _ flX5_stepsUpTo_18) rfl rfl dX5_stepsUpTo_24 ?_
        refine x_getN (host := "NamedMoves") (c0 := 2) (t0 := t) (v := .ref (G.1 7 t)) M hS6 (Or.inl ⟨by decide, ht⟩) (ref := "NamedMoves$Copies") inX5_stepsUpTo_X0 (sE_2 G _ _) rfl 4 (by decide) M.2.2.2.2.2.2.2.2.2.1 rfl rfl dX5_stepsUpTo_27 ?_
        refine x_iload_n M hl7 dX5_stepsUpTo_30 0 rfl ?_
        refine x_iconst M dX5_stepsUpTo_31 ?_
        obtain ⟨g8, hf⟩ := gdt hf
        refine x_imul M dX5_stepsUpTo_32 ?_
        obtain ⟨r9, w10, hc11, hf⟩ := bdt hf
        refine x_callVi (c0 := 0) (t0 := t) (As := [.ref (G.1 7 t), iV (r2 * 2)]) (rest := []) M hl7 hS6 (c_X5_readIn_n l ht ht g8 hc11) (cwV 2 M.2.2.2.2.1 gX5_stepsUpTo_X5_readIn rfl rfl rfl (by decide +kernel) ⟨Nat.le_of_ble_eq_true rfl, Nat.le_of_ble_eq_true rfl⟩) (Or.inl ⟨by decide, ht⟩) (sE_0 G _ _) rfl rfl (Nat.le_of_ble_eq_true rfl) dX5_stepsUpTo_33 rfl ⟨Nat.zero_le _, Nat.zero_le _⟩ (fun H locs hi12 hS13 => ?_)
        refine x_pop M dX5_stepsUpTo_36 rfl ?_
        refine x_aload_n M hl7 dX5_stepsUpTo_37 1 rfl ?_
        refine x_aload_n M hl7 dX5_stepsUpTo_38 1 rfl ?_
        refine x_get (c0 := 0) (t0 := t) (v := .ref (G.1 2 t)) M hS13 (Or.inl ⟨by decide, ht⟩) (ref := "NamedMoves$Store") inX5_stepsUpTo_X5 (sE_0 G _ _) rfl 1 (by decide) (M.2.2.2.2.1 _ flX5_stepsUpTo_18) rfl rfl dX5_stepsUpTo_39 ?_
        refine x_getN (host := "NamedMoves") (c0 := 2) (t0 := t) (v := .ref (G.1 7 t)) M hS13 (Or.inl ⟨by decide, ht⟩) (ref := "NamedMoves$Copies") inX5_stepsUpTo_X0 (sE_2 G _ _) rfl 4 (by decide) M.2.2.2.2.2.2.2.2.2.1 rfl rfl dX5_stepsUpTo_42 ?_
        refine x_iload_n M hl7 dX5_stepsUpTo_45 0 rfl ?_
        refine x_iconst M dX5_stepsUpTo_46 ?_
        refine x_imul M dX5_stepsUpTo_47 ?_
        refine x_iconst M dX5_stepsUpTo_48 ?_
        obtain ⟨g14, hf⟩ := gdt hf
        refine x_iadd M dX5_stepsUpTo_49 ?_
        obtain ⟨r15, w16, hc17, hf⟩ := bdt hf
        refine x_callVi (c0 := 0) (t0 := t) (As := [.ref (G.1 7 t), iV ((r2 * 2) + 1)]) (rest := []) M hl7 hS13 (c_X5_readIn_n l ht ht g14 hc17) (cwV 2 M.2.2.2.2.1 gX5_stepsUpTo_X5_readIn rfl rfl rfl (by decide +kernel) ⟨Nat.le_of_ble_eq_true rfl, Nat.le_of_ble_eq_true rfl⟩) (Or.inl ⟨by decide, ht⟩) (sE_0 G _ _) rfl rfl (Nat.le_of_ble_eq_true rfl) dX5_stepsUpTo_50 rfl ⟨Nat.zero_le _, Nat.zero_le _⟩ (fun H locs hi18 hS19 => ?_)
        refine x_pop M dX5_stepsUpTo_53 rfl ?_
        refine x_aload_n M hl7 dX5_stepsUpTo_54 1 rfl ?_
        refine x_get (c0 := 0) (t0 := t) (v := .ref (G.1 8 t)) M hS19 (Or.inl ⟨by decide, ht⟩) (ref := "NamedMoves$Store") inX5_stepsUpTo_X5 (sE_0 G _ _) rfl 2 (by decide) (M.2.2.2.2.1 _ flX5_stepsUpTo_25) rfl rfl dX5_stepsUpTo_55 ?_
        obtain ⟨r20, w21, hc22, hf⟩ := bdt hf
        refine x_callVi (c0 := 8) (t0 := t) (As := []) (rest := []) M hl7 hS19 (c_X3_size l ht  hc22) (cwV 0 M.2.2.2.2.1 gX5_stepsUpTo_X3_size rfl rfl rfl (by decide +kernel) ⟨Nat.le_of_ble_eq_true rfl, Nat.le_of_ble_eq_true rfl⟩) (Or.inl ⟨by decide, ht⟩) (sE_8 G _ _) rfl rfl (Nat.le_of_ble_eq_true rfl) dX5_stepsUpTo_58 rfl ⟨Nat.zero_le _, Nat.zero_le _⟩ (fun H locs hi23 hS24 => ?_)
        refine x_if_ne (tgt := 68) M hi23 dX5_stepsUpTo_61 (by decide) (fun hc => ?_) (fun hc => ?_)
        · have hf := iff_ hf hc
          obtain ⟨g25, hf⟩ := gdt hf
          refine x_iinc M hl7 dX5_stepsUpTo_68 3 rfl (by decide) [(2, iV (x2 + 1)), (3, iV r2), (0, .ref (G.1 0 t)), (1, iV x1)] rfl (fun ls hl26 => ?_)
          refine x_goto (tgt := 2) M dX5_stepsUpTo_71 (by decide) ?_
          exact ih x1 (x2 + 1) w21 hx1 g25 _ _ hS24 _ (lv_sub hl26 [2, 3, 0] rfl) _ _ hf
        · have hf := ift hf (Decidable.of_not_not hc)
          refine x_aload_n M hl7 dX5_stepsUpTo_64 1 rfl ?_
          obtain ⟨r27, w28, hc29, hf⟩ := bdt hf
          refine x_callVv (c0 := 0) (t0 := t) (As := []) (rest := []) M hl7 hS24 (c_X5_endMove l ht  hc29) (cwV 0 M.2.2.2.2.1 gX5_stepsUpTo_X5_endMove rfl rfl rfl (by decide +kernel) ⟨Nat.le_of_ble_eq_true rfl, Nat.le_of_ble_eq_true rfl⟩) (Or.inl ⟨by decide, ht⟩) (sE_0 G _ _) rfl rfl (Nat.le_of_ble_eq_true rfl) dX5_stepsUpTo_65 rfl ⟨Nat.zero_le _, Nat.zero_le _⟩ (fun H locs hS31 => ?_)
          obtain ⟨g32, hf⟩ := gdt hf
          refine x_iinc M hl7 dX5_stepsUpTo_68 3 rfl (by decide) [(2, iV (x2 + 1)), (3, iV r2), (0, .ref (G.1 0 t)), (1, iV x1)] rfl (fun ls hl33 => ?_)
          refine x_goto (tgt := 2) M dX5_stepsUpTo_71 (by decide) ?_
          exact ih x1 (x2 + 1) w28 hx1 g32 _ _ hS31 _ (lv_sub hl33 [2, 3, 0] rfl) _ _ hf

set_option maxHeartbeats 4000000 in
set_option maxRecDepth 100000 in
theorem c_X5_stepsUpTo (l : Launch) {G : GG} {t : Nat} (ht : t < 8) {x1 : Int} (hx1 : InR x1) {w : Wd} {r : Int} {w' : Wd} (hf : X5_stepsUpTo t x1 w = some (r, w')) : Met l yX5_stepsUpTo wsX5_stepsUpTo (rmk 3) (PcG G w [.ref (G.1 0 t), iV x1]) (QiG G r w') 0 0 (GA G) := by
  refine met_of (own := RX5) (by decide) rfl (Nat.le_of_ble_eq_true rfl) rfl ?_
  intro p e s m args below meth c M hr ls hl0 hS0
  have hl0 : lv_has ls 4 [(0, .ref (G.1 0 t)), (1, iV x1)] := hl0
  unfold X5_stepsUpTo at hf
  refine x_iconst M dX5_stepsUpTo_0 ?_
  refine x_istore_n M hl0 dX5_stepsUpTo_1 (by decide) [(2, iV 0), (0, .ref (G.1 0 t)), (1, iV x1)] rfl (fun ls hl1 => ?_)
  exact X5_stepsUpTo_b2_ok M hr ht LF x1 0 w hx1 ⟨by decide, by decide⟩ _ _ hS0 _ (lv_sub hl1 [1, 2, 0] rfl) _ _ hf

/-! X5_carrySteps -/
theorem flX5_carrySteps_55 : Cond.fieldLink RX5 55 "NamedMoves$Store" "moving" "Z" ∈ wsX5_carrySteps := by decide +kernel
theorem inX5_carrySteps_X5 : ∀ w ∈ u_ws RX5 TX5 10, w ∈ wsX5_carrySteps := by decide +kernel
set_option maxHeartbeats 4000000 in
set_option maxRecDepth 100000 in
theorem c_X5_carrySteps (l : Launch) {G : GG} {t : Nat} (ht : t < 8) {x1 : Int} (hx1 : InR x1) {w : Wd} {r : Int} {w' : Wd} (hf : X5_carrySteps t x1 w = some (r, w')) : Met l yX5_carrySteps wsX5_carrySteps (rmk 4) (PcG G w [.ref (G.1 0 t), iV x1]) (QiG G r w') 0 0 (GA G) := by
  refine met_of (own := RX5) (by decide) rfl (Nat.le_of_ble_eq_true rfl) rfl ?_
  intro p e s m args below meth c M hr ls hl0 hS0
  have hl0 : lv_has ls 2 [(0, .ref (G.1 0 t)), (1, iV x1)] := hl0
  unfold X5_carrySteps at hf
  refine x_iload_n M hl0 dX5_carrySteps_0 1 rfl ?_
  refine x_iconst M dX5_carrySteps_1 ?_
  refine x_icmp_lt (tgt := 11) M hx1 ⟨by decide, by decide⟩ dX5_carrySteps_2 (by decide) (fun hc => ?_) (fun hc => ?_)
  · have hf := ift hf hc
    refine x_iconst M dX5_carrySteps_11 ?_
    exact x_iret M hr hf hS0 ⟨by decide, by decide⟩ dX5_carrySteps_12
  · have hf := iff_ hf hc
    refine x_iload_n M hl0 dX5_carrySteps_5 1 rfl ?_
    refine x_bipush M dX5_carrySteps_6 rfl ?_
    refine x_icmp_le (tgt := 13) M hx1 ⟨by decide, by decide⟩ dX5_carrySteps_8 (by decide) (fun hc => ?_) (fun hc => ?_)
    · have hf := iff_ hf (Int.not_lt.mpr hc)
      refine x_aload_n M hl0 dX5_carrySteps_13 0 rfl ?_
      refine x_get (c0 := 0) (t0 := t) (v := iV (w 0 t 2)) M hS0 (Or.inl ⟨by decide, ht⟩) (ref := "NamedMoves$Store") inX5_carrySteps_X5 (sE_0 G _ _) rfl 5 (by decide) (M.2.2.2.2.1 _ flX5_carrySteps_55) rfl rfl dX5_carrySteps_14 ?_
      refine x_if_eq (tgt := 28) M (hS0.inr _ _ _) dX5_carrySteps_17 (by decide) (fun hc => ?_) (fun hc => ?_)
      · have hf := ift hf hc
        refine x_bipush M dX5_carrySteps_28 rfl ?_
        exact x_iret M hr hf hS0 ⟨by decide, by decide⟩ dX5_carrySteps_30
      · have hf := iff_ hf hc
        refine x_aload_n M hl0 dX5_carrySteps_20 0 rfl ?_
        refine x_iload_n M hl0 dX5_carrySteps_21 1 rfl ?_
        obtain ⟨r1, w2, hc3, hf⟩ := bdt hf
        refine x_callVi (c0 := 0) (t0 := t) (As := [iV x1]) (rest := []) M hl0 hS0 (c_X5_stepsUpTo l ht hx1 hc3) (cwV 1 M.2.2.2.2.1 gX5_carrySteps_X5_stepsUpTo rfl rfl rfl (by decide +kernel) ⟨Nat.le_of_ble_eq_true rfl, Nat.le_of_ble_eq_true rfl⟩) (Or.inl ⟨by decide, ht⟩) (sE_0 G _ _) rfl rfl (Nat.le_of_ble_eq_true rfl) dX5_carrySteps_22 rfl ⟨Nat.zero_le _, Nat.zero_le _⟩ (fun H locs hi4 hS5 => ?_)
        refine x_goto (tgt := 30) M dX5_carrySteps_25 (by decide) ?_
        exact x_iret M hr hf hS5 hi4 dX5_carrySteps_30
    · have hf := ift hf (Int.not_le.mp hc)
      refine x_iconst M dX5_carrySteps_11 ?_
      exact x_iret M hr hf hS0 ⟨by decide, by decide⟩ dX5_carrySteps_12

/-! X7_carry -/
theorem flX7_carry_12 : Cond.fieldLink RX7 12 "NamedMoves" "store" "LNamedMoves$Store;" ∈ wsX7_carry := by decide +kernel
theorem flX7_carry_22 : Cond.fieldLink RX7 22 "NamedMoves" "history" "LNamedMoves$History;" ∈ wsX7_carry := by decide +kernel
theorem inX7_carry_X7 : ∀ w ∈ u_ws RX7 TX7 6, w ∈ wsX7_carry := by decide +kernel
set_option maxHeartbeats 4000000 in
set_option maxRecDepth 100000 in
theorem c_X7_carry (l : Launch) {G : GG} {x1 : Int} (hx1 : InR x1) {w : Wd} {r : Int} {w' : Wd} (hf : X7_carry x1 w = some (r, w')) : Met l yX7_carry wsX7_carry (rmk 5) (PcG G w [.ref (G.1 10 0), iV x1]) (QiG G r w') 0 0 (GA G) := by
  refine met_of (own := RX7) (by decide) rfl (Nat.le_of_ble_eq_true rfl) rfl ?_
  intro p e s m args below meth c M hr ls hl0 hS0
  have hl0 : lv_has ls 2 [(0, .ref (G.1 10 0)), (1, iV x1)] := hl0
  unfold X7_carry at hf
  refine x_aload_n M hl0 dX7_carry_0 0 rfl ?_
  refine x_get (c0 := 10) (t0 := 0) (v := .ref (G.1 11 0)) M hS0 (by decide) (ref := "NamedMoves") inX7_carry_X7 (sE_10 G _ _) rfl 2 (by decide) (M.2.2.2.2.1 _ flX7_carry_22) rfl rfl dX7_carry_1 ?_
  refine x_aload_n M hl0 dX7_carry_4 0 rfl ?_
  refine x_get (c0 := 10) (t0 := 0) (v := .ref (G.1 0 0)) M hS0 (by decide) (ref := "NamedMoves") inX7_carry_X7 (sE_10 G _ _) rfl 0 (by decide) (M.2.2.2.2.1 _ flX7_carry_12) rfl rfl dX7_carry_5 ?_
  obtain ⟨r1, w2, hc3, hf⟩ := bdt hf
  refine x_callVv (c0 := 11) (t0 := 0) (As := [.ref (G.1 0 0)]) (rest := []) M hl0 hS0 (c_X2_draft l (by decide)  hc3) (cwV 1 M.2.2.2.2.1 gX7_carry_X2_draft rfl rfl rfl (by decide +kernel) ⟨Nat.le_of_ble_eq_true rfl, Nat.le_of_ble_eq_true rfl⟩) (by decide) (sE_11 G _ _) rfl rfl (Nat.le_of_ble_eq_true rfl) dX7_carry_8 rfl ⟨Nat.zero_le _, Nat.zero_le _⟩ (fun H locs hS5 => ?_)
  refine x_aload_n M hl0 dX7_carry_11 0 rfl ?_
  refine x_aload_n M hl0 dX7_carry_12 0 rfl ?_
  refine x_get (c0 := 10) (t0 := 0) (v := .ref (G.1 0 0)) M hS5 (by decide) (ref := "NamedMoves") inX7_carry_X7 (sE_10 G _ _) rfl 0 (by decide) (M.2.2.2.2.1 _ flX7_carry_12) rfl rfl dX7_carry_13 ?_
  refine x_iload_n M hl0 dX7_carry_16 1 rfl ?_
  obtain ⟨r6, w7, hc8, hf⟩ := bdt hf
  refine x_callVi (c0 := 0) (t0 := 0) (As := [iV x1]) (rest := [.ref (G.1 10 0)]) M hl0 hS5 (c_X5_carrySteps l (by decide) hx1 hc8) (cwV 1 M.2.2.2.2.1 gX7_carry_X5_carrySteps rfl rfl rfl (by decide +kernel) ⟨Nat.le_of_ble_eq_true rfl, Nat.le_of_ble_eq_true rfl⟩) (by decide) (sE_0 G _ _) rfl rfl (Nat.le_of_ble_eq_true rfl) dX7_carry_17 rfl ⟨Nat.zero_le _, Nat.zero_le _⟩ (fun H locs hi9 hS10 => ?_)
  obtain ⟨r11, w12, hc13, hf⟩ := bdt hf
  refine x_callVi (c0 := 10) (t0 := 0) (As := [iV r6]) (rest := []) M hl0 hS10 (c_X7_recorded l  hi9 hc13) (cwV 1 M.2.2.2.2.1 gX7_carry_X7_recorded rfl rfl rfl (by decide +kernel) ⟨Nat.le_of_ble_eq_true rfl, Nat.le_of_ble_eq_true rfl⟩) (by decide) (sE_10 G _ _) rfl rfl (Nat.le_of_ble_eq_true rfl) dX7_carry_20 rfl ⟨Nat.zero_le _, Nat.zero_le _⟩ (fun H locs hi14 hS15 => ?_)
  exact x_iret M hr hf hS15 hi14 dX7_carry_23

/-! X5_isThing -/
theorem flX5_isThing_52 : Cond.fieldLink RX5 52 "NamedMoves$Store" "made" "I" ∈ wsX5_isThing := by decide +kernel
theorem inX5_isThing_X5 : ∀ w ∈ u_ws RX5 TX5 10, w ∈ wsX5_isThing := by decide +kernel
set_option maxHeartbeats 4000000 in
set_option maxRecDepth 100000 in
theorem c_X5_isThing (l : Launch) {G : GG} {t : Nat} (ht : t < 8) {x1 : Int} (hx1 : InR x1) {w : Wd} {r : Int} {w' : Wd} (hf : X5_isThing t x1 w = some (r, w')) : Met l yX5_isThing wsX5_isThing (rmk 0) (PcG G w [.ref (G.1 0 t), iV x1]) (QiG G r w') 0 0 (GA G) := by
  refine met_of (own := RX5) (by decide) rfl (Nat.le_of_ble_eq_true rfl) rfl ?_
  intro p e s m args below meth c M hr ls hl0 hS0
  have hl0 : lv_has ls 2 [(0, .ref (G.1 0 t)), (1, iV x1)] := hl0
  unfold X5_isThing at hf
  refine x_iload_n M hl0 dX5_isThing_0 1 rfl ?_
  refine x_if_lt (tgt := 16) M hx1 dX5_isThing_1 (by decide) (fun hc => ?_) (fun hc => ?_)
  · have hf := ift hf hc
    refine x_iconst M dX5_isThing_16 ?_
    exact x_zret M hr hf hS0 (Or.inl rfl) dX5_isThing_17
  · have hf := iff_ hf hc
    refine x_iload_n M hl0 dX5_isThing_4 1 rfl ?_
    refine x_aload_n M hl0 dX5_isThing_5 0 rfl ?_
    refine x_get (c0 := 0) (t0 := t) (v := iV (w 0 t 1)) M hS0 (Or.inl ⟨by decide, ht⟩) (ref := "NamedMoves$Store") inX5_isThing_X5 (sE_0 G _ _) rfl 4 (by decide) (M.2.2.2.2.1 _ flX5_isThing_52) rfl rfl dX5_isThing_6 ?_
    refine x_icmp_ge (tgt := 16) M hx1 (hS0.inr _ _ _) dX5_isThing_9 (by decide) (fun hc => ?_) (fun hc => ?_)
    · have hf := iff_ hf (Int.not_lt.mpr hc)
      refine x_iconst M dX5_isThing_16 ?_
      exact x_zret M hr hf hS0 (Or.inl rfl) dX5_isThing_17
    · have hf := ift hf (Int.not_le.mp hc)
      refine x_iconst M dX5_isThing_12 ?_
      refine x_goto (tgt := 17) M dX5_isThing_13 (by decide) ?_
      exact x_zret M hr hf hS0 (Or.inr rfl) dX5_isThing_17

/-! X0_isOf -/
theorem flX0_isOf_9 : Cond.fieldLink RX0 9 "NamedMoves$Copies" "things" "[I" ∈ wsX0_isOf := by decide +kernel
theorem inX0_isOf_X0 : ∀ w ∈ u_ws RX0 TX0 5, w ∈ wsX0_isOf := by decide +kernel
set_option maxHeartbeats 4000000 in
set_option maxRecDepth 100000 in
theorem c_X0_isOf (l : Launch) {G : GG} {t : Nat} (ht : t < 8) {x1 : Int} (hx1 : InR x1) {x2 : Int} (hx2 : InR x2) {w : Wd} {r : Int} {w' : Wd} (hf : X0_isOf t x1 x2 w = some (r, w')) : Met l yX0_isOf wsX0_isOf (rmk 1) (PcG G w [.ref (G.1 2 t), iV x1, iV x2]) (QiG G r w') 0 0 (GA G) := by
  refine met_of (own := RX0) (by decide) rfl (Nat.le_of_ble_eq_true rfl) rfl ?_
  intro p e s m args below meth c M hr ls hl0 hS0
  have hl0 : lv_has ls 3 [(0, .ref (G.1 2 t)), (1, iV x1), (2, iV x2)] := hl0
  unfold X0_isOf at hf
  refine x_aload_n M hl0 dX0_isOf_0 0 rfl ?_
  refine x_iload_n M hl0 dX0_isOf_1 2 rfl ?_
  obtain ⟨r1, w2, hc3, hf⟩ := bdt hf
  refine x_callVi (c0 := 2) (t0 := t) (As := [iV x2]) (rest := []) M hl0 hS0 (c_X0_isAt l ht hx2 hc3) (cwV 1 M.2.2.2.2.1 gX0_isOf_X0_isAt rfl rfl rfl (by decide +kernel) ⟨Nat.le_of_ble_eq_true rfl, Nat.le_of_ble_eq_true rfl⟩) (Or.inl ⟨by decide, ht⟩) (sE_2 G _ _) rfl rfl (Nat.le_of_ble_eq_true rfl) dX0_isOf_2 rfl ⟨Nat.zero_le _, Nat.zero_le _⟩ (fun H locs hi4 hS5 => ?_)
  refine x_if_eq (tgt := 22) M hi4 dX0_isOf_5 (by decide) (fun hc => ?_) (fun hc => ?_)
  · have hf := ift hf hc
    refine x_iconst M dX0_isOf_22 ?_
    exact x_zret M hr hf hS5 (Or.inl rfl) dX0_isOf_23
  · have hf := iff_ hf hc
    refine x_aload_n M hl0 dX0_isOf_8 0 rfl ?_
    refine x_get (c0 := 2) (t0 := t) (v := .ref (G.1 3 t)) M hS5 (Or.inl ⟨by decide, ht⟩) (ref := "NamedMoves$Copies") inX0_isOf_X0 (sE_2 G _ _) rfl 0 (by decide) (M.2.2.2.2.1 _ flX0_isOf_9) rfl rfl dX0_isOf_9 ?_
    refine x_iload_n M hl0 dX0_isOf_12 2 rfl ?_
    obtain ⟨g6, hf⟩ := gdt hf
    refine x_iald (c0 := 3) (t0 := t) M hS5 (Or.inl ⟨by decide, ht⟩) (hs_3 G _) rfl g6 (by decide) dX0_isOf_13 ?_
    refine x_iload_n M hl0 dX0_isOf_14 1 rfl ?_
    refine x_icmp_ne (tgt := 22) M (hS5.inr _ _ _) hx1 dX0_isOf_15 (by decide) (fun hc => ?_) (fun hc => ?_)
    · have hf := iff_ hf hc
      refine x_iconst M dX0_isOf_22 ?_
      exact x_zret M hr hf hS5 (Or.inl rfl) dX0_isOf_23
    · have hf := ift hf (Decidable.of_not_not hc)
      refine x_iconst M dX0_isOf_18 ?_
      refine x_goto (tgt := 23) M dX0_isOf_19 (by decide) ?_
      exact x_zret M hr hf hS5 (Or.inr rfl) dX0_isOf_23

/-! X5_firstWithNote -/
theorem flX5_firstWithNote_18 : Cond.fieldLink RX5 18 "NamedMoves$Store" "copies" "LNamedMoves$Copies;" ∈ wsX5_firstWithNote := by decide +kernel
theorem inX5_firstWithNote_X5 : ∀ w ∈ u_ws RX5 TX5 10, w ∈ wsX5_firstWithNote := by decide +kernel
set_option maxHeartbeats 4000000 in
set_option maxRecDepth 100000 in
theorem X5_firstWithNote_b2_ok (M : MC p s m args meth c cX5_firstWithNote 3 RX5 wsX5_firstWithNote G) (hr : meth.sig.returnType = (some .int)) {t : Nat} (ht : t < 8) : ∀ n : Nat, ∀ x1 : Int, ∀ x2 : Int, ∀ w : Wd, InR x1 → InR x2 → ∀ (H : Heap) (locs : List Loc), ST G s w H locs → ∀ ls : Array Slot, lv_has ls 3 [(0, .ref (G.1 0 t)), (1, iV x1), (2, iV x2)] → ∀ (r : Int) (w' : Wd), X5_firstWithNote_b2 t n x1 x2 w = some (r, w') → W p l e (rmk 2) s m args below meth c H locs 0 0 (MQ below (QiG G r w') args s 0 0 (GA G)) (F0 m 2 ls []) := by
  intro n
  induction n with
  | zero =>
    intro x1 x2 w hx1 hx2 H locs hS0 ls hl0 r w' hf
    cases hf
  | succ n ih =>
    intro x1 x2 w hx1 hx2 H locs hS0 ls hl0 r w' hf
    rw [X5_firstWithNote_b2_s] at hf
    refine x_iload_n M hl0 dX5_firstWithNote_2 2 rfl ?_
    refine x_sipush M dX5_firstWithNote_3 rfl ?_
    refine x_icmp_ge (tgt := 43) M hx2 ⟨by decide, by decide⟩ dX5_firstWithNote_6 (by decide) (fun hc => ?_) (fun hc => ?_)
    · have hf := iff_ hf (Int.not_lt.mpr hc)
      refine x_sipush M dX5_firstWithNote_43 rfl ?_
      exact x_iret M hr hf hS0 ⟨by decide, by decide⟩ dX5_firstWithNote_46
    · have hf := ift hf (Int.not_le.mp hc)
      refine x_aload_n M hl0 dX5_firstWithNote_9 0 rfl ?_
      refine x_get (c0 := 0) (t0 := t) (v := .ref (G.1 2 t)) M hS0 (Or.inl ⟨by decide, ht⟩) (ref := "NamedMoves$Store") inX5_firstWithNote_X5 (sE_0 G _ _) rfl 1 (by decide) (M.2.2.2.2.1 _ flX5_firstWithNote_18) rfl rfl dX5_firstWithNote_10 ?_
      refine x_iload_n M hl0 dX5_firstWithNote_13 1 rfl ?_
      refine x_iload_n M hl0 dX5_firstWithNote_14 2 rfl ?_
      obtain ⟨r2, w3, hc4, hf⟩ := bdt hf
      refine x_callVi (c0 := 2) (t0 := t) (As := [iV x1, iV x2]) (rest := []) M hl0 hS0 (c_X0_isOf l ht hx1 hx2 hc4) (cwV 2 M.2.2.2.2.1 gX5_firstWithNote_X0_isOf rfl rfl rfl (by decide +kernel) ⟨Nat.le_of_ble_eq_true rfl, Nat.le_of_ble_eq_true rfl⟩) (Or.inl ⟨by decide, ht⟩) (sE_2 G _ _) rfl rfl (Nat.le_of_ble_eq_true rfl) dX5_firstWithNote_15 rfl ⟨Nat.zero_le _, Nat.zero_le _⟩ (fun H locs hi5 hS6 => ?_)
      refine x_if_eq (tgt := 37) M hi5 dX5_firstWithNote_18 (by decide) (fun hc => ?_) (fun hc => ?_)
      · have hf := ift hf hc
        obtain ⟨g7, hf⟩ := gdt hf
        refine x_iinc M hl0 dX5_firstWithNote_37 2 rfl (by decide) [(2, iV (x2 + 1)), (0, .ref (G.1 0 t)), (1, iV x1)] rfl (fun ls hl8 => ?_)
        refine x_goto (tgt := 2) M dX5_firstWithNote_40 (by decide) ?_
        exact ih x1 (x2 + 1) w3 hx1 g7 _ _ hS6 _ (lv_sub hl8 [1, 2, 0] rfl) _ _ hf
      · have hf := iff_ hf hc
        refine x_aload_n M hl0 dX5_firstWithNote_21 0 rfl ?_
        refine x_get (c0 := 0) (t0 := t) (v := .ref (G.1 2 t)) M hS6 (Or.inl ⟨by decide, ht⟩) (ref := "NamedMoves$Store") inX5_firstWithNote_X5 (sE_0 G _ _) rfl 1 (by decide) (M.2.2.2.2.1 _ flX5_firstWithNote_18) rfl rfl dX5_firstWithNote_22 ?_
        refine x_iload_n M hl0 dX5_firstWithNote_25 2 rfl ?_
        obtain ⟨r9, w10, hc11, hf⟩ := bdt hf
        refine x_callVi (c0 := 2) (t0 := t) (As := [iV x2]) (rest := []) M hl0 hS6 (c_X0_noteAt l ht hx2 hc11) (cwV 1 M.2.2.2.2.1 gX5_firstWithNote_X0_noteAt rfl rfl rfl (by decide +kernel) ⟨Nat.le_of_ble_eq_true rfl, Nat.le_of_ble_eq_true rfl⟩) (Or.inl ⟨by decide, ht⟩) (sE_2 G _ _) rfl rfl (Nat.le_of_ble_eq_true rfl) dX5_firstWithNote_26 rfl ⟨Nat.zero_le _, Nat.zero_le _⟩ (fun H locs hi12 hS13 => ?_)
        refine x_sipush M dX5_firstWithNote_29 rfl ?_
        refine x_icmp_eq (tgt := 37) M hi12 ⟨by decide, by decide⟩ dX5_firstWithNote_32 (by decide) (fun hc => ?_) (fun hc => ?_)
        · have hf := ift hf hc
          obtain ⟨g14, hf⟩ := gdt hf
          refine x_iinc M hl0 dX5_firstWithNote_37 2 rfl (by decide) [(2, iV (x2 + 1)), (0, .ref (G.1 0 t)), (1, iV x1)] rfl (fun ls hl15 => ?_)
          refine x_goto (tgt := 2) M dX5_firstWithNote_40 (by decide) ?_
          exact ih x1 (x2 + 1) w10 hx1 g14 _ _ hS13 _ (lv_sub hl15 [1, 2, 0] rfl) _ _ hf
        · have hf := iff_ hf hc
          refine x_iload_n M hl0 dX5_firstWithNote_35 2 rfl ?_
          exact x_iret M hr hf hS13 hx2 dX5_firstWithNote_36

set_option maxHeartbeats 4000000 in
set_option maxRecDepth 100000 in
theorem c_X5_firstWithNote (l : Launch) {G : GG} {t : Nat} (ht : t < 8) {x1 : Int} (hx1 : InR x1) {w : Wd} {r : Int} {w' : Wd} (hf : X5_firstWithNote t x1 w = some (r, w')) : Met l yX5_firstWithNote wsX5_firstWithNote (rmk 2) (PcG G w [.ref (G.1 0 t), iV x1]) (QiG G r w') 0 0 (GA G) := by
  refine met_of (own := RX5) (by decide) rfl (Nat.le_of_ble_eq_true rfl) rfl ?_
  intro p e s m args below meth c M hr ls hl0 hS0
  have hl0 : lv_has ls 3 [(0, .ref (G.1 0 t)), (1, iV x1)] := hl0
  unfold X5_firstWithNote at hf
  refine x_iconst M dX5_firstWithNote_0 ?_
  refine x_istore_n M hl0 dX5_firstWithNote_1 (by decide) [(2, iV 0), (0, .ref (G.1 0 t)), (1, iV x1)] rfl (fun ls hl1 => ?_)
  exact X5_firstWithNote_b2_ok M hr ht LF x1 0 w hx1 ⟨by decide, by decide⟩ _ _ hS0 _ (lv_sub hl1 [1, 2, 0] rfl) _ _ hf

/-! X0_loseNoteAt -/
theorem flX0_loseNoteAt_18 : Cond.fieldLink RX0 18 "NamedMoves$Copies" "notes" "[I" ∈ wsX0_loseNoteAt := by decide +kernel
theorem inX0_loseNoteAt_X0 : ∀ w ∈ u_ws RX0 TX0 5, w ∈ wsX0_loseNoteAt := by decide +kernel
set_option maxHeartbeats 4000000 in
set_option maxRecDepth 100000 in
theorem c_X0_loseNoteAt (l : Launch) {G : GG} {t : Nat} (ht : t < 8) {x1 : Int} (hx1 : InR x1) {w : Wd} {r : Int} {w' : Wd} (hf : X0_loseNoteAt t x1 w = some (r, w')) : Met l yX0_loseNoteAt wsX0_loseNoteAt (rmk 1) (PcG G w [.ref (G.1 2 t), iV x1]) (QvG G w') 0 0 (GA G) := by
  refine met_of (own := RX0) (by decide) rfl (Nat.le_of_ble_eq_true rfl) rfl ?_
  intro p e s m args below meth c M hr ls hl0 hS0
  have hl0 : lv_has ls 2 [(0, .ref (G.1 2 t)), (1, iV x1)] := hl0
  unfold X0_loseNoteAt at hf
  refine x_aload_n M hl0 dX0_loseNoteAt_0 0 rfl ?_
  refine x_iload_n M hl0 dX0_loseNoteAt_1 1 rfl ?_
  obtain ⟨r1, w2, hc3, hf⟩ := bdt hf
  refine x_callVi (c0 := 2) (t0 := t) (As := [iV x1]) (rest := []) M hl0 hS0 (c_X0_isAt l ht hx1 hc3) (cwV 1 M.2.2.2.2.1 gX0_loseNoteAt_X0_isAt rfl rfl rfl (by decide +kernel) ⟨Nat.le_of_ble_eq_true rfl, Nat.le_of_ble_eq_true rfl⟩) (Or.inl ⟨by decide, ht⟩) (sE_2 G _ _) rfl rfl (Nat.le_of_ble_eq_true rfl) dX0_loseNoteAt_2 rfl ⟨Nat.zero_le _, Nat.zero_le _⟩ (fun H locs hi4 hS5 => ?_)
  refine x_if_eq (tgt := 17) M hi4 dX0_loseNoteAt_5 (by decide) (fun hc => ?_) (fun hc => ?_)
  · have hf := ift hf hc
    exact x_vret M hr hf hS5 dX0_loseNoteAt_17
  · have hf := iff_ hf hc
    refine x_aload_n M hl0 dX0_loseNoteAt_8 0 rfl ?_
    refine x_get (c0 := 2) (t0 := t) (v := .ref (G.1 5 t)) M hS5 (Or.inl ⟨by decide, ht⟩) (ref := "NamedMoves$Copies") inX0_loseNoteAt_X0 (sE_2 G _ _) rfl 2 (by decide) (M.2.2.2.2.1 _ flX0_loseNoteAt_18) rfl rfl dX0_loseNoteAt_9 ?_
    refine x_iload_n M hl0 dX0_loseNoteAt_12 1 rfl ?_
    refine x_sipush M dX0_loseNoteAt_13 rfl ?_
    obtain ⟨g6, hf⟩ := gdt hf
    refine x_iast (c0 := 5) (t0 := t) M hS5 (Or.inl ⟨by decide, ht⟩) (hs_5 G _) rfl g6 (by decide) ⟨by decide, by decide⟩ dX0_loseNoteAt_16 (fun H locs hS7 => ?_)
    exact x_vret M hr hf hS7 dX0_loseNoteAt_17

/-! X5_loseNote -/
theorem flX5_loseNote_18 : Cond.fieldLink RX5 18 "NamedMoves$Store" "copies" "LNamedMoves$Copies;" ∈ wsX5_loseNote := by decide +kernel
theorem flX5_loseNote_65 : Cond.fieldLink RX5 65 "NamedMoves$Store" "notesLost" "I" ∈ wsX5_loseNote := by decide +kernel
theorem inX5_loseNote_X5 : ∀ w ∈ u_ws RX5 TX5 10, w ∈ wsX5_loseNote := by decide +kernel
set_option maxHeartbeats 4000000 in
set_option maxRecDepth 100000 in
theorem c_X5_loseNote (l : Launch) {G : GG} {t : Nat} (ht : t < 8) {x1 : Int} (hx1 : InR x1) {w : Wd} {r : Int} {w' : Wd} (hf : X5_loseNote t x1 w = some (r, w')) : Met l yX5_loseNote wsX5_loseNote (rmk 3) (PcG G w [.ref (G.1 0 t), iV x1]) (QiG G r w') 0 0 (GA G) := by
  refine met_of (own := RX5) (by decide) rfl (Nat.le_of_ble_eq_true rfl) rfl ?_
  intro p e s m args below meth c M hr ls hl0 hS0
  have hl0 : lv_has ls 3 [(0, .ref (G.1 0 t)), (1, iV x1)] := hl0
  unfold X5_loseNote at hf
  refine x_aload_n M hl0 dX5_loseNote_0 0 rfl ?_
  refine x_iload_n M hl0 dX5_loseNote_1 1 rfl ?_
  obtain ⟨r1, w2, hc3, hf⟩ := bdt hf
  refine x_callVi (c0 := 0) (t0 := t) (As := [iV x1]) (rest := []) M hl0 hS0 (c_X5_isThing l ht hx1 hc3) (cwV 1 M.2.2.2.2.1 gX5_loseNote_X5_isThing rfl rfl rfl (by decide +kernel) ⟨Nat.le_of_ble_eq_true rfl, Nat.le_of_ble_eq_true rfl⟩) (Or.inl ⟨by decide, ht⟩) (sE_0 G _ _) rfl rfl (Nat.le_of_ble_eq_true rfl) dX5_loseNote_2 rfl ⟨Nat.zero_le _, Nat.zero_le _⟩ (fun H locs hi4 hS5 => ?_)
  refine x_if_ne (tgt := 10) M hi4 dX5_loseNote_5 (by decide) (fun hc => ?_) (fun hc => ?_)
  · have hf := iff_ hf hc
    refine x_aload_n M hl0 dX5_loseNote_10 0 rfl ?_
    refine x_iload_n M hl0 dX5_loseNote_11 1 rfl ?_
    obtain ⟨r6, w7, hc8, hf⟩ := bdt hf
    refine x_callVi (c0 := 0) (t0 := t) (As := [iV x1]) (rest := []) M hl0 hS5 (c_X5_firstWithNote l ht hx1 hc8) (cwV 1 M.2.2.2.2.1 gX5_loseNote_X5_firstWithNote rfl rfl rfl (by decide +kernel) ⟨Nat.le_of_ble_eq_true rfl, Nat.le_of_ble_eq_true rfl⟩) (Or.inl ⟨by decide, ht⟩) (sE_0 G _ _) rfl rfl (Nat.le_of_ble_eq_true rfl) dX5_loseNote_12 rfl ⟨Nat.zero_le _, Nat.zero_le _⟩ (fun H locs hi9 hS10 => ?_)
    refine x_istore_n M hl0 dX5_loseNote_15 (by decide) [(2, iV r6), (0, .ref (G.1 0 t)), (1, iV x1)] rfl (fun ls hl11 => ?_)
    refine x_iload_n M hl11 dX5_loseNote_16 0 rfl ?_
    refine x_sipush M dX5_loseNote_17 rfl ?_
    refine x_icmp_ne (tgt := 26) M hi9 ⟨by decide, by decide⟩ dX5_loseNote_20 (by decide) (fun hc => ?_) (fun hc => ?_)
    · have hf := iff_ hf hc
      refine x_aload_n M hl11 dX5_loseNote_26 1 rfl ?_
      obtain ⟨r12, w13, hc14, hf⟩ := bdt hf
      refine x_callVi (c0 := 0) (t0 := t) (As := []) (rest := []) M hl11 hS10 (c_X5_freeInHalf l ht  hc14) (cwV 0 M.2.2.2.2.1 gX5_loseNote_X5_freeInHalf rfl rfl rfl (by decide +kernel) ⟨Nat.le_of_ble_eq_true rfl, Nat.le_of_ble_eq_true rfl⟩) (Or.inl ⟨by decide, ht⟩) (sE_0 G _ _) rfl rfl (Nat.le_of_ble_eq_true rfl) dX5_loseNote_27 rfl ⟨Nat.zero_le _, Nat.zero_le _⟩ (fun H locs hi15 hS16 => ?_)
      refine x_aload_n M hl11 dX5_loseNote_30 1 rfl ?_
      obtain ⟨r17, w18, hc19, hf⟩ := bdt hf
      refine x_callVi (c0 := 0) (t0 := t) (As := []) (rest := [iV r12]) M hl11 hS16 (c_X5_roomKept l ht  hc19) (cwV 0 M.2.2.2.2.1 gX5_loseNote_X5_roomKept rfl rfl rfl (by decide +kernel) ⟨Nat.le_of_ble_eq_true rfl, Nat.le_of_ble_eq_true rfl⟩) (Or.inl ⟨by decide, ht⟩) (sE_0 G _ _) rfl rfl (Nat.le_of_ble_eq_true rfl) dX5_loseNote_31 rfl ⟨Nat.zero_le _, Nat.zero_le _⟩ (fun H locs hi20 hS21 => ?_)
      refine x_aload_n M hl11 dX5_loseNote_34 1 rfl ?_
      refine x_get (c0 := 0) (t0 := t) (v := .ref (G.1 2 t)) M hS21 (Or.inl ⟨by decide, ht⟩) (ref := "NamedMoves$Store") inX5_loseNote_X5 (sE_0 G _ _) rfl 1 (by decide) (M.2.2.2.2.1 _ flX5_loseNote_18) rfl rfl dX5_loseNote_35 ?_
      refine x_iload_n M hl11 dX5_loseNote_38 0 rfl ?_
      obtain ⟨r22, w23, hc24, hf⟩ := bdt hf
      refine x_callVi (c0 := 2) (t0 := t) (As := [iV r6]) (rest := [iV r17, iV r12]) M hl11 hS21 (c_X0_sizeAt l ht hi9 hc24) (cwV 1 M.2.2.2.2.1 gX5_loseNote_X0_sizeAt rfl rfl rfl (by decide +kernel) ⟨Nat.le_of_ble_eq_true rfl, Nat.le_of_ble_eq_true rfl⟩) (Or.inl ⟨by decide, ht⟩) (sE_2 G _ _) rfl rfl (Nat.le_of_ble_eq_true rfl) dX5_loseNote_39 rfl ⟨Nat.zero_le _, Nat.zero_le _⟩ (fun H locs hi25 hS26 => ?_)
      obtain ⟨g27, hf⟩ := gdt hf
      refine x_iadd M dX5_loseNote_42 ?_
      refine x_icmp_ge (tgt := 49) M hi15 g27 dX5_loseNote_43 (by decide) (fun hc => ?_) (fun hc => ?_)
      · have hf := iff_ hf (Int.not_lt.mpr hc)
        refine x_aload_n M hl11 dX5_loseNote_49 1 rfl ?_
        refine x_get (c0 := 0) (t0 := t) (v := .ref (G.1 2 t)) M hS26 (Or.inl ⟨by decide, ht⟩) (ref := "NamedMoves$Store") inX5_loseNote_X5 (sE_0 G _ _) rfl 1 (by decide) (M.2.2.2.2.1 _ flX5_loseNote_18) rfl rfl dX5_loseNote_50 ?_
        refine x_iload_n M hl11 dX5_loseNote_53 0 rfl ?_
        obtain ⟨r28, w29, hc30, hf⟩ := bdt hf
        refine x_callVv (c0 := 2) (t0 := t) (As := [iV r6]) (rest := []) M hl11 hS26 (c_X0_loseNoteAt l ht hi9 hc30) (cwV 1 M.2.2.2.2.1 gX5_loseNote_X0_loseNoteAt rfl rfl rfl (by decide +kernel) ⟨Nat.le_of_ble_eq_true rfl, Nat.le_of_ble_eq_true rfl⟩) (Or.inl ⟨by decide, ht⟩) (sE_2 G _ _) rfl rfl (Nat.le_of_ble_eq_true rfl) dX5_loseNote_54 rfl ⟨Nat.zero_le _, Nat.zero_le _⟩ (fun H locs hS32 => ?_)
        refine x_aload_n M hl11 dX5_loseNote_57 1 rfl ?_
        refine x_dup M dX5_loseNote_58 rfl ?_
        refine x_get (c0 := 0) (t0 := t) (v := iV (w29 0 t 5)) M hS32 (Or.inl ⟨by decide, ht⟩) (ref := "NamedMoves$Store") inX5_loseNote_X5 (sE_0 G _ _) rfl 8 (by decide) (M.2.2.2.2.1 _ flX5_loseNote_65) rfl rfl dX5_loseNote_59 ?_
        refine x_iconst M dX5_loseNote_62 ?_
        obtain ⟨g33, hf⟩ := gdt hf
        refine x_iadd M dX5_loseNote_63 ?_
        refine x_put (c0 := 0) (t0 := t) M hS32 (Or.inl ⟨by decide, ht⟩) (ref := "NamedMoves$Store") inX5_loseNote_X5 tyX5 tyX5_ok nmX5 (sE_0 G _ _) rfl 8 (by decide) (M.2.2.2.2.1 _ flX5_loseNote_65) rfl rfl (ty := tyX5 8) g33 (tyX5_ok 8 (by decide)) rfl rfl (by simp) 5 (pset_0_5 G _ _ _) dX5_loseNote_64 (fun H locs hS34 => ?_)
        refine x_iload_n M hl11 dX5_loseNote_67 0 rfl ?_
        exact x_iret M hr hf hS34 hi9 dX5_loseNote_68
      · have hf := ift hf (Int.not_le.mp hc)
        refine x_bipush M dX5_loseNote_46 rfl ?_
        exact x_iret M hr hf hS26 ⟨by decide, by decide⟩ dX5_loseNote_48
    · have hf := ift hf (Decidable.of_not_not hc)
      refine x_bipush M dX5_loseNote_23 rfl ?_
      exact x_iret M hr hf hS10 ⟨by decide, by decide⟩ dX5_loseNote_25
  · have hf := ift hf (Decidable.of_not_not hc)
    refine x_iconst M dX5_loseNote_8 ?_
    exact x_iret M hr hf hS5 ⟨by decide, by decide⟩ dX5_loseNote_9

/-! X7_lose -/
theorem flX7_lose_12 : Cond.fieldLink RX7 12 "NamedMoves" "store" "LNamedMoves$Store;" ∈ wsX7_lose := by decide +kernel
theorem flX7_lose_22 : Cond.fieldLink RX7 22 "NamedMoves" "history" "LNamedMoves$History;" ∈ wsX7_lose := by decide +kernel
theorem inX7_lose_X7 : ∀ w ∈ u_ws RX7 TX7 6, w ∈ wsX7_lose := by decide +kernel
set_option maxHeartbeats 4000000 in
set_option maxRecDepth 100000 in
theorem c_X7_lose (l : Launch) {G : GG} {x1 : Int} (hx1 : InR x1) {w : Wd} {r : Int} {w' : Wd} (hf : X7_lose x1 w = some (r, w')) : Met l yX7_lose wsX7_lose (rmk 4) (PcG G w [.ref (G.1 10 0), iV x1]) (QiG G r w') 0 0 (GA G) := by
  refine met_of (own := RX7) (by decide) rfl (Nat.le_of_ble_eq_true rfl) rfl ?_
  intro p e s m args below meth c M hr ls hl0 hS0
  have hl0 : lv_has ls 2 [(0, .ref (G.1 10 0)), (1, iV x1)] := hl0
  unfold X7_lose at hf
  refine x_aload_n M hl0 dX7_lose_0 0 rfl ?_
  refine x_get (c0 := 10) (t0 := 0) (v := .ref (G.1 11 0)) M hS0 (by decide) (ref := "NamedMoves") inX7_lose_X7 (sE_10 G _ _) rfl 2 (by decide) (M.2.2.2.2.1 _ flX7_lose_22) rfl rfl dX7_lose_1 ?_
  refine x_aload_n M hl0 dX7_lose_4 0 rfl ?_
  refine x_get (c0 := 10) (t0 := 0) (v := .ref (G.1 0 0)) M hS0 (by decide) (ref := "NamedMoves") inX7_lose_X7 (sE_10 G _ _) rfl 0 (by decide) (M.2.2.2.2.1 _ flX7_lose_12) rfl rfl dX7_lose_5 ?_
  obtain ⟨r1, w2, hc3, hf⟩ := bdt hf
  refine x_callVv (c0 := 11) (t0 := 0) (As := [.ref (G.1 0 0)]) (rest := []) M hl0 hS0 (c_X2_draft l (by decide)  hc3) (cwV 1 M.2.2.2.2.1 gX7_lose_X2_draft rfl rfl rfl (by decide +kernel) ⟨Nat.le_of_ble_eq_true rfl, Nat.le_of_ble_eq_true rfl⟩) (by decide) (sE_11 G _ _) rfl rfl (Nat.le_of_ble_eq_true rfl) dX7_lose_8 rfl ⟨Nat.zero_le _, Nat.zero_le _⟩ (fun H locs hS5 => ?_)
  refine x_aload_n M hl0 dX7_lose_11 0 rfl ?_
  refine x_aload_n M hl0 dX7_lose_12 0 rfl ?_
  refine x_get (c0 := 10) (t0 := 0) (v := .ref (G.1 0 0)) M hS5 (by decide) (ref := "NamedMoves") inX7_lose_X7 (sE_10 G _ _) rfl 0 (by decide) (M.2.2.2.2.1 _ flX7_lose_12) rfl rfl dX7_lose_13 ?_
  refine x_iload_n M hl0 dX7_lose_16 1 rfl ?_
  obtain ⟨r6, w7, hc8, hf⟩ := bdt hf
  refine x_callVi (c0 := 0) (t0 := 0) (As := [iV x1]) (rest := [.ref (G.1 10 0)]) M hl0 hS5 (c_X5_loseNote l (by decide) hx1 hc8) (cwV 1 M.2.2.2.2.1 gX7_lose_X5_loseNote rfl rfl rfl (by decide +kernel) ⟨Nat.le_of_ble_eq_true rfl, Nat.le_of_ble_eq_true rfl⟩) (by decide) (sE_0 G _ _) rfl rfl (Nat.le_of_ble_eq_true rfl) dX7_lose_17 rfl ⟨Nat.zero_le _, Nat.zero_le _⟩ (fun H locs hi9 hS10 => ?_)
  obtain ⟨r11, w12, hc13, hf⟩ := bdt hf
  refine x_callVi (c0 := 10) (t0 := 0) (As := [iV r6]) (rest := []) M hl0 hS10 (c_X7_recorded l  hi9 hc13) (cwV 1 M.2.2.2.2.1 gX7_lose_X7_recorded rfl rfl rfl (by decide +kernel) ⟨Nat.le_of_ble_eq_true rfl, Nat.le_of_ble_eq_true rfl⟩) (by decide) (sE_10 G _ _) rfl rfl (Nat.le_of_ble_eq_true rfl) dX7_lose_20 rfl ⟨Nat.zero_le _, Nat.zero_le _⟩ (fun H locs hi14 hS15 => ?_)
  exact x_iret M hr hf hS15 hi14 dX7_lose_23

end
