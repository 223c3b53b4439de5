section
variable {p : Program} {l : Launch} {e : Env} {s : State} {m : MethodId} {args : Array Value} {below : List Frame} {meth : Method} {c : Code} {G : GG}
/-! X8_freeThen -/
theorem flX8_freeThen_7 : Cond.fieldLink RX8 7 "NamedMovesModel" "s" "[I" ∈ wsX8_freeThen := by decide +kernel
theorem inX8_freeThen_X8 : ∀ w ∈ u_ws RX8 TX8 12, w ∈ wsX8_freeThen := by decide +kernel
set_option maxHeartbeats 4000000 in
set_option maxRecDepth 100000 in
theorem c_X8_freeThen (l : Launch) {G : GG} {w : Wd} {r : Int} {w' : Wd} (hf : X8_freeThen w = some (r, w')) : Met l yX8_freeThen wsX8_freeThen (rmk 6) (PcG G w [.ref (G.1 21 0)]) (QiG G r w') 0 0 (GA G) := by
  refine met_of (own := RX8) (by decide) rfl (Nat.le_of_ble_eq_true rfl) rfl ?_
  intro p e s m args below meth c M hr ls hl0 hS0
  have hl0 : lv_has ls 3 [(0, .ref (G.1 21 0))] := hl0
  unfold X8_freeThen at hf
  refine x_aload_n M hl0 dX8_freeThen_0 0 rfl ?_
  obtain ⟨r1, w2, hc3, hf⟩ := bdt hf
  refine x_callVv (c0 := 21) (t0 := 0) (As := []) (rest := []) M hl0 hS0 (c_X8_holds l   hc3) (cwV 0 M.2.2.2.2.1 gX8_freeThen_X8_holds rfl rfl rfl (by decide +kernel) ⟨Nat.le_of_ble_eq_true rfl, Nat.le_of_ble_eq_true rfl⟩) (by decide) (sE_21 G _ _) rfl rfl (Nat.le_of_ble_eq_true rfl) dX8_freeThen_1 rfl ⟨Nat.zero_le _, Nat.zero_le _⟩ (fun H locs hS5 => ?_)
  refine x_aload_n M hl0 dX8_freeThen_4 0 rfl ?_
  obtain ⟨r6, w7, hc8, hf⟩ := bdt hf
  refine x_callVi (c0 := 21) (t0 := 0) (As := []) (rest := []) M hl0 hS5 (c_X8_stepsToEnd l   hc8) (cwV 0 M.2.2.2.2.1 gX8_freeThen_X8_stepsToEnd rfl rfl rfl (by decide +kernel) ⟨Nat.le_of_ble_eq_true rfl, Nat.le_of_ble_eq_true rfl⟩) (by decide) (sE_21 G _ _) rfl rfl (Nat.le_of_ble_eq_true rfl) dX8_freeThen_5 rfl ⟨Nat.zero_le _, Nat.zero_le _⟩ (fun H locs hi9 hS10 => ?_)
  refine x_istore_n M hl0 dX8_freeThen_8 (by decide) [(1, iV r6), (0, .ref (G.1 21 0))] rfl (fun ls hl11 => ?_)
  refine x_aload_n M hl11 dX8_freeThen_9 1 rfl ?_
  obtain ⟨r12, w13, hc14, hf⟩ := bdt hf
  refine x_callVv (c0 := 21) (t0 := 0) (As := []) (rest := []) M hl11 hS10 (c_X8_begins l   hc14) (cwV 0 M.2.2.2.2.1 gX8_freeThen_X8_begins rfl rfl rfl (by decide +kernel) ⟨Nat.le_of_ble_eq_true rfl, Nat.le_of_ble_eq_true rfl⟩) (by decide) (sE_21 G _ _) rfl rfl (Nat.le_of_ble_eq_true rfl) dX8_freeThen_10 rfl ⟨Nat.zero_le _, Nat.zero_le _⟩ (fun H locs hS16 => ?_)
  refine x_iload_n M hl11 dX8_freeThen_13 0 rfl ?_
  refine x_aload_n M hl11 dX8_freeThen_14 1 rfl ?_
  obtain ⟨r17, w18, hc19, hf⟩ := bdt hf
  refine x_callVi (c0 := 21) (t0 := 0) (As := []) (rest := [iV r6]) M hl11 hS16 (c_X8_stepsToEnd l   hc19) (cwV 0 M.2.2.2.2.1 gX8_freeThen_X8_stepsToEnd rfl rfl rfl (by decide +kernel) ⟨Nat.le_of_ble_eq_true rfl, Nat.le_of_ble_eq_true rfl⟩) (by decide) (sE_21 G _ _) rfl rfl (Nat.le_of_ble_eq_true rfl) dX8_freeThen_15 rfl ⟨Nat.zero_le _, Nat.zero_le _⟩ (fun H locs hi20 hS21 => ?_)
  obtain ⟨g22, hf⟩ := gdt hf
  refine x_iadd M dX8_freeThen_18 ?_
  refine x_istore_n M hl11 dX8_freeThen_19 (by decide) [(1, iV (r6 + r17)), (0, .ref (G.1 21 0))] rfl (fun ls hl23 => ?_)
  refine x_iload_n M hl23 dX8_freeThen_20 0 rfl ?_
  refine x_if_ge (tgt := 29) M g22 dX8_freeThen_21 (by decide) (fun hc => ?_) (fun hc => ?_)
  · have hf := iff_ hf (Int.not_lt.mpr hc)
    refine x_aload_n M hl23 dX8_freeThen_29 1 rfl ?_
    refine x_aload_n M hl23 dX8_freeThen_30 1 rfl ?_
    refine x_get (c0 := 21) (t0 := 0) (v := .ref (G.1 22 0)) M hS21 (by decide) (ref := "NamedMovesModel") inX8_freeThen_X8 (sE_21 G _ _) rfl 0 (by decide) (M.2.2.2.2.1 _ flX8_freeThen_7) rfl rfl dX8_freeThen_31 ?_
    refine x_iconst M dX8_freeThen_34 ?_
    refine x_iald (c0 := 22) (t0 := 0) M hS21 (by decide) (hs_22 G _) rfl ⟨by decide, by decide⟩ (by decide) dX8_freeThen_35 ?_
    obtain ⟨r24, w25, hc26, hf⟩ := bdt hf
    refine x_callVi (c0 := 21) (t0 := 0) (As := [iV (w18 22 0 3)]) (rest := []) M hl23 hS21 (c_X8_free l  (hS21.inr _ _ _) hc26) (cwV 1 M.2.2.2.2.1 gX8_freeThen_X8_free rfl rfl rfl (by decide +kernel) ⟨Nat.le_of_ble_eq_true rfl, Nat.le_of_ble_eq_true rfl⟩) (by decide) (sE_21 G _ _) rfl rfl (Nat.le_of_ble_eq_true rfl) dX8_freeThen_36 rfl ⟨Nat.zero_le _, Nat.zero_le _⟩ (fun H locs hi27 hS28 => ?_)
    refine x_istore_n M hl23 dX8_freeThen_39 (by decide) [(2, iV r24), (1, iV (r6 + r17)), (0, .ref (G.1 21 0))] rfl (fun ls hl29 => ?_)
    refine x_aload_n M hl29 dX8_freeThen_40 2 rfl ?_
    obtain ⟨r30, w31, hc32, hf⟩ := bdt hf
    refine x_callVv (c0 := 21) (t0 := 0) (As := []) (rest := []) M hl29 hS28 (c_X8_exchanges l   hc32) (cwV 0 M.2.2.2.2.1 gX8_freeThen_X8_exchanges rfl rfl rfl (by decide +kernel) ⟨Nat.le_of_ble_eq_true rfl, Nat.le_of_ble_eq_true rfl⟩) (by decide) (sE_21 G _ _) rfl rfl (Nat.le_of_ble_eq_true rfl) dX8_freeThen_41 rfl ⟨Nat.zero_le _, Nat.zero_le _⟩ (fun H locs hS34 => ?_)
    refine x_iload_n M hl29 dX8_freeThen_44 0 rfl ?_
    exact x_iret M hr hf hS34 hi27 dX8_freeThen_45
  · have hf := ift hf (Int.not_le.mp hc)
    refine x_bipush M dX8_freeThen_24 rfl ?_
    refine x_goto (tgt := 39) M dX8_freeThen_26 (by decide) ?_
    refine x_istore_n M hl23 dX8_freeThen_39 (by decide) [(2, iV ((-9))), (1, iV (r6 + r17)), (0, .ref (G.1 21 0))] rfl (fun ls hl35 => ?_)
    refine x_aload_n M hl35 dX8_freeThen_40 2 rfl ?_
    obtain ⟨r36, w37, hc38, hf⟩ := bdt hf
    refine x_callVv (c0 := 21) (t0 := 0) (As := []) (rest := []) M hl35 hS21 (c_X8_exchanges l   hc38) (cwV 0 M.2.2.2.2.1 gX8_freeThen_X8_exchanges rfl rfl rfl (by decide +kernel) ⟨Nat.le_of_ble_eq_true rfl, Nat.le_of_ble_eq_true rfl⟩) (by decide) (sE_21 G _ _) rfl rfl (Nat.le_of_ble_eq_true rfl) dX8_freeThen_41 rfl ⟨Nat.zero_le _, Nat.zero_le _⟩ (fun H locs hS40 => ?_)
    refine x_iload_n M hl35 dX8_freeThen_44 0 rfl ?_
    exact x_iret M hr hf hS40 ⟨by decide, by decide⟩ dX8_freeThen_45

end
