section
variable {p : Program} {l : Launch} {e : Env} {s : State} {m : MethodId} {args : Array Value} {below : List Frame} {meth : Method} {c : Code} {G : GG}
/-! X7_copy -/
theorem flX7_copy_12 : Cond.fieldLink RX7 12 "NamedMoves" "store" "LNamedMoves$Store;" ∈ wsX7_copy := by decide +kernel
theorem inX7_copy_X5 : ∀ w ∈ u_ws RX5 TX5 10, w ∈ wsX7_copy := by decide +kernel
theorem inX7_copy_X7 : ∀ w ∈ u_ws RX7 TX7 6, w ∈ wsX7_copy := by decide +kernel
set_option maxHeartbeats 4000000 in
set_option maxRecDepth 100000 in
theorem c_X7_copy (l : Launch) {G : GG} {x1 : Int} (hx1 : InR x1) {x2 : Int} (hx2 : InR x2) {w : Wd} {r : Int} {w' : Wd} (hf : X7_copy x1 x2 w = some (r, w')) : Met l yX7_copy wsX7_copy (rmk 2) (PcG G w [.ref (G.1 10 0), iV x1, iV x2]) (QiG G r w') 0 0 (GA G) := by
  refine met_of (own := RX7) (by decide) rfl (Nat.le_of_ble_eq_true rfl) rfl ?_
  intro p e s m args below meth c M hr ls hl0 hS0
  have hl0 : lv_has ls 4 [(0, .ref (G.1 10 0)), (1, iV x1), (2, iV x2)] := hl0
  unfold X7_copy at hf
  refine x_aload_n M hl0 dX7_copy_0 0 rfl ?_
  refine x_get (c0 := 10) (t0 := 0) (v := .ref (G.1 0 0)) M hS0 (by decide) (ref := "NamedMoves") inX7_copy_X7 (sE_10 G _ _) rfl 0 (by decide) (M.2.2.2.2.1 _ flX7_copy_12) rfl rfl dX7_copy_1 ?_
  refine x_getN (host := "NamedMoves") (c0 := 0) (t0 := 0) (v := .ref (G.1 2 0)) M hS0 (by decide) (ref := "NamedMoves$Store") inX7_copy_X5 (sE_0 G _ _) rfl 1 (by decide) M.2.2.2.2.2.2.2.1 rfl rfl dX7_copy_4 ?_
  refine x_astore_n M hl0 dX7_copy_7 (by decide) [(3, .ref (G.1 2 0)), (0, .ref (G.1 10 0)), (1, iV x1), (2, iV x2)] rfl (fun ls hl1 => ?_)
  refine x_aload_n M hl1 dX7_copy_8 0 rfl ?_
  refine x_iload_n M hl1 dX7_copy_9 2 rfl ?_
  obtain ⟨r2, w3, hc4, hf⟩ := bdt hf
  refine x_callVi (c0 := 2) (t0 := 0) (As := [iV x1]) (rest := []) M hl1 hS0 (c_X0_isAt l (by decide) hx1 hc4) (cwV 1 M.2.2.2.2.1 gX7_copy_X0_isAt rfl rfl rfl (by decide +kernel) ⟨Nat.le_of_ble_eq_true rfl, Nat.le_of_ble_eq_true rfl⟩) (by decide) (sE_2 G _ _) rfl rfl (Nat.le_of_ble_eq_true rfl) dX7_copy_10 rfl ⟨Nat.zero_le _, Nat.zero_le _⟩ (fun H locs hi5 hS6 => ?_)
  refine x_if_ne (tgt := 18) M hi5 dX7_copy_13 (by decide) (fun hc => ?_) (fun hc => ?_)
  · have hf := iff_ hf hc
    refine x_iload_n M hl1 dX7_copy_18 3 rfl ?_
    by_cases hq0 : x2 = 0
    · have hf := ift hf hq0
      refine x_table (tgt := 56) M hx2 dX7_copy_19 (by decide) (by rw [hq0]; decide) ?_
      refine x_aload_n M hl1 dX7_copy_56 0 rfl ?_
      refine x_iload_n M hl1 dX7_copy_57 2 rfl ?_
      obtain ⟨r7, w8, hc9, hf⟩ := bdt hf
      refine x_callVi (c0 := 2) (t0 := 0) (As := [iV x1]) (rest := []) M hl1 hS6 (c_X0_thingAt l (by decide) hx1 hc9) (cwV 1 M.2.2.2.2.1 gX7_copy_X0_thingAt rfl rfl rfl (by decide +kernel) ⟨Nat.le_of_ble_eq_true rfl, Nat.le_of_ble_eq_true rfl⟩) (by decide) (sE_2 G _ _) rfl rfl (Nat.le_of_ble_eq_true rfl) dX7_copy_58 rfl ⟨Nat.zero_le _, Nat.zero_le _⟩ (fun H locs hi10 hS11 => ?_)
      exact x_iret M hr hf hS11 hi10 dX7_copy_61
    have hf := iff_ hf hq0
    by_cases hq1 : x2 = 1
    · have hf := ift hf hq1
      refine x_table (tgt := 62) M hx2 dX7_copy_19 (by decide) (by rw [hq1]; decide) ?_
      refine x_aload_n M hl1 dX7_copy_62 0 rfl ?_
      refine x_iload_n M hl1 dX7_copy_63 2 rfl ?_
      obtain ⟨r12, w13, hc14, hf⟩ := bdt hf
      refine x_callVi (c0 := 2) (t0 := 0) (As := [iV x1]) (rest := []) M hl1 hS6 (c_X0_sizeAt l (by decide) hx1 hc14) (cwV 1 M.2.2.2.2.1 gX7_copy_X0_sizeAt rfl rfl rfl (by decide +kernel) ⟨Nat.le_of_ble_eq_true rfl, Nat.le_of_ble_eq_true rfl⟩) (by decide) (sE_2 G _ _) rfl rfl (Nat.le_of_ble_eq_true rfl) dX7_copy_64 rfl ⟨Nat.zero_le _, Nat.zero_le _⟩ (fun H locs hi15 hS16 => ?_)
      exact x_iret M hr hf hS16 hi15 dX7_copy_67
    have hf := iff_ hf hq1
    by_cases hq2 : x2 = 2
    · have hf := ift hf hq2
      refine x_table (tgt := 68) M hx2 dX7_copy_19 (by decide) (by rw [hq2]; decide) ?_
      refine x_aload_n M hl1 dX7_copy_68 0 rfl ?_
      refine x_iload_n M hl1 dX7_copy_69 2 rfl ?_
      obtain ⟨r17, w18, hc19, hf⟩ := bdt hf
      refine x_callVi (c0 := 2) (t0 := 0) (As := [iV x1]) (rest := []) M hl1 hS6 (c_X0_noteAt l (by decide) hx1 hc19) (cwV 1 M.2.2.2.2.1 gX7_copy_X0_noteAt rfl rfl rfl (by decide +kernel) ⟨Nat.le_of_ble_eq_true rfl, Nat.le_of_ble_eq_true rfl⟩) (by decide) (sE_2 G _ _) rfl rfl (Nat.le_of_ble_eq_true rfl) dX7_copy_70 rfl ⟨Nat.zero_le _, Nat.zero_le _⟩ (fun H locs hi20 hS21 => ?_)
      obtain ⟨r22, w23, hc24, hf⟩ := bdt hf
      refine x_callSi (As := [iV r17]) (rest := []) M hl1 hS21 (c_X7_orNone l  hi20 hc24) (va_cwS 1 M.2.2.2.2.1 gX7_copy_X7_orNone rfl rfl rfl (by decide +kernel) ⟨Nat.le_of_ble_eq_true rfl, Nat.le_of_ble_eq_true rfl⟩) rfl (Nat.le_of_ble_eq_true rfl) dX7_copy_73 rfl ⟨Nat.zero_le _, Nat.zero_le _⟩ (fun H locs hi25 hS26 => ?_)
      exact x_iret M hr hf hS26 hi25 dX7_copy_76
    have hf := iff_ hf hq2
    by_cases hq3 : x2 = 3
    · have hf := ift hf hq3
      refine x_table (tgt := 77) M hx2 dX7_copy_19 (by decide) (by rw [hq3]; decide) ?_
      refine x_aload_n M hl1 dX7_copy_77 0 rfl ?_
      refine x_iload_n M hl1 dX7_copy_78 2 rfl ?_
      obtain ⟨r27, w28, hc29, hf⟩ := bdt hf
      refine x_callVi (c0 := 2) (t0 := 0) (As := [iV x1]) (rest := []) M hl1 hS6 (c_X0_isMarked l (by decide) hx1 hc29) (cwV 1 M.2.2.2.2.1 gX7_copy_X0_isMarked rfl rfl rfl (by decide +kernel) ⟨Nat.le_of_ble_eq_true rfl, Nat.le_of_ble_eq_true rfl⟩) (by decide) (sE_2 G _ _) rfl rfl (Nat.le_of_ble_eq_true rfl) dX7_copy_79 rfl ⟨Nat.zero_le _, Nat.zero_le _⟩ (fun H locs hi30 hS31 => ?_)
      refine x_if_eq (tgt := 89) M hi30 dX7_copy_82 (by decide) (fun hc => ?_) (fun hc => ?_)
      · have hf := ift hf hc
        refine x_iconst M dX7_copy_89 ?_
        exact x_iret M hr hf hS31 ⟨by decide, by decide⟩ dX7_copy_90
      · have hf := iff_ hf hc
        refine x_iconst M dX7_copy_85 ?_
        refine x_goto (tgt := 90) M dX7_copy_86 (by decide) ?_
        exact x_iret M hr hf hS31 ⟨by decide, by decide⟩ dX7_copy_90
    have hf := iff_ hf hq3
    by_cases hq4 : x2 = 4
    · have hf := ift hf hq4
      refine x_table (tgt := 91) M hx2 dX7_copy_19 (by decide) (by rw [hq4]; decide) ?_
      refine x_aload_n M hl1 dX7_copy_91 0 rfl ?_
      refine x_iload_n M hl1 dX7_copy_92 2 rfl ?_
      refine x_iconst M dX7_copy_93 ?_
      obtain ⟨r32, w33, hc34, hf⟩ := bdt hf
      refine x_callVi (c0 := 2) (t0 := 0) (As := [iV x1, iV 0]) (rest := []) M hl1 hS6 (c_X0_nameAt l (by decide) hx1 ⟨by decide, by decide⟩ hc34) (cwV 2 M.2.2.2.2.1 gX7_copy_X0_nameAt rfl rfl rfl (by decide +kernel) ⟨Nat.le_of_ble_eq_true rfl, Nat.le_of_ble_eq_true rfl⟩) (by decide) (sE_2 G _ _) rfl rfl (Nat.le_of_ble_eq_true rfl) dX7_copy_94 rfl ⟨Nat.zero_le _, Nat.zero_le _⟩ (fun H locs hi35 hS36 => ?_)
      obtain ⟨r37, w38, hc39, hf⟩ := bdt hf
      refine x_callSi (As := [iV r32]) (rest := []) M hl1 hS36 (c_X7_orNone l  hi35 hc39) (va_cwS 1 M.2.2.2.2.1 gX7_copy_X7_orNone rfl rfl rfl (by decide +kernel) ⟨Nat.le_of_ble_eq_true rfl, Nat.le_of_ble_eq_true rfl⟩) rfl (Nat.le_of_ble_eq_true rfl) dX7_copy_97 rfl ⟨Nat.zero_le _, Nat.zero_le _⟩ (fun H locs hi40 hS41 => ?_)
      exact x_iret M hr hf hS41 hi40 dX7_copy_100
    have hf := iff_ hf hq4
    by_cases hq5 : x2 = 5
    · have hf := ift hf hq5
      refine x_table (tgt := 101) M hx2 dX7_copy_19 (by decide) (by rw [hq5]; decide) ?_
      refine x_aload_n M hl1 dX7_copy_101 0 rfl ?_
      refine x_iload_n M hl1 dX7_copy_102 2 rfl ?_
      refine x_iconst M dX7_copy_103 ?_
      obtain ⟨r42, w43, hc44, hf⟩ := bdt hf
      refine x_callVi (c0 := 2) (t0 := 0) (As := [iV x1, iV 1]) (rest := []) M hl1 hS6 (c_X0_nameAt l (by decide) hx1 ⟨by decide, by decide⟩ hc44) (cwV 2 M.2.2.2.2.1 gX7_copy_X0_nameAt rfl rfl rfl (by decide +kernel) ⟨Nat.le_of_ble_eq_true rfl, Nat.le_of_ble_eq_true rfl⟩) (by decide) (sE_2 G _ _) rfl rfl (Nat.le_of_ble_eq_true rfl) dX7_copy_104 rfl ⟨Nat.zero_le _, Nat.zero_le _⟩ (fun H locs hi45 hS46 => ?_)
      obtain ⟨r47, w48, hc49, hf⟩ := bdt hf
      refine x_callSi (As := [iV r42]) (rest := []) M hl1 hS46 (c_X7_orNone l  hi45 hc49) (va_cwS 1 M.2.2.2.2.1 gX7_copy_X7_orNone rfl rfl rfl (by decide +kernel) ⟨Nat.le_of_ble_eq_true rfl, Nat.le_of_ble_eq_true rfl⟩) rfl (Nat.le_of_ble_eq_true rfl) dX7_copy_107 rfl ⟨Nat.zero_le _, Nat.zero_le _⟩ (fun H locs hi50 hS51 => ?_)
      exact x_iret M hr hf hS51 hi50 dX7_copy_110
    have hf := iff_ hf hq5
    have hz : x2 < 0 ∨ 5 < x2 := by omega
    refine x_table (tgt := 111) M hx2 dX7_copy_19 (by decide) (by rcases hz with hz | hz <;> first | (rw [hz]; decide) | (unfold tsel; rw [if_pos (by omega)]; decide)) ?_
    refine x_iconst M dX7_copy_111 ?_
    exact x_iret M hr hf hS6 ⟨by decide, by decide⟩ dX7_copy_112
  · have hf := ift hf (Decidable.of_not_not hc)
    refine x_iconst M dX7_copy_16 ?_
    exact x_iret M hr hf hS6 ⟨by decide, by decide⟩ dX7_copy_17

/-! X7_where -/
theorem flX7_where_12 : Cond.fieldLink RX7 12 "NamedMoves" "store" "LNamedMoves$Store;" ∈ wsX7_where := by decide +kernel
theorem inX7_where_X5 : ∀ w ∈ u_ws RX5 TX5 10, w ∈ wsX7_where := by decide +kernel
theorem inX7_where_X7 : ∀ w ∈ u_ws RX7 TX7 6, w ∈ wsX7_where := by decide +kernel
set_option maxHeartbeats 4000000 in
set_option maxRecDepth 100000 in
theorem c_X7_where (l : Launch) {G : GG} {x1 : Int} (hx1 : InR x1) {x2 : Int} (hx2 : InR x2) {w : Wd} {r : Int} {w' : Wd} (hf : X7_where x1 x2 w = some (r, w')) : Met l yX7_where wsX7_where (rmk 3) (PcG G w [.ref (G.1 10 0), iV x1, iV x2]) (QiG G r w') 0 0 (GA G) := by
  refine met_of (own := RX7) (by decide) rfl (Nat.le_of_ble_eq_true rfl) rfl ?_
  intro p e s m args below meth c M hr ls hl0 hS0
  have hl0 : lv_has ls 3 [(0, .ref (G.1 10 0)), (1, iV x1), (2, iV x2)] := hl0
  unfold X7_where at hf
  refine x_aload_n M hl0 dX7_where_0 0 rfl ?_
  refine x_get (c0 := 10) (t0 := 0) (v := .ref (G.1 0 0)) M hS0 (by decide) (ref := "NamedMoves") inX7_where_X7 (sE_10 G _ _) rfl 0 (by decide) (M.2.2.2.2.1 _ flX7_where_12) rfl rfl dX7_where_1 ?_
  refine x_iload_n M hl0 dX7_where_4 1 rfl ?_
  obtain ⟨r1, w2, hc3, hf⟩ := bdt hf
  refine x_callVi (c0 := 0) (t0 := 0) (As := [iV x1]) (rest := []) M hl0 hS0 (c_X5_isThing l (by decide) hx1 hc3) (cwV 1 M.2.2.2.2.1 gX7_where_X5_isThing rfl rfl rfl (by decide +kernel) ⟨Nat.le_of_ble_eq_true rfl, Nat.le_of_ble_eq_true rfl⟩) (by decide) (sE_0 G _ _) rfl rfl (Nat.le_of_ble_eq_true rfl) dX7_where_5 rfl ⟨Nat.zero_le _, Nat.zero_le _⟩ (fun H locs hi4 hS5 => ?_)
  refine x_if_eq (tgt := 15) M hi4 dX7_where_8 (by decide) (fun hc => ?_) (fun hc => ?_)
  · have hf := ift hf hc
    refine x_iconst M dX7_where_15 ?_
    exact x_iret M hr hf hS5 ⟨by decide, by decide⟩ dX7_where_16
  · have hf := iff_ hf hc
    refine x_iload_n M hl0 dX7_where_11 2 rfl ?_
    refine x_if_ge (tgt := 17) M hx2 dX7_where_12 (by decide) (fun hc => ?_) (fun hc => ?_)
    · have hf := iff_ hf (Int.not_lt.mpr hc)
      refine x_aload_n M hl0 dX7_where_17 0 rfl ?_
      refine x_get (c0 := 10) (t0 := 0) (v := .ref (G.1 0 0)) M hS5 (by decide) (ref := "NamedMoves") inX7_where_X7 (sE_10 G _ _) rfl 0 (by decide) (M.2.2.2.2.1 _ flX7_where_12) rfl rfl dX7_where_18 ?_
      refine x_getN (host := "NamedMoves") (c0 := 0) (t0 := 0) (v := .ref (G.1 2 0)) M hS5 (by decide) (ref := "NamedMoves$Store") inX7_where_X5 (sE_0 G _ _) rfl 1 (by decide) M.2.2.2.2.2.2.2.1 rfl rfl dX7_where_21 ?_
      refine x_iload_n M hl0 dX7_where_24 1 rfl ?_
      refine x_iload_n M hl0 dX7_where_25 2 rfl ?_
      obtain ⟨r6, w7, hc8, hf⟩ := bdt hf
      refine x_callVi (c0 := 2) (t0 := 0) (As := [iV x1, iV x2]) (rest := []) M hl0 hS5 (c_X0_addressOf l (by decide) hx1 hx2 hc8) (cwV 2 M.2.2.2.2.1 gX7_where_X0_addressOf rfl rfl rfl (by decide +kernel) ⟨Nat.le_of_ble_eq_true rfl, Nat.le_of_ble_eq_true rfl⟩) (by decide) (sE_2 G _ _) rfl rfl (Nat.le_of_ble_eq_true rfl) dX7_where_26 rfl ⟨Nat.zero_le _, Nat.zero_le _⟩ (fun H locs hi9 hS10 => ?_)
      obtain ⟨r11, w12, hc13, hf⟩ := bdt hf
      refine x_callSi (As := [iV r6]) (rest := []) M hl0 hS10 (c_X7_orNone l  hi9 hc13) (va_cwS 1 M.2.2.2.2.1 gX7_where_X7_orNone rfl rfl rfl (by decide +kernel) ⟨Nat.le_of_ble_eq_true rfl, Nat.le_of_ble_eq_true rfl⟩) rfl (Nat.le_of_ble_eq_true rfl) dX7_where_29 rfl ⟨Nat.zero_le _, Nat.zero_le _⟩ (fun H locs hi14 hS15 => ?_)
      exact x_iret M hr hf hS15 hi14 dX7_where_32
    · have hf := ift hf (Int.not_le.mp hc)
      refine x_iconst M dX7_where_15 ?_
      exact x_iret M hr hf hS5 ⟨by decide, by decide⟩ dX7_where_16

/-! X4_clear -/
theorem flX4_clear_22 : Cond.fieldLink RX4 22 "NamedMoves$Reach" "foundNumber" "I" ∈ wsX4_clear := by decide +kernel
theorem flX4_clear_9 : Cond.fieldLink RX4 9 "NamedMoves$Reach" "reached" "[Z" ∈ wsX4_clear := by decide +kernel
theorem inX4_clear_X4 : ∀ w ∈ u_ws RX4 TX4 4, w ∈ wsX4_clear := by decide +kernel
set_option maxHeartbeats 4000000 in
set_option maxRecDepth 100000 in
theorem X4_clear_b2_ok (M : MC p s m args meth c cX4_clear 2 RX4 wsX4_clear G) (hr : meth.sig.returnType = none) : ∀ n : Nat, ∀ x1 : Int, ∀ w : Wd, InR x1 → ∀ (H : Heap) (locs : List Loc), ST G s w H locs → ∀ ls : Array Slot, lv_has ls 2 [(0, .ref (G.1 13 0)), (1, iV x1)] → ∀ (r : Int) (w' : Wd), X4_clear_b2 n x1 w = some (r, w') → W p l e (rmk 0) s m args below meth c H locs 0 0 (MQ below (QvG G w') args s 0 0 (GA G)) (F0 m 2 ls []) := by
  intro n
  induction n with
  | zero =>
    intro x1 w hx1 H locs hS0 ls hl0 r w' hf
    cases hf
  | succ n ih =>
    intro x1 w hx1 H locs hS0 ls hl0 r w' hf
    rw [X4_clear_b2_s] at hf
    refine x_iload_n M hl0 dX4_clear_2 1 rfl ?_
    refine x_sipush M dX4_clear_3 rfl ?_
    refine x_icmp_ge (tgt := 22) M hx1 ⟨by decide, by decide⟩ dX4_clear_6 (by decide) (fun hc => ?_) (fun hc => ?_)
    · have hf := iff_ hf (Int.not_lt.mpr hc)
      refine x_aload_n M hl0 dX4_clear_22 0 rfl ?_
      refine x_iconst M dX4_clear_23 ?_
      refine x_put (c0 := 13) (t0 := 0) M hS0 (by decide) (ref := "NamedMoves$Reach") inX4_clear_X4 tyX4 tyX4_ok nmX4 (sE_13 G _ _) rfl 3 (by decide) (M.2.2.2.2.1 _ flX4_clear_22) rfl rfl (ty := tyX4 3) ⟨by decide, by decide⟩ (tyX4_ok 3 (by decide)) rfl rfl (by simp) 0 (pset_13_0 G _ _ _) dX4_clear_24 (fun H locs hS2 => ?_)
      exact x_vret M hr hf hS2 dX4_clear_27
    · have hf := ift hf (Int.not_le.mp hc)
      refine x_aload_n M hl0 dX4_clear_9 0 rfl ?_
      refine x_get (c0 := 13) (t0 := 0) (v := .ref (G.1 14 0)) M hS0 (by decide) (ref := "NamedMoves$Reach") inX4_clear_X4 (sE_13 G _ _) rfl 0 (by decide) (M.2.2.2.2.1 _ flX4_clear_9) rfl rfl dX4_clear_10 ?_
      refine x_iload_n M hl0 dX4_clear_13 1 rfl ?_
      refine x_iconst M dX4_clear_14 ?_
      obtain ⟨g3, hf⟩ := gdt hf
      refine x_zast (c0 := 14) (t0 := 0) M hS0 (by decide) (hs_14 G _) rfl g3 (by decide) (Or.inl rfl) dX4_clear_15 (fun H locs hS4 => ?_)
      obtain ⟨g5, hf⟩ := gdt hf
      refine x_iinc M hl0 dX4_clear_16 1 rfl (by decide) [(1, iV (x1 + 1)), (0, .ref (G.1 13 0))] rfl (fun ls hl6 => ?_)
      refine x_goto (tgt := 2) M dX4_clear_19 (by decide) ?_
      exact ih (x1 + 1) (up w 14 0 x1.toNat 0) g5 _ _ hS4 _ (lv_sub hl6 [1, 0] rfl) _ _ hf

set_option maxHeartbeats 4000000 in
set_option maxRecDepth 100000 in
theorem c_X4_clear (l : Launch) {G : GG} {w : Wd} {r : Int} {w' : Wd} (hf : X4_clear w = some (r, w')) : Met l yX4_clear wsX4_clear (rmk 0) (PcG G w [.ref (G.1 13 0)]) (QvG G w') 0 0 (GA G) := by
  refine met_of (own := RX4) (by decide) rfl (Nat.le_of_ble_eq_true rfl) rfl ?_
  intro p e s m args below meth c M hr ls hl0 hS0
  have hl0 : lv_has ls 2 [(0, .ref (G.1 13 0))] := hl0
  unfold X4_clear at hf
  refine x_iconst M dX4_clear_0 ?_
  refine x_istore_n M hl0 dX4_clear_1 (by decide) [(1, iV 0), (0, .ref (G.1 13 0))] rfl (fun ls hl1 => ?_)
  exact X4_clear_b2_ok M hr LF 0 w ⟨by decide, by decide⟩ _ _ hS0 _ (lv_sub hl1 [1, 0] rfl) _ _ hf

/-! X0_leadsTo -/
set_option maxHeartbeats 4000000 in
set_option maxRecDepth 100000 in
theorem c_X0_leadsTo (l : Launch) {G : GG} {t : Nat} (ht : t < 8) {x1 : Int} (hx1 : InR x1) {w : Wd} {r : Int} {w' : Wd} (hf : X0_leadsTo t x1 w = some (r, w')) : Met l yX0_leadsTo wsX0_leadsTo (rmk 2) (PcG G w [.ref (G.1 2 t), iV x1]) (QiG G r w') 0 0 (GA G) := by
  refine met_of (own := RX0) (by decide) rfl (Nat.le_of_ble_eq_true rfl) rfl ?_
  intro p e s m args below meth c M hr ls hl0 hS0
  have hl0 : lv_has ls 3 [(0, .ref (G.1 2 t)), (1, iV x1)] := hl0
  unfold X0_leadsTo at hf
  refine x_aload_n M hl0 dX0_leadsTo_0 0 rfl ?_
  refine x_iload_n M hl0 dX0_leadsTo_1 1 rfl ?_
  obtain ⟨r1, w2, hc3, hf⟩ := bdt hf
  refine x_callVi (c0 := 2) (t0 := t) (As := [iV x1]) (rest := []) M hl0 hS0 (c_X0_noteAt l ht hx1 hc3) (cwV 1 M.2.2.2.2.1 gX0_leadsTo_X0_noteAt rfl rfl rfl (by decide +kernel) ⟨Nat.le_of_ble_eq_true rfl, Nat.le_of_ble_eq_true rfl⟩) (Or.inl ⟨by decide, ht⟩) (sE_2 G _ _) rfl rfl (Nat.le_of_ble_eq_true rfl) dX0_leadsTo_2 rfl ⟨Nat.zero_le _, Nat.zero_le _⟩ (fun H locs hi4 hS5 => ?_)
  refine x_istore_n M hl0 dX0_leadsTo_5 (by decide) [(2, iV r1), (0, .ref (G.1 2 t)), (1, iV x1)] rfl (fun ls hl6 => ?_)
  refine x_iload_n M hl6 dX0_leadsTo_6 0 rfl ?_
  refine x_sipush M dX0_leadsTo_7 rfl ?_
  refine x_icmp_ne (tgt := 17) M hi4 ⟨by decide, by decide⟩ dX0_leadsTo_10 (by decide) (fun hc => ?_) (fun hc => ?_)
  · have hf := iff_ hf hc
    refine x_iload_n M hl6 dX0_leadsTo_17 0 rfl ?_
    exact x_iret M hr hf hS5 hi4 dX0_leadsTo_18
  · have hf := ift hf (Decidable.of_not_not hc)
    refine x_iload_n M hl6 dX0_leadsTo_13 2 rfl ?_
    refine x_goto (tgt := 18) M dX0_leadsTo_14 (by decide) ?_
    exact x_iret M hr hf hS5 hx1 dX0_leadsTo_18

/-! X4_isReached -/
theorem flX4_isReached_9 : Cond.fieldLink RX4 9 "NamedMoves$Reach" "reached" "[Z" ∈ wsX4_isReached := by decide +kernel
theorem inX4_isReached_X4 : ∀ w ∈ u_ws RX4 TX4 4, w ∈ wsX4_isReached := by decide +kernel
set_option maxHeartbeats 4000000 in
set_option maxRecDepth 100000 in
theorem c_X4_isReached (l : Launch) {G : GG} {x1 : Int} (hx1 : InR x1) {w : Wd} {r : Int} {w' : Wd} (hf : X4_isReached x1 w = some (r, w')) : Met l yX4_isReached wsX4_isReached (rmk 0) (PcG G w [.ref (G.1 13 0), iV x1]) (QiG G r w') 0 0 (GA G) := by
  refine met_of (own := RX4) (by decide) rfl (Nat.le_of_ble_eq_true rfl) rfl ?_
  intro p e s m args below meth c M hr ls hl0 hS0
  have hl0 : lv_has ls 2 [(0, .ref (G.1 13 0)), (1, iV x1)] := hl0
  unfold X4_isReached at hf
  refine x_iload_n M hl0 dX4_isReached_0 1 rfl ?_
  refine x_if_lt (tgt := 24) M hx1 dX4_isReached_1 (by decide) (fun hc => ?_) (fun hc => ?_)
  · have hf := ift hf hc
    refine x_iconst M dX4_isReached_24 ?_
    exact x_zret M hr hf hS0 (Or.inl rfl) dX4_isReached_25
  · have hf := iff_ hf hc
    refine x_iload_n M hl0 dX4_isReached_4 1 rfl ?_
    refine x_sipush M dX4_isReached_5 rfl ?_
    refine x_icmp_ge (tgt := 24) M hx1 ⟨by decide, by decide⟩ dX4_isReached_8 (by decide) (fun hc => ?_) (fun hc => ?_)
    · have hf := iff_ hf (Int.not_lt.mpr hc)
      refine x_iconst M dX4_isReached_24 ?_
      exact x_zret M hr hf hS0 (Or.inl rfl) dX4_isReached_25
    · have hf := ift hf (Int.not_le.mp hc)
      refine x_aload_n M hl0 dX4_isReached_11 0 rfl ?_
      refine x_get (c0 := 13) (t0 := 0) (v := .ref (G.1 14 0)) M hS0 (by decide) (ref := "NamedMoves$Reach") inX4_isReached_X4 (sE_13 G _ _) rfl 0 (by decide) (M.2.2.2.2.1 _ flX4_isReached_9) rfl rfl dX4_isReached_12 ?_
      refine x_iload_n M hl0 dX4_isReached_15 1 rfl ?_
      obtain ⟨g1, hf⟩ := gdt hf
      refine x_zald (c0 := 14) (t0 := 0) M hS0 (by decide) (hs_14 G _) rfl g1 (by decide) dX4_isReached_16 ?_
      refine x_if_eq (tgt := 24) M (hS0.inr _ _ _) dX4_isReached_17 (by decide) (fun hc => ?_) (fun hc => ?_)
      · have hf := ift hf hc
        refine x_iconst M dX4_isReached_24 ?_
        exact x_zret M hr hf hS0 (Or.inl rfl) dX4_isReached_25
      · have hf := iff_ hf hc
        refine x_iconst M dX4_isReached_20 ?_
        refine x_goto (tgt := 25) M dX4_isReached_21 (by decide) ?_
        exact x_zret M hr hf hS0 (Or.inr rfl) dX4_isReached_25

/-! X4_add -/
theorem flX4_add_15 : Cond.fieldLink RX4 15 "NamedMoves$Reach" "found" "[I" ∈ wsX4_add := by decide +kernel
theorem flX4_add_22 : Cond.fieldLink RX4 22 "NamedMoves$Reach" "foundNumber" "I" ∈ wsX4_add := by decide +kernel
theorem flX4_add_9 : Cond.fieldLink RX4 9 "NamedMoves$Reach" "reached" "[Z" ∈ wsX4_add := by decide +kernel
theorem inX4_add_X4 : ∀ w ∈ u_ws RX4 TX4 4, w ∈ wsX4_add := by decide +kernel
set_option maxHeartbeats 4000000 in
set_option maxRecDepth 100000 in
theorem c_X4_add (l : Launch) {G : GG} {t1 : Nat} (ht1 : t1 < 8) {x2 : Int} (hx2 : InR x2) {w : Wd} {r : Int} {w' : Wd} (hf : X4_add t1 x2 w = some (r, w')) : Met l yX4_add wsX4_add (rmk 3) (PcG G w [.ref (G.1 13 0), .ref (G.1 2 t1), iV x2]) (QvG G w') 0 0 (GA G) := by
  refine met_of (own := RX4) (by decide) rfl (Nat.le_of_ble_eq_true rfl) rfl ?_
  intro p e s m args below meth c M hr ls hl0 hS0
  have hl0 : lv_has ls 4 [(0, .ref (G.1 13 0)), (1, .ref (G.1 2 t1)), (2, iV x2)] := hl0
  unfold X4_add at hf
  refine x_aload_n M hl0 dX4_add_0 1 rfl ?_
  refine x_iload_n M hl0 dX4_add_1 2 rfl ?_
  obtain ⟨r1, w2, hc3, hf⟩ := bdt hf
  refine x_callVi (c0 := 2) (t0 := t1) (As := [iV x2]) (rest := []) M hl0 hS0 (c_X0_leadsTo l ht1 hx2 hc3) (cwV 1 M.2.2.2.2.1 gX4_add_X0_leadsTo rfl rfl rfl (by decide +kernel) ⟨Nat.le_of_ble_eq_true rfl, Nat.le_of_ble_eq_true rfl⟩) (Or.inl ⟨by decide, ht1⟩) (sE_2 G _ _) rfl rfl (Nat.le_of_ble_eq_true rfl) dX4_add_2 rfl ⟨Nat.zero_le _, Nat.zero_le _⟩ (fun H locs hi4 hS5 => ?_)
  refine x_istore_n M hl0 dX4_add_5 (by decide) [(3, iV r1), (0, .ref (G.1 13 0)), (1, .ref (G.1 2 t1)), (2, iV x2)] rfl (fun ls hl6 => ?_)
  refine x_aload_n M hl6 dX4_add_6 2 rfl ?_
  refine x_iload_n M hl6 dX4_add_7 0 rfl ?_
  obtain ⟨r7, w8, hc9, hf⟩ := bdt hf
  refine x_callVi (c0 := 2) (t0 := t1) (As := [iV r1]) (rest := []) M hl6 hS5 (c_X0_isAt l ht1 hi4 hc9) (cwV 1 M.2.2.2.2.1 gX4_add_X0_isAt rfl rfl rfl (by decide +kernel) ⟨Nat.le_of_ble_eq_true rfl, Nat.le_of_ble_eq_true rfl⟩) (Or.inl ⟨by decide, ht1⟩) (sE_2 G _ _) rfl rfl (Nat.le_of_ble_eq_true rfl) dX4_add_8 rfl ⟨Nat.zero_le _, Nat.zero_le _⟩ (fun H locs hi10 hS11 => ?_)
  refine x_if_eq (tgt := 59) M hi10 dX4_add_11 (by decide) (fun hc => ?_) (fun hc => ?_)
  · have hf := ift hf hc
    exact x_vret M hr hf hS11 dX4_add_59
  · have hf := iff_ hf hc
    refine x_aload_n M hl6 dX4_add_14 1 rfl ?_
    refine x_iload_n M hl6 dX4_add_15 0 rfl ?_
    obtain ⟨r12, w13, hc14, hf⟩ := bdt hf
    refine x_callVi (c0 := 13) (t0 := 0) (As := [iV r1]) (rest := []) M hl6 hS11 (c_X4_isReached l  hi4 hc14) (cwV 1 M.2.2.2.2.1 gX4_add_X4_isReached rfl rfl rfl (by decide +kernel) ⟨Nat.le_of_ble_eq_true rfl, Nat.le_of_ble_eq_true rfl⟩) (by decide) (sE_13 G _ _) rfl rfl (Nat.le_of_ble_eq_true rfl) dX4_add_16 rfl ⟨Nat.zero_le _, Nat.zero_le _⟩ (fun H locs hi15 hS16 => ?_)
    refine x_if_ne (tgt := 59) M hi15 dX4_add_19 (by decide) (fun hc => ?_) (fun hc => ?_)
    · have hf := iff_ hf hc
      exact x_vret M hr hf hS16 dX4_add_59
    · have hf := ift hf (Decidable.of_not_not hc)
      refine x_aload_n M hl6 dX4_add_22 1 rfl ?_
      refine x_get (c0 := 13) (t0 := 0) (v := iV (w13 13 0 0)) M hS16 (by decide) (ref := "NamedMoves$Reach") inX4_add_X4 (sE_13 G _ _) rfl 3 (by decide) (M.2.2.2.2.1 _ flX4_add_22) rfl rfl dX4_add_23 ?_
      refine x_sipush M dX4_add_26 rfl ?_
      refine x_icmp_ge (tgt := 59) M (hS16.inr _ _ _) ⟨by decide, by decide⟩ dX4_add_29 (by decide) (fun hc => ?_) (fun hc => ?_)
      · have hf := iff_ hf (Int.not_lt.mpr hc)
        exact x_vret M hr hf hS16 dX4_add_59
      · have hf := ift hf (Int.not_le.mp hc)
        refine x_aload_n M hl6 dX4_add_32 1 rfl ?_
        refine x_get (c0 := 13) (t0 := 0) (v := .ref (G.1 14 0)) M hS16 (by decide) (ref := "NamedMoves$Reach") inX4_add_X4 (sE_13 G _ _) rfl 0 (by decide) (M.2.2.2.2.1 _ flX4_add_9) rfl rfl dX4_add_33 ?_
        refine x_iload_n M hl6 dX4_add_36 0 rfl ?_
        refine x_iconst M dX4_add_37 ?_
        obtain ⟨g17, hf⟩ := gdt hf
        refine x_zast (c0 := 14) (t0 := 0) M hS16 (by decide) (hs_14 G _) rfl g17 (by decide) (Or.inr rfl) dX4_add_38 (fun H locs hS18 => ?_)
        refine x_aload_n M hl6 dX4_add_39 1 rfl ?_
        refine x_get (c0 := 13) (t0 := 0) (v := .ref (G.1 15 0)) M hS18 (by decide) (ref := "NamedMoves$Reach") inX4_add_X4 (sE_13 G _ _) rfl 1 (by decide) (M.2.2.2.2.1 _ flX4_add_15) rfl rfl dX4_add_40 ?_
        refine x_aload_n M hl6 dX4_add_43 1 rfl ?_
        refine x_get (c0 := 13) (t0 := 0) (v := iV ((up w13 14 0 r1.toNat 1) 13 0 0)) M hS18 (by decide) (ref := "NamedMoves$Reach") inX4_add_X4 (sE_13 G _ _) rfl 3 (by decide) (M.2.2.2.2.1 _ flX4_add_22) rfl rfl dX4_add_44 ?_
        refine x_iload_n M hl6 dX4_add_47 0 rfl ?_
        obtain ⟨g19, hf⟩ := gdt hf
        refine x_iast (c0 := 15) (t0 := 0) M hS18 (by decide) (hs_15 G _) rfl g19 (by decide) hi4 dX4_add_48 (fun H locs hS20 => ?_)
        refine x_aload_n M hl6 dX4_add_49 1 rfl ?_
        refine x_dup M dX4_add_50 rfl ?_
        refine x_get (c0 := 13) (t0 := 0) (v := iV ((up (up w13 14 0 r1.toNat 1) 15 0 ((up w13 14 0 r1.toNat 1) 13 0 0).toNat r1) 13 0 0)) M hS20 (by decide) (ref := "NamedMoves$Reach") inX4_add_X4 (sE_13 G _ _) rfl 3 (by decide) (M.2.2.2.2.1 _ flX4_add_22) rfl rfl dX4_add_51 ?_
        refine x_iconst M dX4_add_54 ?_
        obtain ⟨g21, hf⟩ := gdt hf
        refine x_iadd M dX4_add_55 ?_
        refine x_put (c0 := 13) (t0 := 0) M hS20 (by decide) (ref := "NamedMoves$Reach") inX4_add_X4 tyX4 tyX4_ok nmX4 (sE_13 G _ _) rfl 3 (by decide) (M.2.2.2.2.1 _ flX4_add_22) rfl rfl (ty := tyX4 3) g21 (tyX4_ok 3 (by decide)) rfl rfl (by simp) 0 (pset_13_0 G _ _ _) dX4_add_56 (fun H locs hS22 => ?_)
        exact x_vret M hr hf hS22 dX4_add_59

/-! X4_spread -/
theorem flX4_spread_15 : Cond.fieldLink RX4 15 "NamedMoves$Reach" "found" "[I" ∈ wsX4_spread := by decide +kernel
theorem flX4_spread_22 : Cond.fieldLink RX4 22 "NamedMoves$Reach" "foundNumber" "I" ∈ wsX4_spread := by decide +kernel
theorem inX4_spread_X4 : ∀ w ∈ u_ws RX4 TX4 4, w ∈ wsX4_spread := by decide +kernel
set_option maxHeartbeats 4000000 in
set_option maxRecDepth 100000 in
theorem X4_spread_b2_ok (M : MC p s m args meth c cX4_spread 3 RX4 wsX4_spread G) (hr : meth.sig.returnType = none) {t1 : Nat} (ht1 : t1 < 8) : ∀ n : Nat, ∀ x2 : Int, ∀ w : Wd, InR x2 → ∀ (H : Heap) (locs : List Loc), ST G s w H locs → ∀ ls : Array Slot, lv_has ls 3 [(0, .ref (G.1 13 0)), (1, .ref (G.1 2 t1)), (2, iV x2)] → ∀ (r : Int) (w' : Wd), X4_spread_b2 t1 n x2 w = some (r, w') → W p l e (rmk 4) s m args below meth c H locs 0 0 (MQ below (QvG G w') args s 0 0 (GA G)) (F0 m 2 ls []) := by
  intro n
  induction n with
  | zero =>
    intro x2 w hx2 H locs hS0 ls hl0 r w' hf
    cases hf
  | succ n ih =>
    intro x2 w hx2 H locs hS0 ls hl0 r w' hf
    rw [X4_spread_b2_s] at hf
    refine x_iload_n M hl0 dX4_spread_2 2 rfl ?_
    refine x_aload_n M hl0 dX4_spread_3 0 rfl ?_
    refine x_get (c0 := 13) (t0 := 0) (v := iV (w 13 0 0)) M hS0 (by decide) (ref := "NamedMoves$Reach") inX4_spread_X4 (sE_13 G _ _) rfl 3 (by decide) (M.2.2.2.2.1 _ flX4_spread_22) rfl rfl dX4_spread_4 ?_
    refine x_icmp_ge (tgt := 55) M hx2 (hS0.inr _ _ _) dX4_spread_7 (by decide) (fun hc => ?_) (fun hc => ?_)
    · have hf := iff_ hf (Int.not_lt.mpr hc)
      exact x_vret M hr hf hS0 dX4_spread_55
    · have hf := ift hf (Int.not_le.mp hc)
      refine x_iload_n M hl0 dX4_spread_10 2 rfl ?_
      refine x_sipush M dX4_spread_11 rfl ?_
      refine x_icmp_ge (tgt := 55) M hx2 ⟨by decide, by decide⟩ dX4_spread_14 (by decide) (fun hc => ?_) (fun hc => ?_)
      · have hf := iff_ hf (Int.not_lt.mpr hc)
        exact x_vret M hr hf hS0 dX4_spread_55
      · have hf := ift hf (Int.not_le.mp hc)
        refine x_aload_n M hl0 dX4_spread_17 0 rfl ?_
        refine x_aload_n M hl0 dX4_spread_18 1 rfl ?_
        refine x_aload_n M hl0 dX4_spread_19 1 rfl ?_
        refine x_aload_n M hl0 dX4_spread_20 0 rfl ?_
        refine x_get (c0 := 13) (t0 := 0) (v := .ref (G.1 15 0)) M hS0 (by decide) (ref := "NamedMoves$Reach") inX4_spread_X4 (sE_13 G _ _) rfl 1 (by decide) (M.2.2.2.2.1 _ flX4_spread_15) rfl rfl dX4_spread_21 ?_
        refine x_iload_n M hl0 dX4_spread_24 2 rfl ?_
        obtain ⟨g2, hf⟩ := gdt hf
        refine x_iald (c0 := 15) (t0 := 0) M hS0 (by decide) (hs_15 G _) rfl g2 (by decide) dX4_spread_25 ?_
        refine x_iconst M dX4_spread_26 ?_
        obtain ⟨r3, w4, hc5, hf⟩ := bdt hf
        refine x_callVi (c0 := 2) (t0 := t1) (As := [iV (w 15 0 x2.toNat), iV 0]) (rest := [.ref (G.1 2 t1), .ref (G.1 13 0)]) M hl0 hS0 (c_X0_nameAt l ht1 (hS0.inr _ _ _) ⟨by decide, by decide⟩ hc5) (cwV 2 M.2.2.2.2.1 gX4_spread_X0_nameAt rfl rfl rfl (by decide +kernel) ⟨Nat.le_of_ble_eq_true rfl, Nat.le_of_ble_eq_true rfl⟩) (Or.inl ⟨by decide, ht1⟩) (sE_2 G _ _) rfl rfl (Nat.le_of_ble_eq_true rfl) dX4_spread_27 rfl ⟨Nat.zero_le _, Nat.zero_le _⟩ (fun H locs hi6 hS7 => ?_)
        obtain ⟨r8, w9, hc10, hf⟩ := bdt hf
        refine x_callVv (c0 := 13) (t0 := 0) (As := [.ref (G.1 2 t1), iV r3]) (rest := []) M hl0 hS7 (c_X4_add l ht1 hi6 hc10) (cwV 2 M.2.2.2.2.1 gX4_spread_X4_add rfl rfl rfl (by decide +kernel) ⟨Nat.le_of_ble_eq_true rfl, Nat.le_of_ble_eq_true rfl⟩) (by decide) (sE_13 G _ _) rfl rfl (Nat.le_of_ble_eq_true rfl) dX4_spread_30 rfl ⟨Nat.zero_le _, Nat.zero_le _⟩ (fun H locs hS12 => ?_)
        refine x_aload_n M hl0 dX4_spread_33 0 rfl ?_
        refine x_aload_n M hl0 dX4_spread_34 1 rfl ?_
        refine x_aload_n M hl0 dX4_spread_35 1 rfl ?_
        refine x_aload_n M hl0 dX4_spread_36 0 rfl ?_
        refine x_get (c0 := 13) (t0 := 0) (v := .ref (G.1 15 0)) M hS12 (by decide) (ref := "NamedMoves$Reach") inX4_spread_X4 (sE_13 G _ _) rfl 1 (by decide) (M.2.2.2.2.1 _ flX4_spread_15) rfl rfl dX4_spread_37 ?_
        refine x_iload_n M hl0 dX4_spread_40 2 rfl ?_
        refine x_iald (c0 := 15) (t0 := 0) M hS12 (by decide) (hs_15 G _) rfl g2 (by decide) dX4_spread_41 ?_
        refine x_iconst M dX4_spread_42 ?_
        obtain ⟨r13, w14, hc15, hf⟩ := bdt hf
        refine x_callVi (c0 := 2) (t0 := t1) (As := [iV (w9 15 0 x2.toNat), iV 1]) (rest := [.ref (G.1 2 t1), .ref (G.1 13 0)]) M hl0 hS12 (c_X0_nameAt l ht1 (hS12.inr _ _ _) ⟨by decide, by decide⟩ hc15) (cwV 2 M.2.2.2.2.1 gX4_spread_X0_nameAt rfl rfl rfl (by decide +kernel) ⟨Nat.le_of_ble_eq_true rfl, Nat.le_of_ble_eq_true rfl⟩) (Or.inl ⟨by decide, ht1⟩) (sE_2 G _ _) rfl rfl (Nat.le_of_ble_eq_true rfl) dX4_spread_43 rfl ⟨Nat.zero_le _, Nat.zero_le _⟩ (fun H locs hi16 hS17 => ?_)
        obtain ⟨r18, w19, hc20, hf⟩ := bdt hf
        refine x_callVv (c0 := 13) (t0 := 0) (As := [.ref (G.1 2 t1), iV r13]) (rest := []) M hl0 hS17 (c_X4_add l ht1 hi16 hc20) (cwV 2 M.2.2.2.2.1 gX4_spread_X4_add rfl rfl rfl (by decide +kernel) ⟨Nat.le_of_ble_eq_true rfl, Nat.le_of_ble_eq_true rfl⟩) (by decide) (sE_13 G _ _) rfl rfl (Nat.le_of_ble_eq_true rfl) dX4_spread_46 rfl ⟨Nat.zero_le _, Nat.zero_le _⟩ (fun H locs hS22 => ?_)
        obtain ⟨g23, hf⟩ := gdt hf
        refine x_iinc M hl0 dX4_spread_49 2 rfl (by decide) [(2, iV (x2 + 1)), (0, .ref (G.1 13 0)), (1, .ref (G.1 2 t1))] rfl (fun ls hl24 => ?_)
        refine x_goto (tgt := 2) M dX4_spread_52 (by decide) ?_
        exact ih (x2 + 1) w19 g23 _ _ hS22 _ (lv_sub hl24 [1, 2, 0] rfl) _ _ hf

set_option maxHeartbeats 4000000 in
set_option maxRecDepth 100000 in
theorem c_X4_spread (l : Launch) {G : GG} {t1 : Nat} (ht1 : t1 < 8) {w : Wd} {r : Int} {w' : Wd} (hf : X4_spread t1 w = some (r, w')) : Met l yX4_spread wsX4_spread (rmk 4) (PcG G w [.ref (G.1 13 0), .ref (G.1 2 t1)]) (QvG G w') 0 0 (GA G) := by
  refine met_of (own := RX4) (by decide) rfl (Nat.le_of_ble_eq_true rfl) rfl ?_
  intro p e s m args below meth c M hr ls hl0 hS0
  have hl0 : lv_has ls 3 [(0, .ref (G.1 13 0)), (1, .ref (G.1 2 t1))] := hl0
  unfold X4_spread at hf
  refine x_iconst M dX4_spread_0 ?_
  refine x_istore_n M hl0 dX4_spread_1 (by decide) [(2, iV 0), (0, .ref (G.1 13 0)), (1, .ref (G.1 2 t1))] rfl (fun ls hl1 => ?_)
  exact X4_spread_b2_ok M hr ht1 LF 0 w ⟨by decide, by decide⟩ _ _ hS0 _ (lv_sub hl1 [1, 2, 0] rfl) _ _ hf

/-! X4_differentThings -/
theorem flX4_differentThings_15 : Cond.fieldLink RX4 15 "NamedMoves$Reach" "found" "[I" ∈ wsX4_differentThings := by decide +kernel
theorem flX4_differentThings_19 : Cond.fieldLink RX4 19 "NamedMoves$Reach" "seenThings" "[Z" ∈ wsX4_differentThings := by decide +kernel
theorem flX4_differentThings_22 : Cond.fieldLink RX4 22 "NamedMoves$Reach" "foundNumber" "I" ∈ wsX4_differentThings := by decide +kernel
theorem inX4_differentThings_X4 : ∀ w ∈ u_ws RX4 TX4 4, w ∈ wsX4_differentThings := by decide +kernel
set_option maxHeartbeats 4000000 in
set_option maxRecDepth 100000 in
theorem X4_differentThings_b25_ok (M : MC p s m args meth c cX4_differentThings 5 RX4 wsX4_differentThings G) (hr : meth.sig.returnType = (some .int)) {t1 : Nat} (ht1 : t1 < 8) : ∀ n : Nat, ∀ x2 : Int, ∀ x3 : Int, ∀ w : Wd, InR x2 → InR x3 → ∀ (H : Heap) (locs : List Loc), ST G s w H locs → ∀ ls : Array Slot, lv_has ls 5 [(0, .ref (G.1 13 0)), (1, .ref (G.1 2 t1)), (2, iV x2), (3, iV x3)] → ∀ (r : Int) (w' : Wd), X4_differentThings_b25 t1 n x2 x3 w = some (r, w') → W p l e (rmk 2) s m args below meth c H locs 0 0 (MQ below (QiG G r w') args s 0 0 (GA G)) (F0 m 25 ls []) := by
  intro n
  induction n with
  | zero =>
    intro x2 x3 w hx2 hx3 H locs hS0 ls hl0 r w' hf
    cases hf
  | succ n ih =>
    intro x2 x3 w hx2 hx3 H locs hS0 ls hl0 r w' hf
    rw [X4_differentThings_b25_s] at hf
    refine x_iload_n M hl0 dX4_differentThings_25 3 rfl ?_
    refine x_aload_n M hl0 dX4_differentThings_26 0 rfl ?_
    refine x_get (c0 := 13) (t0 := 0) (v := iV (w 13 0 0)) M hS0 (by decide) (ref := "NamedMoves$Reach") inX4_differentThings_X4 (sE_13 G _ _) rfl 3 (by decide) (M.2.2.2.2.1 _ flX4_differentThings_22) rfl rfl dX4_differentThings_27 ?_
    refine x_icmp_ge (tgt := 91) M hx3 (hS0.inr _ _ _) dX4_differentThings_30 (by decide) (fun hc => ?_) (fun hc => ?_)
    · have hf := iff_ hf (Int.not_lt.mpr hc)
      refine x_iload_n M hl0 dX4_differentThings_91 2 rfl ?_
      exact x_iret M hr hf hS0 hx2 dX4_differentThings_92
    · have hf := ift hf (Int.not_le.mp hc)
      refine x_iload_n M hl0 dX4_differentThings_33 3 rfl ?_
      refine x_sipush M dX4_differentThings_34 rfl ?_
      refine x_icmp_ge (tgt := 91) M hx3 ⟨by decide, by decide⟩ dX4_differentThings_37 (by decide) (fun hc => ?_) (fun hc => ?_)
      · have hf := iff_ hf (Int.not_lt.mpr hc)
        refine x_iload_n M hl0 dX4_differentThings_91 2 rfl ?_
        exact x_iret M hr hf hS0 hx2 dX4_differentThings_92
      · have hf := ift hf (Int.not_le.mp hc)
        refine x_aload_n M hl0 dX4_differentThings_40 1 rfl ?_
        refine x_aload_n M hl0 dX4_differentThings_41 0 rfl ?_
        refine x_get (c0 := 13) (t0 := 0) (v := .ref (G.1 15 0)) M hS0 (by decide) (ref := "NamedMoves$Reach") inX4_differentThings_X4 (sE_13 G _ _) rfl 1 (by decide) (M.2.2.2.2.1 _ flX4_differentThings_15) rfl rfl dX4_differentThings_42 ?_
        refine x_iload_n M hl0 dX4_differentThings_45 3 rfl ?_
        obtain ⟨g4, hf⟩ := gdt hf
        refine x_iald (c0 := 15) (t0 := 0) M hS0 (by decide) (hs_15 G _) rfl g4 (by decide) dX4_differentThings_46 ?_
        obtain ⟨r5, w6, hc7, hf⟩ := bdt hf
        refine x_callVi (c0 := 2) (t0 := t1) (As := [iV (w 15 0 x3.toNat)]) (rest := []) M hl0 hS0 (c_X0_thingAt l ht1 (hS0.inr _ _ _) hc7) (cwV 1 M.2.2.2.2.1 gX4_differentThings_X0_thingAt rfl rfl rfl (by decide +kernel) ⟨Nat.le_of_ble_eq_true rfl, Nat.le_of_ble_eq_true rfl⟩) (Or.inl ⟨by decide, ht1⟩) (sE_2 G _ _) rfl rfl (Nat.le_of_ble_eq_true rfl) dX4_differentThings_47 rfl ⟨Nat.zero_le _, Nat.zero_le _⟩ (fun H locs hi8 hS9 => ?_)
        refine x_istore M hl0 dX4_differentThings_50 (by decide) [(4, iV r5), (0, .ref (G.1 13 0)), (1, .ref (G.1 2 t1)), (2, iV x2), (3, iV x3)] rfl (fun ls hl10 => ?_)
        refine x_iload M hl10 dX4_differentThings_52 0 rfl ?_
        refine x_if_lt (tgt := 85) M hi8 dX4_differentThings_54 (by decide) (fun hc => ?_) (fun hc => ?_)
        · have hf := ift hf hc
          obtain ⟨g11, hf⟩ := gdt hf
          refine x_iinc M hl10 dX4_differentThings_85 4 rfl (by decide) [(3, iV (x3 + 1)), (4, iV r5), (0, .ref (G.1 13 0)), (1, .ref (G.1 2 t1)), (2, iV x2)] rfl (fun ls hl12 => ?_)
          refine x_goto (tgt := 25) M dX4_differentThings_88 (by decide) ?_
          exact ih x2 (x3 + 1) w6 hx2 g11 _ _ hS9 _ (lv_sub hl12 [2, 3, 4, 0] rfl) _ _ hf
        · have hf := iff_ hf hc
          refine x_iload M hl10 dX4_differentThings_57 0 rfl ?_
          refine x_bipush M dX4_differentThings_59 rfl ?_
          refine x_icmp_ge (tgt := 85) M hi8 ⟨by decide, by decide⟩ dX4_differentThings_61 (by decide) (fun hc => ?_) (fun hc => ?_)
          · have hf := iff_ hf (Int.not_lt.mpr hc)
            obtain ⟨g13, hf⟩ := gdt hf
            refine x_iinc M hl10 dX4_differentThings_85 4 rfl (by decide) [(3, iV (x3 + 1)), (4, iV r5), (0, .ref (G.1 13 0)), (1, .ref (G.1 2 t1)), (2, iV x2)] rfl (fun ls hl14 => ?_)
            refine x_goto (tgt := 25) M dX4_differentThings_88 (by decide) ?_
            exact ih x2 (x3 + 1) w6 hx2 g13 _ _ hS9 _ (lv_sub hl14 [2, 3, 4, 0] rfl) _ _ hf
          · have hf := ift hf (Int.not_le.mp hc)
            refine x_aload_n M hl10 dX4_differentThings_64 1 rfl ?_
            refine x_get (c0 := 13) (t0 := 0) (v := .ref (G.1 16 0)) M hS9 (by decide) (ref := "NamedMoves$Reach") inX4_differentThings_X4 (sE_13 G _ _) rfl 2 (by decide) (M.2.2.2.2.1 _ flX4_differentThings_19) rfl rfl dX4_differentThings_65 ?_
            refine x_iload M hl10 dX4_differentThings_68 0 rfl ?_
            obtain ⟨g15, hf⟩ := gdt hf
            refine x_zald (c0 := 16) (t0 := 0) M hS9 (by decide) (hs_16 G _) rfl g15 (by decide) dX4_differentThings_70 ?_
            refine x_if_ne (tgt := 85) M (hS9.inr _ _ _) dX4_differentThings_71 (by decide) (fun hc => ?_) (fun hc => ?_)
            · have hf := iff_ hf hc
              obtain ⟨g16, hf⟩ := gdt hf
              refine x_iinc M hl10 dX4_differentThings_85 4 rfl (by decide) [(3, iV (x3 + 1)), (4, iV r5), (0, .ref (G.1 13 0)), (1, .ref (G.1 2 t1)), (2, iV x2)] rfl (fun ls hl17 => ?_)
              refine x_goto (tgt := 25) M dX4_differentThings_88 (by decide) ?_
              exact ih x2 (x3 + 1) w6 hx2 g16 _ _ hS9 _ (lv_sub hl17 [2, 3, 4, 0] rfl) _ _ hf
            · have hf := ift hf (Decidable.of_not_not hc)
              refine x_aload_n M hl10 dX4_differentThings_74 1 rfl ?_
              refine x_get (c0 := 13) (t0 := 0) (v := .ref (G.1 16 0)) M hS9 (by decide) (ref := "NamedMoves$Reach") inX4_differentThings_X4 (sE_13 G _ _) rfl 2 (by decide) (M.2.2.2.2.1 _ flX4_differentThings_19) rfl rfl dX4_differentThings_75 ?_
              refine x_iload M hl10 dX4_differentThings_78 0 rfl ?_
              refine x_iconst M dX4_differentThings_80 ?_
              refine x_zast (c0 := 16) (t0 := 0) M hS9 (by decide) (hs_16 G _) rfl g15 (by decide) (Or.inr rfl) dX4_differentThings_81 (fun H locs hS18 => ?_)
              obtain ⟨g19, hf⟩ := gdt hf
              refine x_iinc M hl10 dX4_differentThings_82 3 rfl (by decide) [(2, iV (x2 + 1)), (4, iV r5), (0, .ref (G.1 13 0)), (1, .ref (G.1 2 t1)), (3, iV x3)] rfl (fun ls hl20 => ?_)
              obtain ⟨g21, hf⟩ := gdt hf
              refine x_iinc M hl20 dX4_differentThings_85 4 rfl (by decide) [(3, iV (x3 + 1)), (2, iV (x2 + 1)), (4, iV r5), (0, .ref (G.1 13 0)), (1, .ref (G.1 2 t1))] rfl (fun ls hl22 => ?_)
              refine x_goto (tgt := 25) M dX4_differentThings_88 (by decide) ?_
              exact ih (x2 + 1) (x3 + 1) (up w6 16 0 r5.toNat 1) g19 g21 _ _ hS18 _ (lv_sub hl22 [3, 4, 1, 0] rfl) _ _ hf

set_option maxHeartbeats 4000000 in
set_option maxRecDepth 100000 in
theorem X4_differentThings_b2_ok (M : MC p s m args meth c cX4_differentThings 5 RX4 wsX4_differentThings G) (hr : meth.sig.returnType = (some .int)) {t1 : Nat} (ht1 : t1 < 8) : ∀ n : Nat, ∀ x2 : Int, ∀ w : Wd, InR x2 → ∀ (H : Heap) (locs : List Loc), ST G s w H locs → ∀ ls : Array Slot, lv_has ls 5 [(0, .ref (G.1 13 0)), (1, .ref (G.1 2 t1)), (2, iV x2)] → ∀ (r : Int) (w' : Wd), X4_differentThings_b2 t1 n x2 w = some (r, w') → W p l e (rmk 2) s m args below meth c H locs 0 0 (MQ below (QiG G r w') args s 0 0 (GA G)) (F0 m 2 ls []) := by
  intro n
  induction n with
  | zero =>
    intro x2 w hx2 H locs hS0 ls hl0 r w' hf
    cases hf
  | succ n ih =>
    intro x2 w hx2 H locs hS0 ls hl0 r w' hf
    rw [X4_differentThings_b2_s] at hf
    refine x_iload_n M hl0 dX4_differentThings_2 2 rfl ?_
    refine x_bipush M dX4_differentThings_3 rfl ?_
    refine x_icmp_ge (tgt := 21) M hx2 ⟨by decide, by decide⟩ dX4_differentThings_5 (by decide) (fun hc => ?_) (fun hc => ?_)
    · have hf := iff_ hf (Int.not_lt.mpr hc)
      refine x_iconst M dX4_differentThings_21 ?_
      refine x_istore_n M hl0 dX4_differentThings_22 (by decide) [(2, iV 0), (0, .ref (G.1 13 0)), (1, .ref (G.1 2 t1))] rfl (fun ls hl2 => ?_)
      refine x_iconst M dX4_differentThings_23 ?_
      refine x_istore_n M hl2 dX4_differentThings_24 (by decide) [(3, iV 0), (2, iV 0), (0, .ref (G.1 13 0)), (1, .ref (G.1 2 t1))] rfl (fun ls hl3 => ?_)
      exact X4_differentThings_b25_ok M hr ht1 LF 0 0 w ⟨by decide, by decide⟩ ⟨by decide, by decide⟩ _ _ hS0 _ (lv_sub hl3 [2, 3, 1, 0] rfl) _ _ hf
    · have hf := ift hf (Int.not_le.mp hc)
      refine x_aload_n M hl0 dX4_differentThings_8 0 rfl ?_
      refine x_get (c0 := 13) (t0 := 0) (v := .ref (G.1 16 0)) M hS0 (by decide) (ref := "NamedMoves$Reach") inX4_differentThings_X4 (sE_13 G _ _) rfl 2 (by decide) (M.2.2.2.2.1 _ flX4_differentThings_19) rfl rfl dX4_differentThings_9 ?_
      refine x_iload_n M hl0 dX4_differentThings_12 2 rfl ?_
      refine x_iconst M dX4_differentThings_13 ?_
      obtain ⟨g23, hf⟩ := gdt hf
      refine x_zast (c0 := 16) (t0 := 0) M hS0 (by decide) (hs_16 G _) rfl g23 (by decide) (Or.inl rfl) dX4_differentThings_14 (fun H locs hS24 => ?_)
      obtain ⟨g25, hf⟩ := gdt hf
      refine x_iinc M hl0 dX4_differentThings_15 2 rfl (by decide) [(2, iV (x2 + 1)), (0, .ref (G.1 13 0)), (1, .ref (G.1 2 t1))] rfl (fun ls hl26 => ?_)
      refine x_goto (tgt := 2) M dX4_differentThings_18 (by decide) ?_
      exact ih (x2 + 1) (up w 16 0 x2.toNat 0) g25 _ _ hS24 _ (lv_sub hl26 [1, 2, 0] rfl) _ _ hf

set_option maxHeartbeats 4000000 in
set_option maxRecDepth 100000 in
theorem c_X4_differentThings (l : Launch) {G : GG} {t1 : Nat} (ht1 : t1 < 8) {w : Wd} {r : Int} {w' : Wd} (hf : X4_differentThings t1 w = some (r, w')) : Met l yX4_differentThings wsX4_differentThings (rmk 2) (PcG G w [.ref (G.1 13 0), .ref (G.1 2 t1)]) (QiG G r w') 0 0 (GA G) := by
  refine met_of (own := RX4) (by decide) rfl (Nat.le_of_ble_eq_true rfl) rfl ?_
  intro p e s m args below meth c M hr ls hl0 hS0
  have hl0 : lv_has ls 5 [(0, .ref (G.1 13 0)), (1, .ref (G.1 2 t1))] := hl0
  unfold X4_differentThings at hf
  refine x_iconst M dX4_differentThings_0 ?_
  refine x_istore_n M hl0 dX4_differentThings_1 (by decide) [(2, iV 0), (0, .ref (G.1 13 0)), (1, .ref (G.1 2 t1))] rfl (fun ls hl1 => ?_)
  exact X4_differentThings_b2_ok M hr ht1 LF 0 w ⟨by decide, by decide⟩ _ _ hS0 _ (lv_sub hl1 [1, 2, 0] rfl) _ _ hf

/-! X7_named -/
theorem flX7_named_12 : Cond.fieldLink RX7 12 "NamedMoves" "store" "LNamedMoves$Store;" ∈ wsX7_named := by decide +kernel
theorem flX7_named_29 : Cond.fieldLink RX7 29 "NamedMoves" "reach" "LNamedMoves$Reach;" ∈ wsX7_named := by decide +kernel
theorem inX7_named_X5 : ∀ w ∈ u_ws RX5 TX5 10, w ∈ wsX7_named := by decide +kernel
theorem inX7_named_X7 : ∀ w ∈ u_ws RX7 TX7 6, w ∈ wsX7_named := by decide +kernel
set_option maxHeartbeats 4000000 in
set_option maxRecDepth 100000 in
theorem c_X7_named (l : Launch) {G : GG} {x1 : Int} (hx1 : InR x1) {w : Wd} {r : Int} {w' : Wd} (hf : X7_named x1 w = some (r, w')) : Met l yX7_named wsX7_named (rmk 5) (PcG G w [.ref (G.1 10 0), iV x1]) (QiG G r w') 0 0 (GA G) := by
  refine met_of (own := RX7) (by decide) rfl (Nat.le_of_ble_eq_true rfl) rfl ?_
  intro p e s m args below meth c M hr ls hl0 hS0
  have hl0 : lv_has ls 2 [(0, .ref (G.1 10 0)), (1, iV x1)] := hl0
  unfold X7_named at hf
  refine x_iload_n M hl0 dX7_named_0 1 rfl ?_
  obtain ⟨r1, w2, hc3, hf⟩ := bdt hf
  refine x_callSi (As := [iV x1]) (rest := []) M hl0 hS0 (c_X7_isHook l  hx1 hc3) (va_cwS 1 M.2.2.2.2.1 gX7_named_X7_isHook rfl rfl rfl (by decide +kernel) ⟨Nat.le_of_ble_eq_true rfl, Nat.le_of_ble_eq_true rfl⟩) rfl (Nat.le_of_ble_eq_true rfl) dX7_named_1 rfl ⟨Nat.zero_le _, Nat.zero_le _⟩ (fun H locs hi4 hS5 => ?_)
  refine x_if_ne (tgt := 9) M hi4 dX7_named_4 (by decide) (fun hc => ?_) (fun hc => ?_)
  · have hf := iff_ hf hc
    refine x_aload_n M hl0 dX7_named_9 0 rfl ?_
    refine x_get (c0 := 10) (t0 := 0) (v := .ref (G.1 13 0)) M hS5 (by decide) (ref := "NamedMoves") inX7_named_X7 (sE_10 G _ _) rfl 3 (by decide) (M.2.2.2.2.1 _ flX7_named_29) rfl rfl dX7_named_10 ?_
    obtain ⟨r6, w7, hc8, hf⟩ := bdt hf
    refine x_callVv (c0 := 13) (t0 := 0) (As := []) (rest := []) M hl0 hS5 (c_X4_clear l   hc8) (cwV 0 M.2.2.2.2.1 gX7_named_X4_clear rfl rfl rfl (by decide +kernel) ⟨Nat.le_of_ble_eq_true rfl, Nat.le_of_ble_eq_true rfl⟩) (by decide) (sE_13 G _ _) rfl rfl (Nat.le_of_ble_eq_true rfl) dX7_named_13 rfl ⟨Nat.zero_le _, Nat.zero_le _⟩ (fun H locs hS10 => ?_)
    refine x_aload_n M hl0 dX7_named_16 0 rfl ?_
    refine x_get (c0 := 10) (t0 := 0) (v := .ref (G.1 13 0)) M hS10 (by decide) (ref := "NamedMoves") inX7_named_X7 (sE_10 G _ _) rfl 3 (by decide) (M.2.2.2.2.1 _ flX7_named_29) rfl rfl dX7_named_17 ?_
    refine x_aload_n M hl0 dX7_named_20 0 rfl ?_
    refine x_get (c0 := 10) (t0 := 0) (v := .ref (G.1 0 0)) M hS10 (by decide) (ref := "NamedMoves") inX7_named_X7 (sE_10 G _ _) rfl 0 (by decide) (M.2.2.2.2.1 _ flX7_named_12) rfl rfl dX7_named_21 ?_
    refine x_getN (host := "NamedMoves") (c0 := 0) (t0 := 0) (v := .ref (G.1 2 0)) M hS10 (by decide) (ref := "NamedMoves$Store") inX7_named_X5 (sE_0 G _ _) rfl 1 (by decide) M.2.2.2.2.2.2.2.1 rfl rfl dX7_named_24 ?_
    refine x_aload_n M hl0 dX7_named_27 0 rfl ?_
    refine x_get (c0 := 10) (t0 := 0) (v := .ref (G.1 0 0)) M hS10 (by decide) (ref := "NamedMoves") inX7_named_X7 (sE_10 G _ _) rfl 0 (by decide) (M.2.2.2.2.1 _ flX7_named_12) rfl rfl dX7_named_28 ?_
    refine x_iload_n M hl0 dX7_named_31 1 rfl ?_
    obtain ⟨r11, w12, hc13, hf⟩ := bdt hf
    refine x_callVi (c0 := 0) (t0 := 0) (As := [iV x1]) (rest := [.ref (G.1 2 0), .ref (G.1 13 0)]) M hl0 hS10 (c_X5_hungOn l (by decide) hx1 hc13) (cwV 1 M.2.2.2.2.1 gX7_named_X5_hungOn rfl rfl rfl (by decide +kernel) ⟨Nat.le_of_ble_eq_true rfl, Nat.le_of_ble_eq_true rfl⟩) (by decide) (sE_0 G _ _) rfl rfl (Nat.le_of_ble_eq_true rfl) dX7_named_32 rfl ⟨Nat.zero_le _, Nat.zero_le _⟩ (fun H locs hi14 hS15 => ?_)
    obtain ⟨r16, w17, hc18, hf⟩ := bdt hf
    refine x_callVv (c0 := 13) (t0 := 0) (As := [.ref (G.1 2 0), iV r11]) (rest := []) M hl0 hS15 (c_X4_add l (by decide) hi14 hc18) (cwV 2 M.2.2.2.2.1 gX7_named_X4_add rfl rfl rfl (by decide +kernel) ⟨Nat.le_of_ble_eq_true rfl, Nat.le_of_ble_eq_true rfl⟩) (by decide) (sE_13 G _ _) rfl rfl (Nat.le_of_ble_eq_true rfl) dX7_named_35 rfl ⟨Nat.zero_le _, Nat.zero_le _⟩ (fun H locs hS20 => ?_)
    refine x_aload_n M hl0 dX7_named_38 0 rfl ?_
    refine x_get (c0 := 10) (t0 := 0) (v := .ref (G.1 13 0)) M hS20 (by decide) (ref := "NamedMoves") inX7_named_X7 (sE_10 G _ _) rfl 3 (by decide) (M.2.2.2.2.1 _ flX7_named_29) rfl rfl dX7_named_39 ?_
    refine x_aload_n M hl0 dX7_named_42 0 rfl ?_
    refine x_get (c0 := 10) (t0 := 0) (v := .ref (G.1 0 0)) M hS20 (by decide) (ref := "NamedMoves") inX7_named_X7 (sE_10 G _ _) rfl 0 (by decide) (M.2.2.2.2.1 _ flX7_named_12) rfl rfl dX7_named_43 ?_
    refine x_getN (host := "NamedMoves") (c0 := 0) (t0 := 0) (v := .ref (G.1 2 0)) M hS20 (by decide) (ref := "NamedMoves$Store") inX7_named_X5 (sE_0 G _ _) rfl 1 (by decide) M.2.2.2.2.2.2.2.1 rfl rfl dX7_named_46 ?_
    obtain ⟨r21, w22, hc23, hf⟩ := bdt hf
    refine x_callVv (c0 := 13) (t0 := 0) (As := [.ref (G.1 2 0)]) (rest := []) M hl0 hS20 (c_X4_spread l (by decide)  hc23) (cwV 1 M.2.2.2.2.1 gX7_named_X4_spread rfl rfl rfl (by decide +kernel) ⟨Nat.le_of_ble_eq_true rfl, Nat.le_of_ble_eq_true rfl⟩) (by decide) (sE_13 G _ _) rfl rfl (Nat.le_of_ble_eq_true rfl) dX7_named_49 rfl ⟨Nat.zero_le _, Nat.zero_le _⟩ (fun H locs hS25 => ?_)
    refine x_aload_n M hl0 dX7_named_52 0 rfl ?_
    refine x_get (c0 := 10) (t0 := 0) (v := .ref (G.1 13 0)) M hS25 (by decide) (ref := "NamedMoves") inX7_named_X7 (sE_10 G _ _) rfl 3 (by decide) (M.2.2.2.2.1 _ flX7_named_29) rfl rfl dX7_named_53 ?_
    refine x_aload_n M hl0 dX7_named_56 0 rfl ?_
    refine x_get (c0 := 10) (t0 := 0) (v := .ref (G.1 0 0)) M hS25 (by decide) (ref := "NamedMoves") inX7_named_X7 (sE_10 G _ _) rfl 0 (by decide) (M.2.2.2.2.1 _ flX7_named_12) rfl rfl dX7_named_57 ?_
    refine x_getN (host := "NamedMoves") (c0 := 0) (t0 := 0) (v := .ref (G.1 2 0)) M hS25 (by decide) (ref := "NamedMoves$Store") inX7_named_X5 (sE_0 G _ _) rfl 1 (by decide) M.2.2.2.2.2.2.2.1 rfl rfl dX7_named_60 ?_
    obtain ⟨r26, w27, hc28, hf⟩ := bdt hf
    refine x_callVi (c0 := 13) (t0 := 0) (As := [.ref (G.1 2 0)]) (rest := []) M hl0 hS25 (c_X4_differentThings l (by decide)  hc28) (cwV 1 M.2.2.2.2.1 gX7_named_X4_differentThings rfl rfl rfl (by decide +kernel) ⟨Nat.le_of_ble_eq_true rfl, Nat.le_of_ble_eq_true rfl⟩) (by decide) (sE_13 G _ _) rfl rfl (Nat.le_of_ble_eq_true rfl) dX7_named_63 rfl ⟨Nat.zero_le _, Nat.zero_le _⟩ (fun H locs hi29 hS30 => ?_)
    exact x_iret M hr hf hS30 hi29 dX7_named_66
  · have hf := ift hf (Decidable.of_not_not hc)
    refine x_iconst M dX7_named_7 ?_
    exact x_iret M hr hf hS5 ⟨by decide, by decide⟩ dX7_named_8

/-! X4_placesOutside -/
set_option maxHeartbeats 4000000 in
set_option maxRecDepth 100000 in
theorem X4_placesOutside_b4_ok (M : MC p s m args meth c cX4_placesOutside 4 RX4 wsX4_placesOutside G) (hr : meth.sig.returnType = (some .int)) {t1 : Nat} (ht1 : t1 < 8) : ∀ n : Nat, ∀ x2 : Int, ∀ x3 : Int, ∀ w : Wd, InR x2 → InR x3 → ∀ (H : Heap) (locs : List Loc), ST G s w H locs → ∀ ls : Array Slot, lv_has ls 4 [(0, .ref (G.1 13 0)), (1, .ref (G.1 2 t1)), (2, iV x2), (3, iV x3)] → ∀ (r : Int) (w' : Wd), X4_placesOutside_b4 t1 n x2 x3 w = some (r, w') → W p l e (rmk 2) s m args below meth c H locs 0 0 (MQ below (QiG G r w') args s 0 0 (GA G)) (F0 m 4 ls []) := by
  intro n
  induction n with
  | zero =>
    intro x2 x3 w hx2 hx3 H locs hS0 ls hl0 r w' hf
    cases hf
  | succ n ih =>
    intro x2 x3 w hx2 hx3 H locs hS0 ls hl0 r w' hf
    rw [X4_placesOutside_b4_s] at hf
    refine x_iload_n M hl0 dX4_placesOutside_4 3 rfl ?_
    refine x_sipush M dX4_placesOutside_5 rfl ?_
    refine x_icmp_ge (tgt := 44) M hx3 ⟨by decide, by decide⟩ dX4_placesOutside_8 (by decide) (fun hc => ?_) (fun hc => ?_)
    · have hf := iff_ hf (Int.not_lt.mpr hc)
      refine x_iload_n M hl0 dX4_placesOutside_44 2 rfl ?_
      exact x_iret M hr hf hS0 hx2 dX4_placesOutside_45
    · have hf := ift hf (Int.not_le.mp hc)
      refine x_aload_n M hl0 dX4_placesOutside_11 0 rfl ?_
      refine x_iload_n M hl0 dX4_placesOutside_12 3 rfl ?_
      obtain ⟨r3, w4, hc5, hf⟩ := bdt hf
      refine x_callVi (c0 := 13) (t0 := 0) (As := [iV x3]) (rest := []) M hl0 hS0 (c_X4_isReached l  hx3 hc5) (cwV 1 M.2.2.2.2.1 gX4_placesOutside_X4_isReached rfl rfl rfl (by decide +kernel) ⟨Nat.le_of_ble_eq_true rfl, Nat.le_of_ble_eq_true rfl⟩) (by decide) (sE_13 G _ _) rfl rfl (Nat.le_of_ble_eq_true rfl) dX4_placesOutside_13 rfl ⟨Nat.zero_le _, Nat.zero_le _⟩ (fun H locs hi6 hS7 => ?_)
      refine x_if_ne (tgt := 38) M hi6 dX4_placesOutside_16 (by decide) (fun hc => ?_) (fun hc => ?_)
      · have hf := iff_ hf hc
        obtain ⟨g8, hf⟩ := gdt hf
        refine x_iinc M hl0 dX4_placesOutside_38 3 rfl (by decide) [(3, iV (x3 + 1)), (0, .ref (G.1 13 0)), (1, .ref (G.1 2 t1)), (2, iV x2)] rfl (fun ls hl9 => ?_)
        refine x_goto (tgt := 4) M dX4_placesOutside_41 (by decide) ?_
        exact ih x2 (x3 + 1) w4 hx2 g8 _ _ hS7 _ (lv_sub hl9 [1, 2, 3, 0] rfl) _ _ hf
      · have hf := ift hf (Decidable.of_not_not hc)
        refine x_aload_n M hl0 dX4_placesOutside_19 1 rfl ?_
        refine x_iload_n M hl0 dX4_placesOutside_20 3 rfl ?_
        obtain ⟨r10, w11, hc12, hf⟩ := bdt hf
        refine x_callVi (c0 := 2) (t0 := t1) (As := [iV x3]) (rest := []) M hl0 hS7 (c_X0_noteAt l ht1 hx3 hc12) (cwV 1 M.2.2.2.2.1 gX4_placesOutside_X0_noteAt rfl rfl rfl (by decide +kernel) ⟨Nat.le_of_ble_eq_true rfl, Nat.le_of_ble_eq_true rfl⟩) (Or.inl ⟨by decide, ht1⟩) (sE_2 G _ _) rfl rfl (Nat.le_of_ble_eq_true rfl) dX4_placesOutside_21 rfl ⟨Nat.zero_le _, Nat.zero_le _⟩ (fun H locs hi13 hS14 => ?_)
        refine x_sipush M dX4_placesOutside_24 rfl ?_
        refine x_icmp_ne (tgt := 38) M hi13 ⟨by decide, by decide⟩ dX4_placesOutside_27 (by decide) (fun hc => ?_) (fun hc => ?_)
        · have hf := iff_ hf hc
          obtain ⟨g15, hf⟩ := gdt hf
          refine x_iinc M hl0 dX4_placesOutside_38 3 rfl (by decide) [(3, iV (x3 + 1)), (0, .ref (G.1 13 0)), (1, .ref (G.1 2 t1)), (2, iV x2)] rfl (fun ls hl16 => ?_)
          refine x_goto (tgt := 4) M dX4_placesOutside_41 (by decide) ?_
          exact ih x2 (x3 + 1) w11 hx2 g15 _ _ hS14 _ (lv_sub hl16 [1, 2, 3, 0] rfl) _ _ hf
        · have hf := ift hf (Decidable.of_not_not hc)
          refine x_iload_n M hl0 dX4_placesOutside_30 2 rfl ?_
          refine x_aload_n M hl0 dX4_placesOutside_31 1 rfl ?_
          refine x_iload_n M hl0 dX4_placesOutside_32 3 rfl ?_
          obtain ⟨r17, w18, hc19, hf⟩ := bdt hf
          refine x_callVi (c0 := 2) (t0 := t1) (As := [iV x3]) (rest := [iV x2]) M hl0 hS14 (c_X0_sizeAt l ht1 hx3 hc19) (cwV 1 M.2.2.2.2.1 gX4_placesOutside_X0_sizeAt rfl rfl rfl (by decide +kernel) ⟨Nat.le_of_ble_eq_true rfl, Nat.le_of_ble_eq_true rfl⟩) (Or.inl ⟨by decide, ht1⟩) (sE_2 G _ _) rfl rfl (Nat.le_of_ble_eq_true rfl) dX4_placesOutside_33 rfl ⟨Nat.zero_le _, Nat.zero_le _⟩ (fun H locs hi20 hS21 => ?_)
          obtain ⟨g22, hf⟩ := gdt hf
          refine x_iadd M dX4_placesOutside_36 ?_
          refine x_istore_n M hl0 dX4_placesOutside_37 (by decide) [(2, iV (x2 + r17)), (0, .ref (G.1 13 0)), (1, .ref (G.1 2 t1)), (3, iV x3)] rfl (fun ls hl23 => ?_)
          obtain ⟨g24, hf⟩ := gdt hf
          refine x_iinc M hl23 dX4_placesOutside_38 3 rfl (by decide) [(3, iV (x3 + 1)), (2, iV (x2 + r17)), (0, .ref (G.1 13 0)), (1, .ref (G.1 2 t1))] rfl (fun ls hl25 => ?_)
          refine x_goto (tgt := 4) M dX4_placesOutside_41 (by decide) ?_
          exact ih (x2 + r17) (x3 + 1) w18 g22 g24 _ _ hS21 _ (lv_sub hl25 [2, 3, 1, 0] rfl) _ _ hf

set_option maxHeartbeats 4000000 in
set_option maxRecDepth 100000 in
theorem c_X4_placesOutside (l : Launch) {G : GG} {t1 : Nat} (ht1 : t1 < 8) {w : Wd} {r : Int} {w' : Wd} (hf : X4_placesOutside t1 w = some (r, w')) : Met l yX4_placesOutside wsX4_placesOutside (rmk 2) (PcG G w [.ref (G.1 13 0), .ref (G.1 2 t1)]) (QiG G r w') 0 0 (GA G) := by
  refine met_of (own := RX4) (by decide) rfl (Nat.le_of_ble_eq_true rfl) rfl ?_
  intro p e s m args below meth c M hr ls hl0 hS0
  have hl0 : lv_has ls 4 [(0, .ref (G.1 13 0)), (1, .ref (G.1 2 t1))] := hl0
  unfold X4_placesOutside at hf
  refine x_iconst M dX4_placesOutside_0 ?_
  refine x_istore_n M hl0 dX4_placesOutside_1 (by decide) [(2, iV 0), (0, .ref (G.1 13 0)), (1, .ref (G.1 2 t1))] rfl (fun ls hl1 => ?_)
  refine x_iconst M dX4_placesOutside_2 ?_
  refine x_istore_n M hl1 dX4_placesOutside_3 (by decide) [(3, iV 0), (2, iV 0), (0, .ref (G.1 13 0)), (1, .ref (G.1 2 t1))] rfl (fun ls hl2 => ?_)
  exact X4_placesOutside_b4_ok M hr ht1 LF 0 0 w ⟨by decide, by decide⟩ ⟨by decide, by decide⟩ _ _ hS0 _ (lv_sub hl2 [2, 3, 1, 0] rfl) _ _ hf

/-! X7_garbage -/
theorem flX7_garbage_12 : Cond.fieldLink RX7 12 "NamedMoves" "store" "LNamedMoves$Store;" ∈ wsX7_garbage := by decide +kernel
theorem flX7_garbage_29 : Cond.fieldLink RX7 29 "NamedMoves" "reach" "LNamedMoves$Reach;" ∈ wsX7_garbage := by decide +kernel
theorem inX7_garbage_X5 : ∀ w ∈ u_ws RX5 TX5 10, w ∈ wsX7_garbage := by decide +kernel
theorem inX7_garbage_X7 : ∀ w ∈ u_ws RX7 TX7 6, w ∈ wsX7_garbage := by decide +kernel
set_option maxHeartbeats 4000000 in
set_option maxRecDepth 100000 in
theorem X7_garbage_b9_ok (M : MC p s m args meth c cX7_garbage 2 RX7 wsX7_garbage G) (hr : meth.sig.returnType = (some .int)) : ∀ n : Nat, ∀ x1 : Int, ∀ w : Wd, InR x1 → ∀ (H : Heap) (locs : List Loc), ST G s w H locs → ∀ ls : Array Slot, lv_has ls 2 [(0, .ref (G.1 10 0)), (1, iV x1)] → ∀ (r : Int) (w' : Wd), X7_garbage_b9 n x1 w = some (r, w') → W p l e (rmk 5) s m args below meth c H locs 0 0 (MQ below (QiG G r w') args s 0 0 (GA G)) (F0 m 9 ls []) := by
  intro n
  induction n with
  | zero =>
    intro x1 w hx1 H locs hS0 ls hl0 r w' hf
    cases hf
  | succ n ih =>
    intro x1 w hx1 H locs hS0 ls hl0 r w' hf
    rw [X7_garbage_b9_s] at hf
    refine x_iload_n M hl0 dX7_garbage_9 1 rfl ?_
    refine x_bipush M dX7_garbage_10 rfl ?_
    refine x_icmp_ge (tgt := 43) M hx1 ⟨by decide, by decide⟩ dX7_garbage_12 (by decide) (fun hc => ?_) (fun hc => ?_)
    · have hf := iff_ hf (Int.not_lt.mpr hc)
      refine x_aload_n M hl0 dX7_garbage_43 0 rfl ?_
      refine x_get (c0 := 10) (t0 := 0) (v := .ref (G.1 13 0)) M hS0 (by decide) (ref := "NamedMoves") inX7_garbage_X7 (sE_10 G _ _) rfl 3 (by decide) (M.2.2.2.2.1 _ flX7_garbage_29) rfl rfl dX7_garbage_44 ?_
      refine x_aload_n M hl0 dX7_garbage_47 0 rfl ?_
      refine x_get (c0 := 10) (t0 := 0) (v := .ref (G.1 0 0)) M hS0 (by decide) (ref := "NamedMoves") inX7_garbage_X7 (sE_10 G _ _) rfl 0 (by decide) (M.2.2.2.2.1 _ flX7_garbage_12) rfl rfl dX7_garbage_48 ?_
      refine x_getN (host := "NamedMoves") (c0 := 0) (t0 := 0) (v := .ref (G.1 2 0)) M hS0 (by decide) (ref := "NamedMoves$Store") inX7_garbage_X5 (sE_0 G _ _) rfl 1 (by decide) M.2.2.2.2.2.2.2.1 rfl rfl dX7_garbage_51 ?_
      obtain ⟨r7, w8, hc9, hf⟩ := bdt hf
      refine x_callVv (c0 := 13) (t0 := 0) (As := [.ref (G.1 2 0)]) (rest := []) M hl0 hS0 (c_X4_spread l (by decide)  hc9) (cwV 1 M.2.2.2.2.1 gX7_garbage_X4_spread rfl rfl rfl (by decide +kernel) ⟨Nat.le_of_ble_eq_true rfl, Nat.le_of_ble_eq_true rfl⟩) (by decide) (sE_13 G _ _) rfl rfl (Nat.le_of_ble_eq_true rfl) dX7_garbage_54 rfl ⟨Nat.zero_le _, Nat.zero_le _⟩ (fun H locs hS11 => ?_)
      refine x_aload_n M hl0 dX7_garbage_57 0 rfl ?_
      refine x_get (c0 := 10) (t0 := 0) (v := .ref (G.1 13 0)) M hS11 (by decide) (ref := "NamedMoves") inX7_garbage_X7 (sE_10 G _ _) rfl 3 (by decide) (M.2.2.2.2.1 _ flX7_garbage_29) rfl rfl dX7_garbage_58 ?_
      refine x_aload_n M hl0 dX7_garbage_61 0 rfl ?_
      refine x_get (c0 := 10) (t0 := 0) (v := .ref (G.1 0 0)) M hS11 (by decide) (ref := "NamedMoves") inX7_garbage_X7 (sE_10 G _ _) rfl 0 (by decide) (M.2.2.2.2.1 _ flX7_garbage_12) rfl rfl dX7_garbage_62 ?_
      refine x_getN (host := "NamedMoves") (c0 := 0) (t0 := 0) (v := .ref (G.1 2 0)) M hS11 (by decide) (ref := "NamedMoves$Store") inX7_garbage_X5 (sE_0 G _ _) rfl 1 (by decide) M.2.2.2.2.2.2.2.1 rfl rfl dX7_garbage_65 ?_
      obtain ⟨r12, w13, hc14, hf⟩ := bdt hf
      refine x_callVi (c0 := 13) (t0 := 0) (As := [.ref (G.1 2 0)]) (rest := []) M hl0 hS11 (c_X4_placesOutside l (by decide)  hc14) (cwV 1 M.2.2.2.2.1 gX7_garbage_X4_placesOutside rfl rfl rfl (by decide +kernel) ⟨Nat.le_of_ble_eq_true rfl, Nat.le_of_ble_eq_true rfl⟩) (by decide) (sE_13 G _ _) rfl rfl (Nat.le_of_ble_eq_true rfl) dX7_garbage_68 rfl ⟨Nat.zero_le _, Nat.zero_le _⟩ (fun H locs hi15 hS16 => ?_)
      exact x_iret M hr hf hS16 hi15 dX7_garbage_71
    · have hf := ift hf (Int.not_le.mp hc)
      refine x_aload_n M hl0 dX7_garbage_15 0 rfl ?_
      refine x_get (c0 := 10) (t0 := 0) (v := .ref (G.1 13 0)) M hS0 (by decide) (ref := "NamedMoves") inX7_garbage_X7 (sE_10 G _ _) rfl 3 (by decide) (M.2.2.2.2.1 _ flX7_garbage_29) rfl rfl dX7_garbage_16 ?_
      refine x_aload_n M hl0 dX7_garbage_19 0 rfl ?_
      refine x_get (c0 := 10) (t0 := 0) (v := .ref (G.1 0 0)) M hS0 (by decide) (ref := "NamedMoves") inX7_garbage_X7 (sE_10 G _ _) rfl 0 (by decide) (M.2.2.2.2.1 _ flX7_garbage_12) rfl rfl dX7_garbage_20 ?_
      refine x_getN (host := "NamedMoves") (c0 := 0) (t0 := 0) (v := .ref (G.1 2 0)) M hS0 (by decide) (ref := "NamedMoves$Store") inX7_garbage_X5 (sE_0 G _ _) rfl 1 (by decide) M.2.2.2.2.2.2.2.1 rfl rfl dX7_garbage_23 ?_
      refine x_aload_n M hl0 dX7_garbage_26 0 rfl ?_
      refine x_get (c0 := 10) (t0 := 0) (v := .ref (G.1 0 0)) M hS0 (by decide) (ref := "NamedMoves") inX7_garbage_X7 (sE_10 G _ _) rfl 0 (by decide) (M.2.2.2.2.1 _ flX7_garbage_12) rfl rfl dX7_garbage_27 ?_
      refine x_iload_n M hl0 dX7_garbage_30 1 rfl ?_
      obtain ⟨r17, w18, hc19, hf⟩ := bdt hf
      refine x_callVi (c0 := 0) (t0 := 0) (As := [iV x1]) (rest := [.ref (G.1 2 0), .ref (G.1 13 0)]) M hl0 hS0 (c_X5_hungOn l (by decide) hx1 hc19) (cwV 1 M.2.2.2.2.1 gX7_garbage_X5_hungOn rfl rfl rfl (by decide +kernel) ⟨Nat.le_of_ble_eq_true rfl, Nat.le_of_ble_eq_true rfl⟩) (by decide) (sE_0 G _ _) rfl rfl (Nat.le_of_ble_eq_true rfl) dX7_garbage_31 rfl ⟨Nat.zero_le _, Nat.zero_le _⟩ (fun H locs hi20 hS21 => ?_)
      obtain ⟨r22, w23, hc24, hf⟩ := bdt hf
      refine x_callVv (c0 := 13) (t0 := 0) (As := [.ref (G.1 2 0), iV r17]) (rest := []) M hl0 hS21 (c_X4_add l (by decide) hi20 hc24) (cwV 2 M.2.2.2.2.1 gX7_garbage_X4_add rfl rfl rfl (by decide +kernel) ⟨Nat.le_of_ble_eq_true rfl, Nat.le_of_ble_eq_true rfl⟩) (by decide) (sE_13 G _ _) rfl rfl (Nat.le_of_ble_eq_true rfl) dX7_garbage_34 rfl ⟨Nat.zero_le _, Nat.zero_le _⟩ (fun H locs hS26 => ?_)
      obtain ⟨g27, hf⟩ := gdt hf
      refine x_iinc M hl0 dX7_garbage_37 1 rfl (by decide) [(1, iV (x1 + 1)), (0, .ref (G.1 10 0))] rfl (fun ls hl28 => ?_)
      refine x_goto (tgt := 9) M dX7_garbage_40 (by decide) ?_
      exact ih (x1 + 1) w23 g27 _ _ hS26 _ (lv_sub hl28 [1, 0] rfl) _ _ hf

set_option maxHeartbeats 4000000 in
set_option maxRecDepth 100000 in
theorem c_X7_garbage (l : Launch) {G : GG} {w : Wd} {r : Int} {w' : Wd} (hf : X7_garbage w = some (r, w')) : Met l yX7_garbage wsX7_garbage (rmk 5) (PcG G w [.ref (G.1 10 0)]) (QiG G r w') 0 0 (GA G) := by
  refine met_of (own := RX7) (by decide) rfl (Nat.le_of_ble_eq_true rfl) rfl ?_
  intro p e s m args below meth c M hr ls hl0 hS0
  have hl0 : lv_has ls 2 [(0, .ref (G.1 10 0))] := hl0
  unfold X7_garbage at hf
  refine x_aload_n M hl0 dX7_garbage_0 0 rfl ?_
  refine x_get (c0 := 10) (t0 := 0) (v := .ref (G.1 13 0)) M hS0 (by decide) (ref := "NamedMoves") inX7_garbage_X7 (sE_10 G _ _) rfl 3 (by decide) (M.2.2.2.2.1 _ flX7_garbage_29) rfl rfl dX7_garbage_1 ?_
  obtain ⟨r1, w2, hc3, hf⟩ := bdt hf
  refine x_callVv (c0 := 13) (t0 := 0) (As := []) (rest := []) M hl0 hS0 (c_X4_clear l   hc3) (cwV 0 M.2.2.2.2.1 gX7_garbage_X4_clear rfl rfl rfl (by decide +kernel) ⟨Nat.le_of_ble_eq_true rfl, Nat.le_of_ble_eq_true rfl⟩) (by decide) (sE_13 G _ _) rfl rfl (Nat.le_of_ble_eq_true rfl) dX7_garbage_4 rfl ⟨Nat.zero_le _, Nat.zero_le _⟩ (fun H locs hS5 => ?_)
  refine x_iconst M dX7_garbage_7 ?_
  refine x_istore_n M hl0 dX7_garbage_8 (by decide) [(1, iV 0), (0, .ref (G.1 10 0))] rfl (fun ls hl6 => ?_)
  exact X7_garbage_b9_ok M hr LF 0 w2 ⟨by decide, by decide⟩ _ _ hS5 _ (lv_sub hl6 [1, 0] rfl) _ _ hf

/-! X7_stepsLeft -/
theorem flX7_stepsLeft_12 : Cond.fieldLink RX7 12 "NamedMoves" "store" "LNamedMoves$Store;" ∈ wsX7_stepsLeft := by decide +kernel
theorem flX7_stepsLeft_16 : Cond.fieldLink RX7 16 "NamedMoves" "forecast" "LNamedMoves$Store;" ∈ wsX7_stepsLeft := by decide +kernel
theorem inX7_stepsLeft_X5 : ∀ w ∈ u_ws RX5 TX5 10, w ∈ wsX7_stepsLeft := by decide +kernel
theorem inX7_stepsLeft_X7 : ∀ w ∈ u_ws RX7 TX7 6, w ∈ wsX7_stepsLeft := by decide +kernel
set_option maxHeartbeats 4000000 in
set_option maxRecDepth 100000 in
theorem c_X7_stepsLeft (l : Launch) {G : GG} {w : Wd} {r : Int} {w' : Wd} (hf : X7_stepsLeft w = some (r, w')) : Met l yX7_stepsLeft wsX7_stepsLeft (rmk 4) (PcG G w [.ref (G.1 10 0)]) (QiG G r w') 0 0 (GA G) := by
  refine met_of (own := RX7) (by decide) rfl (Nat.le_of_ble_eq_true rfl) rfl ?_
  intro p e s m args below meth c M hr ls hl0 hS0
  have hl0 : lv_has ls 1 [(0, .ref (G.1 10 0))] := hl0
  unfold X7_stepsLeft at hf
  refine x_aload_n M hl0 dX7_stepsLeft_0 0 rfl ?_
  refine x_get (c0 := 10) (t0 := 0) (v := .ref (G.1 0 0)) M hS0 (by decide) (ref := "NamedMoves") inX7_stepsLeft_X7 (sE_10 G _ _) rfl 0 (by decide) (M.2.2.2.2.1 _ flX7_stepsLeft_12) rfl rfl dX7_stepsLeft_1 ?_
  refine x_getN (host := "NamedMoves") (c0 := 0) (t0 := 0) (v := iV (w 0 0 2)) M hS0 (by decide) (ref := "NamedMoves$Store") inX7_stepsLeft_X5 (sE_0 G _ _) rfl 5 (by decide) M.2.2.2.2.2.2.2.2.1 rfl rfl dX7_stepsLeft_4 ?_
  refine x_if_ne (tgt := 13) M (hS0.inr _ _ _) dX7_stepsLeft_7 (by decide) (fun hc => ?_) (fun hc => ?_)
  · have hf := iff_ hf hc
    refine x_aload_n M hl0 dX7_stepsLeft_13 0 rfl ?_
    refine x_get (c0 := 10) (t0 := 0) (v := .ref (G.1 0 1)) M hS0 (by decide) (ref := "NamedMoves") inX7_stepsLeft_X7 (sE_10 G _ _) rfl 1 (by decide) (M.2.2.2.2.1 _ flX7_stepsLeft_16) rfl rfl dX7_stepsLeft_14 ?_
    refine x_aload_n M hl0 dX7_stepsLeft_17 0 rfl ?_
    refine x_get (c0 := 10) (t0 := 0) (v := .ref (G.1 0 0)) M hS0 (by decide) (ref := "NamedMoves") inX7_stepsLeft_X7 (sE_10 G _ _) rfl 0 (by decide) (M.2.2.2.2.1 _ flX7_stepsLeft_12) rfl rfl dX7_stepsLeft_18 ?_
    obtain ⟨r1, w2, hc3, hf⟩ := bdt hf
    refine x_callVv (c0 := 0) (t0 := 1) (As := [.ref (G.1 0 0)]) (rest := []) M hl0 hS0 (c_X5_become l (by decide) (by decide)  hc3) (cwV 1 M.2.2.2.2.1 gX7_stepsLeft_X5_become rfl rfl rfl (by decide +kernel) ⟨Nat.le_of_ble_eq_true rfl, Nat.le_of_ble_eq_true rfl⟩) (by decide) (sE_0 G _ _) rfl rfl (Nat.le_of_ble_eq_true rfl) dX7_stepsLeft_21 rfl ⟨Nat.zero_le _, Nat.zero_le _⟩ (fun H locs hS5 => ?_)
    refine x_aload_n M hl0 dX7_stepsLeft_24 0 rfl ?_
    refine x_get (c0 := 10) (t0 := 0) (v := .ref (G.1 0 1)) M hS5 (by decide) (ref := "NamedMoves") inX7_stepsLeft_X7 (sE_10 G _ _) rfl 1 (by decide) (M.2.2.2.2.1 _ flX7_stepsLeft_16) rfl rfl dX7_stepsLeft_25 ?_
    refine x_bipush M dX7_stepsLeft_28 rfl ?_
    obtain ⟨r6, w7, hc8, hf⟩ := bdt hf
    refine x_callVi (c0 := 0) (t0 := 1) (As := [iV 124]) (rest := []) M hl0 hS5 (c_X5_stepsUpTo l (by decide) ⟨by decide, by decide⟩ hc8) (cwV 1 M.2.2.2.2.1 gX7_stepsLeft_X5_stepsUpTo rfl rfl rfl (by decide +kernel) ⟨Nat.le_of_ble_eq_true rfl, Nat.le_of_ble_eq_true rfl⟩) (by decide) (sE_0 G _ _) rfl rfl (Nat.le_of_ble_eq_true rfl) dX7_stepsLeft_30 rfl ⟨Nat.zero_le _, Nat.zero_le _⟩ (fun H locs hi9 hS10 => ?_)
    exact x_iret M hr hf hS10 hi9 dX7_stepsLeft_33
  · have hf := ift hf (Decidable.of_not_not hc)
    refine x_bipush M dX7_stepsLeft_10 rfl ?_
    exact x_iret M hr hf hS0 ⟨by decide, by decide⟩ dX7_stepsLeft_12

/-! X7_freeThen -/
theorem flX7_freeThen_12 : Cond.fieldLink RX7 12 "NamedMoves" "store" "LNamedMoves$Store;" ∈ wsX7_freeThen := by decide +kernel
theorem flX7_freeThen_16 : Cond.fieldLink RX7 16 "NamedMoves" "forecast" "LNamedMoves$Store;" ∈ wsX7_freeThen := by decide +kernel
theorem inX7_freeThen_X7 : ∀ w ∈ u_ws RX7 TX7 6, w ∈ wsX7_freeThen := by decide +kernel
set_option maxHeartbeats 4000000 in
set_option maxRecDepth 100000 in
theorem c_X7_freeThen (l : Launch) {G : GG} {w : Wd} {r : Int} {w' : Wd} (hf : X7_freeThen w = some (r, w')) : Met l yX7_freeThen wsX7_freeThen (rmk 4) (PcG G w [.ref (G.1 10 0)]) (QiG G r w') 0 0 (GA G) := by
  refine met_of (own := RX7) (by decide) rfl (Nat.le_of_ble_eq_true rfl) rfl ?_
  intro p e s m args below meth c M hr ls hl0 hS0
  have hl0 : lv_has ls 1 [(0, .ref (G.1 10 0))] := hl0
  unfold X7_freeThen at hf
  refine x_aload_n M hl0 dX7_freeThen_0 0 rfl ?_
  refine x_get (c0 := 10) (t0 := 0) (v := .ref (G.1 0 1)) M hS0 (by decide) (ref := "NamedMoves") inX7_freeThen_X7 (sE_10 G _ _) rfl 1 (by decide) (M.2.2.2.2.1 _ flX7_freeThen_16) rfl rfl dX7_freeThen_1 ?_
  refine x_aload_n M hl0 dX7_freeThen_4 0 rfl ?_
  refine x_get (c0 := 10) (t0 := 0) (v := .ref (G.1 0 0)) M hS0 (by decide) (ref := "NamedMoves") inX7_freeThen_X7 (sE_10 G _ _) rfl 0 (by decide) (M.2.2.2.2.1 _ flX7_freeThen_12) rfl rfl dX7_freeThen_5 ?_
  obtain ⟨r1, w2, hc3, hf⟩ := bdt hf
  refine x_callVv (c0 := 0) (t0 := 1) (As := [.ref (G.1 0 0)]) (rest := []) M hl0 hS0 (c_X5_become l (by decide) (by decide)  hc3) (cwV 1 M.2.2.2.2.1 gX7_freeThen_X5_become rfl rfl rfl (by decide +kernel) ⟨Nat.le_of_ble_eq_true rfl, Nat.le_of_ble_eq_true rfl⟩) (by decide) (sE_0 G _ _) rfl rfl (Nat.le_of_ble_eq_true rfl) dX7_freeThen_8 rfl ⟨Nat.zero_le _, Nat.zero_le _⟩ (fun H locs hS5 => ?_)
  refine x_aload_n M hl0 dX7_freeThen_11 0 rfl ?_
  refine x_get (c0 := 10) (t0 := 0) (v := .ref (G.1 0 1)) M hS5 (by decide) (ref := "NamedMoves") inX7_freeThen_X7 (sE_10 G _ _) rfl 1 (by decide) (M.2.2.2.2.1 _ flX7_freeThen_16) rfl rfl dX7_freeThen_12 ?_
  refine x_bipush M dX7_freeThen_15 rfl ?_
  obtain ⟨r6, w7, hc8, hf⟩ := bdt hf
  refine x_callVi (c0 := 0) (t0 := 1) (As := [iV 124]) (rest := []) M hl0 hS5 (c_X5_stepsUpTo l (by decide) ⟨by decide, by decide⟩ hc8) (cwV 1 M.2.2.2.2.1 gX7_freeThen_X5_stepsUpTo rfl rfl rfl (by decide +kernel) ⟨Nat.le_of_ble_eq_true rfl, Nat.le_of_ble_eq_true rfl⟩) (by decide) (sE_0 G _ _) rfl rfl (Nat.le_of_ble_eq_true rfl) dX7_freeThen_17 rfl ⟨Nat.zero_le _, Nat.zero_le _⟩ (fun H locs hi9 hS10 => ?_)
  refine x_pop M dX7_freeThen_20 rfl ?_
  refine x_aload_n M hl0 dX7_freeThen_21 0 rfl ?_
  refine x_get (c0 := 10) (t0 := 0) (v := .ref (G.1 0 1)) M hS10 (by decide) (ref := "NamedMoves") inX7_freeThen_X7 (sE_10 G _ _) rfl 1 (by decide) (M.2.2.2.2.1 _ flX7_freeThen_16) rfl rfl dX7_freeThen_22 ?_
  obtain ⟨r11, w12, hc13, hf⟩ := bdt hf
  refine x_callVi (c0 := 0) (t0 := 1) (As := []) (rest := []) M hl0 hS10 (c_X5_beginMove l (by decide)  hc13) (cwV 0 M.2.2.2.2.1 gX7_freeThen_X5_beginMove rfl rfl rfl (by decide +kernel) ⟨Nat.le_of_ble_eq_true rfl, Nat.le_of_ble_eq_true rfl⟩) (by decide) (sE_0 G _ _) rfl rfl (Nat.le_of_ble_eq_true rfl) dX7_freeThen_25 rfl ⟨Nat.zero_le _, Nat.zero_le _⟩ (fun H locs hi14 hS15 => ?_)
  refine x_pop M dX7_freeThen_28 rfl ?_
  refine x_aload_n M hl0 dX7_freeThen_29 0 rfl ?_
  refine x_get (c0 := 10) (t0 := 0) (v := .ref (G.1 0 1)) M hS15 (by decide) (ref := "NamedMoves") inX7_freeThen_X7 (sE_10 G _ _) rfl 1 (by decide) (M.2.2.2.2.1 _ flX7_freeThen_16) rfl rfl dX7_freeThen_30 ?_
  refine x_bipush M dX7_freeThen_33 rfl ?_
  obtain ⟨r16, w17, hc18, hf⟩ := bdt hf
  refine x_callVi (c0 := 0) (t0 := 1) (As := [iV 124]) (rest := []) M hl0 hS15 (c_X5_stepsUpTo l (by decide) ⟨by decide, by decide⟩ hc18) (cwV 1 M.2.2.2.2.1 gX7_freeThen_X5_stepsUpTo rfl rfl rfl (by decide +kernel) ⟨Nat.le_of_ble_eq_true rfl, Nat.le_of_ble_eq_true rfl⟩) (by decide) (sE_0 G _ _) rfl rfl (Nat.le_of_ble_eq_true rfl) dX7_freeThen_35 rfl ⟨Nat.zero_le _, Nat.zero_le _⟩ (fun H locs hi19 hS20 => ?_)
  refine x_pop M dX7_freeThen_38 rfl ?_
  refine x_aload_n M hl0 dX7_freeThen_39 0 rfl ?_
  refine x_get (c0 := 10) (t0 := 0) (v := .ref (G.1 0 1)) M hS20 (by decide) (ref := "NamedMoves") inX7_freeThen_X7 (sE_10 G _ _) rfl 1 (by decide) (M.2.2.2.2.1 _ flX7_freeThen_16) rfl rfl dX7_freeThen_40 ?_
  obtain ⟨r21, w22, hc23, hf⟩ := bdt hf
  refine x_callVi (c0 := 0) (t0 := 1) (As := []) (rest := []) M hl0 hS20 (c_X5_freeInHalf l (by decide)  hc23) (cwV 0 M.2.2.2.2.1 gX7_freeThen_X5_freeInHalf rfl rfl rfl (by decide +kernel) ⟨Nat.le_of_ble_eq_true rfl, Nat.le_of_ble_eq_true rfl⟩) (by decide) (sE_0 G _ _) rfl rfl (Nat.le_of_ble_eq_true rfl) dX7_freeThen_43 rfl ⟨Nat.zero_le _, Nat.zero_le _⟩ (fun H locs hi24 hS25 => ?_)
  exact x_iret M hr hf hS25 hi24 dX7_freeThen_46

/-! X8_in -/
set_option maxHeartbeats 4000000 in
set_option maxRecDepth 100000 in
theorem c_X8_in (l : Launch) {G : GG} {x0 : Int} (hx0 : InR x0) {x1 : Int} (hx1 : InR x1) {x2 : Int} (hx2 : InR x2) {w : Wd} {r : Int} {w' : Wd} (hf : X8_in x0 x1 x2 w = some (r, w')) : Met l yX8_in wsX8_in (rmk 0) (PcG G w [iV x0, iV x1, iV x2]) (QiG G r w') 0 0 (GA G) := by
  refine met_of (own := RX8) (by decide) rfl (Nat.le_of_ble_eq_true rfl) rfl ?_
  intro p e s m args below meth c M hr ls hl0 hS0
  have hl0 : lv_has ls 3 [(0, iV x0), (1, iV x1), (2, iV x2)] := hl0
  unfold X8_in at hf
  refine x_iload_n M hl0 dX8_in_0 0 rfl ?_
  refine x_iload_n M hl0 dX8_in_1 1 rfl ?_
  refine x_icmp_lt (tgt := 14) M hx0 hx1 dX8_in_2 (by decide) (fun hc => ?_) (fun hc => ?_)
  · have hf := ift hf hc
    refine x_iconst M dX8_in_14 ?_
    exact x_zret M hr hf hS0 (Or.inl rfl) dX8_in_15
  · have hf := iff_ hf hc
    refine x_iload_n M hl0 dX8_in_5 0 rfl ?_
    refine x_iload_n M hl0 dX8_in_6 2 rfl ?_
    refine x_icmp_gt (tgt := 14) M hx0 hx2 dX8_in_7 (by decide) (fun hc => ?_) (fun hc => ?_)
    · have hf := ift hf hc
      refine x_iconst M dX8_in_14 ?_
      exact x_zret M hr hf hS0 (Or.inl rfl) dX8_in_15
    · have hf := iff_ hf hc
      refine x_iconst M dX8_in_10 ?_
      refine x_goto (tgt := 15) M dX8_in_11 (by decide) ?_
      exact x_zret M hr hf hS0 (Or.inr rfl) dX8_in_15

/-! X8_acts -/
theorem flX8_acts_13 : Cond.fieldLink RX8 13 "NamedMovesModel" "past" "[I" ∈ wsX8_acts := by decide +kernel
theorem flX8_acts_32 : Cond.fieldLink RX8 32 "NamedMovesModel" "runs" "Z" ∈ wsX8_acts := by decide +kernel
theorem flX8_acts_36 : Cond.fieldLink RX8 36 "NamedMovesModel" "pasts" "I" ∈ wsX8_acts := by decide +kernel
theorem flX8_acts_7 : Cond.fieldLink RX8 7 "NamedMovesModel" "s" "[I" ∈ wsX8_acts := by decide +kernel
theorem inX8_acts_X8 : ∀ w ∈ u_ws RX8 TX8 12, w ∈ wsX8_acts := by decide +kernel
set_option maxHeartbeats 4000000 in
set_option maxRecDepth 100000 in
theorem X8_acts_b59_ok (M : MC p s m args meth c cX8_acts 2 RX8 wsX8_acts G) (hr : meth.sig.returnType = none) : ∀ n : Nat, ∀ x1 : Int, ∀ w : Wd, InR x1 → ∀ (H : Heap) (locs : List Loc), ST G s w H locs → ∀ ls : Array Slot, lv_has ls 2 [(0, .ref (G.1 21 0)), (1, iV x1)] → ∀ (r : Int) (w' : Wd), X8_acts_b59 n x1 w = some (r, w') → W p l e (rmk 0) s m args below meth c H locs 0 0 (MQ below (QvG G w') args s 0 0 (GA G)) (F0 m 59 ls []) := by
  intro n
  induction n with
  | zero =>
    intro x1 w hx1 H locs hS0 ls hl0 r w' hf
    cases hf
  | succ n ih =>
    intro x1 w hx1 H locs hS0 ls hl0 r w' hf
    rw [X8_acts_b59_s] at hf
    refine x_iload_n M hl0 dX8_acts_59 1 rfl ?_
    refine x_sipush M dX8_acts_60 rfl ?_
    refine x_icmp_ge (tgt := 93) M hx1 ⟨by decide, by decide⟩ dX8_acts_63 (by decide) (fun hc => ?_) (fun hc => ?_)
    · have hf := iff_ hf (Int.not_lt.mpr hc)
      refine x_aload_n M hl0 dX8_acts_93 0 rfl ?_
      refine x_dup M dX8_acts_94 rfl ?_
      refine x_get (c0 := 21) (t0 := 0) (v := iV (w 21 0 0)) M hS0 (by decide) (ref := "NamedMovesModel") inX8_acts_X8 (sE_21 G _ _) rfl 3 (by decide) (M.2.2.2.2.1 _ flX8_acts_36) rfl rfl dX8_acts_95 ?_
      refine x_iconst M dX8_acts_98 ?_
      obtain ⟨g2, hf⟩ := gdt hf
      refine x_iadd M dX8_acts_99 ?_
      refine x_put (c0 := 21) (t0 := 0) M hS0 (by decide) (ref := "NamedMovesModel") inX8_acts_X8 tyX8 tyX8_ok nmX8 (sE_21 G _ _) rfl 3 (by decide) (M.2.2.2.2.1 _ flX8_acts_36) rfl rfl (ty := tyX8 3) g2 (tyX8_ok 3 (by decide)) rfl rfl (by simp) 0 (pset_21_0 G _ _ _) dX8_acts_100 (fun H locs hS3 => ?_)
      exact x_vret M hr hf hS3 dX8_acts_103
    · have hf := ift hf (Int.not_le.mp hc)
      refine x_aload_n M hl0 dX8_acts_66 0 rfl ?_
      refine x_get (c0 := 21) (t0 := 0) (v := .ref (G.1 23 0)) M hS0 (by decide) (ref := "NamedMovesModel") inX8_acts_X8 (sE_21 G _ _) rfl 1 (by decide) (M.2.2.2.2.1 _ flX8_acts_13) rfl rfl dX8_acts_67 ?_
      refine x_sipush M dX8_acts_70 rfl ?_
      refine x_aload_n M hl0 dX8_acts_73 0 rfl ?_
      refine x_get (c0 := 21) (t0 := 0) (v := iV (w 21 0 0)) M hS0 (by decide) (ref := "NamedMovesModel") inX8_acts_X8 (sE_21 G _ _) rfl 3 (by decide) (M.2.2.2.2.1 _ flX8_acts_36) rfl rfl dX8_acts_74 ?_
      obtain ⟨g4, hf⟩ := gdt hf
      refine x_imul M dX8_acts_77 ?_
      refine x_iload_n M hl0 dX8_acts_78 1 rfl ?_
      obtain ⟨g5, hf⟩ := gdt hf
      refine x_iadd M dX8_acts_79 ?_
      refine x_aload_n M hl0 dX8_acts_80 0 rfl ?_
      refine x_get (c0 := 21) (t0 := 0) (v := .ref (G.1 22 0)) M hS0 (by decide) (ref := "NamedMovesModel") inX8_acts_X8 (sE_21 G _ _) rfl 0 (by decide) (M.2.2.2.2.1 _ flX8_acts_7) rfl rfl dX8_acts_81 ?_
      refine x_iload_n M hl0 dX8_acts_84 1 rfl ?_
      obtain ⟨g6, hf⟩ := gdt hf
      refine x_iald (c0 := 22) (t0 := 0) M hS0 (by decide) (hs_22 G _) rfl g6 (by decide) dX8_acts_85 ?_
      obtain ⟨g7, hf⟩ := gdt hf
      refine x_iast (c0 := 23) (t0 := 0) M hS0 (by decide) (hs_23 G _) rfl g7 (by decide) (hS0.inr _ _ _) dX8_acts_86 (fun H locs hS8 => ?_)
      obtain ⟨g9, hf⟩ := gdt hf
      refine x_iinc M hl0 dX8_acts_87 1 rfl (by decide) [(1, iV (x1 + 1)), (0, .ref (G.1 21 0))] rfl (fun ls hl10 => ?_)
      refine x_goto (tgt := 59) M dX8_acts_90 (by decide) ?_
      exact ih (x1 + 1) (up w 23 0 ((1125 * (w 21 0 0)) + x1).toNat (w 22 0 x1.toNat)) g9 _ _ hS8 _ (lv_sub hl10 [1, 0] rfl) _ _ hf

set_option maxHeartbeats 4000000 in
set_option maxRecDepth 100000 in
theorem X8_acts_b18_ok (M : MC p s m args meth c cX8_acts 2 RX8 wsX8_acts G) (hr : meth.sig.returnType = none) : ∀ n : Nat, ∀ x1 : Int, ∀ w : Wd, InR x1 → ∀ (H : Heap) (locs : List Loc), ST G s w H locs → ∀ ls : Array Slot, lv_has ls 2 [(0, .ref (G.1 21 0)), (1, iV x1)] → ∀ (r : Int) (w' : Wd), X8_acts_b18 n x1 w = some (r, w') → W p l e (rmk 0) s m args below meth c H locs 0 0 (MQ below (QvG G w') args s 0 0 (GA G)) (F0 m 18 ls []) := by
  intro n
  induction n with
  | zero =>
    intro x1 w hx1 H locs hS0 ls hl0 r w' hf
    cases hf
  | succ n ih =>
    intro x1 w hx1 H locs hS0 ls hl0 r w' hf
    rw [X8_acts_b18_s] at hf
    refine x_iload_n M hl0 dX8_acts_18 1 rfl ?_
    refine x_sipush M dX8_acts_19 rfl ?_
    refine x_icmp_ge (tgt := 47) M hx1 ⟨by decide, by decide⟩ dX8_acts_22 (by decide) (fun hc => ?_) (fun hc => ?_)
    · have hf := iff_ hf (Int.not_lt.mpr hc)
      refine x_aload_n M hl0 dX8_acts_47 0 rfl ?_
      refine x_dup M dX8_acts_48 rfl ?_
      refine x_get (c0 := 21) (t0 := 0) (v := iV (w 21 0 0)) M hS0 (by decide) (ref := "NamedMovesModel") inX8_acts_X8 (sE_21 G _ _) rfl 3 (by decide) (M.2.2.2.2.1 _ flX8_acts_36) rfl rfl dX8_acts_49 ?_
      refine x_iconst M dX8_acts_52 ?_
      obtain ⟨g12, hf⟩ := gdt hf
      refine x_isub M dX8_acts_53 ?_
      refine x_put (c0 := 21) (t0 := 0) M hS0 (by decide) (ref := "NamedMovesModel") inX8_acts_X8 tyX8 tyX8_ok nmX8 (sE_21 G _ _) rfl 3 (by decide) (M.2.2.2.2.1 _ flX8_acts_36) rfl rfl (ty := tyX8 3) g12 (tyX8_ok 3 (by decide)) rfl rfl (by simp) 0 (pset_21_0 G _ _ _) dX8_acts_54 (fun H locs hS13 => ?_)
      refine x_iconst M dX8_acts_57 ?_
      refine x_istore_n M hl0 dX8_acts_58 (by decide) [(1, iV 0), (0, .ref (G.1 21 0))] rfl (fun ls hl14 => ?_)
      exact X8_acts_b59_ok M hr LF 0 (up w 21 0 0 ((w 21 0 0) - 1)) ⟨by decide, by decide⟩ _ _ hS13 _ (lv_sub hl14 [1, 0] rfl) _ _ hf
    · have hf := ift hf (Int.not_le.mp hc)
      refine x_aload_n M hl0 dX8_acts_25 0 rfl ?_
      refine x_get (c0 := 21) (t0 := 0) (v := .ref (G.1 23 0)) M hS0 (by decide) (ref := "NamedMovesModel") inX8_acts_X8 (sE_21 G _ _) rfl 1 (by decide) (M.2.2.2.2.1 _ flX8_acts_13) rfl rfl dX8_acts_26 ?_
      refine x_iload_n M hl0 dX8_acts_29 1 rfl ?_
      refine x_aload_n M hl0 dX8_acts_30 0 rfl ?_
      refine x_get (c0 := 21) (t0 := 0) (v := .ref (G.1 23 0)) M hS0 (by decide) (ref := "NamedMovesModel") inX8_acts_X8 (sE_21 G _ _) rfl 1 (by decide) (M.2.2.2.2.1 _ flX8_acts_13) rfl rfl dX8_acts_31 ?_
      refine x_iload_n M hl0 dX8_acts_34 1 rfl ?_
      refine x_sipush M dX8_acts_35 rfl ?_
      obtain ⟨g15, hf⟩ := gdt hf
      refine x_iadd M dX8_acts_38 ?_
      obtain ⟨g16, hf⟩ := gdt hf
      refine x_iald (c0 := 23) (t0 := 0) M hS0 (by decide) (hs_23 G _) rfl g16 (by decide) dX8_acts_39 ?_
      obtain ⟨g17, hf⟩ := gdt hf
      refine x_iast (c0 := 23) (t0 := 0) M hS0 (by decide) (hs_23 G _) rfl g17 (by decide) (hS0.inr _ _ _) dX8_acts_40 (fun H locs hS18 => ?_)
      obtain ⟨g19, hf⟩ := gdt hf
      refine x_iinc M hl0 dX8_acts_41 1 rfl (by decide) [(1, iV (x1 + 1)), (0, .ref (G.1 21 0))] rfl (fun ls hl20 => ?_)
      refine x_goto (tgt := 18) M dX8_acts_44 (by decide) ?_
      exact ih (x1 + 1) (up w 23 0 x1.toNat (w 23 0 (x1 + 1125).toNat)) g19 _ _ hS18 _ (lv_sub hl20 [1, 0] rfl) _ _ hf

set_option maxHeartbeats 4000000 in
set_option maxRecDepth 100000 in
theorem c_X8_acts (l : Launch) {G : GG} {w : Wd} {r : Int} {w' : Wd} (hf : X8_acts w = some (r, w')) : Met l yX8_acts wsX8_acts (rmk 0) (PcG G w [.ref (G.1 21 0)]) (QvG G w') 0 0 (GA G) := by
  refine met_of (own := RX8) (by decide) rfl (Nat.le_of_ble_eq_true rfl) rfl ?_
  intro p e s m args below meth c M hr ls hl0 hS0
  have hl0 : lv_has ls 2 [(0, .ref (G.1 21 0))] := hl0
  unfold X8_acts at hf
  refine x_aload_n M hl0 dX8_acts_0 0 rfl ?_
  refine x_get (c0 := 21) (t0 := 0) (v := iV (w 21 0 1)) M hS0 (by decide) (ref := "NamedMovesModel") inX8_acts_X8 (sE_21 G _ _) rfl 4 (by decide) (M.2.2.2.2.1 _ flX8_acts_32) rfl rfl dX8_acts_1 ?_
  refine x_if_eq (tgt := 8) M (hS0.inr _ _ _) dX8_acts_4 (by decide) (fun hc => ?_) (fun hc => ?_)
  · have hf := ift hf hc
    refine x_aload_n M hl0 dX8_acts_8 0 rfl ?_
    refine x_get (c0 := 21) (t0 := 0) (v := iV (w 21 0 0)) M hS0 (by decide) (ref := "NamedMovesModel") inX8_acts_X8 (sE_21 G _ _) rfl 3 (by decide) (M.2.2.2.2.1 _ flX8_acts_36) rfl rfl dX8_acts_9 ?_
    refine x_iconst M dX8_acts_12 ?_
    refine x_icmp_ne (tgt := 57) M (hS0.inr _ _ _) ⟨by decide, by decide⟩ dX8_acts_13 (by decide) (fun hc => ?_) (fun hc => ?_)
    · have hf := iff_ hf hc
      refine x_iconst M dX8_acts_57 ?_
      refine x_istore_n M hl0 dX8_acts_58 (by decide) [(1, iV 0), (0, .ref (G.1 21 0))] rfl (fun ls hl1 => ?_)
      exact X8_acts_b59_ok M hr LF 0 w ⟨by decide, by decide⟩ _ _ hS0 _ (lv_sub hl1 [1, 0] rfl) _ _ hf
    · have hf := ift hf (Decidable.of_not_not hc)
      refine x_iconst M dX8_acts_16 ?_
      refine x_istore_n M hl0 dX8_acts_17 (by decide) [(1, iV 0), (0, .ref (G.1 21 0))] rfl (fun ls hl11 => ?_)
      exact X8_acts_b18_ok M hr LF 0 w ⟨by decide, by decide⟩ _ _ hS0 _ (lv_sub hl11 [1, 0] rfl) _ _ hf
  · have hf := iff_ hf hc
    exact x_vret M hr hf hS0 dX8_acts_7

end
