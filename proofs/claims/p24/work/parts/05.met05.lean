section
variable {p : Program} {l : Launch} {e : Env} {s : State} {m : MethodId} {args : Array Value} {below : List Frame} {meth : Method} {c : Code} {G : GG}
/-! X7_copy -/
theorem flX7_copy_12 : Cond.fieldLink RX7 12 "NamedMoves" "store" "LNamedMoves$Store;" ∈ wsX7_copy := by decide +kernel
theorem inX7_copy_X5 : ∀ w ∈ u_ws RX5 TX5 10, w ∈ wsX7_copy := by decide +kernel
theorem inX7_copy_X7 : ∀ w ∈ u_ws RX7 TX7 6, w ∈ wsX7_copy := by decide +kernel
set_option maxHeartbeats 4000000 in
set_option maxRecDepth 100000 in
theorem c_X7_copy (l : Launch) {G : GG} {x1 : Int} (hx1 : InR x1) {x2 : Int} (hx2 : InR x2) {w : Wd} {r : Int} {w' : Wd} (hf : X7_copy x1 x2 w = some (r, w')) : Met l yX7_copy wsX7_copy (rmk 2) (PcG G w [.ref (G.1 10 0), iV x1, iV x2]) (QiG G r w') 0 0 (GA G) := by
  refine met_of (own := RX7) (by decide) rfl (Nat.le_of_ble_eq_true rfl) rfl ?_
  intro p e s m args below meth c M hr ls hl0 hS0
  have hl0 : lv_has ls 4 [(0, .ref (G.1 10 0)), (1, iV x1), (2, iV x2)] := hl0
  unfold X7_copy at hf
  refine x_aload_n M hl0 dX7_copy_0 0 rfl ?_
  refine x_get (c0 := 10) (t0 := 0) (v := .ref (G.1 0 0)) M hS0 (by decide) (ref := "NamedMoves") inX7_copy_X7 (sE_10 G _ _) rfl 0 (by decide) (M.2.2.2.2.1 _ flX7_copy_12) rfl rfl dX7_copy_1 ?_
  refine x_getN (host := "NamedMoves") (c0 := 0) (t0 := 0) (v := .ref (G.1 2 0)) M hS0 (by decide) (ref := "NamedMoves$Store") inX7_copy_X5 (sE_0 G _ _) rfl 1 (by decide) M.2.2.2.2.2.2.2.1 rfl rfl dX7_copy_4 ?_
  refine x_astore_n M hl0 dX7_copy_7 (by decide) [(3, .ref (G.1 2 0)), (0, .ref (G.1 10 0)), (1, iV x1), (2, iV x2)] rfl (fun ls hl1 => ?_)
  refine x_aload_n M hl1 dX7_copy_8 0 rfl ?_
  refine x_iload_n M hl1 dX7_copy_9 2 rfl ?_
  obtain ⟨r2, w3, hc4, hf⟩ := bdt hf
  refine x_callVi (c0 := 2) (t0 := 0) (As := [iV x1]) (rest := []) M hl1 hS0 (c_X0_isAt l (by decide) hx1 hc4) (cwV 1 M.2.2.2.2.1 gX7_copy_X0_isAt rfl rfl rfl (by decide +kernel) ⟨Nat.le_of_ble_eq_true rfl, Nat.le_of_ble_eq_true rfl⟩) (by decide) (sE_2 G _ _) rfl rfl (Nat.le_of_ble_eq_true rfl) dX7_copy_10 rfl ⟨Nat.zero_le _, Nat.zero_le _⟩ (fun H locs hi5 hS6 => ?_)
  refine x_if_ne (tgt := 18) M hi5 dX7_copy_13 (by decide) (fun hc => ?_) (fun hc => ?_)
  · have hf := iff_ hf hc
    refine x_iload_n M hl1 dX7_copy_18 3 rfl ?_
    by_cases hq0 : x2 = 0
    · have hf := ift hf hq0
      refine x_table (tgt := 56) M hx2 dX7_copy_19 (by decide) (by rw [hq0]; decide) ?_
      refine x_aload_n M hl1 dX7_copy_56 0 rfl ?_
      refine x_iload_n M hl1 dX7_copy_57 2 rfl ?_
      obtain ⟨r7, w8, hc9, hf⟩ := bdt hf
      refine x_callVi (c0 := 2) (t0 := 0) (As := [iV x1]) (rest := []) M hl1 hS6 (c_X0_thingAt l (by decide) hx1 hc9) (cwV 1 M.2.2.2.2.1 gX7_copy_X0_thingAt rfl rfl rfl (by decide +kernel) ⟨Nat.le_of_ble_eq_true rfl, Nat.le_of_ble_eq_true rfl⟩) (by decide) (sE_2 G _ _) rfl rfl (Nat.le_of_ble_eq_true rfl) dX7_copy_58 rfl ⟨Nat.zero_le _, Nat.zero_le _⟩ (fun H locs hi10 hS11 => ?_)
      exact x_iret M hr hf hS11 hi10 dX7_copy_61
    have hf := iff_ hf hq0
    by_cases hq1 : x2 = 1
    · have hf := ift hf hq1
      refine x_table (tgt := 62) M hx2 dX7_copy_19 (by decide) (by rw [hq1]; decide) ?_
      refine x_aload_n M hl1 dX7_copy_62 0 rfl ?_
      refine x_iload_n M hl1 dX7_copy_63 2 rfl ?_
      obtain ⟨r12, w13, hc14, hf⟩ := bdt hf
      refine x_callVi (c0 := 2) (t0 := 0) (As := [iV x1]) (rest := []) M hl1 hS6 (c_X0_sizeAt l (by decide) hx1 hc14) (cwV 1 M.2.2.2.2.1 gX7_copy_X0_sizeAt rfl rfl rfl (by decide +kernel) ⟨Nat.le_of_ble_eq_true rfl, Nat.le_of_ble_eq_true rfl⟩) (by decide) (sE_2 G _ _) rfl rfl (Nat.le_of_ble_eq_true rfl) dX7_copy_64 rfl ⟨Nat.zero_le _, Nat.zero_le _⟩ (fun H locs hi15 hS16 => ?_)
      exact x_iret M hr hf hS16 hi15 dX7_copy_67
    have hf := iff_ hf hq1
    by_cases hq2 : x2 = 2
    · have hf := ift hf hq2
      refine x_table (tgt := 68) M hx2 dX7_copy_19 (by decide) (by rw [hq2]; decide) ?_
      refine x_aload_n M hl1 dX7_copy_68 0 rfl ?_
      refine x_iload_n M hl1 dX7_copy_69 2 rfl ?_
      obtain ⟨r17, w18, hc19, hf⟩ := bdt hf
      refine x_callVi (c0 := 2) (t0 := 0) (As := [iV x1]) (rest := []) M hl1 hS6 (c_X0_noteAt l (by decide) hx1 hc19) (cwV 1 M.2.2.2.2.1 gX7_copy_X0_noteAt rfl rfl rfl (by decide +kernel) ⟨Nat.le_of_ble_eq_true rfl, Nat.le_of_ble_eq_true rfl⟩) (by decide) (sE_2 G _ _) rfl rfl (Nat.le_of_ble_eq_true rfl) dX7_copy_70 rfl ⟨Nat.zero_le _, Nat.zero_le _⟩ (fun H locs hi20 hS21 => ?_)
      obtain ⟨r22, w23, hc24, hf⟩ := bdt hf
      refine x_callSi (As := [iV r17]) (rest := []) M hl1 hS21 (c_X7_orNone l  hi20 hc24) (va_cwS 1 M.2.2.2.2.1 gX7_copy_X7_orNone rfl rfl rfl (by decide +kernel) ⟨Nat.le_of_ble_eq_true rfl, Nat.le_of_ble_eq_true rfl⟩) rfl (Nat.le_of_ble_eq_true rfl) dX7_copy_73 rfl ⟨Nat.zero_le _, Nat.zero_le _⟩ (fun H locs hi25 hS26 => ?_)
      exact x_iret M hr hf hS26 hi25 dX7_copy_76
    have hf := iff_ hf hq2
    by_cases hq3 : x2 = 3
    · have hf := ift hf hq3
      refine x_table (tgt := 77) M hx2 dX7_copy_19 (by decide) (by rw [hq3]; decide) ?_
      refine x_aload_n M hl1 dX7_copy_77 0 rfl ?_
      refine x_iload_n M hl1 dX7_copy_78 2 rfl ?_
      obtain ⟨r27, w28, hc29, hf⟩ := bdt hf
      refine x_callVi (c0 := 2) (t0 := 0) (As := [iV x1]) (rest := []) M hl1 hS6 (c_X0_isMarked l (by decide) hx1 hc29) (cwV 1 M.2.2.2.2.1 gX7_copy_X0_isMarked rfl rfl rfl (by decide +kernel) ⟨Nat.le_of_ble_eq_true rfl, Nat.le_of_ble_eq_true rfl⟩) (by decide) (sE_2 G _ _) rfl rfl (Nat.le_of_ble_eq_true rfl) dX7_copy_79 rfl ⟨Nat.zero_le _, Nat.zero_le _⟩ (fun H locs hi30 hS31 => ?_)
      refine x_if_eq (tgt := 89) M hi30 dX7_copy_82 (by decide) (fun hc => ?_) (fun hc => ?_)
      · have hf := ift hf hc
        refine x_iconst M dX7_copy_89 ?_
        exact x_iret M hr hf hS31 ⟨by decide, by decide⟩ dX7_copy_90
      · have hf := iff_ hf hc
        refine x_iconst M dX7_copy_85 ?_
        refine x_goto (tgt := 90) M dX7_copy_86 (by decide) ?_
        exact x_iret M hr hf hS31 ⟨by decide, by decide⟩ dX7_copy_90
    have hf := iff_ hf hq3
    by_cases hq4 : x2 = 4
    · have hf := ift hf hq4
      refine x_table (tgt := 91) M hx2 dX7_copy_19 (by decide) (by rw [hq4]; decide) ?_
      refine x_aload_n M hl1 dX7_copy_91 0 rfl ?_
      refine x_iload_n M hl1 dX7_copy_92 2 rfl ?_
      refine x_iconst M dX7_copy_93 ?_
      obtain ⟨r32, w33, hc34, hf⟩ := bdt hf
      refine x_callVi (c0 := 2) (t0 := 0) (As := [iV x1, iV 0]) (rest := []) M hl1 hS6 (c_X0_nameAt l (by decide) hx1 ⟨by decide, by decide⟩ hc34) (cwV 2 M.2.2.2.2.1 gX7_copy_X0_nameAt rfl rfl rfl (by decide +kernel) ⟨Nat.le_of_ble_eq_true rfl, Nat.le_of_ble_eq_true rfl⟩) (by decide) (sE_2 G _ _) rfl rfl (Nat.le_of_ble_eq_true rfl) dX7_copy_94 rfl ⟨Nat.zero_le _, Nat.zero_le _⟩ (fun H locs hi35 hS36 => ?_)
      obtain ⟨r37, w38, hc39, hf⟩ := bdt hf
      refine x_callSi (As := [iV r32]) (rest := []) M hl1 hS36 (c_X7_orNone l  hi35 hc39) (va_cwS 1 M.2.2.2.2.1 gX7_copy_X7_orNone rfl rfl rfl (by decide +kernel) ⟨Nat.le_of_ble_eq_true rfl, Nat.le_of_ble_eq_true rfl⟩) rfl (Nat.le_of_ble_eq_true rfl) dX7_copy_97 rfl ⟨Nat.zero_le _, Nat.zero_le _⟩ (fun H locs hi40 hS41 => ?_)
      exact x_iret M hr hf hS41 hi40 dX7_copy_100
    have hf := iff_ hf hq4
    by_cases hq5 : x2 = 5
    · have hf := ift hf hq5
      refine x_table (tgt := 101) M hx2 dX7_copy_19 (by decide) (by rw [hq5]; decide) ?_
      refine x_aload_n M hl1 dX7_copy_101 0 rfl ?_
      refine x_iload_n M hl1 dX7_copy_102 2 rfl ?_
      refine x_iconst M dX7_copy_103 ?_
      obtain ⟨r42, w43, hc44, hf⟩ := bdt hf
      refine x_callVi (c0 := 2) (t0 := 0) (As := [iV x1, iV 1]) (rest := []) M hl1 hS6 (c_X0_nameAt l (by decide) hx1 ⟨by decide, by decide⟩ hc44) (cwV 2 M.2.2.2.2.1 gX7_copy_X0_nameAt rfl rfl rfl (by decide +kernel) ⟨Nat.le_of_ble_eq_true rfl, Nat.le_of_ble_eq_true rfl⟩) (by decide) (sE_2 G _ _) rfl rfl (Nat.le_of_ble_eq_true rfl) dX7_copy_104 rfl ⟨Nat.zero_le _, Nat.zero_le _⟩ (fun H locs hi45 hS46 => ?_)
      obtain ⟨r47, w48, hc49, hf⟩ := bdt hf
      refine x_callSi (As := [iV r42]) (rest := []) M hl1 hS46 (c_X7_orNone l  hi45 hc49) (va_cwS 1 M.2.2.2.2.1 gX7_copy_X7_orNone rfl rfl rfl (by decide +kernel) ⟨Nat.le_of_ble_eq_true rfl, Nat.le_of_ble_eq_true rfl⟩) rfl (Nat.le_of_ble_eq_true rfl) dX7_copy_107 rfl ⟨Nat.zero_le _, Nat.zero_le _⟩ (fun H locs hi50 hS51 => ?_)
      exact x_iret M hr hf hS51 hi50 dX7_copy_110
    have hf := iff_ hf hq5
    have hz : x2 < 0 ∨ 5 < x2 := by omega
    refine x_table (tgt := 111) M hx2 dX7_copy_19 (by decide) (by rcases hz with hz | hz <;> first | (rw [hz]; decide) | (unfold tsel; rw [if_pos (by omega)]; decide)) ?_
    refine x_iconst M dX7_copy_111 ?_
    exact x_iret M hr hf hS6 ⟨by decide, by decide⟩ dX7_copy_112
  · have hf := ift hf (Decidable.of_not_not hc)
    refine x_iconst M dX7_copy_16 ?_
    exact x_iret M hr hf hS6 ⟨by decide, by decide⟩ dX7_copy_17

/-! X7_where -/
theorem flX7_where_12 : Cond.fieldLink RX7 12 "NamedMoves" "store" "LNamedMoves$Store;" ∈ wsX7_where := by decide +kernel
theorem inX7_where_X5 : ∀ w ∈ u_ws RX5 TX5 10, w ∈ wsX7_where := by decide +kernel
theorem inX7_where_X7 : ∀ w ∈ u_ws RX7 TX7 6, w ∈ wsX7_where := by decide +kernel
set_option maxHeartbeats 4000000 in
set_option maxRecDepth 100000 in
theorem c_X7_where (l : Launch) {G : GG} {x1 : Int} (hx1 : InR x1) {x2 : Int} (hx2 : InR x2) {w : Wd} {r : Int} {w' : Wd} (hf : X7_where x1 x2 w = some (r, w')) : Met l yX7_where wsX7_where (rmk 3) (PcG G w [.ref (G.1 10 0), iV x1, iV x2]) (QiG G r w') 0 0 (GA G) := by
  refine met_of (own := RX7) (by decide) rfl (Nat.le_of_ble_eq_true rfl) rfl ?_
  intro p e s m args below meth c M hr ls hl0 hS0
  have hl0 : lv_has ls 3 [(0, .ref (G.1 10 0)), (1, iV x1), (2, iV x2)] := hl0
  unfold X7_where at hf
  refine x_aload_n M hl0 dX7_where_0 0 rfl ?_
  refine x_get (c0 := 10) (t0 := 0) (v := .ref (G.1 0 0)) M hS0 (by decide) (ref := "NamedMoves") inX7_where_X7 (sE_10 G _ _) rfl 0 (by decide) (M.2.2.2.2.1 _ flX7_where_12) rfl rfl dX7_where_1 ?_
  refine x_iload_n M hl0 dX7_where_4 1 rfl ?_
  obtain ⟨r1, w2, hc3, hf⟩ := bdt hf
  refine x_callVi (c0 := 0) (t0 := 0) (As := [iV x1]) (rest := []) M hl0 hS0 (c_X5_isThing l (by decide) hx1 hc3) (cwV 1 M.2.2.2.2.1 gX7_where_X5_isThing rfl rfl rfl (by decide +kernel) ⟨Nat.le_of_ble_eq_true rfl, Nat.le_of_ble_eq_true rfl⟩) (by decide) (sE_0 G _ _) rfl rfl (Nat.le_of_ble_eq_true rfl) dX7_where_5 rfl ⟨Nat.zero_le _, Nat.zero_le _⟩ (fun H locs hi4 hS5 => ?_)
  refine x_if_eq (tgt := 15) M hi4 dX7_where_8 (by decide) (fun hc => ?_) (fun hc => ?_)
  · have hf := ift hf hc
    refine x_iconst M dX7_where_15 ?_
    exact x_iret M hr hf hS5 ⟨by decide, by decide⟩ dX7_where_16
  · have hf := iff_ hf hc
    refine x_iload_n M hl0 dX7_where_11 2 rfl ?_
    refine x_if_ge (tgt := 17) M hx2 dX7_where_12 (by decide) (fun hc => ?_) (fun hc => ?_)
    · have hf := iff_ hf (Int.not_lt.mpr hc)
      refine x_aload_n M hl0 dX7_where_17 0 rfl ?_
      refine x_get (c0 := 10) (t0 := 0) (v := .ref (G.1 0 0)) M hS5 (by decide) (ref := "NamedMoves") inX7_where_X7 (sE_10 G _ _) rfl 0 (by decide) (M.2.2.2.2.1 _ flX7_where_12) rfl rfl dX7_where_18 ?_
      refine x_getN (host := "NamedMoves") (c0 := 0) (t0 := 0) (v := .ref (G.1 2 0)) M hS5 (by decide) (ref := "NamedMoves$Store") inX7_where_X5 (sE_0 G _ _) rfl 1 (by decide) M.2.2.2.2.2.2.2.1 rfl rfl dX7_where_21 ?_
      refine x_iload_n M hl0 dX7_where_24 1 rfl ?_
      refine x_iload_n M hl0 dX7_where_25 2 rfl ?_
      obtain ⟨r6, w7, hc8, hf⟩ := bdt hf
      refine x_callVi (c0 := 2) (t0 := 0) (As := [iV x1, iV x2]) (rest := []) M hl0 hS5 (c_X0_addressOf l (by decide) hx1 hx2 hc8) (cwV 2 M.2.2.2.2.1 gX7_where_X0_addressOf rfl rfl rfl (by decide +kernel) ⟨Nat.le_of_ble_eq_true rfl, Nat.le_of_ble_eq_true rfl⟩) (by decide) (sE_2 G _ _) rfl rfl (Nat.le_of_ble_eq_true rfl) dX7_where_26 rfl ⟨Nat.zero_le _, Nat.zero_le _⟩ (fun H locs hi9 hS10 => ?_)
      obtain ⟨r11, w12, hc13, hf⟩ := bdt hf
      refine x_callSi (As := [iV r6]) (rest := []) M hl0 hS10 (c_X7_orNone l  hi9 hc13) (va_cwS 1 M.2.2.2.2.1 gX7_where_X7_orNone rfl rfl rfl (by decide +kernel) ⟨Nat.le_of_ble_eq_true rfl, Nat.le_of_ble_eq_true rfl⟩) rfl (Nat.le_of_ble_eq_true rfl) dX7_where_29 rfl ⟨Nat.zero_le _, Nat.zero_le _⟩ (fun H locs hi14 hS15 => ?_)
      exact x_iret M hr hf hS15 hi14 dX7_where_32
    · have hf := ift hf (Int.not_le.mp hc)
      refine x_iconst M dX7_where_15 ?_
      exact x_iret M hr hf hS5 ⟨by decide, by decide⟩ dX7_where_16

end
