section
variable {p : Program} {l : Launch} {e : Env} {s : State} {m : MethodId} {args : Array Value} {below : List Frame} {meth : Method} {c : Code} {G : GG}
/-! X8_count -/
theorem flX8_count_134 : Cond.fieldLink RX8 134 "NamedMovesModel" "typed" "I" ∈ wsX8_count := by decide +kernel
theorem flX8_count_36 : Cond.fieldLink RX8 36 "NamedMovesModel" "pasts" "I" ∈ wsX8_count := by decide +kernel
theorem flX8_count_7 : Cond.fieldLink RX8 7 "NamedMovesModel" "s" "[I" ∈ wsX8_count := by decide +kernel
theorem inX8_count_X8 : ∀ w ∈ u_ws RX8 TX8 12, w ∈ wsX8_count := by decide +kernel
set_option maxHeartbeats 4000000 in
set_option maxRecDepth 100000 in
theorem c_X8_count (l : Launch) {G : GG} {x1 : Int} (hx1 : InR x1) {w : Wd} {r : Int} {w' : Wd} (hf : X8_count x1 w = some (r, w')) : Met l yX8_count wsX8_count (rmk 4) (PcG G w [.ref (G.1 21 0), iV x1]) (QiG G r w') 0 0 (GA G) := by
  refine met_of (own := RX8) (by decide) rfl (Nat.le_of_ble_eq_true rfl) rfl ?_
  intro p e s m args below meth c M hr ls hl0 hS0
  have hl0 : lv_has ls 2 [(0, .ref (G.1 21 0)), (1, iV x1)] := hl0
  unfold X8_count at hf
  refine x_iload_n M hl0 dX8_count_0 1 rfl ?_
  by_cases hq0 : x1 = 0
  · have hf := ift hf hq0
    refine x_table (tgt := 72) M hx1 dX8_count_1 (by decide) (by rw [hq0]; decide) ?_
    refine x_aload_n M hl0 dX8_count_72 0 rfl ?_
    refine x_get (c0 := 21) (t0 := 0) (v := .ref (G.1 22 0)) M hS0 (by decide) (ref := "NamedMovesModel") inX8_count_X8 (sE_21 G _ _) rfl 0 (by decide) (M.2.2.2.2.1 _ flX8_count_7) rfl rfl dX8_count_73 ?_
    refine x_iconst M dX8_count_76 ?_
    refine x_iald (c0 := 22) (t0 := 0) M hS0 (by decide) (hs_22 G _) rfl ⟨by decide, by decide⟩ (by decide) dX8_count_77 ?_
    exact x_iret M hr hf hS0 (hS0.inr _ _ _) dX8_count_78
  have hf := iff_ hf hq0
  by_cases hq1 : x1 = 1
  · have hf := ift hf hq1
    refine x_table (tgt := 79) M hx1 dX8_count_1 (by decide) (by rw [hq1]; decide) ?_
    refine x_aload_n M hl0 dX8_count_79 0 rfl ?_
    obtain ⟨r1, w2, hc3, hf⟩ := bdt hf
    refine x_callVi (c0 := 21) (t0 := 0) (As := []) (rest := []) M hl0 hS0 (c_X8_allCopies l   hc3) (cwV 0 M.2.2.2.2.1 gX8_count_X8_allCopies rfl rfl rfl (by decide +kernel) ⟨Nat.le_of_ble_eq_true rfl, Nat.le_of_ble_eq_true rfl⟩) (by decide) (sE_21 G _ _) rfl rfl (Nat.le_of_ble_eq_true rfl) dX8_count_80 rfl ⟨Nat.zero_le _, Nat.zero_le _⟩ (fun H locs hi4 hS5 => ?_)
    exact x_iret M hr hf hS5 hi4 dX8_count_83
  have hf := iff_ hf hq1
  by_cases hq2 : x1 = 2
  · have hf := ift hf hq2
    refine x_table (tgt := 84) M hx1 dX8_count_1 (by decide) (by rw [hq2]; decide) ?_
    refine x_aload_n M hl0 dX8_count_84 0 rfl ?_
    refine x_get (c0 := 21) (t0 := 0) (v := .ref (G.1 22 0)) M hS0 (by decide) (ref := "NamedMovesModel") inX8_count_X8 (sE_21 G _ _) rfl 0 (by decide) (M.2.2.2.2.1 _ flX8_count_7) rfl rfl dX8_count_85 ?_
    refine x_iconst M dX8_count_88 ?_
    refine x_iald (c0 := 22) (t0 := 0) M hS0 (by decide) (hs_22 G _) rfl ⟨by decide, by decide⟩ (by decide) dX8_count_89 ?_
    exact x_iret M hr hf hS0 (hS0.inr _ _ _) dX8_count_90
  have hf := iff_ hf hq2
  by_cases hq3 : x1 = 3
  · have hf := ift hf hq3
    refine x_table (tgt := 91) M hx1 dX8_count_1 (by decide) (by rw [hq3]; decide) ?_
    refine x_aload_n M hl0 dX8_count_91 0 rfl ?_
    refine x_get (c0 := 21) (t0 := 0) (v := .ref (G.1 22 0)) M hS0 (by decide) (ref := "NamedMovesModel") inX8_count_X8 (sE_21 G _ _) rfl 0 (by decide) (M.2.2.2.2.1 _ flX8_count_7) rfl rfl dX8_count_92 ?_
    refine x_iconst M dX8_count_95 ?_
    refine x_iald (c0 := 22) (t0 := 0) M hS0 (by decide) (hs_22 G _) rfl ⟨by decide, by decide⟩ (by decide) dX8_count_96 ?_
    exact x_iret M hr hf hS0 (hS0.inr _ _ _) dX8_count_97
  have hf := iff_ hf hq3
  by_cases hq4 : x1 = 4
  · have hf := ift hf hq4
    refine x_table (tgt := 98) M hx1 dX8_count_1 (by decide) (by rw [hq4]; decide) ?_
    refine x_aload_n M hl0 dX8_count_98 0 rfl ?_
    refine x_aload_n M hl0 dX8_count_99 0 rfl ?_
    refine x_get (c0 := 21) (t0 := 0) (v := .ref (G.1 22 0)) M hS0 (by decide) (ref := "NamedMovesModel") inX8_count_X8 (sE_21 G _ _) rfl 0 (by decide) (M.2.2.2.2.1 _ flX8_count_7) rfl rfl dX8_count_100 ?_
    refine x_iconst M dX8_count_103 ?_
    refine x_iald (c0 := 22) (t0 := 0) M hS0 (by decide) (hs_22 G _) rfl ⟨by decide, by decide⟩ (by decide) dX8_count_104 ?_
    obtain ⟨r6, w7, hc8, hf⟩ := bdt hf
    refine x_callVi (c0 := 21) (t0 := 0) (As := [iV (w 22 0 3)]) (rest := []) M hl0 hS0 (c_X8_free l  (hS0.inr _ _ _) hc8) (cwV 1 M.2.2.2.2.1 gX8_count_X8_free rfl rfl rfl (by decide +kernel) ⟨Nat.le_of_ble_eq_true rfl, Nat.le_of_ble_eq_true rfl⟩) (by decide) (sE_21 G _ _) rfl rfl (Nat.le_of_ble_eq_true rfl) dX8_count_105 rfl ⟨Nat.zero_le _, Nat.zero_le _⟩ (fun H locs hi9 hS10 => ?_)
    exact x_iret M hr hf hS10 hi9 dX8_count_108
  have hf := iff_ hf hq4
  by_cases hq5 : x1 = 5
  · have hf := ift hf hq5
    refine x_table (tgt := 109) M hx1 dX8_count_1 (by decide) (by rw [hq5]; decide) ?_
    refine x_aload_n M hl0 dX8_count_109 0 rfl ?_
    obtain ⟨r11, w12, hc13, hf⟩ := bdt hf
    refine x_callVi (c0 := 21) (t0 := 0) (As := []) (rest := []) M hl0 hS0 (c_X8_freeFloor l   hc13) (cwV 0 M.2.2.2.2.1 gX8_count_X8_freeFloor rfl rfl rfl (by decide +kernel) ⟨Nat.le_of_ble_eq_true rfl, Nat.le_of_ble_eq_true rfl⟩) (by decide) (sE_21 G _ _) rfl rfl (Nat.le_of_ble_eq_true rfl) dX8_count_110 rfl ⟨Nat.zero_le _, Nat.zero_le _⟩ (fun H locs hi14 hS15 => ?_)
    exact x_iret M hr hf hS15 hi14 dX8_count_113
  have hf := iff_ hf hq5
  by_cases hq6 : x1 = 6
  · have hf := ift hf hq6
    refine x_table (tgt := 114) M hx1 dX8_count_1 (by decide) (by rw [hq6]; decide) ?_
    refine x_aload_n M hl0 dX8_count_114 0 rfl ?_
    refine x_get (c0 := 21) (t0 := 0) (v := .ref (G.1 22 0)) M hS0 (by decide) (ref := "NamedMovesModel") inX8_count_X8 (sE_21 G _ _) rfl 0 (by decide) (M.2.2.2.2.1 _ flX8_count_7) rfl rfl dX8_count_115 ?_
    refine x_bipush M dX8_count_118 rfl ?_
    refine x_iald (c0 := 22) (t0 := 0) M hS0 (by decide) (hs_22 G _) rfl ⟨by decide, by decide⟩ (by decide) dX8_count_120 ?_
    exact x_iret M hr hf hS0 (hS0.inr _ _ _) dX8_count_121
  have hf := iff_ hf hq6
  by_cases hq7 : x1 = 7
  · have hf := ift hf hq7
    refine x_table (tgt := 122) M hx1 dX8_count_1 (by decide) (by rw [hq7]; decide) ?_
    refine x_aload_n M hl0 dX8_count_122 0 rfl ?_
    obtain ⟨r16, w17, hc18, hf⟩ := bdt hf
    refine x_callVi (c0 := 21) (t0 := 0) (As := []) (rest := []) M hl0 hS0 (c_X8_kept l   hc18) (cwV 0 M.2.2.2.2.1 gX8_count_X8_kept rfl rfl rfl (by decide +kernel) ⟨Nat.le_of_ble_eq_true rfl, Nat.le_of_ble_eq_true rfl⟩) (by decide) (sE_21 G _ _) rfl rfl (Nat.le_of_ble_eq_true rfl) dX8_count_123 rfl ⟨Nat.zero_le _, Nat.zero_le _⟩ (fun H locs hi19 hS20 => ?_)
    exact x_iret M hr hf hS20 hi19 dX8_count_126
  have hf := iff_ hf hq7
  by_cases hq8 : x1 = 8
  · have hf := ift hf hq8
    refine x_table (tgt := 127) M hx1 dX8_count_1 (by decide) (by rw [hq8]; decide) ?_
    refine x_aload_n M hl0 dX8_count_127 0 rfl ?_
    refine x_get (c0 := 21) (t0 := 0) (v := .ref (G.1 22 0)) M hS0 (by decide) (ref := "NamedMovesModel") inX8_count_X8 (sE_21 G _ _) rfl 0 (by decide) (M.2.2.2.2.1 _ flX8_count_7) rfl rfl dX8_count_128 ?_
    refine x_bipush M dX8_count_131 rfl ?_
    refine x_iald (c0 := 22) (t0 := 0) M hS0 (by decide) (hs_22 G _) rfl ⟨by decide, by decide⟩ (by decide) dX8_count_133 ?_
    exact x_iret M hr hf hS0 (hS0.inr _ _ _) dX8_count_134
  have hf := iff_ hf hq8
  by_cases hq9 : x1 = 9
  · have hf := ift hf hq9
    refine x_table (tgt := 135) M hx1 dX8_count_1 (by decide) (by rw [hq9]; decide) ?_
    refine x_aload_n M hl0 dX8_count_135 0 rfl ?_
    refine x_get (c0 := 21) (t0 := 0) (v := .ref (G.1 22 0)) M hS0 (by decide) (ref := "NamedMovesModel") inX8_count_X8 (sE_21 G _ _) rfl 0 (by decide) (M.2.2.2.2.1 _ flX8_count_7) rfl rfl dX8_count_136 ?_
    refine x_bipush M dX8_count_139 rfl ?_
    refine x_iald (c0 := 22) (t0 := 0) M hS0 (by decide) (hs_22 G _) rfl ⟨by decide, by decide⟩ (by decide) dX8_count_141 ?_
    exact x_iret M hr hf hS0 (hS0.inr _ _ _) dX8_count_142
  have hf := iff_ hf hq9
  by_cases hq10 : x1 = 10
  · have hf := ift hf hq10
    refine x_table (tgt := 143) M hx1 dX8_count_1 (by decide) (by rw [hq10]; decide) ?_
    refine x_aload_n M hl0 dX8_count_143 0 rfl ?_
    obtain ⟨r21, w22, hc23, hf⟩ := bdt hf
    refine x_callVi (c0 := 21) (t0 := 0) (As := []) (rest := []) M hl0 hS0 (c_X8_twins l   hc23) (cwV 0 M.2.2.2.2.1 gX8_count_X8_twins rfl rfl rfl (by decide +kernel) ⟨Nat.le_of_ble_eq_true rfl, Nat.le_of_ble_eq_true rfl⟩) (by decide) (sE_21 G _ _) rfl rfl (Nat.le_of_ble_eq_true rfl) dX8_count_144 rfl ⟨Nat.zero_le _, Nat.zero_le _⟩ (fun H locs hi24 hS25 => ?_)
    exact x_iret M hr hf hS25 hi24 dX8_count_147
  have hf := iff_ hf hq10
  by_cases hq11 : x1 = 11
  · have hf := ift hf hq11
    refine x_table (tgt := 148) M hx1 dX8_count_1 (by decide) (by rw [hq11]; decide) ?_
    refine x_aload_n M hl0 dX8_count_148 0 rfl ?_
    refine x_get (c0 := 21) (t0 := 0) (v := .ref (G.1 22 0)) M hS0 (by decide) (ref := "NamedMovesModel") inX8_count_X8 (sE_21 G _ _) rfl 0 (by decide) (M.2.2.2.2.1 _ flX8_count_7) rfl rfl dX8_count_149 ?_
    refine x_iconst M dX8_count_152 ?_
    refine x_iald (c0 := 22) (t0 := 0) M hS0 (by decide) (hs_22 G _) rfl ⟨by decide, by decide⟩ (by decide) dX8_count_153 ?_
    exact x_iret M hr hf hS0 (hS0.inr _ _ _) dX8_count_154
  have hf := iff_ hf hq11
  by_cases hq12 : x1 = 12
  · have hf := ift hf hq12
    refine x_table (tgt := 155) M hx1 dX8_count_1 (by decide) (by rw [hq12]; decide) ?_
    refine x_aload_n M hl0 dX8_count_155 0 rfl ?_
    refine x_get (c0 := 21) (t0 := 0) (v := iV (w 21 0 0)) M hS0 (by decide) (ref := "NamedMovesModel") inX8_count_X8 (sE_21 G _ _) rfl 3 (by decide) (M.2.2.2.2.1 _ flX8_count_36) rfl rfl dX8_count_156 ?_
    exact x_iret M hr hf hS0 (hS0.inr _ _ _) dX8_count_159
  have hf := iff_ hf hq12
  by_cases hq13 : x1 = 13
  · have hf := ift hf hq13
    refine x_table (tgt := 160) M hx1 dX8_count_1 (by decide) (by rw [hq13]; decide) ?_
    refine x_aload_n M hl0 dX8_count_160 0 rfl ?_
    refine x_get (c0 := 21) (t0 := 0) (v := iV (w 21 0 2)) M hS0 (by decide) (ref := "NamedMovesModel") inX8_count_X8 (sE_21 G _ _) rfl 6 (by decide) (M.2.2.2.2.1 _ flX8_count_134) rfl rfl dX8_count_161 ?_
    exact x_iret M hr hf hS0 (hS0.inr _ _ _) dX8_count_164
  have hf := iff_ hf hq13
  have hz : x1 < 0 ∨ 13 < x1 := by omega
  refine x_table (tgt := 165) M hx1 dX8_count_1 (by decide) (by rcases hz with hz | hz <;> first | (rw [hz]; decide) | (unfold tsel; rw [if_pos (by omega)]; decide)) ?_
  refine x_iconst M dX8_count_165 ?_
  exact x_iret M hr hf hS0 ⟨by decide, by decide⟩ dX8_count_166

/-! X8_hook -/
theorem flX8_hook_7 : Cond.fieldLink RX8 7 "NamedMovesModel" "s" "[I" ∈ wsX8_hook := by decide +kernel
theorem inX8_hook_X8 : ∀ w ∈ u_ws RX8 TX8 12, w ∈ wsX8_hook := by decide +kernel
set_option maxHeartbeats 4000000 in
set_option maxRecDepth 100000 in
theorem c_X8_hook (l : Launch) {G : GG} {x1 : Int} (hx1 : InR x1) {w : Wd} {r : Int} {w' : Wd} (hf : X8_hook x1 w = some (r, w')) : Met l yX8_hook wsX8_hook (rmk 2) (PcG G w [.ref (G.1 21 0), iV x1]) (QiG G r w') 0 0 (GA G) := by
  refine met_of (own := RX8) (by decide) rfl (Nat.le_of_ble_eq_true rfl) rfl ?_
  intro p e s m args below meth c M hr ls hl0 hS0
  have hl0 : lv_has ls 2 [(0, .ref (G.1 21 0)), (1, iV x1)] := hl0
  unfold X8_hook at hf
  refine x_iload_n M hl0 dX8_hook_0 1 rfl ?_
  obtain ⟨r1, w2, hc3, hf⟩ := bdt hf
  refine x_callSi (As := [iV x1]) (rest := []) M hl0 hS0 (c_X8_isHook l  hx1 hc3) (va_cwS 1 M.2.2.2.2.1 gX8_hook_X8_isHook rfl rfl rfl (by decide +kernel) ⟨Nat.le_of_ble_eq_true rfl, Nat.le_of_ble_eq_true rfl⟩) rfl (Nat.le_of_ble_eq_true rfl) dX8_hook_1 rfl ⟨Nat.zero_le _, Nat.zero_le _⟩ (fun H locs hi4 hS5 => ?_)
  refine x_if_eq (tgt := 19) M hi4 dX8_hook_4 (by decide) (fun hc => ?_) (fun hc => ?_)
  · have hf := ift hf hc
    refine x_iconst M dX8_hook_19 ?_
    exact x_iret M hr hf hS5 ⟨by decide, by decide⟩ dX8_hook_20
  · have hf := iff_ hf hc
    refine x_aload_n M hl0 dX8_hook_7 0 rfl ?_
    refine x_get (c0 := 21) (t0 := 0) (v := .ref (G.1 22 0)) M hS5 (by decide) (ref := "NamedMovesModel") inX8_hook_X8 (sE_21 G _ _) rfl 0 (by decide) (M.2.2.2.2.1 _ flX8_hook_7) rfl rfl dX8_hook_8 ?_
    refine x_bipush M dX8_hook_11 rfl ?_
    refine x_iload_n M hl0 dX8_hook_13 1 rfl ?_
    obtain ⟨g6, hf⟩ := gdt hf
    refine x_iadd M dX8_hook_14 ?_
    obtain ⟨g7, hf⟩ := gdt hf
    refine x_iald (c0 := 22) (t0 := 0) M hS5 (by decide) (hs_22 G _) rfl g7 (by decide) dX8_hook_15 ?_
    refine x_goto (tgt := 20) M dX8_hook_16 (by decide) ?_
    exact x_iret M hr hf hS5 (hS5.inr _ _ _) dX8_hook_20

/-! X8_copy -/
set_option maxHeartbeats 4000000 in
set_option maxRecDepth 100000 in
theorem c_X8_copy (l : Launch) {G : GG} {x1 : Int} (hx1 : InR x1) {x2 : Int} (hx2 : InR x2) {w : Wd} {r : Int} {w' : Wd} (hf : X8_copy x1 x2 w = some (r, w')) : Met l yX8_copy wsX8_copy (rmk 3) (PcG G w [.ref (G.1 21 0), iV x1, iV x2]) (QiG G r w') 0 0 (GA G) := by
  refine met_of (own := RX8) (by decide) rfl (Nat.le_of_ble_eq_true rfl) rfl ?_
  intro p e s m args below meth c M hr ls hl0 hS0
  have hl0 : lv_has ls 4 [(0, .ref (G.1 21 0)), (1, iV x1), (2, iV x2)] := hl0
  unfold X8_copy at hf
  refine x_iload_n M hl0 dX8_copy_0 1 rfl ?_
  obtain ⟨r1, w2, hc3, hf⟩ := bdt hf
  refine x_callSi (As := [iV x1]) (rest := []) M hl0 hS0 (c_X8_isAddress l  hx1 hc3) (va_cwS 1 M.2.2.2.2.1 gX8_copy_X8_isAddress rfl rfl rfl (by decide +kernel) ⟨Nat.le_of_ble_eq_true rfl, Nat.le_of_ble_eq_true rfl⟩) rfl (Nat.le_of_ble_eq_true rfl) dX8_copy_1 rfl ⟨Nat.zero_le _, Nat.zero_le _⟩ (fun H locs hi4 hS5 => ?_)
  refine x_if_eq (tgt := 27) M hi4 dX8_copy_4 (by decide) (fun hc => ?_) (fun hc => ?_)
  · have hf := ift hf hc
    refine x_iconst M dX8_copy_27 ?_
    exact x_iret M hr hf hS5 ⟨by decide, by decide⟩ dX8_copy_28
  · have hf := iff_ hf hc
    refine x_aload_n M hl0 dX8_copy_7 0 rfl ?_
    refine x_iload_n M hl0 dX8_copy_8 1 rfl ?_
    obtain ⟨r6, w7, hc8, hf⟩ := bdt hf
    refine x_callSi (As := [iV x1]) (rest := [.ref (G.1 21 0)]) M hl0 hS5 (c_X8_cell l  hx1 hc8) (va_cwS 1 M.2.2.2.2.1 gX8_copy_X8_cell rfl rfl rfl (by decide +kernel) ⟨Nat.le_of_ble_eq_true rfl, Nat.le_of_ble_eq_true rfl⟩) rfl (Nat.le_of_ble_eq_true rfl) dX8_copy_9 rfl ⟨Nat.zero_le _, Nat.zero_le _⟩ (fun H locs hi9 hS10 => ?_)
    obtain ⟨r11, w12, hc13, hf⟩ := bdt hf
    refine x_callVi (c0 := 21) (t0 := 0) (As := [iV r6]) (rest := []) M hl0 hS10 (c_X8_isCopy l  hi9 hc13) (cwV 1 M.2.2.2.2.1 gX8_copy_X8_isCopy rfl rfl rfl (by decide +kernel) ⟨Nat.le_of_ble_eq_true rfl, Nat.le_of_ble_eq_true rfl⟩) (by decide) (sE_21 G _ _) rfl rfl (Nat.le_of_ble_eq_true rfl) dX8_copy_12 rfl ⟨Nat.zero_le _, Nat.zero_le _⟩ (fun H locs hi14 hS15 => ?_)
    refine x_if_eq (tgt := 27) M hi14 dX8_copy_15 (by decide) (fun hc => ?_) (fun hc => ?_)
    · have hf := ift hf hc
      refine x_iconst M dX8_copy_27 ?_
      exact x_iret M hr hf hS15 ⟨by decide, by decide⟩ dX8_copy_28
    · have hf := iff_ hf hc
      refine x_iload_n M hl0 dX8_copy_18 2 rfl ?_
      refine x_iconst M dX8_copy_19 ?_
      refine x_iconst M dX8_copy_20 ?_
      obtain ⟨r16, w17, hc18, hf⟩ := bdt hf
      refine x_callSi (As := [iV x2, iV 0, iV 5]) (rest := []) M hl0 hS15 (c_X8_in l  hx2 ⟨by decide, by decide⟩ ⟨by decide, by decide⟩ hc18) (va_cwS 3 M.2.2.2.2.1 gX8_copy_X8_in rfl rfl rfl (by decide +kernel) ⟨Nat.le_of_ble_eq_true rfl, Nat.le_of_ble_eq_true rfl⟩) rfl (Nat.le_of_ble_eq_true rfl) dX8_copy_21 rfl ⟨Nat.zero_le _, Nat.zero_le _⟩ (fun H locs hi19 hS20 => ?_)
      refine x_if_ne (tgt := 29) M hi19 dX8_copy_24 (by decide) (fun hc => ?_) (fun hc => ?_)
      · have hf := iff_ hf hc
        refine x_iload_n M hl0 dX8_copy_29 1 rfl ?_
        obtain ⟨r21, w22, hc23, hf⟩ := bdt hf
        refine x_callSi (As := [iV x1]) (rest := []) M hl0 hS20 (c_X8_cell l  hx1 hc23) (va_cwS 1 M.2.2.2.2.1 gX8_copy_X8_cell rfl rfl rfl (by decide +kernel) ⟨Nat.le_of_ble_eq_true rfl, Nat.le_of_ble_eq_true rfl⟩) rfl (Nat.le_of_ble_eq_true rfl) dX8_copy_30 rfl ⟨Nat.zero_le _, Nat.zero_le _⟩ (fun H locs hi24 hS25 => ?_)
        refine x_istore_n M hl0 dX8_copy_33 (by decide) [(3, iV r21), (0, .ref (G.1 21 0)), (1, iV x1), (2, iV x2)] rfl (fun ls hl26 => ?_)
        refine x_iload_n M hl26 dX8_copy_34 3 rfl ?_
        by_cases hq0 : x2 = 0
        · have hf := ift hf hq0
          refine x_table (tgt := 64) M hx2 dX8_copy_35 (by decide) (by rw [hq0]; decide) ?_
          refine x_aload_n M hl26 dX8_copy_64 1 rfl ?_
          refine x_iload_n M hl26 dX8_copy_65 0 rfl ?_
          refine x_iconst M dX8_copy_66 ?_
          obtain ⟨r27, w28, hc29, hf⟩ := bdt hf
          refine x_callVi (c0 := 21) (t0 := 0) (As := [iV r21, iV 0]) (rest := []) M hl26 hS25 (c_X8_ofCopy l  hi24 ⟨by decide, by decide⟩ hc29) (cwV 2 M.2.2.2.2.1 gX8_copy_X8_ofCopy rfl rfl rfl (by decide +kernel) ⟨Nat.le_of_ble_eq_true rfl, Nat.le_of_ble_eq_true rfl⟩) (by decide) (sE_21 G _ _) rfl rfl (Nat.le_of_ble_eq_true rfl) dX8_copy_67 rfl ⟨Nat.zero_le _, Nat.zero_le _⟩ (fun H locs hi30 hS31 => ?_)
          refine x_iconst M dX8_copy_70 ?_
          obtain ⟨g32, hf⟩ := gdt hf
          refine x_isub M dX8_copy_71 ?_
          exact x_iret M hr hf hS31 g32 dX8_copy_72
        have hf := iff_ hf hq0
        by_cases hq1 : x2 = 1
        · have hf := ift hf hq1
          refine x_table (tgt := 73) M hx2 dX8_copy_35 (by decide) (by rw [hq1]; decide) ?_
          refine x_aload_n M hl26 dX8_copy_73 1 rfl ?_
          refine x_iload_n M hl26 dX8_copy_74 0 rfl ?_
          obtain ⟨r33, w34, hc35, hf⟩ := bdt hf
          refine x_callVi (c0 := 21) (t0 := 0) (As := [iV r21]) (rest := []) M hl26 hS25 (c_X8_sizeAt l  hi24 hc35) (cwV 1 M.2.2.2.2.1 gX8_copy_X8_sizeAt rfl rfl rfl (by decide +kernel) ⟨Nat.le_of_ble_eq_true rfl, Nat.le_of_ble_eq_true rfl⟩) (by decide) (sE_21 G _ _) rfl rfl (Nat.le_of_ble_eq_true rfl) dX8_copy_75 rfl ⟨Nat.zero_le _, Nat.zero_le _⟩ (fun H locs hi36 hS37 => ?_)
          exact x_iret M hr hf hS37 hi36 dX8_copy_78
        have hf := iff_ hf hq1
        by_cases hq2 : x2 = 2
        · have hf := ift hf hq2
          refine x_table (tgt := 79) M hx2 dX8_copy_35 (by decide) (by rw [hq2]; decide) ?_
          refine x_aload_n M hl26 dX8_copy_79 1 rfl ?_
          refine x_iload_n M hl26 dX8_copy_80 0 rfl ?_
          refine x_iconst M dX8_copy_81 ?_
          obtain ⟨r38, w39, hc40, hf⟩ := bdt hf
          refine x_callVi (c0 := 21) (t0 := 0) (As := [iV r21, iV 3]) (rest := []) M hl26 hS25 (c_X8_ofCopy l  hi24 ⟨by decide, by decide⟩ hc40) (cwV 2 M.2.2.2.2.1 gX8_copy_X8_ofCopy rfl rfl rfl (by decide +kernel) ⟨Nat.le_of_ble_eq_true rfl, Nat.le_of_ble_eq_true rfl⟩) (by decide) (sE_21 G _ _) rfl rfl (Nat.le_of_ble_eq_true rfl) dX8_copy_82 rfl ⟨Nat.zero_le _, Nat.zero_le _⟩ (fun H locs hi41 hS42 => ?_)
          exact x_iret M hr hf hS42 hi41 dX8_copy_85
        have hf := iff_ hf hq2
        by_cases hq3 : x2 = 3
        · have hf := ift hf hq3
          refine x_table (tgt := 86) M hx2 dX8_copy_35 (by decide) (by rw [hq3]; decide) ?_
          refine x_aload_n M hl26 dX8_copy_86 1 rfl ?_
          refine x_iload_n M hl26 dX8_copy_87 0 rfl ?_
          refine x_iconst M dX8_copy_88 ?_
          obtain ⟨r43, w44, hc45, hf⟩ := bdt hf
          refine x_callVi (c0 := 21) (t0 := 0) (As := [iV r21, iV 4]) (rest := []) M hl26 hS25 (c_X8_ofCopy l  hi24 ⟨by decide, by decide⟩ hc45) (cwV 2 M.2.2.2.2.1 gX8_copy_X8_ofCopy rfl rfl rfl (by decide +kernel) ⟨Nat.le_of_ble_eq_true rfl, Nat.le_of_ble_eq_true rfl⟩) (by decide) (sE_21 G _ _) rfl rfl (Nat.le_of_ble_eq_true rfl) dX8_copy_89 rfl ⟨Nat.zero_le _, Nat.zero_le _⟩ (fun H locs hi46 hS47 => ?_)
          exact x_iret M hr hf hS47 hi46 dX8_copy_92
        have hf := iff_ hf hq3
        have hz : x2 < 0 ∨ 3 < x2 := by omega
        refine x_table (tgt := 93) M hx2 dX8_copy_35 (by decide) (by rcases hz with hz | hz <;> first | (rw [hz]; decide) | (unfold tsel; rw [if_pos (by omega)]; decide)) ?_
        refine x_aload_n M hl26 dX8_copy_93 1 rfl ?_
        refine x_iload_n M hl26 dX8_copy_94 0 rfl ?_
        refine x_iconst M dX8_copy_95 ?_
        refine x_iload_n M hl26 dX8_copy_96 3 rfl ?_
        obtain ⟨g48, hf⟩ := gdt hf
        refine x_iadd M dX8_copy_97 ?_
        refine x_iconst M dX8_copy_98 ?_
        obtain ⟨g49, hf⟩ := gdt hf
        refine x_isub M dX8_copy_99 ?_
        obtain ⟨r50, w51, hc52, hf⟩ := bdt hf
        refine x_callVi (c0 := 21) (t0 := 0) (As := [iV r21, iV ((1 + x2) - 4)]) (rest := []) M hl26 hS25 (c_X8_ofCopy l  hi24 g49 hc52) (cwV 2 M.2.2.2.2.1 gX8_copy_X8_ofCopy rfl rfl rfl (by decide +kernel) ⟨Nat.le_of_ble_eq_true rfl, Nat.le_of_ble_eq_true rfl⟩) (by decide) (sE_21 G _ _) rfl rfl (Nat.le_of_ble_eq_true rfl) dX8_copy_100 rfl ⟨Nat.zero_le _, Nat.zero_le _⟩ (fun H locs hi53 hS54 => ?_)
        exact x_iret M hr hf hS54 hi53 dX8_copy_103
      · have hf := ift hf (Decidable.of_not_not hc)
        refine x_iconst M dX8_copy_27 ?_
        exact x_iret M hr hf hS20 ⟨by decide, by decide⟩ dX8_copy_28

/-! X8_where -/
set_option maxHeartbeats 4000000 in
set_option maxRecDepth 100000 in
theorem X8_where_b63_ok (M : MC p s m args meth c cX8_where 6 RX8 wsX8_where G) (hr : meth.sig.returnType = (some .int)) {K19 : Int → Int → Int → Int → Wd → Option (Int × Wd)} (hK19 : ∀ x1 : Int, ∀ x2 : Int, ∀ x3 : Int, ∀ x4 : Int, ∀ w : Wd, InR x1 → InR x2 → InR x3 → InR x4 → ∀ (H : Heap) (locs : List Loc), ST G s w H locs → ∀ ls : Array Slot, lv_has ls 6 [(0, .ref (G.1 21 0)), (1, iV x1), (2, iV x2), (3, iV x3), (4, iV x4)] → ∀ (r : Int) (w' : Wd), K19 x1 x2 x3 x4 w = some (r, w') → W p l e (rmk 1) s m args below meth c H locs 0 0 (MQ below (QiG G r w') args s 0 0 (GA G)) (F0 m 19 ls [])) : ∀ x1 : Int, ∀ x2 : Int, ∀ x3 : Int, ∀ x4 : Int, ∀ x5 : Int, ∀ w : Wd, InR x1 → InR x2 → InR x3 → InR x4 → InR x5 → ∀ (H : Heap) (locs : List Loc), ST G s w H locs → ∀ ls : Array Slot, lv_has ls 6 [(0, .ref (G.1 21 0)), (1, iV x1), (2, iV x2), (3, iV x3), (4, iV x4), (5, iV x5)] → ∀ (r : Int) (w' : Wd), X8_where_b63 K19 x1 x2 x3 x4 x5 w = some (r, w') → W p l e (rmk 1) s m args below meth c H locs 0 0 (MQ below (QiG G r w') args s 0 0 (GA G)) (F0 m 63 ls []) := by
  intro x1 x2 x3 x4 x5 w hx1 hx2 hx3 hx4 hx5 H locs hS0 ls hl0 r w' hf
  unfold X8_where_b63 at hf
  refine x_iload_n M hl0 dX8_where_63 3 rfl ?_
  refine x_iload M hl0 dX8_where_64 5 rfl ?_
  refine x_if_eq (tgt := 73) M hx5 dX8_where_66 (by decide) (fun hc => ?_) (fun hc => ?_)
  · have hf := ift hf hc
    refine x_iconst M dX8_where_73 ?_
    obtain ⟨g15, hf⟩ := gdt hf
    refine x_iadd M dX8_where_74 ?_
    refine x_istore_n M hl0 dX8_where_75 (by decide) [(3, iV (x3 + 0)), (0, .ref (G.1 21 0)), (1, iV x1), (2, iV x2), (4, iV x4), (5, iV x5)] rfl (fun ls hl16 => ?_)
    obtain ⟨g17, hf⟩ := gdt hf
    refine x_iinc M hl16 dX8_where_76 4 rfl (by decide) [(4, iV (x4 + 1)), (3, iV (x3 + 0)), (0, .ref (G.1 21 0)), (1, iV x1), (2, iV x2), (5, iV x5)] rfl (fun ls hl18 => ?_)
    refine x_goto (tgt := 19) M dX8_where_79 (by decide) ?_
    exact hK19 x1 x2 (x3 + 0) (x4 + 1) w hx1 hx2 g15 g17 _ _ hS0 _ (lv_sub hl18 [2, 3, 4, 1, 0] rfl) _ _ hf
  · have hf := iff_ hf hc
    refine x_iconst M dX8_where_69 ?_
    refine x_goto (tgt := 74) M dX8_where_70 (by decide) ?_
    obtain ⟨g19, hf⟩ := gdt hf
    refine x_iadd M dX8_where_74 ?_
    refine x_istore_n M hl0 dX8_where_75 (by decide) [(3, iV (x3 + 1)), (0, .ref (G.1 21 0)), (1, iV x1), (2, iV x2), (4, iV x4), (5, iV x5)] rfl (fun ls hl20 => ?_)
    obtain ⟨g21, hf⟩ := gdt hf
    refine x_iinc M hl20 dX8_where_76 4 rfl (by decide) [(4, iV (x4 + 1)), (3, iV (x3 + 1)), (0, .ref (G.1 21 0)), (1, iV x1), (2, iV x2), (5, iV x5)] rfl (fun ls hl22 => ?_)
    refine x_goto (tgt := 19) M dX8_where_79 (by decide) ?_
    exact hK19 x1 x2 (x3 + 1) (x4 + 1) w hx1 hx2 g19 g21 _ _ hS0 _ (lv_sub hl22 [2, 3, 4, 1, 0] rfl) _ _ hf

set_option maxHeartbeats 4000000 in
set_option maxRecDepth 100000 in
theorem X8_where_b45_ok (M : MC p s m args meth c cX8_where 6 RX8 wsX8_where G) (hr : meth.sig.returnType = (some .int)) {K19 : Int → Int → Int → Int → Wd → Option (Int × Wd)} (hK19 : ∀ x1 : Int, ∀ x2 : Int, ∀ x3 : Int, ∀ x4 : Int, ∀ w : Wd, InR x1 → InR x2 → InR x3 → InR x4 → ∀ (H : Heap) (locs : List Loc), ST G s w H locs → ∀ ls : Array Slot, lv_has ls 6 [(0, .ref (G.1 21 0)), (1, iV x1), (2, iV x2), (3, iV x3), (4, iV x4)] → ∀ (r : Int) (w' : Wd), K19 x1 x2 x3 x4 w = some (r, w') → W p l e (rmk 1) s m args below meth c H locs 0 0 (MQ below (QiG G r w') args s 0 0 (GA G)) (F0 m 19 ls [])) : ∀ x1 : Int, ∀ x2 : Int, ∀ x3 : Int, ∀ x4 : Int, ∀ s0 : Int, ∀ w : Wd, InR x1 → InR x2 → InR x3 → InR x4 → InR s0 → ∀ (H : Heap) (locs : List Loc), ST G s w H locs → ∀ ls : Array Slot, lv_has ls 6 [(0, .ref (G.1 21 0)), (1, iV x1), (2, iV x2), (3, iV x3), (4, iV x4)] → ∀ (r : Int) (w' : Wd), X8_where_b45 K19 x1 x2 x3 x4 s0 w = some (r, w') → W p l e (rmk 1) s m args below meth c H locs 0 0 (MQ below (QiG G r w') args s 0 0 (GA G)) (F0 m 45 ls [iV s0]) := by
  intro x1 x2 x3 x4 s0 w hx1 hx2 hx3 hx4 hs0 H locs hS0 ls hl0 r w' hf
  unfold X8_where_b45 at hf
  refine x_istore M hl0 dX8_where_45 (by decide) [(5, iV s0), (0, .ref (G.1 21 0)), (1, iV x1), (2, iV x2), (3, iV x3), (4, iV x4)] rfl (fun ls hl14 => ?_)
  refine x_iload M hl14 dX8_where_47 0 rfl ?_
  refine x_if_eq (tgt := 63) M hs0 dX8_where_49 (by decide) (fun hc => ?_) (fun hc => ?_)
  · have hf := ift hf hc
    exact X8_where_b63_ok M hr hK19 x1 x2 x3 x4 s0 w hx1 hx2 hx3 hx4 hs0 _ _ hS0 _ (lv_sub hl14 [1, 2, 3, 4, 5, 0] rfl) _ _ hf
  · have hf := iff_ hf hc
    refine x_iload_n M hl14 dX8_where_52 4 rfl ?_
    refine x_iload_n M hl14 dX8_where_53 3 rfl ?_
    refine x_icmp_ne (tgt := 63) M hx3 hx2 dX8_where_54 (by decide) (fun hc => ?_) (fun hc => ?_)
    · have hf := iff_ hf hc
      exact X8_where_b63_ok M hr hK19 x1 x2 x3 x4 s0 w hx1 hx2 hx3 hx4 hs0 _ _ hS0 _ (lv_sub hl14 [1, 2, 3, 4, 5, 0] rfl) _ _ hf
    · have hf := ift hf (Decidable.of_not_not hc)
      refine x_iload M hl14 dX8_where_57 5 rfl ?_
      obtain ⟨r23, w24, hc25, hf⟩ := bdt hf
      refine x_callSi (As := [iV x4]) (rest := []) M hl14 hS0 (c_X8_address l  hx4 hc25) (va_cwS 1 M.2.2.2.2.1 gX8_where_X8_address rfl rfl rfl (by decide +kernel) ⟨Nat.le_of_ble_eq_true rfl, Nat.le_of_ble_eq_true rfl⟩) rfl (Nat.le_of_ble_eq_true rfl) dX8_where_59 rfl ⟨Nat.zero_le _, Nat.zero_le _⟩ (fun H locs hi26 hS27 => ?_)
      exact x_iret M hr hf hS27 hi26 dX8_where_62

set_option maxHeartbeats 4000000 in
set_option maxRecDepth 100000 in
theorem X8_where_b19_ok (M : MC p s m args meth c cX8_where 6 RX8 wsX8_where G) (hr : meth.sig.returnType = (some .int)) : ∀ n : Nat, ∀ x1 : Int, ∀ x2 : Int, ∀ x3 : Int, ∀ x4 : Int, ∀ w : Wd, InR x1 → InR x2 → InR x3 → InR x4 → ∀ (H : Heap) (locs : List Loc), ST G s w H locs → ∀ ls : Array Slot, lv_has ls 6 [(0, .ref (G.1 21 0)), (1, iV x1), (2, iV x2), (3, iV x3), (4, iV x4)] → ∀ (r : Int) (w' : Wd), X8_where_b19 n x1 x2 x3 x4 w = some (r, w') → W p l e (rmk 1) s m args below meth c H locs 0 0 (MQ below (QiG G r w') args s 0 0 (GA G)) (F0 m 19 ls []) := by
  intro n
  induction n with
  | zero =>
    intro x1 x2 x3 x4 w hx1 hx2 hx3 hx4 H locs hS0 ls hl0 r w' hf
    cases hf
  | succ n ih =>
    intro x1 x2 x3 x4 w hx1 hx2 hx3 hx4 H locs hS0 ls hl0 r w' hf
    rw [X8_where_b19_s] at hf
    refine x_iload M hl0 dX8_where_19 4 rfl ?_
    refine x_sipush M dX8_where_21 rfl ?_
    refine x_icmp_ge (tgt := 82) M hx4 ⟨by decide, by decide⟩ dX8_where_24 (by decide) (fun hc => ?_) (fun hc => ?_)
    · have hf := iff_ hf (Int.not_lt.mpr hc)
      refine x_bipush M dX8_where_82 rfl ?_
      exact x_iret M hr hf hS0 ⟨by decide, by decide⟩ dX8_where_84
    · have hf := ift hf (Int.not_le.mp hc)
      refine x_aload_n M hl0 dX8_where_27 0 rfl ?_
      refine x_iload M hl0 dX8_where_28 4 rfl ?_
      refine x_iconst M dX8_where_30 ?_
      obtain ⟨r8, w9, hc10, hf⟩ := bdt hf
      refine x_callVi (c0 := 21) (t0 := 0) (As := [iV x4, iV 0]) (rest := []) M hl0 hS0 (c_X8_ofCopy l  hx4 ⟨by decide, by decide⟩ hc10) (cwV 2 M.2.2.2.2.1 gX8_where_X8_ofCopy rfl rfl rfl (by decide +kernel) ⟨Nat.le_of_ble_eq_true rfl, Nat.le_of_ble_eq_true rfl⟩) (by decide) (sE_21 G _ _) rfl rfl (Nat.le_of_ble_eq_true rfl) dX8_where_31 rfl ⟨Nat.zero_le _, Nat.zero_le _⟩ (fun H locs hi11 hS12 => ?_)
      refine x_iload_n M hl0 dX8_where_34 1 rfl ?_
      refine x_iconst M dX8_where_35 ?_
      obtain ⟨g13, hf⟩ := gdt hf
      refine x_iadd M dX8_where_36 ?_
      refine x_icmp_ne (tgt := 44) M hi11 g13 dX8_where_37 (by decide) (fun hc => ?_) (fun hc => ?_)
      · have hf := iff_ hf hc
        refine x_iconst M dX8_where_44 ?_
        exact X8_where_b45_ok M hr ih x1 x2 x3 x4 0 w9 hx1 hx2 hx3 hx4 ⟨by decide, by decide⟩ _ _ hS12 _ (lv_sub hl0 [0, 1, 2, 3, 4] rfl) _ _ hf
      · have hf := ift hf (Decidable.of_not_not hc)
        refine x_iconst M dX8_where_40 ?_
        refine x_goto (tgt := 45) M dX8_where_41 (by decide) ?_
        exact X8_where_b45_ok M hr ih x1 x2 x3 x4 1 w9 hx1 hx2 hx3 hx4 ⟨by decide, by decide⟩ _ _ hS12 _ (lv_sub hl0 [0, 1, 2, 3, 4] rfl) _ _ hf

set_option maxHeartbeats 4000000 in
set_option maxRecDepth 100000 in
theorem c_X8_where (l : Launch) {G : GG} {x1 : Int} (hx1 : InR x1) {x2 : Int} (hx2 : InR x2) {w : Wd} {r : Int} {w' : Wd} (hf : X8_where x1 x2 w = some (r, w')) : Met l yX8_where wsX8_where (rmk 1) (PcG G w [.ref (G.1 21 0), iV x1, iV x2]) (QiG G r w') 0 0 (GA G) := by
  refine met_of (own := RX8) (by decide) rfl (Nat.le_of_ble_eq_true rfl) rfl ?_
  intro p e s m args below meth c M hr ls hl0 hS0
  have hl0 : lv_has ls 6 [(0, .ref (G.1 21 0)), (1, iV x1), (2, iV x2)] := hl0
  unfold X8_where at hf
  refine x_aload_n M hl0 dX8_where_0 0 rfl ?_
  refine x_iload_n M hl0 dX8_where_1 1 rfl ?_
  obtain ⟨r1, w2, hc3, hf⟩ := bdt hf
  refine x_callVi (c0 := 21) (t0 := 0) (As := [iV x1]) (rest := []) M hl0 hS0 (c_X8_isThing l  hx1 hc3) (cwV 1 M.2.2.2.2.1 gX8_where_X8_isThing rfl rfl rfl (by decide +kernel) ⟨Nat.le_of_ble_eq_true rfl, Nat.le_of_ble_eq_true rfl⟩) (by decide) (sE_21 G _ _) rfl rfl (Nat.le_of_ble_eq_true rfl) dX8_where_2 rfl ⟨Nat.zero_le _, Nat.zero_le _⟩ (fun H locs hi4 hS5 => ?_)
  refine x_if_eq (tgt := 12) M hi4 dX8_where_5 (by decide) (fun hc => ?_) (fun hc => ?_)
  · have hf := ift hf hc
    refine x_iconst M dX8_where_12 ?_
    exact x_iret M hr hf hS5 ⟨by decide, by decide⟩ dX8_where_13
  · have hf := iff_ hf hc
    refine x_iload_n M hl0 dX8_where_8 2 rfl ?_
    refine x_if_ge (tgt := 14) M hx2 dX8_where_9 (by decide) (fun hc => ?_) (fun hc => ?_)
    · have hf := iff_ hf (Int.not_lt.mpr hc)
      refine x_iconst M dX8_where_14 ?_
      refine x_istore_n M hl0 dX8_where_15 (by decide) [(3, iV 0), (0, .ref (G.1 21 0)), (1, iV x1), (2, iV x2)] rfl (fun ls hl6 => ?_)
      refine x_iconst M dX8_where_16 ?_
      refine x_istore M hl6 dX8_where_17 (by decide) [(4, iV 0), (3, iV 0), (0, .ref (G.1 21 0)), (1, iV x1), (2, iV x2)] rfl (fun ls hl7 => ?_)
      exact X8_where_b19_ok M hr LF x1 x2 0 0 w2 hx1 hx2 ⟨by decide, by decide⟩ ⟨by decide, by decide⟩ _ _ hS5 _ (lv_sub hl7 [2, 3, 4, 1, 0] rfl) _ _ hf
    · have hf := ift hf (Int.not_le.mp hc)
      refine x_iconst M dX8_where_12 ?_
      exact x_iret M hr hf hS5 ⟨by decide, by decide⟩ dX8_where_13

/-! X8_leads -/
theorem flX8_leads_192 : Cond.fieldLink RX8 192 "NamedMovesModel" "many" "I" ∈ wsX8_leads := by decide +kernel
theorem flX8_leads_25 : Cond.fieldLink RX8 25 "NamedMovesModel" "isReached" "[Z" ∈ wsX8_leads := by decide +kernel
theorem flX8_leads_29 : Cond.fieldLink RX8 29 "NamedMovesModel" "found" "[I" ∈ wsX8_leads := by decide +kernel
theorem inX8_leads_X8 : ∀ w ∈ u_ws RX8 TX8 12, w ∈ wsX8_leads := by decide +kernel
set_option maxHeartbeats 4000000 in
set_option maxRecDepth 100000 in
theorem X8_leads_b36_ok (M : MC p s m args meth c cX8_leads 3 RX8 wsX8_leads G) (hr : meth.sig.returnType = none) : ∀ s0 : Int, ∀ w : Wd, InR s0 → ∀ (H : Heap) (locs : List Loc), ST G s w H locs → ∀ ls : Array Slot, lv_has ls 3 [(0, .ref (G.1 21 0))] → ∀ (r : Int) (w' : Wd), X8_leads_b36 s0 w = some (r, w') → W p l e (rmk 1) s m args below meth c H locs 0 0 (MQ below (QvG G w') args s 0 0 (GA G)) (F0 m 36 ls [iV s0]) := by
  intro s0 w hs0 H locs hS0 ls hl0 r w' hf
  unfold X8_leads_b36 at hf
  refine x_istore_n M hl0 dX8_leads_36 (by decide) [(2, iV s0), (0, .ref (G.1 21 0))] rfl (fun ls hl12 => ?_)
  refine x_aload_n M hl12 dX8_leads_37 1 rfl ?_
  refine x_get (c0 := 21) (t0 := 0) (v := .ref (G.1 27 0)) M hS0 (by decide) (ref := "NamedMovesModel") inX8_leads_X8 (sE_21 G _ _) rfl 9 (by decide) (M.2.2.2.2.1 _ flX8_leads_25) rfl rfl dX8_leads_38 ?_
  refine x_iload_n M hl12 dX8_leads_41 0 rfl ?_
  obtain ⟨g13, hf⟩ := gdt hf
  refine x_zald (c0 := 27) (t0 := 0) M hS0 (by decide) (hs_27 G _) rfl g13 (by decide) dX8_leads_42 ?_
  refine x_if_ne (tgt := 73) M (hS0.inr _ _ _) dX8_leads_43 (by decide) (fun hc => ?_) (fun hc => ?_)
  · have hf := iff_ hf hc
    exact x_vret M hr hf hS0 dX8_leads_73
  · have hf := ift hf (Decidable.of_not_not hc)
    refine x_aload_n M hl12 dX8_leads_46 1 rfl ?_
    refine x_get (c0 := 21) (t0 := 0) (v := .ref (G.1 27 0)) M hS0 (by decide) (ref := "NamedMovesModel") inX8_leads_X8 (sE_21 G _ _) rfl 9 (by decide) (M.2.2.2.2.1 _ flX8_leads_25) rfl rfl dX8_leads_47 ?_
    refine x_iload_n M hl12 dX8_leads_50 0 rfl ?_
    refine x_iconst M dX8_leads_51 ?_
    refine x_zast (c0 := 27) (t0 := 0) M hS0 (by decide) (hs_27 G _) rfl g13 (by decide) (Or.inr rfl) dX8_leads_52 (fun H locs hS14 => ?_)
    refine x_aload_n M hl12 dX8_leads_53 1 rfl ?_
    refine x_get (c0 := 21) (t0 := 0) (v := .ref (G.1 28 0)) M hS14 (by decide) (ref := "NamedMovesModel") inX8_leads_X8 (sE_21 G _ _) rfl 10 (by decide) (M.2.2.2.2.1 _ flX8_leads_29) rfl rfl dX8_leads_54 ?_
    refine x_aload_n M hl12 dX8_leads_57 1 rfl ?_
    refine x_get (c0 := 21) (t0 := 0) (v := iV ((up w 27 0 s0.toNat 1) 21 0 4)) M hS14 (by decide) (ref := "NamedMovesModel") inX8_leads_X8 (sE_21 G _ _) rfl 11 (by decide) (M.2.2.2.2.1 _ flX8_leads_192) rfl rfl dX8_leads_58 ?_
    refine x_iload_n M hl12 dX8_leads_61 0 rfl ?_
    obtain ⟨g15, hf⟩ := gdt hf
    refine x_iast (c0 := 28) (t0 := 0) M hS14 (by decide) (hs_28 G _) rfl g15 (by decide) hs0 dX8_leads_62 (fun H locs hS16 => ?_)
    refine x_aload_n M hl12 dX8_leads_63 1 rfl ?_
    refine x_dup M dX8_leads_64 rfl ?_
    refine x_get (c0 := 21) (t0 := 0) (v := iV ((up (up w 27 0 s0.toNat 1) 28 0 ((up w 27 0 s0.toNat 1) 21 0 4).toNat s0) 21 0 4)) M hS16 (by decide) (ref := "NamedMovesModel") inX8_leads_X8 (sE_21 G _ _) rfl 11 (by decide) (M.2.2.2.2.1 _ flX8_leads_192) rfl rfl dX8_leads_65 ?_
    refine x_iconst M dX8_leads_68 ?_
    obtain ⟨g17, hf⟩ := gdt hf
    refine x_iadd M dX8_leads_69 ?_
    refine x_put (c0 := 21) (t0 := 0) M hS16 (by decide) (ref := "NamedMovesModel") inX8_leads_X8 tyX8 tyX8_ok nmX8 (sE_21 G _ _) rfl 11 (by decide) (M.2.2.2.2.1 _ flX8_leads_192) rfl rfl (ty := tyX8 11) g17 (tyX8_ok 11 (by decide)) rfl rfl (by simp) 4 (pset_21_4 G _ _ _) dX8_leads_70 (fun H locs hS18 => ?_)
    exact x_vret M hr hf hS18 dX8_leads_73

set_option maxHeartbeats 4000000 in
set_option maxRecDepth 100000 in
theorem c_X8_leads (l : Launch) {G : GG} {x1 : Int} (hx1 : InR x1) {w : Wd} {r : Int} {w' : Wd} (hf : X8_leads x1 w = some (r, w')) : Met l yX8_leads wsX8_leads (rmk 1) (PcG G w [.ref (G.1 21 0), iV x1]) (QvG G w') 0 0 (GA G) := by
  refine met_of (own := RX8) (by decide) rfl (Nat.le_of_ble_eq_true rfl) rfl ?_
  intro p e s m args below meth c M hr ls hl0 hS0
  have hl0 : lv_has ls 3 [(0, .ref (G.1 21 0)), (1, iV x1)] := hl0
  unfold X8_leads at hf
  refine x_iload_n M hl0 dX8_leads_0 1 rfl ?_
  refine x_bipush M dX8_leads_1 rfl ?_
  refine x_icmp_ne (tgt := 7) M hx1 ⟨by decide, by decide⟩ dX8_leads_3 (by decide) (fun hc => ?_) (fun hc => ?_)
  · have hf := iff_ hf hc
    refine x_iload_n M hl0 dX8_leads_7 1 rfl ?_
    obtain ⟨r1, w2, hc3, hf⟩ := bdt hf
    refine x_callSi (As := [iV x1]) (rest := []) M hl0 hS0 (c_X8_cell l  hx1 hc3) (va_cwS 1 M.2.2.2.2.1 gX8_leads_X8_cell rfl rfl rfl (by decide +kernel) ⟨Nat.le_of_ble_eq_true rfl, Nat.le_of_ble_eq_true rfl⟩) rfl (Nat.le_of_ble_eq_true rfl) dX8_leads_8 rfl ⟨Nat.zero_le _, Nat.zero_le _⟩ (fun H locs hi4 hS5 => ?_)
    refine x_istore_n M hl0 dX8_leads_11 (by decide) [(2, iV r1), (0, .ref (G.1 21 0)), (1, iV x1)] rfl (fun ls hl6 => ?_)
    refine x_aload_n M hl6 dX8_leads_12 1 rfl ?_
    refine x_iload_n M hl6 dX8_leads_13 0 rfl ?_
    refine x_iconst M dX8_leads_14 ?_
    obtain ⟨r7, w8, hc9, hf⟩ := bdt hf
    refine x_callVi (c0 := 21) (t0 := 0) (As := [iV r1, iV 3]) (rest := []) M hl6 hS5 (c_X8_ofCopy l  hi4 ⟨by decide, by decide⟩ hc9) (cwV 2 M.2.2.2.2.1 gX8_leads_X8_ofCopy rfl rfl rfl (by decide +kernel) ⟨Nat.le_of_ble_eq_true rfl, Nat.le_of_ble_eq_true rfl⟩) (by decide) (sE_21 G _ _) rfl rfl (Nat.le_of_ble_eq_true rfl) dX8_leads_15 rfl ⟨Nat.zero_le _, Nat.zero_le _⟩ (fun H locs hi10 hS11 => ?_)
    refine x_bipush M dX8_leads_18 rfl ?_
    refine x_icmp_eq (tgt := 35) M hi10 ⟨by decide, by decide⟩ dX8_leads_20 (by decide) (fun hc => ?_) (fun hc => ?_)
    · have hf := ift hf hc
      refine x_iload_n M hl6 dX8_leads_35 0 rfl ?_
      exact X8_leads_b36_ok M hr r1 w8 hi4 _ _ hS11 _ (lv_sub hl6 [1] rfl) _ _ hf
    · have hf := iff_ hf hc
      refine x_aload_n M hl6 dX8_leads_23 1 rfl ?_
      refine x_iload_n M hl6 dX8_leads_24 0 rfl ?_
      refine x_iconst M dX8_leads_25 ?_
      obtain ⟨r19, w20, hc21, hf⟩ := bdt hf
      refine x_callVi (c0 := 21) (t0 := 0) (As := [iV r1, iV 3]) (rest := []) M hl6 hS11 (c_X8_ofCopy l  hi4 ⟨by decide, by decide⟩ hc21) (cwV 2 M.2.2.2.2.1 gX8_leads_X8_ofCopy rfl rfl rfl (by decide +kernel) ⟨Nat.le_of_ble_eq_true rfl, Nat.le_of_ble_eq_true rfl⟩) (by decide) (sE_21 G _ _) rfl rfl (Nat.le_of_ble_eq_true rfl) dX8_leads_26 rfl ⟨Nat.zero_le _, Nat.zero_le _⟩ (fun H locs hi22 hS23 => ?_)
      obtain ⟨r24, w25, hc26, hf⟩ := bdt hf
      refine x_callSi (As := [iV r19]) (rest := []) M hl6 hS23 (c_X8_cell l  hi22 hc26) (va_cwS 1 M.2.2.2.2.1 gX8_leads_X8_cell rfl rfl rfl (by decide +kernel) ⟨Nat.le_of_ble_eq_true rfl, Nat.le_of_ble_eq_true rfl⟩) rfl (Nat.le_of_ble_eq_true rfl) dX8_leads_29 rfl ⟨Nat.zero_le _, Nat.zero_le _⟩ (fun H locs hi27 hS28 => ?_)
      refine x_goto (tgt := 36) M dX8_leads_32 (by decide) ?_
      exact X8_leads_b36_ok M hr r24 w25 hi27 _ _ hS28 _ (lv_sub hl6 [1] rfl) _ _ hf
  · have hf := ift hf (Decidable.of_not_not hc)
    exact x_vret M hr hf hS0 dX8_leads_6

/-! X8_forgets -/
theorem flX8_forgets_192 : Cond.fieldLink RX8 192 "NamedMovesModel" "many" "I" ∈ wsX8_forgets := by decide +kernel
theorem flX8_forgets_25 : Cond.fieldLink RX8 25 "NamedMovesModel" "isReached" "[Z" ∈ wsX8_forgets := by decide +kernel
theorem inX8_forgets_X8 : ∀ w ∈ u_ws RX8 TX8 12, w ∈ wsX8_forgets := by decide +kernel
set_option maxHeartbeats 4000000 in
set_option maxRecDepth 100000 in
theorem X8_forgets_b2_ok (M : MC p s m args meth c cX8_forgets 2 RX8 wsX8_forgets G) (hr : meth.sig.returnType = none) : ∀ n : Nat, ∀ x1 : Int, ∀ w : Wd, InR x1 → ∀ (H : Heap) (locs : List Loc), ST G s w H locs → ∀ ls : Array Slot, lv_has ls 2 [(0, .ref (G.1 21 0)), (1, iV x1)] → ∀ (r : Int) (w' : Wd), X8_forgets_b2 n x1 w = some (r, w') → W p l e (rmk 0) s m args below meth c H locs 0 0 (MQ below (QvG G w') args s 0 0 (GA G)) (F0 m 2 ls []) := by
  intro n
  induction n with
  | zero =>
    intro x1 w hx1 H locs hS0 ls hl0 r w' hf
    cases hf
  | succ n ih =>
    intro x1 w hx1 H locs hS0 ls hl0 r w' hf
    rw [X8_forgets_b2_s] at hf
    refine x_iload_n M hl0 dX8_forgets_2 1 rfl ?_
    refine x_sipush M dX8_forgets_3 rfl ?_
    refine x_icmp_ge (tgt := 22) M hx1 ⟨by decide, by decide⟩ dX8_forgets_6 (by decide) (fun hc => ?_) (fun hc => ?_)
    · have hf := iff_ hf (Int.not_lt.mpr hc)
      refine x_aload_n M hl0 dX8_forgets_22 0 rfl ?_
      refine x_iconst M dX8_forgets_23 ?_
      refine x_put (c0 := 21) (t0 := 0) M hS0 (by decide) (ref := "NamedMovesModel") inX8_forgets_X8 tyX8 tyX8_ok nmX8 (sE_21 G _ _) rfl 11 (by decide) (M.2.2.2.2.1 _ flX8_forgets_192) rfl rfl (ty := tyX8 11) ⟨by decide, by decide⟩ (tyX8_ok 11 (by decide)) rfl rfl (by simp) 4 (pset_21_4 G _ _ _) dX8_forgets_24 (fun H locs hS2 => ?_)
      exact x_vret M hr hf hS2 dX8_forgets_27
    · have hf := ift hf (Int.not_le.mp hc)
      refine x_aload_n M hl0 dX8_forgets_9 0 rfl ?_
      refine x_get (c0 := 21) (t0 := 0) (v := .ref (G.1 27 0)) M hS0 (by decide) (ref := "NamedMovesModel") inX8_forgets_X8 (sE_21 G _ _) rfl 9 (by decide) (M.2.2.2.2.1 _ flX8_forgets_25) rfl rfl dX8_forgets_10 ?_
      refine x_iload_n M hl0 dX8_forgets_13 1 rfl ?_
      refine x_iconst M dX8_forgets_14 ?_
      obtain ⟨g3, hf⟩ := gdt hf
      refine x_zast (c0 := 27) (t0 := 0) M hS0 (by decide) (hs_27 G _) rfl g3 (by decide) (Or.inl rfl) dX8_forgets_15 (fun H locs hS4 => ?_)
      obtain ⟨g5, hf⟩ := gdt hf
      refine x_iinc M hl0 dX8_forgets_16 1 rfl (by decide) [(1, iV (x1 + 1)), (0, .ref (G.1 21 0))] rfl (fun ls hl6 => ?_)
      refine x_goto (tgt := 2) M dX8_forgets_19 (by decide) ?_
      exact ih (x1 + 1) (up w 27 0 x1.toNat 0) g5 _ _ hS4 _ (lv_sub hl6 [1, 0] rfl) _ _ hf

set_option maxHeartbeats 4000000 in
set_option maxRecDepth 100000 in
theorem c_X8_forgets (l : Launch) {G : GG} {w : Wd} {r : Int} {w' : Wd} (hf : X8_forgets w = some (r, w')) : Met l yX8_forgets wsX8_forgets (rmk 0) (PcG G w [.ref (G.1 21 0)]) (QvG G w') 0 0 (GA G) := by
  refine met_of (own := RX8) (by decide) rfl (Nat.le_of_ble_eq_true rfl) rfl ?_
  intro p e s m args below meth c M hr ls hl0 hS0
  have hl0 : lv_has ls 2 [(0, .ref (G.1 21 0))] := hl0
  unfold X8_forgets at hf
  refine x_iconst M dX8_forgets_0 ?_
  refine x_istore_n M hl0 dX8_forgets_1 (by decide) [(1, iV 0), (0, .ref (G.1 21 0))] rfl (fun ls hl1 => ?_)
  exact X8_forgets_b2_ok M hr LF 0 w ⟨by decide, by decide⟩ _ _ hS0 _ (lv_sub hl1 [1, 0] rfl) _ _ hf

/-! X8_reaches -/
theorem flX8_reaches_192 : Cond.fieldLink RX8 192 "NamedMovesModel" "many" "I" ∈ wsX8_reaches := by decide +kernel
theorem flX8_reaches_29 : Cond.fieldLink RX8 29 "NamedMovesModel" "found" "[I" ∈ wsX8_reaches := by decide +kernel
theorem inX8_reaches_X8 : ∀ w ∈ u_ws RX8 TX8 12, w ∈ wsX8_reaches := by decide +kernel
set_option maxHeartbeats 4000000 in
set_option maxRecDepth 100000 in
theorem X8_reaches_b2_ok (M : MC p s m args meth c cX8_reaches 2 RX8 wsX8_reaches G) (hr : meth.sig.returnType = none) : ∀ n : Nat, ∀ x1 : Int, ∀ w : Wd, InR x1 → ∀ (H : Heap) (locs : List Loc), ST G s w H locs → ∀ ls : Array Slot, lv_has ls 2 [(0, .ref (G.1 21 0)), (1, iV x1)] → ∀ (r : Int) (w' : Wd), X8_reaches_b2 n x1 w = some (r, w') → W p l e (rmk 2) s m args below meth c H locs 0 0 (MQ below (QvG G w') args s 0 0 (GA G)) (F0 m 2 ls []) := by
  intro n
  induction n with
  | zero =>
    intro x1 w hx1 H locs hS0 ls hl0 r w' hf
    cases hf
  | succ n ih =>
    intro x1 w hx1 H locs hS0 ls hl0 r w' hf
    rw [X8_reaches_b2_s] at hf
    refine x_iload_n M hl0 dX8_reaches_2 1 rfl ?_
    refine x_aload_n M hl0 dX8_reaches_3 0 rfl ?_
    refine x_get (c0 := 21) (t0 := 0) (v := iV (w 21 0 4)) M hS0 (by decide) (ref := "NamedMovesModel") inX8_reaches_X8 (sE_21 G _ _) rfl 11 (by decide) (M.2.2.2.2.1 _ flX8_reaches_192) rfl rfl dX8_reaches_4 ?_
    refine x_icmp_ge (tgt := 46) M hx1 (hS0.inr _ _ _) dX8_reaches_7 (by decide) (fun hc => ?_) (fun hc => ?_)
    · have hf := iff_ hf (Int.not_lt.mpr hc)
      exact x_vret M hr hf hS0 dX8_reaches_46
    · have hf := ift hf (Int.not_le.mp hc)
      refine x_aload_n M hl0 dX8_reaches_10 0 rfl ?_
      refine x_aload_n M hl0 dX8_reaches_11 0 rfl ?_
      refine x_aload_n M hl0 dX8_reaches_12 0 rfl ?_
      refine x_get (c0 := 21) (t0 := 0) (v := .ref (G.1 28 0)) M hS0 (by decide) (ref := "NamedMovesModel") inX8_reaches_X8 (sE_21 G _ _) rfl 10 (by decide) (M.2.2.2.2.1 _ flX8_reaches_29) rfl rfl dX8_reaches_13 ?_
      refine x_iload_n M hl0 dX8_reaches_16 1 rfl ?_
      obtain ⟨g2, hf⟩ := gdt hf
      refine x_iald (c0 := 28) (t0 := 0) M hS0 (by decide) (hs_28 G _) rfl g2 (by decide) dX8_reaches_17 ?_
      refine x_iconst M dX8_reaches_18 ?_
      obtain ⟨r3, w4, hc5, hf⟩ := bdt hf
      refine x_callVi (c0 := 21) (t0 := 0) (As := [iV (w 28 0 x1.toNat), iV 1]) (rest := [.ref (G.1 21 0)]) M hl0 hS0 (c_X8_ofCopy l  (hS0.inr _ _ _) ⟨by decide, by decide⟩ hc5) (cwV 2 M.2.2.2.2.1 gX8_reaches_X8_ofCopy rfl rfl rfl (by decide +kernel) ⟨Nat.le_of_ble_eq_true rfl, Nat.le_of_ble_eq_true rfl⟩) (by decide) (sE_21 G _ _) rfl rfl (Nat.le_of_ble_eq_true rfl) dX8_reaches_19 rfl ⟨Nat.zero_le _, Nat.zero_le _⟩ (fun H locs hi6 hS7 => ?_)
      obtain ⟨r8, w9, hc10, hf⟩ := bdt hf
      refine x_callVv (c0 := 21) (t0 := 0) (As := [iV r3]) (rest := []) M hl0 hS7 (c_X8_leads l  hi6 hc10) (cwV 1 M.2.2.2.2.1 gX8_reaches_X8_leads rfl rfl rfl (by decide +kernel) ⟨Nat.le_of_ble_eq_true rfl, Nat.le_of_ble_eq_true rfl⟩) (by decide) (sE_21 G _ _) rfl rfl (Nat.le_of_ble_eq_true rfl) dX8_reaches_22 rfl ⟨Nat.zero_le _, Nat.zero_le _⟩ (fun H locs hS12 => ?_)
      refine x_aload_n M hl0 dX8_reaches_25 0 rfl ?_
      refine x_aload_n M hl0 dX8_reaches_26 0 rfl ?_
      refine x_aload_n M hl0 dX8_reaches_27 0 rfl ?_
      refine x_get (c0 := 21) (t0 := 0) (v := .ref (G.1 28 0)) M hS12 (by decide) (ref := "NamedMovesModel") inX8_reaches_X8 (sE_21 G _ _) rfl 10 (by decide) (M.2.2.2.2.1 _ flX8_reaches_29) rfl rfl dX8_reaches_28 ?_
      refine x_iload_n M hl0 dX8_reaches_31 1 rfl ?_
      refine x_iald (c0 := 28) (t0 := 0) M hS12 (by decide) (hs_28 G _) rfl g2 (by decide) dX8_reaches_32 ?_
      refine x_iconst M dX8_reaches_33 ?_
      obtain ⟨r13, w14, hc15, hf⟩ := bdt hf
      refine x_callVi (c0 := 21) (t0 := 0) (As := [iV (w9 28 0 x1.toNat), iV 2]) (rest := [.ref (G.1 21 0)]) M hl0 hS12 (c_X8_ofCopy l  (hS12.inr _ _ _) ⟨by decide, by decide⟩ hc15) (cwV 2 M.2.2.2.2.1 gX8_reaches_X8_ofCopy rfl rfl rfl (by decide +kernel) ⟨Nat.le_of_ble_eq_true rfl, Nat.le_of_ble_eq_true rfl⟩) (by decide) (sE_21 G _ _) rfl rfl (Nat.le_of_ble_eq_true rfl) dX8_reaches_34 rfl ⟨Nat.zero_le _, Nat.zero_le _⟩ (fun H locs hi16 hS17 => ?_)
      obtain ⟨r18, w19, hc20, hf⟩ := bdt hf
      refine x_callVv (c0 := 21) (t0 := 0) (As := [iV r13]) (rest := []) M hl0 hS17 (c_X8_leads l  hi16 hc20) (cwV 1 M.2.2.2.2.1 gX8_reaches_X8_leads rfl rfl rfl (by decide +kernel) ⟨Nat.le_of_ble_eq_true rfl, Nat.le_of_ble_eq_true rfl⟩) (by decide) (sE_21 G _ _) rfl rfl (Nat.le_of_ble_eq_true rfl) dX8_reaches_37 rfl ⟨Nat.zero_le _, Nat.zero_le _⟩ (fun H locs hS22 => ?_)
      obtain ⟨g23, hf⟩ := gdt hf
      refine x_iinc M hl0 dX8_reaches_40 1 rfl (by decide) [(1, iV (x1 + 1)), (0, .ref (G.1 21 0))] rfl (fun ls hl24 => ?_)
      refine x_goto (tgt := 2) M dX8_reaches_43 (by decide) ?_
      exact ih (x1 + 1) w19 g23 _ _ hS22 _ (lv_sub hl24 [1, 0] rfl) _ _ hf

set_option maxHeartbeats 4000000 in
set_option maxRecDepth 100000 in
theorem c_X8_reaches (l : Launch) {G : GG} {w : Wd} {r : Int} {w' : Wd} (hf : X8_reaches w = some (r, w')) : Met l yX8_reaches wsX8_reaches (rmk 2) (PcG G w [.ref (G.1 21 0)]) (QvG G w') 0 0 (GA G) := by
  refine met_of (own := RX8) (by decide) rfl (Nat.le_of_ble_eq_true rfl) rfl ?_
  intro p e s m args below meth c M hr ls hl0 hS0
  have hl0 : lv_has ls 2 [(0, .ref (G.1 21 0))] := hl0
  unfold X8_reaches at hf
  refine x_iconst M dX8_reaches_0 ?_
  refine x_istore_n M hl0 dX8_reaches_1 (by decide) [(1, iV 0), (0, .ref (G.1 21 0))] rfl (fun ls hl1 => ?_)
  exact X8_reaches_b2_ok M hr LF 0 w ⟨by decide, by decide⟩ _ _ hS0 _ (lv_sub hl1 [1, 0] rfl) _ _ hf

/-! X8_named -/
theorem flX8_named_192 : Cond.fieldLink RX8 192 "NamedMovesModel" "many" "I" ∈ wsX8_named := by decide +kernel
theorem flX8_named_29 : Cond.fieldLink RX8 29 "NamedMovesModel" "found" "[I" ∈ wsX8_named := by decide +kernel
theorem flX8_named_7 : Cond.fieldLink RX8 7 "NamedMovesModel" "s" "[I" ∈ wsX8_named := by decide +kernel
theorem inX8_named_X8 : ∀ w ∈ u_ws RX8 TX8 12, w ∈ wsX8_named := by decide +kernel
set_option maxHeartbeats 4000000 in
set_option maxRecDepth 100000 in
theorem X8_named_b48_ok (M : MC p s m args meth c cX8_named 6 RX8 wsX8_named G) (hr : meth.sig.returnType = (some .int)) {K34 : Int → Int → Wd → Option (Int × Wd)} (hK34 : ∀ x2 : Int, ∀ x3 : Int, ∀ w : Wd, InR x2 → InR x3 → ∀ (H : Heap) (locs : List Loc), ST G s w H locs → ∀ ls : Array Slot, lv_has ls 6 [(0, .ref (G.1 21 0)), (2, iV x2), (3, iV x3)] → ∀ (r : Int) (w' : Wd), K34 x2 x3 w = some (r, w') → W p l e (rmk 3) s m args below meth c H locs 0 0 (MQ below (QiG G r w') args s 0 0 (GA G)) (F0 m 34 ls [])) : ∀ n : Nat, ∀ x2 : Int, ∀ x3 : Int, ∀ x4 : Int, ∀ x5 : Int, ∀ w : Wd, InR x2 → InR x3 → InR x4 → InR x5 → ∀ (H : Heap) (locs : List Loc), ST G s w H locs → ∀ ls : Array Slot, lv_has ls 6 [(0, .ref (G.1 21 0)), (2, iV x2), (3, iV x3), (4, iV x4), (5, iV x5)] → ∀ (r : Int) (w' : Wd), X8_named_b48 K34 n x2 x3 x4 x5 w = some (r, w') → W p l e (rmk 3) s m args below meth c H locs 0 0 (MQ below (QiG G r w') args s 0 0 (GA G)) (F0 m 48 ls []) := by
  intro n
  induction n with
  | zero =>
    intro x2 x3 x4 x5 w hx2 hx3 hx4 hx5 H locs hS0 ls hl0 r w' hf
    cases hf
  | succ n ih =>
    intro x2 x3 x4 x5 w hx2 hx3 hx4 hx5 H locs hS0 ls hl0 r w' hf
    rw [X8_named_b48_s] at hf
    refine x_iload M hl0 dX8_named_48 4 rfl ?_
    refine x_iload_n M hl0 dX8_named_50 2 rfl ?_
    refine x_icmp_ge (tgt := 98) M hx5 hx3 dX8_named_51 (by decide) (fun hc => ?_) (fun hc => ?_)
    · have hf := iff_ hf (Int.not_lt.mpr hc)
      refine x_iload_n M hl0 dX8_named_98 1 rfl ?_
      refine x_iload M hl0 dX8_named_99 3 rfl ?_
      refine x_if_eq (tgt := 108) M hx4 dX8_named_101 (by decide) (fun hc => ?_) (fun hc => ?_)
      · have hf := ift hf hc
        refine x_iconst M dX8_named_108 ?_
        obtain ⟨g27, hf⟩ := gdt hf
        refine x_iadd M dX8_named_109 ?_
        refine x_istore_n M hl0 dX8_named_110 (by decide) [(2, iV (x2 + 0)), (0, .ref (G.1 21 0)), (3, iV x3), (4, iV x4), (5, iV x5)] rfl (fun ls hl28 => ?_)
        obtain ⟨g29, hf⟩ := gdt hf
        refine x_iinc M hl28 dX8_named_111 2 rfl (by decide) [(3, iV (x3 + 1)), (2, iV (x2 + 0)), (0, .ref (G.1 21 0)), (4, iV x4), (5, iV x5)] rfl (fun ls hl30 => ?_)
        refine x_goto (tgt := 34) M dX8_named_114 (by decide) ?_
        exact hK34 (x2 + 0) (x3 + 1) w g27 g29 _ _ hS0 _ (lv_sub hl30 [2, 1, 0] rfl) _ _ hf
      · have hf := iff_ hf hc
        refine x_iconst M dX8_named_104 ?_
        refine x_goto (tgt := 109) M dX8_named_105 (by decide) ?_
        obtain ⟨g31, hf⟩ := gdt hf
        refine x_iadd M dX8_named_109 ?_
        refine x_istore_n M hl0 dX8_named_110 (by decide) [(2, iV (x2 + 1)), (0, .ref (G.1 21 0)), (3, iV x3), (4, iV x4), (5, iV x5)] rfl (fun ls hl32 => ?_)
        obtain ⟨g33, hf⟩ := gdt hf
        refine x_iinc M hl32 dX8_named_111 2 rfl (by decide) [(3, iV (x3 + 1)), (2, iV (x2 + 1)), (0, .ref (G.1 21 0)), (4, iV x4), (5, iV x5)] rfl (fun ls hl34 => ?_)
        refine x_goto (tgt := 34) M dX8_named_114 (by decide) ?_
        exact hK34 (x2 + 1) (x3 + 1) w g31 g33 _ _ hS0 _ (lv_sub hl34 [2, 1, 0] rfl) _ _ hf
    · have hf := ift hf (Int.not_le.mp hc)
      refine x_iload M hl0 dX8_named_54 3 rfl ?_
      refine x_if_eq (tgt := 89) M hx4 dX8_named_56 (by decide) (fun hc => ?_) (fun hc => ?_)
      · have hf := ift hf hc
        refine x_iconst M dX8_named_89 ?_
        refine x_istore M hl0 dX8_named_90 (by decide) [(4, iV 0), (0, .ref (G.1 21 0)), (2, iV x2), (3, iV x3), (5, iV x5)] rfl (fun ls hl35 => ?_)
        obtain ⟨g36, hf⟩ := gdt hf
        refine x_iinc M hl35 dX8_named_92 4 rfl (by decide) [(5, iV (x5 + 1)), (4, iV 0), (0, .ref (G.1 21 0)), (2, iV x2), (3, iV x3)] rfl (fun ls hl37 => ?_)
        refine x_goto (tgt := 48) M dX8_named_95 (by decide) ?_
        exact ih x2 x3 0 (x5 + 1) w hx2 hx3 ⟨by decide, by decide⟩ g36 _ _ hS0 _ (lv_sub hl37 [2, 3, 4, 1, 0] rfl) _ _ hf
      · have hf := iff_ hf hc
        refine x_aload_n M hl0 dX8_named_59 0 rfl ?_
        refine x_aload_n M hl0 dX8_named_60 0 rfl ?_
        refine x_get (c0 := 21) (t0 := 0) (v := .ref (G.1 28 0)) M hS0 (by decide) (ref := "NamedMovesModel") inX8_named_X8 (sE_21 G _ _) rfl 10 (by decide) (M.2.2.2.2.1 _ flX8_named_29) rfl rfl dX8_named_61 ?_
        refine x_iload M hl0 dX8_named_64 4 rfl ?_
        obtain ⟨g38, hf⟩ := gdt hf
        refine x_iald (c0 := 28) (t0 := 0) M hS0 (by decide) (hs_28 G _) rfl g38 (by decide) dX8_named_66 ?_
        refine x_iconst M dX8_named_67 ?_
        obtain ⟨r39, w40, hc41, hf⟩ := bdt hf
        refine x_callVi (c0 := 21) (t0 := 0) (As := [iV (w 28 0 x5.toNat), iV 0]) (rest := []) M hl0 hS0 (c_X8_ofCopy l  (hS0.inr _ _ _) ⟨by decide, by decide⟩ hc41) (cwV 2 M.2.2.2.2.1 gX8_named_X8_ofCopy rfl rfl rfl (by decide +kernel) ⟨Nat.le_of_ble_eq_true rfl, Nat.le_of_ble_eq_true rfl⟩) (by decide) (sE_21 G _ _) rfl rfl (Nat.le_of_ble_eq_true rfl) dX8_named_68 rfl ⟨Nat.zero_le _, Nat.zero_le _⟩ (fun H locs hi42 hS43 => ?_)
        refine x_aload_n M hl0 dX8_named_71 0 rfl ?_
        refine x_aload_n M hl0 dX8_named_72 0 rfl ?_
        refine x_get (c0 := 21) (t0 := 0) (v := .ref (G.1 28 0)) M hS43 (by decide) (ref := "NamedMovesModel") inX8_named_X8 (sE_21 G _ _) rfl 10 (by decide) (M.2.2.2.2.1 _ flX8_named_29) rfl rfl dX8_named_73 ?_
        refine x_iload_n M hl0 dX8_named_76 2 rfl ?_
        obtain ⟨g44, hf⟩ := gdt hf
        refine x_iald (c0 := 28) (t0 := 0) M hS43 (by decide) (hs_28 G _) rfl g44 (by decide) dX8_named_77 ?_
        refine x_iconst M dX8_named_78 ?_
        obtain ⟨r45, w46, hc47, hf⟩ := bdt hf
        refine x_callVi (c0 := 21) (t0 := 0) (As := [iV (w40 28 0 x3.toNat), iV 0]) (rest := [iV r39]) M hl0 hS43 (c_X8_ofCopy l  (hS43.inr _ _ _) ⟨by decide, by decide⟩ hc47) (cwV 2 M.2.2.2.2.1 gX8_named_X8_ofCopy rfl rfl rfl (by decide +kernel) ⟨Nat.le_of_ble_eq_true rfl, Nat.le_of_ble_eq_true rfl⟩) (by decide) (sE_21 G _ _) rfl rfl (Nat.le_of_ble_eq_true rfl) dX8_named_79 rfl ⟨Nat.zero_le _, Nat.zero_le _⟩ (fun H locs hi48 hS49 => ?_)
        refine x_icmp_eq (tgt := 89) M hi42 hi48 dX8_named_82 (by decide) (fun hc => ?_) (fun hc => ?_)
        · have hf := ift hf hc
          refine x_iconst M dX8_named_89 ?_
          refine x_istore M hl0 dX8_named_90 (by decide) [(4, iV 0), (0, .ref (G.1 21 0)), (2, iV x2), (3, iV x3), (5, iV x5)] rfl (fun ls hl50 => ?_)
          obtain ⟨g51, hf⟩ := gdt hf
          refine x_iinc M hl50 dX8_named_92 4 rfl (by decide) [(5, iV (x5 + 1)), (4, iV 0), (0, .ref (G.1 21 0)), (2, iV x2), (3, iV x3)] rfl (fun ls hl52 => ?_)
          refine x_goto (tgt := 48) M dX8_named_95 (by decide) ?_
          exact ih x2 x3 0 (x5 + 1) w46 hx2 hx3 ⟨by decide, by decide⟩ g51 _ _ hS49 _ (lv_sub hl52 [2, 3, 4, 1, 0] rfl) _ _ hf
        · have hf := iff_ hf hc
          refine x_iconst M dX8_named_85 ?_
          refine x_goto (tgt := 90) M dX8_named_86 (by decide) ?_
          refine x_istore M hl0 dX8_named_90 (by decide) [(4, iV 1), (0, .ref (G.1 21 0)), (2, iV x2), (3, iV x3), (5, iV x5)] rfl (fun ls hl53 => ?_)
          obtain ⟨g54, hf⟩ := gdt hf
          refine x_iinc M hl53 dX8_named_92 4 rfl (by decide) [(5, iV (x5 + 1)), (4, iV 1), (0, .ref (G.1 21 0)), (2, iV x2), (3, iV x3)] rfl (fun ls hl55 => ?_)
          refine x_goto (tgt := 48) M dX8_named_95 (by decide) ?_
          exact ih x2 x3 1 (x5 + 1) w46 hx2 hx3 ⟨by decide, by decide⟩ g54 _ _ hS49 _ (lv_sub hl55 [2, 3, 4, 1, 0] rfl) _ _ hf

set_option maxHeartbeats 4000000 in
set_option maxRecDepth 100000 in
theorem X8_named_b34_ok (M : MC p s m args meth c cX8_named 6 RX8 wsX8_named G) (hr : meth.sig.returnType = (some .int)) : ∀ n : Nat, ∀ x2 : Int, ∀ x3 : Int, ∀ w : Wd, InR x2 → InR x3 → ∀ (H : Heap) (locs : List Loc), ST G s w H locs → ∀ ls : Array Slot, lv_has ls 6 [(0, .ref (G.1 21 0)), (2, iV x2), (3, iV x3)] → ∀ (r : Int) (w' : Wd), X8_named_b34 n x2 x3 w = some (r, w') → W p l e (rmk 3) s m args below meth c H locs 0 0 (MQ below (QiG G r w') args s 0 0 (GA G)) (F0 m 34 ls []) := by
  intro n
  induction n with
  | zero =>
    intro x2 x3 w hx2 hx3 H locs hS0 ls hl0 r w' hf
    cases hf
  | succ n ih =>
    intro x2 x3 w hx2 hx3 H locs hS0 ls hl0 r w' hf
    rw [X8_named_b34_s] at hf
    refine x_iload_n M hl0 dX8_named_34 2 rfl ?_
    refine x_aload_n M hl0 dX8_named_35 0 rfl ?_
    refine x_get (c0 := 21) (t0 := 0) (v := iV (w 21 0 4)) M hS0 (by decide) (ref := "NamedMovesModel") inX8_named_X8 (sE_21 G _ _) rfl 11 (by decide) (M.2.2.2.2.1 _ flX8_named_192) rfl rfl dX8_named_36 ?_
    refine x_icmp_ge (tgt := 117) M hx3 (hS0.inr _ _ _) dX8_named_39 (by decide) (fun hc => ?_) (fun hc => ?_)
    · have hf := iff_ hf (Int.not_lt.mpr hc)
      refine x_iload_n M hl0 dX8_named_117 1 rfl ?_
      exact x_iret M hr hf hS0 hx2 dX8_named_118
    · have hf := ift hf (Int.not_le.mp hc)
      refine x_iconst M dX8_named_42 ?_
      refine x_istore M hl0 dX8_named_43 (by decide) [(4, iV 1), (0, .ref (G.1 21 0)), (2, iV x2), (3, iV x3)] rfl (fun ls hl25 => ?_)
      refine x_iconst M dX8_named_45 ?_
      refine x_istore M hl25 dX8_named_46 (by decide) [(5, iV 0), (4, iV 1), (0, .ref (G.1 21 0)), (2, iV x2), (3, iV x3)] rfl (fun ls hl26 => ?_)
      exact X8_named_b48_ok M hr ih LF x2 x3 1 0 w hx2 hx3 ⟨by decide, by decide⟩ ⟨by decide, by decide⟩ _ _ hS0 _ (lv_sub hl26 [2, 3, 4, 1, 0] rfl) _ _ hf

set_option maxHeartbeats 4000000 in
set_option maxRecDepth 100000 in
theorem c_X8_named (l : Launch) {G : GG} {x1 : Int} (hx1 : InR x1) {w : Wd} {r : Int} {w' : Wd} (hf : X8_named x1 w = some (r, w')) : Met l yX8_named wsX8_named (rmk 3) (PcG G w [.ref (G.1 21 0), iV x1]) (QiG G r w') 0 0 (GA G) := by
  refine met_of (own := RX8) (by decide) rfl (Nat.le_of_ble_eq_true rfl) rfl ?_
  intro p e s m args below meth c M hr ls hl0 hS0
  have hl0 : lv_has ls 6 [(0, .ref (G.1 21 0)), (1, iV x1)] := hl0
  unfold X8_named at hf
  refine x_iload_n M hl0 dX8_named_0 1 rfl ?_
  obtain ⟨r1, w2, hc3, hf⟩ := bdt hf
  refine x_callSi (As := [iV x1]) (rest := []) M hl0 hS0 (c_X8_isHook l  hx1 hc3) (va_cwS 1 M.2.2.2.2.1 gX8_named_X8_isHook rfl rfl rfl (by decide +kernel) ⟨Nat.le_of_ble_eq_true rfl, Nat.le_of_ble_eq_true rfl⟩) rfl (Nat.le_of_ble_eq_true rfl) dX8_named_1 rfl ⟨Nat.zero_le _, Nat.zero_le _⟩ (fun H locs hi4 hS5 => ?_)
  refine x_if_ne (tgt := 9) M hi4 dX8_named_4 (by decide) (fun hc => ?_) (fun hc => ?_)
  · have hf := iff_ hf hc
    refine x_aload_n M hl0 dX8_named_9 0 rfl ?_
    obtain ⟨r6, w7, hc8, hf⟩ := bdt hf
    refine x_callVv (c0 := 21) (t0 := 0) (As := []) (rest := []) M hl0 hS5 (c_X8_forgets l   hc8) (cwV 0 M.2.2.2.2.1 gX8_named_X8_forgets rfl rfl rfl (by decide +kernel) ⟨Nat.le_of_ble_eq_true rfl, Nat.le_of_ble_eq_true rfl⟩) (by decide) (sE_21 G _ _) rfl rfl (Nat.le_of_ble_eq_true rfl) dX8_named_10 rfl ⟨Nat.zero_le _, Nat.zero_le _⟩ (fun H locs hS10 => ?_)
    refine x_aload_n M hl0 dX8_named_13 0 rfl ?_
    refine x_aload_n M hl0 dX8_named_14 0 rfl ?_
    refine x_get (c0 := 21) (t0 := 0) (v := .ref (G.1 22 0)) M hS10 (by decide) (ref := "NamedMovesModel") inX8_named_X8 (sE_21 G _ _) rfl 0 (by decide) (M.2.2.2.2.1 _ flX8_named_7) rfl rfl dX8_named_15 ?_
    refine x_bipush M dX8_named_18 rfl ?_
    refine x_iload_n M hl0 dX8_named_20 1 rfl ?_
    obtain ⟨g11, hf⟩ := gdt hf
    refine x_iadd M dX8_named_21 ?_
    obtain ⟨g12, hf⟩ := gdt hf
    refine x_iald (c0 := 22) (t0 := 0) M hS10 (by decide) (hs_22 G _) rfl g12 (by decide) dX8_named_22 ?_
    obtain ⟨r13, w14, hc15, hf⟩ := bdt hf
    refine x_callVv (c0 := 21) (t0 := 0) (As := [iV (w7 22 0 (9 + x1).toNat)]) (rest := []) M hl0 hS10 (c_X8_leads l  (hS10.inr _ _ _) hc15) (cwV 1 M.2.2.2.2.1 gX8_named_X8_leads rfl rfl rfl (by decide +kernel) ⟨Nat.le_of_ble_eq_true rfl, Nat.le_of_ble_eq_true rfl⟩) (by decide) (sE_21 G _ _) rfl rfl (Nat.le_of_ble_eq_true rfl) dX8_named_23 rfl ⟨Nat.zero_le _, Nat.zero_le _⟩ (fun H locs hS17 => ?_)
    refine x_aload_n M hl0 dX8_named_26 0 rfl ?_
    obtain ⟨r18, w19, hc20, hf⟩ := bdt hf
    refine x_callVv (c0 := 21) (t0 := 0) (As := []) (rest := []) M hl0 hS17 (c_X8_reaches l   hc20) (cwV 0 M.2.2.2.2.1 gX8_named_X8_reaches rfl rfl rfl (by decide +kernel) ⟨Nat.le_of_ble_eq_true rfl, Nat.le_of_ble_eq_true rfl⟩) (by decide) (sE_21 G _ _) rfl rfl (Nat.le_of_ble_eq_true rfl) dX8_named_27 rfl ⟨Nat.zero_le _, Nat.zero_le _⟩ (fun H locs hS22 => ?_)
    refine x_iconst M dX8_named_30 ?_
    refine x_istore_n M hl0 dX8_named_31 (by decide) [(2, iV 0), (0, .ref (G.1 21 0)), (1, iV x1)] rfl (fun ls hl23 => ?_)
    refine x_iconst M dX8_named_32 ?_
    refine x_istore_n M hl23 dX8_named_33 (by decide) [(3, iV 0), (2, iV 0), (0, .ref (G.1 21 0)), (1, iV x1)] rfl (fun ls hl24 => ?_)
    exact X8_named_b34_ok M hr LF 0 0 w19 ⟨by decide, by decide⟩ ⟨by decide, by decide⟩ _ _ hS22 _ (lv_sub hl24 [2, 1, 0] rfl) _ _ hf
  · have hf := ift hf (Decidable.of_not_not hc)
    refine x_iconst M dX8_named_7 ?_
    exact x_iret M hr hf hS5 ⟨by decide, by decide⟩ dX8_named_8

/-! X8_garbage -/
theorem flX8_garbage_25 : Cond.fieldLink RX8 25 "NamedMovesModel" "isReached" "[Z" ∈ wsX8_garbage := by decide +kernel
theorem flX8_garbage_7 : Cond.fieldLink RX8 7 "NamedMovesModel" "s" "[I" ∈ wsX8_garbage := by decide +kernel
theorem inX8_garbage_X8 : ∀ w ∈ u_ws RX8 TX8 12, w ∈ wsX8_garbage := by decide +kernel
set_option maxHeartbeats 4000000 in
set_option maxRecDepth 100000 in
theorem X8_garbage_b39_ok (M : MC p s m args meth c cX8_garbage 3 RX8 wsX8_garbage G) (hr : meth.sig.returnType = (some .int)) : ∀ n : Nat, ∀ x1 : Int, ∀ x2 : Int, ∀ w : Wd, InR x1 → InR x2 → ∀ (H : Heap) (locs : List Loc), ST G s w H locs → ∀ ls : Array Slot, lv_has ls 3 [(0, .ref (G.1 21 0)), (1, iV x1), (2, iV x2)] → ∀ (r : Int) (w' : Wd), X8_garbage_b39 n x1 x2 w = some (r, w') → W p l e (rmk 3) s m args below meth c H locs 0 0 (MQ below (QiG G r w') args s 0 0 (GA G)) (F0 m 39 ls []) := by
  intro n
  induction n with
  | zero =>
    intro x1 x2 w hx1 hx2 H locs hS0 ls hl0 r w' hf
    cases hf
  | succ n ih =>
    intro x1 x2 w hx1 hx2 H locs hS0 ls hl0 r w' hf
    rw [X8_garbage_b39_s] at hf
    refine x_iload_n M hl0 dX8_garbage_39 2 rfl ?_
    refine x_sipush M dX8_garbage_40 rfl ?_
    refine x_icmp_ge (tgt := 92) M hx2 ⟨by decide, by decide⟩ dX8_garbage_43 (by decide) (fun hc => ?_) (fun hc => ?_)
    · have hf := iff_ hf (Int.not_lt.mpr hc)
      refine x_iload_n M hl0 dX8_garbage_92 1 rfl ?_
      exact x_iret M hr hf hS0 hx1 dX8_garbage_93
    · have hf := ift hf (Int.not_le.mp hc)
      refine x_iload_n M hl0 dX8_garbage_46 1 rfl ?_
      refine x_aload_n M hl0 dX8_garbage_47 0 rfl ?_
      refine x_iload_n M hl0 dX8_garbage_48 2 rfl ?_
      obtain ⟨r14, w15, hc16, hf⟩ := bdt hf
      refine x_callVi (c0 := 21) (t0 := 0) (As := [iV x2]) (rest := [iV x1]) M hl0 hS0 (c_X8_isCopy l  hx2 hc16) (cwV 1 M.2.2.2.2.1 gX8_garbage_X8_isCopy rfl rfl rfl (by decide +kernel) ⟨Nat.le_of_ble_eq_true rfl, Nat.le_of_ble_eq_true rfl⟩) (by decide) (sE_21 G _ _) rfl rfl (Nat.le_of_ble_eq_true rfl) dX8_garbage_49 rfl ⟨Nat.zero_le _, Nat.zero_le _⟩ (fun H locs hi17 hS18 => ?_)
      refine x_if_eq (tgt := 83) M hi17 dX8_garbage_52 (by decide) (fun hc => ?_) (fun hc => ?_)
      · have hf := ift hf hc
        refine x_iconst M dX8_garbage_83 ?_
        obtain ⟨g19, hf⟩ := gdt hf
        refine x_iadd M dX8_garbage_84 ?_
        refine x_istore_n M hl0 dX8_garbage_85 (by decide) [(1, iV (x1 + 0)), (0, .ref (G.1 21 0)), (2, iV x2)] rfl (fun ls hl20 => ?_)
        obtain ⟨g21, hf⟩ := gdt hf
        refine x_iinc M hl20 dX8_garbage_86 2 rfl (by decide) [(2, iV (x2 + 1)), (1, iV (x1 + 0)), (0, .ref (G.1 21 0))] rfl (fun ls hl22 => ?_)
        refine x_goto (tgt := 39) M dX8_garbage_89 (by decide) ?_
        exact ih (x1 + 0) (x2 + 1) w15 g19 g21 _ _ hS18 _ (lv_sub hl22 [2, 1, 0] rfl) _ _ hf
      · have hf := iff_ hf hc
        refine x_aload_n M hl0 dX8_garbage_55 0 rfl ?_
        refine x_get (c0 := 21) (t0 := 0) (v := .ref (G.1 27 0)) M hS18 (by decide) (ref := "NamedMovesModel") inX8_garbage_X8 (sE_21 G _ _) rfl 9 (by decide) (M.2.2.2.2.1 _ flX8_garbage_25) rfl rfl dX8_garbage_56 ?_
        refine x_iload_n M hl0 dX8_garbage_59 2 rfl ?_
        obtain ⟨g23, hf⟩ := gdt hf
        refine x_zald (c0 := 27) (t0 := 0) M hS18 (by decide) (hs_27 G _) rfl g23 (by decide) dX8_garbage_60 ?_
        refine x_if_ne (tgt := 83) M (hS18.inr _ _ _) dX8_garbage_61 (by decide) (fun hc => ?_) (fun hc => ?_)
        · have hf := iff_ hf hc
          refine x_iconst M dX8_garbage_83 ?_
          obtain ⟨g24, hf⟩ := gdt hf
          refine x_iadd M dX8_garbage_84 ?_
          refine x_istore_n M hl0 dX8_garbage_85 (by decide) [(1, iV (x1 + 0)), (0, .ref (G.1 21 0)), (2, iV x2)] rfl (fun ls hl25 => ?_)
          obtain ⟨g26, hf⟩ := gdt hf
          refine x_iinc M hl25 dX8_garbage_86 2 rfl (by decide) [(2, iV (x2 + 1)), (1, iV (x1 + 0)), (0, .ref (G.1 21 0))] rfl (fun ls hl27 => ?_)
          refine x_goto (tgt := 39) M dX8_garbage_89 (by decide) ?_
          exact ih (x1 + 0) (x2 + 1) w15 g24 g26 _ _ hS18 _ (lv_sub hl27 [2, 1, 0] rfl) _ _ hf
        · have hf := ift hf (Decidable.of_not_not hc)
          refine x_aload_n M hl0 dX8_garbage_64 0 rfl ?_
          refine x_iload_n M hl0 dX8_garbage_65 2 rfl ?_
          refine x_iconst M dX8_garbage_66 ?_
          obtain ⟨r28, w29, hc30, hf⟩ := bdt hf
          refine x_callVi (c0 := 21) (t0 := 0) (As := [iV x2, iV 3]) (rest := [iV x1]) M hl0 hS18 (c_X8_ofCopy l  hx2 ⟨by decide, by decide⟩ hc30) (cwV 2 M.2.2.2.2.1 gX8_garbage_X8_ofCopy rfl rfl rfl (by decide +kernel) ⟨Nat.le_of_ble_eq_true rfl, Nat.le_of_ble_eq_true rfl⟩) (by decide) (sE_21 G _ _) rfl rfl (Nat.le_of_ble_eq_true rfl) dX8_garbage_67 rfl ⟨Nat.zero_le _, Nat.zero_le _⟩ (fun H locs hi31 hS32 => ?_)
          refine x_bipush M dX8_garbage_70 rfl ?_
          refine x_icmp_ne (tgt := 83) M hi31 ⟨by decide, by decide⟩ dX8_garbage_72 (by decide) (fun hc => ?_) (fun hc => ?_)
          · have hf := iff_ hf hc
            refine x_iconst M dX8_garbage_83 ?_
            obtain ⟨g33, hf⟩ := gdt hf
            refine x_iadd M dX8_garbage_84 ?_
            refine x_istore_n M hl0 dX8_garbage_85 (by decide) [(1, iV (x1 + 0)), (0, .ref (G.1 21 0)), (2, iV x2)] rfl (fun ls hl34 => ?_)
            obtain ⟨g35, hf⟩ := gdt hf
            refine x_iinc M hl34 dX8_garbage_86 2 rfl (by decide) [(2, iV (x2 + 1)), (1, iV (x1 + 0)), (0, .ref (G.1 21 0))] rfl (fun ls hl36 => ?_)
            refine x_goto (tgt := 39) M dX8_garbage_89 (by decide) ?_
            exact ih (x1 + 0) (x2 + 1) w29 g33 g35 _ _ hS32 _ (lv_sub hl36 [2, 1, 0] rfl) _ _ hf
          · have hf := ift hf (Decidable.of_not_not hc)
            refine x_aload_n M hl0 dX8_garbage_75 0 rfl ?_
            refine x_iload_n M hl0 dX8_garbage_76 2 rfl ?_
            obtain ⟨r37, w38, hc39, hf⟩ := bdt hf
            refine x_callVi (c0 := 21) (t0 := 0) (As := [iV x2]) (rest := [iV x1]) M hl0 hS32 (c_X8_sizeAt l  hx2 hc39) (cwV 1 M.2.2.2.2.1 gX8_garbage_X8_sizeAt rfl rfl rfl (by decide +kernel) ⟨Nat.le_of_ble_eq_true rfl, Nat.le_of_ble_eq_true rfl⟩) (by decide) (sE_21 G _ _) rfl rfl (Nat.le_of_ble_eq_true rfl) dX8_garbage_77 rfl ⟨Nat.zero_le _, Nat.zero_le _⟩ (fun H locs hi40 hS41 => ?_)
            refine x_goto (tgt := 84) M dX8_garbage_80 (by decide) ?_
            obtain ⟨g42, hf⟩ := gdt hf
            refine x_iadd M dX8_garbage_84 ?_
            refine x_istore_n M hl0 dX8_garbage_85 (by decide) [(1, iV (x1 + r37)), (0, .ref (G.1 21 0)), (2, iV x2)] rfl (fun ls hl43 => ?_)
            obtain ⟨g44, hf⟩ := gdt hf
            refine x_iinc M hl43 dX8_garbage_86 2 rfl (by decide) [(2, iV (x2 + 1)), (1, iV (x1 + r37)), (0, .ref (G.1 21 0))] rfl (fun ls hl45 => ?_)
            refine x_goto (tgt := 39) M dX8_garbage_89 (by decide) ?_
            exact ih (x1 + r37) (x2 + 1) w38 g42 g44 _ _ hS41 _ (lv_sub hl45 [2, 1, 0] rfl) _ _ hf

set_option maxHeartbeats 4000000 in
set_option maxRecDepth 100000 in
theorem X8_garbage_b6_ok (M : MC p s m args meth c cX8_garbage 3 RX8 wsX8_garbage G) (hr : meth.sig.returnType = (some .int)) : ∀ n : Nat, ∀ x1 : Int, ∀ w : Wd, InR x1 → ∀ (H : Heap) (locs : List Loc), ST G s w H locs → ∀ ls : Array Slot, lv_has ls 3 [(0, .ref (G.1 21 0)), (1, iV x1)] → ∀ (r : Int) (w' : Wd), X8_garbage_b6 n x1 w = some (r, w') → W p l e (rmk 3) s m args below meth c H locs 0 0 (MQ below (QiG G r w') args s 0 0 (GA G)) (F0 m 6 ls []) := by
  intro n
  induction n with
  | zero =>
    intro x1 w hx1 H locs hS0 ls hl0 r w' hf
    cases hf
  | succ n ih =>
    intro x1 w hx1 H locs hS0 ls hl0 r w' hf
    rw [X8_garbage_b6_s] at hf
    refine x_iload_n M hl0 dX8_garbage_6 1 rfl ?_
    refine x_bipush M dX8_garbage_7 rfl ?_
    refine x_icmp_ge (tgt := 31) M hx1 ⟨by decide, by decide⟩ dX8_garbage_9 (by decide) (fun hc => ?_) (fun hc => ?_)
    · have hf := iff_ hf (Int.not_lt.mpr hc)
      refine x_aload_n M hl0 dX8_garbage_31 0 rfl ?_
      obtain ⟨r7, w8, hc9, hf⟩ := bdt hf
      refine x_callVv (c0 := 21) (t0 := 0) (As := []) (rest := []) M hl0 hS0 (c_X8_reaches l   hc9) (cwV 0 M.2.2.2.2.1 gX8_garbage_X8_reaches rfl rfl rfl (by decide +kernel) ⟨Nat.le_of_ble_eq_true rfl, Nat.le_of_ble_eq_true rfl⟩) (by decide) (sE_21 G _ _) rfl rfl (Nat.le_of_ble_eq_true rfl) dX8_garbage_32 rfl ⟨Nat.zero_le _, Nat.zero_le _⟩ (fun H locs hS11 => ?_)
      refine x_iconst M dX8_garbage_35 ?_
      refine x_istore_n M hl0 dX8_garbage_36 (by decide) [(1, iV 0), (0, .ref (G.1 21 0))] rfl (fun ls hl12 => ?_)
      refine x_iconst M dX8_garbage_37 ?_
      refine x_istore_n M hl12 dX8_garbage_38 (by decide) [(2, iV 0), (1, iV 0), (0, .ref (G.1 21 0))] rfl (fun ls hl13 => ?_)
      exact X8_garbage_b39_ok M hr LF 0 0 w8 ⟨by decide, by decide⟩ ⟨by decide, by decide⟩ _ _ hS11 _ (lv_sub hl13 [2, 1, 0] rfl) _ _ hf
    · have hf := ift hf (Int.not_le.mp hc)
      refine x_aload_n M hl0 dX8_garbage_12 0 rfl ?_
      refine x_aload_n M hl0 dX8_garbage_13 0 rfl ?_
      refine x_get (c0 := 21) (t0 := 0) (v := .ref (G.1 22 0)) M hS0 (by decide) (ref := "NamedMovesModel") inX8_garbage_X8 (sE_21 G _ _) rfl 0 (by decide) (M.2.2.2.2.1 _ flX8_garbage_7) rfl rfl dX8_garbage_14 ?_
      refine x_bipush M dX8_garbage_17 rfl ?_
      refine x_iload_n M hl0 dX8_garbage_19 1 rfl ?_
      obtain ⟨g46, hf⟩ := gdt hf
      refine x_iadd M dX8_garbage_20 ?_
      obtain ⟨g47, hf⟩ := gdt hf
      refine x_iald (c0 := 22) (t0 := 0) M hS0 (by decide) (hs_22 G _) rfl g47 (by decide) dX8_garbage_21 ?_
      obtain ⟨r48, w49, hc50, hf⟩ := bdt hf
      refine x_callVv (c0 := 21) (t0 := 0) (As := [iV (w 22 0 (9 + x1).toNat)]) (rest := []) M hl0 hS0 (c_X8_leads l  (hS0.inr _ _ _) hc50) (cwV 1 M.2.2.2.2.1 gX8_garbage_X8_leads rfl rfl rfl (by decide +kernel) ⟨Nat.le_of_ble_eq_true rfl, Nat.le_of_ble_eq_true rfl⟩) (by decide) (sE_21 G _ _) rfl rfl (Nat.le_of_ble_eq_true rfl) dX8_garbage_22 rfl ⟨Nat.zero_le _, Nat.zero_le _⟩ (fun H locs hS52 => ?_)
      obtain ⟨g53, hf⟩ := gdt hf
      refine x_iinc M hl0 dX8_garbage_25 1 rfl (by decide) [(1, iV (x1 + 1)), (0, .ref (G.1 21 0))] rfl (fun ls hl54 => ?_)
      refine x_goto (tgt := 6) M dX8_garbage_28 (by decide) ?_
      exact ih (x1 + 1) w49 g53 _ _ hS52 _ (lv_sub hl54 [1, 0] rfl) _ _ hf

set_option maxHeartbeats 4000000 in
set_option maxRecDepth 100000 in
theorem c_X8_garbage (l : Launch) {G : GG} {w : Wd} {r : Int} {w' : Wd} (hf : X8_garbage w = some (r, w')) : Met l yX8_garbage wsX8_garbage (rmk 3) (PcG G w [.ref (G.1 21 0)]) (QiG G r w') 0 0 (GA G) := by
  refine met_of (own := RX8) (by decide) rfl (Nat.le_of_ble_eq_true rfl) rfl ?_
  intro p e s m args below meth c M hr ls hl0 hS0
  have hl0 : lv_has ls 3 [(0, .ref (G.1 21 0))] := hl0
  unfold X8_garbage at hf
  refine x_aload_n M hl0 dX8_garbage_0 0 rfl ?_
  obtain ⟨r1, w2, hc3, hf⟩ := bdt hf
  refine x_callVv (c0 := 21) (t0 := 0) (As := []) (rest := []) M hl0 hS0 (c_X8_forgets l   hc3) (cwV 0 M.2.2.2.2.1 gX8_garbage_X8_forgets rfl rfl rfl (by decide +kernel) ⟨Nat.le_of_ble_eq_true rfl, Nat.le_of_ble_eq_true rfl⟩) (by decide) (sE_21 G _ _) rfl rfl (Nat.le_of_ble_eq_true rfl) dX8_garbage_1 rfl ⟨Nat.zero_le _, Nat.zero_le _⟩ (fun H locs hS5 => ?_)
  refine x_iconst M dX8_garbage_4 ?_
  refine x_istore_n M hl0 dX8_garbage_5 (by decide) [(1, iV 0), (0, .ref (G.1 21 0))] rfl (fun ls hl6 => ?_)
  exact X8_garbage_b6_ok M hr LF 0 w2 ⟨by decide, by decide⟩ _ _ hS5 _ (lv_sub hl6 [1, 0] rfl) _ _ hf

/-! X8_stepsLeft -/
set_option maxHeartbeats 4000000 in
set_option maxRecDepth 100000 in
theorem c_X8_stepsLeft (l : Launch) {G : GG} {w : Wd} {r : Int} {w' : Wd} (hf : X8_stepsLeft w = some (r, w')) : Met l yX8_stepsLeft wsX8_stepsLeft (rmk 6) (PcG G w [.ref (G.1 21 0)]) (QiG G r w') 0 0 (GA G) := by
  refine met_of (own := RX8) (by decide) rfl (Nat.le_of_ble_eq_true rfl) rfl ?_
  intro p e s m args below meth c M hr ls hl0 hS0
  have hl0 : lv_has ls 2 [(0, .ref (G.1 21 0))] := hl0
  unfold X8_stepsLeft at hf
  refine x_aload_n M hl0 dX8_stepsLeft_0 0 rfl ?_
  obtain ⟨r1, w2, hc3, hf⟩ := bdt hf
  refine x_callVi (c0 := 21) (t0 := 0) (As := []) (rest := []) M hl0 hS0 (c_X8_isMoving l   hc3) (cwV 0 M.2.2.2.2.1 gX8_stepsLeft_X8_isMoving rfl rfl rfl (by decide +kernel) ⟨Nat.le_of_ble_eq_true rfl, Nat.le_of_ble_eq_true rfl⟩) (by decide) (sE_21 G _ _) rfl rfl (Nat.le_of_ble_eq_true rfl) dX8_stepsLeft_1 rfl ⟨Nat.zero_le _, Nat.zero_le _⟩ (fun H locs hi4 hS5 => ?_)
  refine x_if_ne (tgt := 10) M hi4 dX8_stepsLeft_4 (by decide) (fun hc => ?_) (fun hc => ?_)
  · have hf := iff_ hf hc
    refine x_aload_n M hl0 dX8_stepsLeft_10 0 rfl ?_
    obtain ⟨r6, w7, hc8, hf⟩ := bdt hf
    refine x_callVv (c0 := 21) (t0 := 0) (As := []) (rest := []) M hl0 hS5 (c_X8_holds l   hc8) (cwV 0 M.2.2.2.2.1 gX8_stepsLeft_X8_holds rfl rfl rfl (by decide +kernel) ⟨Nat.le_of_ble_eq_true rfl, Nat.le_of_ble_eq_true rfl⟩) (by decide) (sE_21 G _ _) rfl rfl (Nat.le_of_ble_eq_true rfl) dX8_stepsLeft_11 rfl ⟨Nat.zero_le _, Nat.zero_le _⟩ (fun H locs hS10 => ?_)
    refine x_aload_n M hl0 dX8_stepsLeft_14 0 rfl ?_
    obtain ⟨r11, w12, hc13, hf⟩ := bdt hf
    refine x_callVi (c0 := 21) (t0 := 0) (As := []) (rest := []) M hl0 hS10 (c_X8_stepsToEnd l   hc13) (cwV 0 M.2.2.2.2.1 gX8_stepsLeft_X8_stepsToEnd rfl rfl rfl (by decide +kernel) ⟨Nat.le_of_ble_eq_true rfl, Nat.le_of_ble_eq_true rfl⟩) (by decide) (sE_21 G _ _) rfl rfl (Nat.le_of_ble_eq_true rfl) dX8_stepsLeft_15 rfl ⟨Nat.zero_le _, Nat.zero_le _⟩ (fun H locs hi14 hS15 => ?_)
    refine x_istore_n M hl0 dX8_stepsLeft_18 (by decide) [(1, iV r11), (0, .ref (G.1 21 0))] rfl (fun ls hl16 => ?_)
    refine x_aload_n M hl16 dX8_stepsLeft_19 1 rfl ?_
    obtain ⟨r17, w18, hc19, hf⟩ := bdt hf
    refine x_callVv (c0 := 21) (t0 := 0) (As := []) (rest := []) M hl16 hS15 (c_X8_exchanges l   hc19) (cwV 0 M.2.2.2.2.1 gX8_stepsLeft_X8_exchanges rfl rfl rfl (by decide +kernel) ⟨Nat.le_of_ble_eq_true rfl, Nat.le_of_ble_eq_true rfl⟩) (by decide) (sE_21 G _ _) rfl rfl (Nat.le_of_ble_eq_true rfl) dX8_stepsLeft_20 rfl ⟨Nat.zero_le _, Nat.zero_le _⟩ (fun H locs hS21 => ?_)
    refine x_iload_n M hl16 dX8_stepsLeft_23 0 rfl ?_
    exact x_iret M hr hf hS21 hi14 dX8_stepsLeft_24
  · have hf := ift hf (Decidable.of_not_not hc)
    refine x_bipush M dX8_stepsLeft_7 rfl ?_
    exact x_iret M hr hf hS5 ⟨by decide, by decide⟩ dX8_stepsLeft_9

end
