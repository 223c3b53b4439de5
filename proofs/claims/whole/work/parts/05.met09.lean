section
variable {p : Program} {l : Launch} {e : Env} {s : State} {m : MethodId} {args : Array Value} {below : List Frame} {meth : Method} {c : Code} {G : GG}
/-! X8_carry -/
set_option maxHeartbeats 4000000 in
set_option maxRecDepth 100000 in
theorem X8_carry_b28_ok (M : MC p s m args meth c cX8_carry 3 RX8 wsX8_carry G) (hr : meth.sig.returnType = (some .int)) : ∀ n : Nat, ∀ x1 : Int, ∀ x2 : Int, ∀ w : Wd, InR x1 → InR x2 → ∀ (H : Heap) (locs : List Loc), ST G s w H locs → ∀ ls : Array Slot, lv_has ls 3 [(0, .ref (G.1 21 0)), (1, iV x1), (2, iV x2)] → ∀ (r : Int) (w' : Wd), X8_carry_b28 n x1 x2 w = some (r, w') → W p l e (rmk 5) s m args below meth c H locs 0 0 (MQ below (QiG G r w') args s 0 0 (GA G)) (F0 m 28 ls []) := by
  intro n
  induction n with
  | zero =>
    intro x1 x2 w hx1 hx2 H locs hS0 ls hl0 r w' hf
    cases hf
  | succ n ih =>
    intro x1 x2 w hx1 hx2 H locs hS0 ls hl0 r w' hf
    rw [X8_carry_b28_s] at hf
    refine x_aload_n M hl0 dX8_carry_28 0 rfl ?_
    obtain ⟨r17, w18, hc19, hf⟩ := bdt hf
    refine x_callVi (c0 := 21) (t0 := 0) (As := []) (rest := []) M hl0 hS0 (c_X8_isMoving l   hc19) (cwV 0 M.2.2.2.2.1 gX8_carry_X8_isMoving rfl rfl rfl (by decide +kernel) ⟨Nat.le_of_ble_eq_true rfl, Nat.le_of_ble_eq_true rfl⟩) (by decide) (sE_21 G _ _) rfl rfl (Nat.le_of_ble_eq_true rfl) dX8_carry_29 rfl ⟨Nat.zero_le _, Nat.zero_le _⟩ (fun H locs hi20 hS21 => ?_)
    refine x_if_eq (tgt := 50) M hi20 dX8_carry_32 (by decide) (fun hc => ?_) (fun hc => ?_)
    · have hf := ift hf hc
      refine x_iload_n M hl0 dX8_carry_50 2 rfl ?_
      exact x_iret M hr hf hS21 hx2 dX8_carry_51
    · have hf := iff_ hf hc
      refine x_iload_n M hl0 dX8_carry_35 2 rfl ?_
      refine x_iload_n M hl0 dX8_carry_36 1 rfl ?_
      refine x_icmp_ge (tgt := 50) M hx2 hx1 dX8_carry_37 (by decide) (fun hc => ?_) (fun hc => ?_)
      · have hf := iff_ hf (Int.not_lt.mpr hc)
        refine x_iload_n M hl0 dX8_carry_50 2 rfl ?_
        exact x_iret M hr hf hS21 hx2 dX8_carry_51
      · have hf := ift hf (Int.not_le.mp hc)
        refine x_aload_n M hl0 dX8_carry_40 0 rfl ?_
        obtain ⟨r22, w23, hc24, hf⟩ := bdt hf
        refine x_callVv (c0 := 21) (t0 := 0) (As := []) (rest := []) M hl0 hS21 (c_X8_steps l   hc24) (cwV 0 M.2.2.2.2.1 gX8_carry_X8_steps rfl rfl rfl (by decide +kernel) ⟨Nat.le_of_ble_eq_true rfl, Nat.le_of_ble_eq_true rfl⟩) (by decide) (sE_21 G _ _) rfl rfl (Nat.le_of_ble_eq_true rfl) dX8_carry_41 rfl ⟨Nat.zero_le _, Nat.zero_le _⟩ (fun H locs hS26 => ?_)
        obtain ⟨g27, hf⟩ := gdt hf
        refine x_iinc M hl0 dX8_carry_44 2 rfl (by decide) [(2, iV (x2 + 1)), (0, .ref (G.1 21 0)), (1, iV x1)] rfl (fun ls hl28 => ?_)
        refine x_goto (tgt := 28) M dX8_carry_47 (by decide) ?_
        exact ih x1 (x2 + 1) w23 hx1 g27 _ _ hS26 _ (lv_sub hl28 [1, 2, 0] rfl) _ _ hf

set_option maxHeartbeats 4000000 in
set_option maxRecDepth 100000 in
theorem c_X8_carry (l : Launch) {G : GG} {x1 : Int} (hx1 : InR x1) {w : Wd} {r : Int} {w' : Wd} (hf : X8_carry x1 w = some (r, w')) : Met l yX8_carry wsX8_carry (rmk 5) (PcG G w [.ref (G.1 21 0), iV x1]) (QiG G r w') 0 0 (GA G) := by
  refine met_of (own := RX8) (by decide) rfl (Nat.le_of_ble_eq_true rfl) rfl ?_
  intro p e s m args below meth c M hr ls hl0 hS0
  have hl0 : lv_has ls 3 [(0, .ref (G.1 21 0)), (1, iV x1)] := hl0
  unfold X8_carry at hf
  refine x_iload_n M hl0 dX8_carry_0 1 rfl ?_
  refine x_iconst M dX8_carry_1 ?_
  refine x_bipush M dX8_carry_2 rfl ?_
  obtain ⟨r1, w2, hc3, hf⟩ := bdt hf
  refine x_callSi (As := [iV x1, iV 1, iV 99]) (rest := []) M hl0 hS0 (c_X8_in l  hx1 ⟨by decide, by decide⟩ ⟨by decide, by decide⟩ hc3) (va_cwS 3 M.2.2.2.2.1 gX8_carry_X8_in rfl rfl rfl (by decide +kernel) ⟨Nat.le_of_ble_eq_true rfl, Nat.le_of_ble_eq_true rfl⟩) rfl (Nat.le_of_ble_eq_true rfl) dX8_carry_4 rfl ⟨Nat.zero_le _, Nat.zero_le _⟩ (fun H locs hi4 hS5 => ?_)
  refine x_if_ne (tgt := 12) M hi4 dX8_carry_7 (by decide) (fun hc => ?_) (fun hc => ?_)
  · have hf := iff_ hf hc
    refine x_aload_n M hl0 dX8_carry_12 0 rfl ?_
    obtain ⟨r6, w7, hc8, hf⟩ := bdt hf
    refine x_callVi (c0 := 21) (t0 := 0) (As := []) (rest := []) M hl0 hS5 (c_X8_isMoving l   hc8) (cwV 0 M.2.2.2.2.1 gX8_carry_X8_isMoving rfl rfl rfl (by decide +kernel) ⟨Nat.le_of_ble_eq_true rfl, Nat.le_of_ble_eq_true rfl⟩) (by decide) (sE_21 G _ _) rfl rfl (Nat.le_of_ble_eq_true rfl) dX8_carry_13 rfl ⟨Nat.zero_le _, Nat.zero_le _⟩ (fun H locs hi9 hS10 => ?_)
    refine x_if_ne (tgt := 22) M hi9 dX8_carry_16 (by decide) (fun hc => ?_) (fun hc => ?_)
    · have hf := iff_ hf hc
      refine x_aload_n M hl0 dX8_carry_22 0 rfl ?_
      obtain ⟨r11, w12, hc13, hf⟩ := bdt hf
      refine x_callVv (c0 := 21) (t0 := 0) (As := []) (rest := []) M hl0 hS10 (c_X8_acts l   hc13) (cwV 0 M.2.2.2.2.1 gX8_carry_X8_acts rfl rfl rfl (by decide +kernel) ⟨Nat.le_of_ble_eq_true rfl, Nat.le_of_ble_eq_true rfl⟩) (by decide) (sE_21 G _ _) rfl rfl (Nat.le_of_ble_eq_true rfl) dX8_carry_23 rfl ⟨Nat.zero_le _, Nat.zero_le _⟩ (fun H locs hS15 => ?_)
      refine x_iconst M dX8_carry_26 ?_
      refine x_istore_n M hl0 dX8_carry_27 (by decide) [(2, iV 0), (0, .ref (G.1 21 0)), (1, iV x1)] rfl (fun ls hl16 => ?_)
      exact X8_carry_b28_ok M hr LF x1 0 w12 hx1 ⟨by decide, by decide⟩ _ _ hS15 _ (lv_sub hl16 [1, 2, 0] rfl) _ _ hf
    · have hf := ift hf (Decidable.of_not_not hc)
      refine x_bipush M dX8_carry_19 rfl ?_
      exact x_iret M hr hf hS10 ⟨by decide, by decide⟩ dX8_carry_21
  · have hf := ift hf (Decidable.of_not_not hc)
    refine x_iconst M dX8_carry_10 ?_
    exact x_iret M hr hf hS5 ⟨by decide, by decide⟩ dX8_carry_11

/-! X8_noted -/
set_option maxHeartbeats 4000000 in
set_option maxRecDepth 100000 in
theorem X8_noted_b6_ok (M : MC p s m args meth c cX8_noted 5 RX8 wsX8_noted G) (hr : meth.sig.returnType = (some .int)) : ∀ n : Nat, ∀ x1 : Int, ∀ x2 : Int, ∀ x3 : Int, ∀ w : Wd, InR x1 → InR x2 → InR x3 → ∀ (H : Heap) (locs : List Loc), ST G s w H locs → ∀ ls : Array Slot, lv_has ls 5 [(0, .ref (G.1 21 0)), (1, iV x1), (2, iV x2), (3, iV x3)] → ∀ (r : Int) (w' : Wd), X8_noted_b6 n x1 x2 x3 w = some (r, w') → W p l e (rmk 1) s m args below meth c H locs 0 0 (MQ below (QiG G r w') args s 0 0 (GA G)) (F0 m 6 ls []) := by
  intro n
  induction n with
  | zero =>
    intro x1 x2 x3 w hx1 hx2 hx3 H locs hS0 ls hl0 r w' hf
    cases hf
  | succ n ih =>
    intro x1 x2 x3 w hx1 hx2 hx3 H locs hS0 ls hl0 r w' hf
    rw [X8_noted_b6_s] at hf
    refine x_iload_n M hl0 dX8_noted_6 3 rfl ?_
    refine x_if_lt (tgt := 59) M hx3 dX8_noted_7 (by decide) (fun hc => ?_) (fun hc => ?_)
    · have hf := ift hf hc
      refine x_iload_n M hl0 dX8_noted_59 2 rfl ?_
      exact x_iret M hr hf hS0 hx2 dX8_noted_60
    · have hf := iff_ hf hc
      refine x_bipush M dX8_noted_10 rfl ?_
      refine x_aload_n M hl0 dX8_noted_12 0 rfl ?_
      obtain ⟨r3, w4, hc5, hf⟩ := bdt hf
      refine x_callVi (c0 := 21) (t0 := 0) (As := []) (rest := [iV 64]) M hl0 hS0 (c_X8_old l   hc5) (cwV 0 M.2.2.2.2.1 gX8_noted_X8_old rfl rfl rfl (by decide +kernel) ⟨Nat.le_of_ble_eq_true rfl, Nat.le_of_ble_eq_true rfl⟩) (by decide) (sE_21 G _ _) rfl rfl (Nat.le_of_ble_eq_true rfl) dX8_noted_13 rfl ⟨Nat.zero_le _, Nat.zero_le _⟩ (fun H locs hi6 hS7 => ?_)
      obtain ⟨g8, hf⟩ := gdt hf
      refine x_imul M dX8_noted_16 ?_
      refine x_iload_n M hl0 dX8_noted_17 3 rfl ?_
      obtain ⟨g9, hf⟩ := gdt hf
      refine x_iadd M dX8_noted_18 ?_
      refine x_istore M hl0 dX8_noted_19 (by decide) [(4, iV ((64 * r3) + x3)), (0, .ref (G.1 21 0)), (1, iV x1), (2, iV x2), (3, iV x3)] rfl (fun ls hl10 => ?_)
      refine x_aload_n M hl10 dX8_noted_21 1 rfl ?_
      refine x_iload M hl10 dX8_noted_22 0 rfl ?_
      refine x_iconst M dX8_noted_24 ?_
      obtain ⟨r11, w12, hc13, hf⟩ := bdt hf
      refine x_callVi (c0 := 21) (t0 := 0) (As := [iV ((64 * r3) + x3), iV 0]) (rest := []) M hl10 hS7 (c_X8_ofCopy l  g9 ⟨by decide, by decide⟩ hc13) (cwV 2 M.2.2.2.2.1 gX8_noted_X8_ofCopy rfl rfl rfl (by decide +kernel) ⟨Nat.le_of_ble_eq_true rfl, Nat.le_of_ble_eq_true rfl⟩) (by decide) (sE_21 G _ _) rfl rfl (Nat.le_of_ble_eq_true rfl) dX8_noted_25 rfl ⟨Nat.zero_le _, Nat.zero_le _⟩ (fun H locs hi14 hS15 => ?_)
      refine x_iload_n M hl10 dX8_noted_28 2 rfl ?_
      refine x_iconst M dX8_noted_29 ?_
      obtain ⟨g16, hf⟩ := gdt hf
      refine x_iadd M dX8_noted_30 ?_
      refine x_icmp_ne (tgt := 51) M hi14 g16 dX8_noted_31 (by decide) (fun hc => ?_) (fun hc => ?_)
      · have hf := iff_ hf hc
        refine x_iload_n M hl10 dX8_noted_51 3 rfl ?_
        refine x_istore_n M hl10 dX8_noted_52 (by decide) [(2, iV x2), (4, iV ((64 * r3) + x3)), (0, .ref (G.1 21 0)), (1, iV x1), (3, iV x3)] rfl (fun ls hl17 => ?_)
        obtain ⟨g18, hf⟩ := gdt hf
        refine x_iinc M hl17 dX8_noted_53 4 rfl (by decide) [(3, iV (x3 + (-1))), (2, iV x2), (4, iV ((64 * r3) + x3)), (0, .ref (G.1 21 0)), (1, iV x1)] rfl (fun ls hl19 => ?_)
        refine x_goto (tgt := 6) M dX8_noted_56 (by decide) ?_
        exact ih x1 x2 (x3 + (-1)) w12 hx1 hx2 g18 _ _ hS15 _ (lv_sub hl19 [3, 4, 1, 0] rfl) _ _ hf
      · have hf := ift hf (Decidable.of_not_not hc)
        refine x_aload_n M hl10 dX8_noted_34 1 rfl ?_
        refine x_iload M hl10 dX8_noted_35 0 rfl ?_
        refine x_iconst M dX8_noted_37 ?_
        obtain ⟨r20, w21, hc22, hf⟩ := bdt hf
        refine x_callVi (c0 := 21) (t0 := 0) (As := [iV ((64 * r3) + x3), iV 3]) (rest := []) M hl10 hS15 (c_X8_ofCopy l  g9 ⟨by decide, by decide⟩ hc22) (cwV 2 M.2.2.2.2.1 gX8_noted_X8_ofCopy rfl rfl rfl (by decide +kernel) ⟨Nat.le_of_ble_eq_true rfl, Nat.le_of_ble_eq_true rfl⟩) (by decide) (sE_21 G _ _) rfl rfl (Nat.le_of_ble_eq_true rfl) dX8_noted_38 rfl ⟨Nat.zero_le _, Nat.zero_le _⟩ (fun H locs hi23 hS24 => ?_)
        refine x_bipush M dX8_noted_41 rfl ?_
        refine x_icmp_eq (tgt := 51) M hi23 ⟨by decide, by decide⟩ dX8_noted_43 (by decide) (fun hc => ?_) (fun hc => ?_)
        · have hf := ift hf hc
          refine x_iload_n M hl10 dX8_noted_51 3 rfl ?_
          refine x_istore_n M hl10 dX8_noted_52 (by decide) [(2, iV x2), (4, iV ((64 * r3) + x3)), (0, .ref (G.1 21 0)), (1, iV x1), (3, iV x3)] rfl (fun ls hl25 => ?_)
          obtain ⟨g26, hf⟩ := gdt hf
          refine x_iinc M hl25 dX8_noted_53 4 rfl (by decide) [(3, iV (x3 + (-1))), (2, iV x2), (4, iV ((64 * r3) + x3)), (0, .ref (G.1 21 0)), (1, iV x1)] rfl (fun ls hl27 => ?_)
          refine x_goto (tgt := 6) M dX8_noted_56 (by decide) ?_
          exact ih x1 x2 (x3 + (-1)) w21 hx1 hx2 g26 _ _ hS24 _ (lv_sub hl27 [3, 4, 1, 0] rfl) _ _ hf
        · have hf := iff_ hf hc
          refine x_iload M hl10 dX8_noted_46 0 rfl ?_
          refine x_goto (tgt := 52) M dX8_noted_48 (by decide) ?_
          refine x_istore_n M hl10 dX8_noted_52 (by decide) [(2, iV ((64 * r3) + x3)), (4, iV ((64 * r3) + x3)), (0, .ref (G.1 21 0)), (1, iV x1), (3, iV x3)] rfl (fun ls hl28 => ?_)
          obtain ⟨g29, hf⟩ := gdt hf
          refine x_iinc M hl28 dX8_noted_53 4 rfl (by decide) [(3, iV (x3 + (-1))), (2, iV ((64 * r3) + x3)), (4, iV ((64 * r3) + x3)), (0, .ref (G.1 21 0)), (1, iV x1)] rfl (fun ls hl30 => ?_)
          refine x_goto (tgt := 6) M dX8_noted_56 (by decide) ?_
          exact ih x1 ((64 * r3) + x3) (x3 + (-1)) w21 hx1 g9 g29 _ _ hS24 _ (lv_sub hl30 [3, 4, 1, 0] rfl) _ _ hf

set_option maxHeartbeats 4000000 in
set_option maxRecDepth 100000 in
theorem c_X8_noted (l : Launch) {G : GG} {x1 : Int} (hx1 : InR x1) {w : Wd} {r : Int} {w' : Wd} (hf : X8_noted x1 w = some (r, w')) : Met l yX8_noted wsX8_noted (rmk 1) (PcG G w [.ref (G.1 21 0), iV x1]) (QiG G r w') 0 0 (GA G) := by
  refine met_of (own := RX8) (by decide) rfl (Nat.le_of_ble_eq_true rfl) rfl ?_
  intro p e s m args below meth c M hr ls hl0 hS0
  have hl0 : lv_has ls 5 [(0, .ref (G.1 21 0)), (1, iV x1)] := hl0
  unfold X8_noted at hf
  refine x_bipush M dX8_noted_0 rfl ?_
  refine x_istore_n M hl0 dX8_noted_2 (by decide) [(2, iV ((-9))), (0, .ref (G.1 21 0)), (1, iV x1)] rfl (fun ls hl1 => ?_)
  refine x_bipush M dX8_noted_3 rfl ?_
  refine x_istore_n M hl1 dX8_noted_5 (by decide) [(3, iV 63), (2, iV ((-9))), (0, .ref (G.1 21 0)), (1, iV x1)] rfl (fun ls hl2 => ?_)
  exact X8_noted_b6_ok M hr LF x1 ((-9)) 63 w hx1 ⟨by decide, by decide⟩ ⟨by decide, by decide⟩ _ _ hS0 _ (lv_sub hl2 [2, 3, 1, 0] rfl) _ _ hf

/-! X8_lose -/
theorem flX8_lose_7 : Cond.fieldLink RX8 7 "NamedMovesModel" "s" "[I" ∈ wsX8_lose := by decide +kernel
theorem inX8_lose_X8 : ∀ w ∈ u_ws RX8 TX8 12, w ∈ wsX8_lose := by decide +kernel
set_option maxHeartbeats 4000000 in
set_option maxRecDepth 100000 in
theorem X8_lose_b27_ok (M : MC p s m args meth c cX8_lose 3 RX8 wsX8_lose G) (hr : meth.sig.returnType = (some .int)) : ∀ x1 : Int, ∀ s0 : Int, ∀ w : Wd, InR x1 → InR s0 → ∀ (H : Heap) (locs : List Loc), ST G s w H locs → ∀ ls : Array Slot, lv_has ls 3 [(0, .ref (G.1 21 0)), (1, iV x1)] → ∀ (r : Int) (w' : Wd), X8_lose_b27 x1 s0 w = some (r, w') → W p l e (rmk 4) s m args below meth c H locs 0 0 (MQ below (QiG G r w') args s 0 0 (GA G)) (F0 m 27 ls [iV s0]) := by
  intro x1 s0 w hx1 hs0 H locs hS0 ls hl0 r w' hf
  unfold X8_lose_b27 at hf
  refine x_istore_n M hl0 dX8_lose_27 (by decide) [(2, iV s0), (0, .ref (G.1 21 0)), (1, iV x1)] rfl (fun ls hl11 => ?_)
  refine x_iload_n M hl11 dX8_lose_28 0 rfl ?_
  refine x_bipush M dX8_lose_29 rfl ?_
  refine x_icmp_ne (tgt := 37) M hs0 ⟨by decide, by decide⟩ dX8_lose_31 (by decide) (fun hc => ?_) (fun hc => ?_)
  · have hf := iff_ hf hc
    refine x_aload_n M hl11 dX8_lose_37 1 rfl ?_
    refine x_aload_n M hl11 dX8_lose_38 1 rfl ?_
    refine x_get (c0 := 21) (t0 := 0) (v := .ref (G.1 22 0)) M hS0 (by decide) (ref := "NamedMovesModel") inX8_lose_X8 (sE_21 G _ _) rfl 0 (by decide) (M.2.2.2.2.1 _ flX8_lose_7) rfl rfl dX8_lose_39 ?_
    refine x_iconst M dX8_lose_42 ?_
    refine x_iald (c0 := 22) (t0 := 0) M hS0 (by decide) (hs_22 G _) rfl ⟨by decide, by decide⟩ (by decide) dX8_lose_43 ?_
    obtain ⟨r12, w13, hc14, hf⟩ := bdt hf
    refine x_callVi (c0 := 21) (t0 := 0) (As := [iV (w 22 0 3)]) (rest := []) M hl11 hS0 (c_X8_free l  (hS0.inr _ _ _) hc14) (cwV 1 M.2.2.2.2.1 gX8_lose_X8_free rfl rfl rfl (by decide +kernel) ⟨Nat.le_of_ble_eq_true rfl, Nat.le_of_ble_eq_true rfl⟩) (by decide) (sE_21 G _ _) rfl rfl (Nat.le_of_ble_eq_true rfl) dX8_lose_44 rfl ⟨Nat.zero_le _, Nat.zero_le _⟩ (fun H locs hi15 hS16 => ?_)
    refine x_aload_n M hl11 dX8_lose_47 1 rfl ?_
    obtain ⟨r17, w18, hc19, hf⟩ := bdt hf
    refine x_callVi (c0 := 21) (t0 := 0) (As := []) (rest := [iV r12]) M hl11 hS16 (c_X8_kept l   hc19) (cwV 0 M.2.2.2.2.1 gX8_lose_X8_kept rfl rfl rfl (by decide +kernel) ⟨Nat.le_of_ble_eq_true rfl, Nat.le_of_ble_eq_true rfl⟩) (by decide) (sE_21 G _ _) rfl rfl (Nat.le_of_ble_eq_true rfl) dX8_lose_48 rfl ⟨Nat.zero_le _, Nat.zero_le _⟩ (fun H locs hi20 hS21 => ?_)
    refine x_aload_n M hl11 dX8_lose_51 1 rfl ?_
    refine x_get (c0 := 21) (t0 := 0) (v := .ref (G.1 22 0)) M hS21 (by decide) (ref := "NamedMovesModel") inX8_lose_X8 (sE_21 G _ _) rfl 0 (by decide) (M.2.2.2.2.1 _ flX8_lose_7) rfl rfl dX8_lose_52 ?_
    refine x_bipush M dX8_lose_55 rfl ?_
    refine x_iload_n M hl11 dX8_lose_57 2 rfl ?_
    obtain ⟨g22, hf⟩ := gdt hf
    refine x_iadd M dX8_lose_58 ?_
    obtain ⟨g23, hf⟩ := gdt hf
    refine x_iald (c0 := 22) (t0 := 0) M hS21 (by decide) (hs_22 G _) rfl g23 (by decide) dX8_lose_59 ?_
    obtain ⟨g24, hf⟩ := gdt hf
    refine x_iadd M dX8_lose_60 ?_
    refine x_icmp_ge (tgt := 67) M hi15 g24 dX8_lose_61 (by decide) (fun hc => ?_) (fun hc => ?_)
    · have hf := iff_ hf (Int.not_lt.mpr hc)
      refine x_aload_n M hl11 dX8_lose_67 1 rfl ?_
      obtain ⟨r25, w26, hc27, hf⟩ := bdt hf
      refine x_callVv (c0 := 21) (t0 := 0) (As := []) (rest := []) M hl11 hS21 (c_X8_acts l   hc27) (cwV 0 M.2.2.2.2.1 gX8_lose_X8_acts rfl rfl rfl (by decide +kernel) ⟨Nat.le_of_ble_eq_true rfl, Nat.le_of_ble_eq_true rfl⟩) (by decide) (sE_21 G _ _) rfl rfl (Nat.le_of_ble_eq_true rfl) dX8_lose_68 rfl ⟨Nat.zero_le _, Nat.zero_le _⟩ (fun H locs hS29 => ?_)
      refine x_aload_n M hl11 dX8_lose_71 1 rfl ?_
      refine x_get (c0 := 21) (t0 := 0) (v := .ref (G.1 22 0)) M hS29 (by decide) (ref := "NamedMovesModel") inX8_lose_X8 (sE_21 G _ _) rfl 0 (by decide) (M.2.2.2.2.1 _ flX8_lose_7) rfl rfl dX8_lose_72 ?_
      refine x_sipush M dX8_lose_75 rfl ?_
      refine x_iconst M dX8_lose_78 ?_
      refine x_iload_n M hl11 dX8_lose_79 0 rfl ?_
      obtain ⟨g30, hf⟩ := gdt hf
      refine x_imul M dX8_lose_80 ?_
      obtain ⟨g31, hf⟩ := gdt hf
      refine x_iadd M dX8_lose_81 ?_
      refine x_iconst M dX8_lose_82 ?_
      obtain ⟨g32, hf⟩ := gdt hf
      refine x_iadd M dX8_lose_83 ?_
      refine x_bipush M dX8_lose_84 rfl ?_
      obtain ⟨g33, hf⟩ := gdt hf
      refine x_iast (c0 := 22) (t0 := 0) M hS29 (by decide) (hs_22 G _) rfl g33 (by decide) ⟨by decide, by decide⟩ dX8_lose_86 (fun H locs hS34 => ?_)
      refine x_aload_n M hl11 dX8_lose_87 1 rfl ?_
      refine x_get (c0 := 21) (t0 := 0) (v := .ref (G.1 22 0)) M hS34 (by decide) (ref := "NamedMovesModel") inX8_lose_X8 (sE_21 G _ _) rfl 0 (by decide) (M.2.2.2.2.1 _ flX8_lose_7) rfl rfl dX8_lose_88 ?_
      refine x_bipush M dX8_lose_91 rfl ?_
      refine x_dup2 M dX8_lose_93 rfl rfl ?_
      refine x_iald (c0 := 22) (t0 := 0) M hS34 (by decide) (hs_22 G _) rfl ⟨by decide, by decide⟩ (by decide) dX8_lose_94 ?_
      refine x_iconst M dX8_lose_95 ?_
      obtain ⟨g35, hf⟩ := gdt hf
      refine x_iadd M dX8_lose_96 ?_
      refine x_iast (c0 := 22) (t0 := 0) M hS34 (by decide) (hs_22 G _) rfl ⟨by decide, by decide⟩ (by decide) g35 dX8_lose_97 (fun H locs hS36 => ?_)
      refine x_iload_n M hl11 dX8_lose_98 0 rfl ?_
      obtain ⟨r37, w38, hc39, hf⟩ := bdt hf
      refine x_callSi (As := [iV s0]) (rest := []) M hl11 hS36 (c_X8_address l  hs0 hc39) (va_cwS 1 M.2.2.2.2.1 gX8_lose_X8_address rfl rfl rfl (by decide +kernel) ⟨Nat.le_of_ble_eq_true rfl, Nat.le_of_ble_eq_true rfl⟩) rfl (Nat.le_of_ble_eq_true rfl) dX8_lose_99 rfl ⟨Nat.zero_le _, Nat.zero_le _⟩ (fun H locs hi40 hS41 => ?_)
      exact x_iret M hr hf hS41 hi40 dX8_lose_102
    · have hf := ift hf (Int.not_le.mp hc)
      refine x_bipush M dX8_lose_64 rfl ?_
      exact x_iret M hr hf hS21 ⟨by decide, by decide⟩ dX8_lose_66
  · have hf := ift hf (Decidable.of_not_not hc)
    refine x_bipush M dX8_lose_34 rfl ?_
    exact x_iret M hr hf hS0 ⟨by decide, by decide⟩ dX8_lose_36

set_option maxHeartbeats 4000000 in
set_option maxRecDepth 100000 in
theorem c_X8_lose (l : Launch) {G : GG} {x1 : Int} (hx1 : InR x1) {w : Wd} {r : Int} {w' : Wd} (hf : X8_lose x1 w = some (r, w')) : Met l yX8_lose wsX8_lose (rmk 4) (PcG G w [.ref (G.1 21 0), iV x1]) (QiG G r w') 0 0 (GA G) := by
  refine met_of (own := RX8) (by decide) rfl (Nat.le_of_ble_eq_true rfl) rfl ?_
  intro p e s m args below meth c M hr ls hl0 hS0
  have hl0 : lv_has ls 3 [(0, .ref (G.1 21 0)), (1, iV x1)] := hl0
  unfold X8_lose at hf
  refine x_aload_n M hl0 dX8_lose_0 0 rfl ?_
  refine x_iload_n M hl0 dX8_lose_1 1 rfl ?_
  obtain ⟨r1, w2, hc3, hf⟩ := bdt hf
  refine x_callVi (c0 := 21) (t0 := 0) (As := [iV x1]) (rest := []) M hl0 hS0 (c_X8_isThing l  hx1 hc3) (cwV 1 M.2.2.2.2.1 gX8_lose_X8_isThing rfl rfl rfl (by decide +kernel) ⟨Nat.le_of_ble_eq_true rfl, Nat.le_of_ble_eq_true rfl⟩) (by decide) (sE_21 G _ _) rfl rfl (Nat.le_of_ble_eq_true rfl) dX8_lose_2 rfl ⟨Nat.zero_le _, Nat.zero_le _⟩ (fun H locs hi4 hS5 => ?_)
  refine x_if_ne (tgt := 10) M hi4 dX8_lose_5 (by decide) (fun hc => ?_) (fun hc => ?_)
  · have hf := iff_ hf hc
    refine x_aload_n M hl0 dX8_lose_10 0 rfl ?_
    obtain ⟨r6, w7, hc8, hf⟩ := bdt hf
    refine x_callVi (c0 := 21) (t0 := 0) (As := []) (rest := []) M hl0 hS5 (c_X8_isMoving l   hc8) (cwV 0 M.2.2.2.2.1 gX8_lose_X8_isMoving rfl rfl rfl (by decide +kernel) ⟨Nat.le_of_ble_eq_true rfl, Nat.le_of_ble_eq_true rfl⟩) (by decide) (sE_21 G _ _) rfl rfl (Nat.le_of_ble_eq_true rfl) dX8_lose_11 rfl ⟨Nat.zero_le _, Nat.zero_le _⟩ (fun H locs hi9 hS10 => ?_)
    refine x_if_eq (tgt := 25) M hi9 dX8_lose_14 (by decide) (fun hc => ?_) (fun hc => ?_)
    · have hf := ift hf hc
      refine x_bipush M dX8_lose_25 rfl ?_
      exact X8_lose_b27_ok M hr x1 ((-9)) w7 hx1 ⟨by decide, by decide⟩ _ _ hS10 _ (lv_sub hl0 [0, 1] rfl) _ _ hf
    · have hf := iff_ hf hc
      refine x_aload_n M hl0 dX8_lose_17 0 rfl ?_
      refine x_iload_n M hl0 dX8_lose_18 1 rfl ?_
      obtain ⟨r42, w43, hc44, hf⟩ := bdt hf
      refine x_callVi (c0 := 21) (t0 := 0) (As := [iV x1]) (rest := []) M hl0 hS10 (c_X8_noted l  hx1 hc44) (cwV 1 M.2.2.2.2.1 gX8_lose_X8_noted rfl rfl rfl (by decide +kernel) ⟨Nat.le_of_ble_eq_true rfl, Nat.le_of_ble_eq_true rfl⟩) (by decide) (sE_21 G _ _) rfl rfl (Nat.le_of_ble_eq_true rfl) dX8_lose_19 rfl ⟨Nat.zero_le _, Nat.zero_le _⟩ (fun H locs hi45 hS46 => ?_)
      refine x_goto (tgt := 27) M dX8_lose_22 (by decide) ?_
      exact X8_lose_b27_ok M hr x1 r42 w43 hx1 hi45 _ _ hS46 _ (lv_sub hl0 [0, 1] rfl) _ _ hf
  · have hf := ift hf (Decidable.of_not_not hc)
    refine x_iconst M dX8_lose_8 ?_
    exact x_iret M hr hf hS5 ⟨by decide, by decide⟩ dX8_lose_9

/-! X8_copies -/
set_option maxHeartbeats 4000000 in
set_option maxRecDepth 100000 in
theorem X8_copies_b34_ok (M : MC p s m args meth c cX8_copies 5 RX8 wsX8_copies G) (hr : meth.sig.returnType = (some .int)) {K4 : Int → Int → Int → Wd → Option (Int × Wd)} (hK4 : ∀ x1 : Int, ∀ x2 : Int, ∀ x3 : Int, ∀ w : Wd, InR x1 → InR x2 → InR x3 → ∀ (H : Heap) (locs : List Loc), ST G s w H locs → ∀ ls : Array Slot, lv_has ls 5 [(0, .ref (G.1 21 0)), (1, iV x1), (2, iV x2), (3, iV x3)] → ∀ (r : Int) (w' : Wd), K4 x1 x2 x3 w = some (r, w') → W p l e (rmk 1) s m args below meth c H locs 0 0 (MQ below (QiG G r w') args s 0 0 (GA G)) (F0 m 4 ls [])) : ∀ x1 : Int, ∀ x2 : Int, ∀ x3 : Int, ∀ s0 : Int, ∀ w : Wd, InR x1 → InR x2 → InR x3 → InR s0 → ∀ (H : Heap) (locs : List Loc), ST G s w H locs → ∀ ls : Array Slot, lv_has ls 5 [(0, .ref (G.1 21 0)), (1, iV x1), (2, iV x2), (3, iV x3)] → ∀ (r : Int) (w' : Wd), X8_copies_b34 K4 x1 x2 x3 s0 w = some (r, w') → W p l e (rmk 1) s m args below meth c H locs 0 0 (MQ below (QiG G r w') args s 0 0 (GA G)) (F0 m 34 ls [iV s0]) := by
  intro x1 x2 x3 s0 w hx1 hx2 hx3 hs0 H locs hS0 ls hl0 r w' hf
  unfold X8_copies_b34 at hf
  refine x_istore M hl0 dX8_copies_34 (by decide) [(4, iV s0), (0, .ref (G.1 21 0)), (1, iV x1), (2, iV x2), (3, iV x3)] rfl (fun ls hl8 => ?_)
  refine x_iload_n M hl8 dX8_copies_36 3 rfl ?_
  refine x_iload M hl8 dX8_copies_37 0 rfl ?_
  refine x_if_eq (tgt := 58) M hs0 dX8_copies_39 (by decide) (fun hc => ?_) (fun hc => ?_)
  · have hf := ift hf hc
    refine x_iconst M dX8_copies_58 ?_
    obtain ⟨g9, hf⟩ := gdt hf
    refine x_iadd M dX8_copies_59 ?_
    refine x_istore_n M hl8 dX8_copies_60 (by decide) [(2, iV (x2 + 0)), (4, iV s0), (0, .ref (G.1 21 0)), (1, iV x1), (3, iV x3)] rfl (fun ls hl10 => ?_)
    obtain ⟨g11, hf⟩ := gdt hf
    refine x_iinc M hl10 dX8_copies_61 4 rfl (by decide) [(3, iV (x3 + 1)), (2, iV (x2 + 0)), (4, iV s0), (0, .ref (G.1 21 0)), (1, iV x1)] rfl (fun ls hl12 => ?_)
    refine x_goto (tgt := 4) M dX8_copies_64 (by decide) ?_
    exact hK4 x1 (x2 + 0) (x3 + 1) w hx1 g9 g11 _ _ hS0 _ (lv_sub hl12 [3, 4, 1, 0] rfl) _ _ hf
  · have hf := iff_ hf hc
    refine x_aload_n M hl8 dX8_copies_42 1 rfl ?_
    refine x_iload_n M hl8 dX8_copies_43 4 rfl ?_
    refine x_iconst M dX8_copies_44 ?_
    obtain ⟨r13, w14, hc15, hf⟩ := bdt hf
    refine x_callVi (c0 := 21) (t0 := 0) (As := [iV x3, iV 0]) (rest := [iV x2]) M hl8 hS0 (c_X8_ofCopy l  hx3 ⟨by decide, by decide⟩ hc15) (cwV 2 M.2.2.2.2.1 gX8_copies_X8_ofCopy rfl rfl rfl (by decide +kernel) ⟨Nat.le_of_ble_eq_true rfl, Nat.le_of_ble_eq_true rfl⟩) (by decide) (sE_21 G _ _) rfl rfl (Nat.le_of_ble_eq_true rfl) dX8_copies_45 rfl ⟨Nat.zero_le _, Nat.zero_le _⟩ (fun H locs hi16 hS17 => ?_)
    refine x_iload_n M hl8 dX8_copies_48 2 rfl ?_
    refine x_iconst M dX8_copies_49 ?_
    obtain ⟨g18, hf⟩ := gdt hf
    refine x_iadd M dX8_copies_50 ?_
    refine x_icmp_ne (tgt := 58) M hi16 g18 dX8_copies_51 (by decide) (fun hc => ?_) (fun hc => ?_)
    · have hf := iff_ hf hc
      refine x_iconst M dX8_copies_58 ?_
      obtain ⟨g19, hf⟩ := gdt hf
      refine x_iadd M dX8_copies_59 ?_
      refine x_istore_n M hl8 dX8_copies_60 (by decide) [(2, iV (x2 + 0)), (4, iV s0), (0, .ref (G.1 21 0)), (1, iV x1), (3, iV x3)] rfl (fun ls hl20 => ?_)
      obtain ⟨g21, hf⟩ := gdt hf
      refine x_iinc M hl20 dX8_copies_61 4 rfl (by decide) [(3, iV (x3 + 1)), (2, iV (x2 + 0)), (4, iV s0), (0, .ref (G.1 21 0)), (1, iV x1)] rfl (fun ls hl22 => ?_)
      refine x_goto (tgt := 4) M dX8_copies_64 (by decide) ?_
      exact hK4 x1 (x2 + 0) (x3 + 1) w14 hx1 g19 g21 _ _ hS17 _ (lv_sub hl22 [3, 4, 1, 0] rfl) _ _ hf
    · have hf := ift hf (Decidable.of_not_not hc)
      refine x_iconst M dX8_copies_54 ?_
      refine x_goto (tgt := 59) M dX8_copies_55 (by decide) ?_
      obtain ⟨g23, hf⟩ := gdt hf
      refine x_iadd M dX8_copies_59 ?_
      refine x_istore_n M hl8 dX8_copies_60 (by decide) [(2, iV (x2 + 1)), (4, iV s0), (0, .ref (G.1 21 0)), (1, iV x1), (3, iV x3)] rfl (fun ls hl24 => ?_)
      obtain ⟨g25, hf⟩ := gdt hf
      refine x_iinc M hl24 dX8_copies_61 4 rfl (by decide) [(3, iV (x3 + 1)), (2, iV (x2 + 1)), (4, iV s0), (0, .ref (G.1 21 0)), (1, iV x1)] rfl (fun ls hl26 => ?_)
      refine x_goto (tgt := 4) M dX8_copies_64 (by decide) ?_
      exact hK4 x1 (x2 + 1) (x3 + 1) w14 hx1 g23 g25 _ _ hS17 _ (lv_sub hl26 [3, 4, 1, 0] rfl) _ _ hf

set_option maxHeartbeats 4000000 in
set_option maxRecDepth 100000 in
theorem X8_copies_b4_ok (M : MC p s m args meth c cX8_copies 5 RX8 wsX8_copies G) (hr : meth.sig.returnType = (some .int)) : ∀ n : Nat, ∀ x1 : Int, ∀ x2 : Int, ∀ x3 : Int, ∀ w : Wd, InR x1 → InR x2 → InR x3 → ∀ (H : Heap) (locs : List Loc), ST G s w H locs → ∀ ls : Array Slot, lv_has ls 5 [(0, .ref (G.1 21 0)), (1, iV x1), (2, iV x2), (3, iV x3)] → ∀ (r : Int) (w' : Wd), X8_copies_b4 n x1 x2 x3 w = some (r, w') → W p l e (rmk 1) s m args below meth c H locs 0 0 (MQ below (QiG G r w') args s 0 0 (GA G)) (F0 m 4 ls []) := by
  intro n
  induction n with
  | zero =>
    intro x1 x2 x3 w hx1 hx2 hx3 H locs hS0 ls hl0 r w' hf
    cases hf
  | succ n ih =>
    intro x1 x2 x3 w hx1 hx2 hx3 H locs hS0 ls hl0 r w' hf
    rw [X8_copies_b4_s] at hf
    refine x_iload_n M hl0 dX8_copies_4 3 rfl ?_
    refine x_sipush M dX8_copies_5 rfl ?_
    refine x_icmp_ge (tgt := 67) M hx3 ⟨by decide, by decide⟩ dX8_copies_8 (by decide) (fun hc => ?_) (fun hc => ?_)
    · have hf := iff_ hf (Int.not_lt.mpr hc)
      refine x_iload_n M hl0 dX8_copies_67 2 rfl ?_
      exact x_iret M hr hf hS0 hx2 dX8_copies_68
    · have hf := ift hf (Int.not_le.mp hc)
      refine x_aload_n M hl0 dX8_copies_11 0 rfl ?_
      obtain ⟨r3, w4, hc5, hf⟩ := bdt hf
      refine x_callVi (c0 := 21) (t0 := 0) (As := []) (rest := []) M hl0 hS0 (c_X8_isMoving l   hc5) (cwV 0 M.2.2.2.2.1 gX8_copies_X8_isMoving rfl rfl rfl (by decide +kernel) ⟨Nat.le_of_ble_eq_true rfl, Nat.le_of_ble_eq_true rfl⟩) (by decide) (sE_21 G _ _) rfl rfl (Nat.le_of_ble_eq_true rfl) dX8_copies_12 rfl ⟨Nat.zero_le _, Nat.zero_le _⟩ (fun H locs hi6 hS7 => ?_)
      refine x_if_eq (tgt := 29) M hi6 dX8_copies_15 (by decide) (fun hc => ?_) (fun hc => ?_)
      · have hf := ift hf hc
        refine x_iconst M dX8_copies_29 ?_
        refine x_goto (tgt := 34) M dX8_copies_30 (by decide) ?_
        exact X8_copies_b34_ok M hr ih x1 x2 x3 1 w4 hx1 hx2 hx3 ⟨by decide, by decide⟩ _ _ hS7 _ (lv_sub hl0 [0, 1, 2, 3] rfl) _ _ hf
      · have hf := iff_ hf hc
        refine x_iload_n M hl0 dX8_copies_18 3 rfl ?_
        refine x_bipush M dX8_copies_19 rfl ?_
        obtain ⟨g27, hf⟩ := gdt hf
        refine x_idiv M hx3 ⟨by decide, by decide⟩ ⟨g27, by decide⟩ dX8_copies_21 ?_
        refine x_aload_n M hl0 dX8_copies_22 0 rfl ?_
        obtain ⟨r28, w29, hc30, hf⟩ := bdt hf
        refine x_callVi (c0 := 21) (t0 := 0) (As := []) (rest := [iV (x3 / 64)]) M hl0 hS7 (c_X8_old l   hc30) (cwV 0 M.2.2.2.2.1 gX8_copies_X8_old rfl rfl rfl (by decide +kernel) ⟨Nat.le_of_ble_eq_true rfl, Nat.le_of_ble_eq_true rfl⟩) (by decide) (sE_21 G _ _) rfl rfl (Nat.le_of_ble_eq_true rfl) dX8_copies_23 rfl ⟨Nat.zero_le _, Nat.zero_le _⟩ (fun H locs hi31 hS32 => ?_)
        refine x_icmp_eq (tgt := 33) M (o_inr_div hx3 ⟨g27, by decide⟩) hi31 dX8_copies_26 (by decide) (fun hc => ?_) (fun hc => ?_)
        · have hf := ift hf hc
          refine x_iconst M dX8_copies_33 ?_
          exact X8_copies_b34_ok M hr ih x1 x2 x3 0 w29 hx1 hx2 hx3 ⟨by decide, by decide⟩ _ _ hS32 _ (lv_sub hl0 [0, 1, 2, 3] rfl) _ _ hf
        · have hf := iff_ hf hc
          refine x_iconst M dX8_copies_29 ?_
          refine x_goto (tgt := 34) M dX8_copies_30 (by decide) ?_
          exact X8_copies_b34_ok M hr ih x1 x2 x3 1 w29 hx1 hx2 hx3 ⟨by decide, by decide⟩ _ _ hS32 _ (lv_sub hl0 [0, 1, 2, 3] rfl) _ _ hf

set_option maxHeartbeats 4000000 in
set_option maxRecDepth 100000 in
theorem c_X8_copies (l : Launch) {G : GG} {x1 : Int} (hx1 : InR x1) {w : Wd} {r : Int} {w' : Wd} (hf : X8_copies x1 w = some (r, w')) : Met l yX8_copies wsX8_copies (rmk 1) (PcG G w [.ref (G.1 21 0), iV x1]) (QiG G r w') 0 0 (GA G) := by
  refine met_of (own := RX8) (by decide) rfl (Nat.le_of_ble_eq_true rfl) rfl ?_
  intro p e s m args below meth c M hr ls hl0 hS0
  have hl0 : lv_has ls 5 [(0, .ref (G.1 21 0)), (1, iV x1)] := hl0
  unfold X8_copies at hf
  refine x_iconst M dX8_copies_0 ?_
  refine x_istore_n M hl0 dX8_copies_1 (by decide) [(2, iV 0), (0, .ref (G.1 21 0)), (1, iV x1)] rfl (fun ls hl1 => ?_)
  refine x_iconst M dX8_copies_2 ?_
  refine x_istore_n M hl1 dX8_copies_3 (by decide) [(3, iV 0), (2, iV 0), (0, .ref (G.1 21 0)), (1, iV x1)] rfl (fun ls hl2 => ?_)
  exact X8_copies_b4_ok M hr LF x1 0 0 w hx1 ⟨by decide, by decide⟩ ⟨by decide, by decide⟩ _ _ hS0 _ (lv_sub hl2 [2, 3, 1, 0] rfl) _ _ hf

/-! X8_first -/
set_option maxHeartbeats 4000000 in
set_option maxRecDepth 100000 in
theorem X8_first_b2_ok (M : MC p s m args meth c cX8_first 3 RX8 wsX8_first G) (hr : meth.sig.returnType = (some .int)) : ∀ n : Nat, ∀ x1 : Int, ∀ x2 : Int, ∀ w : Wd, InR x1 → InR x2 → ∀ (H : Heap) (locs : List Loc), ST G s w H locs → ∀ ls : Array Slot, lv_has ls 3 [(0, .ref (G.1 21 0)), (1, iV x1), (2, iV x2)] → ∀ (r : Int) (w' : Wd), X8_first_b2 n x1 x2 w = some (r, w') → W p l e (rmk 1) s m args below meth c H locs 0 0 (MQ below (QiG G r w') args s 0 0 (GA G)) (F0 m 2 ls []) := by
  intro n
  induction n with
  | zero =>
    intro x1 x2 w hx1 hx2 H locs hS0 ls hl0 r w' hf
    cases hf
  | succ n ih =>
    intro x1 x2 w hx1 hx2 H locs hS0 ls hl0 r w' hf
    rw [X8_first_b2_s] at hf
    refine x_aload_n M hl0 dX8_first_2 0 rfl ?_
    refine x_iload_n M hl0 dX8_first_3 2 rfl ?_
    refine x_iconst M dX8_first_4 ?_
    obtain ⟨r2, w3, hc4, hf⟩ := bdt hf
    refine x_callVi (c0 := 21) (t0 := 0) (As := [iV x2, iV 0]) (rest := []) M hl0 hS0 (c_X8_ofCopy l  hx2 ⟨by decide, by decide⟩ hc4) (cwV 2 M.2.2.2.2.1 gX8_first_X8_ofCopy rfl rfl rfl (by decide +kernel) ⟨Nat.le_of_ble_eq_true rfl, Nat.le_of_ble_eq_true rfl⟩) (by decide) (sE_21 G _ _) rfl rfl (Nat.le_of_ble_eq_true rfl) dX8_first_5 rfl ⟨Nat.zero_le _, Nat.zero_le _⟩ (fun H locs hi5 hS6 => ?_)
    refine x_iload_n M hl0 dX8_first_8 1 rfl ?_
    refine x_iconst M dX8_first_9 ?_
    obtain ⟨g7, hf⟩ := gdt hf
    refine x_iadd M dX8_first_10 ?_
    refine x_icmp_eq (tgt := 20) M hi5 g7 dX8_first_11 (by decide) (fun hc => ?_) (fun hc => ?_)
    · have hf := ift hf hc
      refine x_iload_n M hl0 dX8_first_20 2 rfl ?_
      exact x_iret M hr hf hS6 hx2 dX8_first_21
    · have hf := iff_ hf hc
      obtain ⟨g8, hf⟩ := gdt hf
      refine x_iinc M hl0 dX8_first_14 2 rfl (by decide) [(2, iV (x2 + 1)), (0, .ref (G.1 21 0)), (1, iV x1)] rfl (fun ls hl9 => ?_)
      refine x_goto (tgt := 2) M dX8_first_17 (by decide) ?_
      exact ih x1 (x2 + 1) w3 hx1 g8 _ _ hS6 _ (lv_sub hl9 [1, 2, 0] rfl) _ _ hf

set_option maxHeartbeats 4000000 in
set_option maxRecDepth 100000 in
theorem c_X8_first (l : Launch) {G : GG} {x1 : Int} (hx1 : InR x1) {w : Wd} {r : Int} {w' : Wd} (hf : X8_first x1 w = some (r, w')) : Met l yX8_first wsX8_first (rmk 1) (PcG G w [.ref (G.1 21 0), iV x1]) (QiG G r w') 0 0 (GA G) := by
  refine met_of (own := RX8) (by decide) rfl (Nat.le_of_ble_eq_true rfl) rfl ?_
  intro p e s m args below meth c M hr ls hl0 hS0
  have hl0 : lv_has ls 3 [(0, .ref (G.1 21 0)), (1, iV x1)] := hl0
  unfold X8_first at hf
  refine x_iconst M dX8_first_0 ?_
  refine x_istore_n M hl0 dX8_first_1 (by decide) [(2, iV 0), (0, .ref (G.1 21 0)), (1, iV x1)] rfl (fun ls hl1 => ?_)
  exact X8_first_b2_ok M hr LF x1 0 w hx1 ⟨by decide, by decide⟩ _ _ hS0 _ (lv_sub hl1 [1, 2, 0] rfl) _ _ hf

/-! X8_turns -/
theorem flX8_turns_7 : Cond.fieldLink RX8 7 "NamedMovesModel" "s" "[I" ∈ wsX8_turns := by decide +kernel
theorem inX8_turns_X8 : ∀ w ∈ u_ws RX8 TX8 12, w ∈ wsX8_turns := by decide +kernel
set_option maxHeartbeats 4000000 in
set_option maxRecDepth 100000 in
theorem X8_turns_b36_ok (M : MC p s m args meth c cX8_turns 5 RX8 wsX8_turns G) (hr : meth.sig.returnType = none) : ∀ x1 : Int, ∀ x3 : Int, ∀ s0 : Int, ∀ w : Wd, InR x1 → InR x3 → InR s0 → ∀ (H : Heap) (locs : List Loc), ST G s w H locs → ∀ ls : Array Slot, lv_has ls 5 [(0, .ref (G.1 21 0)), (1, iV x1), (3, iV x3)] → ∀ (r : Int) (w' : Wd), X8_turns_b36 x1 x3 s0 w = some (r, w') → W p l e (rmk 1) s m args below meth c H locs 0 0 (MQ below (QvG G w') args s 0 0 (GA G)) (F0 m 36 ls [iV s0]) := by
  intro x1 x3 s0 w hx1 hx3 hs0 H locs hS0 ls hl0 r w' hf
  unfold X8_turns_b36 at hf
  refine x_istore M hl0 dX8_turns_36 (by decide) [(4, iV s0), (0, .ref (G.1 21 0)), (1, iV x1), (3, iV x3)] rfl (fun ls hl2 => ?_)
  refine x_aload_n M hl2 dX8_turns_38 1 rfl ?_
  refine x_get (c0 := 21) (t0 := 0) (v := .ref (G.1 22 0)) M hS0 (by decide) (ref := "NamedMovesModel") inX8_turns_X8 (sE_21 G _ _) rfl 0 (by decide) (M.2.2.2.2.1 _ flX8_turns_7) rfl rfl dX8_turns_39 ?_
  refine x_iload_n M hl2 dX8_turns_42 2 rfl ?_
  refine x_iload M hl2 dX8_turns_43 0 rfl ?_
  refine x_if_eq (tgt := 52) M hs0 dX8_turns_45 (by decide) (fun hc => ?_) (fun hc => ?_)
  · have hf := ift hf hc
    refine x_aload_n M hl2 dX8_turns_52 1 rfl ?_
    refine x_get (c0 := 21) (t0 := 0) (v := .ref (G.1 22 0)) M hS0 (by decide) (ref := "NamedMovesModel") inX8_turns_X8 (sE_21 G _ _) rfl 0 (by decide) (M.2.2.2.2.1 _ flX8_turns_7) rfl rfl dX8_turns_53 ?_
    refine x_iload_n M hl2 dX8_turns_56 2 rfl ?_
    obtain ⟨g3, hf⟩ := gdt hf
    refine x_iald (c0 := 22) (t0 := 0) M hS0 (by decide) (hs_22 G _) rfl g3 (by decide) dX8_turns_57 ?_
    refine x_iast (c0 := 22) (t0 := 0) M hS0 (by decide) (hs_22 G _) rfl g3 (by decide) (hS0.inr _ _ _) dX8_turns_58 (fun H locs hS4 => ?_)
    exact x_vret M hr hf hS4 dX8_turns_59
  · have hf := iff_ hf hc
    refine x_iload_n M hl2 dX8_turns_48 3 rfl ?_
    refine x_goto (tgt := 58) M dX8_turns_49 (by decide) ?_
    obtain ⟨g5, hf⟩ := gdt hf
    refine x_iast (c0 := 22) (t0 := 0) M hS0 (by decide) (hs_22 G _) rfl g5 (by decide) hx3 dX8_turns_58 (fun H locs hS6 => ?_)
    exact x_vret M hr hf hS6 dX8_turns_59

set_option maxHeartbeats 4000000 in
set_option maxRecDepth 100000 in
theorem c_X8_turns (l : Launch) {G : GG} {x1 : Int} (hx1 : InR x1) {x2 : Int} (hx2 : InR x2) {x3 : Int} (hx3 : InR x3) {w : Wd} {r : Int} {w' : Wd} (hf : X8_turns x1 x2 x3 w = some (r, w')) : Met l yX8_turns wsX8_turns (rmk 1) (PcG G w [.ref (G.1 21 0), iV x1, iV x2, iV x3]) (QvG G w') 0 0 (GA G) := by
  refine met_of (own := RX8) (by decide) rfl (Nat.le_of_ble_eq_true rfl) rfl ?_
  intro p e s m args below meth c M hr ls hl0 hS0
  have hl0 : lv_has ls 5 [(0, .ref (G.1 21 0)), (1, iV x1), (2, iV x2), (3, iV x3)] := hl0
  unfold X8_turns at hf
  refine x_aload_n M hl0 dX8_turns_0 0 rfl ?_
  refine x_get (c0 := 21) (t0 := 0) (v := .ref (G.1 22 0)) M hS0 (by decide) (ref := "NamedMovesModel") inX8_turns_X8 (sE_21 G _ _) rfl 0 (by decide) (M.2.2.2.2.1 _ flX8_turns_7) rfl rfl dX8_turns_1 ?_
  refine x_iload_n M hl0 dX8_turns_4 1 rfl ?_
  obtain ⟨g1, hf⟩ := gdt hf
  refine x_iald (c0 := 22) (t0 := 0) M hS0 (by decide) (hs_22 G _) rfl g1 (by decide) dX8_turns_5 ?_
  refine x_bipush M dX8_turns_6 rfl ?_
  refine x_icmp_eq (tgt := 35) M (hS0.inr _ _ _) ⟨by decide, by decide⟩ dX8_turns_8 (by decide) (fun hc => ?_) (fun hc => ?_)
  · have hf := ift hf hc
    refine x_iconst M dX8_turns_35 ?_
    exact X8_turns_b36_ok M hr x1 x3 0 w hx1 hx3 ⟨by decide, by decide⟩ _ _ hS0 _ (lv_sub hl0 [0, 1, 3] rfl) _ _ hf
  · have hf := iff_ hf hc
    refine x_aload_n M hl0 dX8_turns_11 0 rfl ?_
    refine x_aload_n M hl0 dX8_turns_12 0 rfl ?_
    refine x_get (c0 := 21) (t0 := 0) (v := .ref (G.1 22 0)) M hS0 (by decide) (ref := "NamedMovesModel") inX8_turns_X8 (sE_21 G _ _) rfl 0 (by decide) (M.2.2.2.2.1 _ flX8_turns_7) rfl rfl dX8_turns_13 ?_
    refine x_iload_n M hl0 dX8_turns_16 1 rfl ?_
    refine x_iald (c0 := 22) (t0 := 0) M hS0 (by decide) (hs_22 G _) rfl g1 (by decide) dX8_turns_17 ?_
    obtain ⟨r7, w8, hc9, hf⟩ := bdt hf
    refine x_callSi (As := [iV (w 22 0 x1.toNat)]) (rest := [.ref (G.1 21 0)]) M hl0 hS0 (c_X8_cell l  (hS0.inr _ _ _) hc9) (va_cwS 1 M.2.2.2.2.1 gX8_turns_X8_cell rfl rfl rfl (by decide +kernel) ⟨Nat.le_of_ble_eq_true rfl, Nat.le_of_ble_eq_true rfl⟩) rfl (Nat.le_of_ble_eq_true rfl) dX8_turns_18 rfl ⟨Nat.zero_le _, Nat.zero_le _⟩ (fun H locs hi10 hS11 => ?_)
    refine x_iconst M dX8_turns_21 ?_
    obtain ⟨r12, w13, hc14, hf⟩ := bdt hf
    refine x_callVi (c0 := 21) (t0 := 0) (As := [iV r7, iV 0]) (rest := []) M hl0 hS11 (c_X8_ofCopy l  hi10 ⟨by decide, by decide⟩ hc14) (cwV 2 M.2.2.2.2.1 gX8_turns_X8_ofCopy rfl rfl rfl (by decide +kernel) ⟨Nat.le_of_ble_eq_true rfl, Nat.le_of_ble_eq_true rfl⟩) (by decide) (sE_21 G _ _) rfl rfl (Nat.le_of_ble_eq_true rfl) dX8_turns_22 rfl ⟨Nat.zero_le _, Nat.zero_le _⟩ (fun H locs hi15 hS16 => ?_)
    refine x_iload_n M hl0 dX8_turns_25 2 rfl ?_
    refine x_iconst M dX8_turns_26 ?_
    obtain ⟨g17, hf⟩ := gdt hf
    refine x_iadd M dX8_turns_27 ?_
    refine x_icmp_ne (tgt := 35) M hi15 g17 dX8_turns_28 (by decide) (fun hc => ?_) (fun hc => ?_)
    · have hf := iff_ hf hc
      refine x_iconst M dX8_turns_35 ?_
      exact X8_turns_b36_ok M hr x1 x3 0 w13 hx1 hx3 ⟨by decide, by decide⟩ _ _ hS16 _ (lv_sub hl0 [0, 1, 3] rfl) _ _ hf
    · have hf := ift hf (Decidable.of_not_not hc)
      refine x_iconst M dX8_turns_31 ?_
      refine x_goto (tgt := 36) M dX8_turns_32 (by decide) ?_
      exact X8_turns_b36_ok M hr x1 x3 1 w13 hx1 hx3 ⟨by decide, by decide⟩ _ _ hS16 _ (lv_sub hl0 [0, 1, 3] rfl) _ _ hf

/-! X8_mend -/
theorem flX8_mend_7 : Cond.fieldLink RX8 7 "NamedMovesModel" "s" "[I" ∈ wsX8_mend := by decide +kernel
theorem inX8_mend_X8 : ∀ w ∈ u_ws RX8 TX8 12, w ∈ wsX8_mend := by decide +kernel
set_option maxHeartbeats 4000000 in
set_option maxRecDepth 100000 in
theorem X8_mend_b142_ok (M : MC p s m args meth c cX8_mend 5 RX8 wsX8_mend G) (hr : meth.sig.returnType = (some .int)) : ∀ n : Nat, ∀ x1 : Int, ∀ x2 : Int, ∀ x4 : Int, ∀ w : Wd, InR x1 → InR x2 → InR x4 → ∀ (H : Heap) (locs : List Loc), ST G s w H locs → ∀ ls : Array Slot, lv_has ls 5 [(0, .ref (G.1 21 0)), (1, iV x1), (2, iV x2), (4, iV x4)] → ∀ (r : Int) (w' : Wd), X8_mend_b142 n x1 x2 x4 w = some (r, w') → W p l e (rmk 2) s m args below meth c H locs 0 0 (MQ below (QiG G r w') args s 0 0 (GA G)) (F0 m 142 ls []) := by
  intro n
  induction n with
  | zero =>
    intro x1 x2 x4 w hx1 hx2 hx4 H locs hS0 ls hl0 r w' hf
    cases hf
  | succ n ih =>
    intro x1 x2 x4 w hx1 hx2 hx4 H locs hS0 ls hl0 r w' hf
    rw [X8_mend_b142_s] at hf
    refine x_iload M hl0 dX8_mend_142 3 rfl ?_
    refine x_sipush M dX8_mend_144 rfl ?_
    refine x_icmp_ge (tgt := 195) M hx4 ⟨by decide, by decide⟩ dX8_mend_147 (by decide) (fun hc => ?_) (fun hc => ?_)
    · have hf := iff_ hf (Int.not_lt.mpr hc)
      refine x_iload_n M hl0 dX8_mend_195 2 rfl ?_
      refine x_iconst M dX8_mend_196 ?_
      obtain ⟨g32, hf⟩ := gdt hf
      refine x_isub M dX8_mend_197 ?_
      exact x_iret M hr hf hS0 g32 dX8_mend_198
    · have hf := ift hf (Int.not_le.mp hc)
      refine x_aload_n M hl0 dX8_mend_150 0 rfl ?_
      refine x_get (c0 := 21) (t0 := 0) (v := .ref (G.1 22 0)) M hS0 (by decide) (ref := "NamedMovesModel") inX8_mend_X8 (sE_21 G _ _) rfl 0 (by decide) (M.2.2.2.2.1 _ flX8_mend_7) rfl rfl dX8_mend_151 ?_
      refine x_sipush M dX8_mend_154 rfl ?_
      refine x_iconst M dX8_mend_157 ?_
      refine x_iload M hl0 dX8_mend_158 3 rfl ?_
      obtain ⟨g33, hf⟩ := gdt hf
      refine x_imul M dX8_mend_160 ?_
      obtain ⟨g34, hf⟩ := gdt hf
      refine x_iadd M dX8_mend_161 ?_
      refine x_iconst M dX8_mend_162 ?_
      obtain ⟨g35, hf⟩ := gdt hf
      refine x_iadd M dX8_mend_163 ?_
      refine x_aload_n M hl0 dX8_mend_164 0 rfl ?_
      refine x_iload M hl0 dX8_mend_165 3 rfl ?_
      refine x_iconst M dX8_mend_167 ?_
      obtain ⟨r36, w37, hc38, hf⟩ := bdt hf
      refine x_callVi (c0 := 21) (t0 := 0) (As := [iV x4, iV 0]) (rest := [iV ((185 + (5 * x4)) + 0), .ref (G.1 22 0)]) M hl0 hS0 (c_X8_ofCopy l  hx4 ⟨by decide, by decide⟩ hc38) (cwV 2 M.2.2.2.2.1 gX8_mend_X8_ofCopy rfl rfl rfl (by decide +kernel) ⟨Nat.le_of_ble_eq_true rfl, Nat.le_of_ble_eq_true rfl⟩) (by decide) (sE_21 G _ _) rfl rfl (Nat.le_of_ble_eq_true rfl) dX8_mend_168 rfl ⟨Nat.zero_le _, Nat.zero_le _⟩ (fun H locs hi39 hS40 => ?_)
      refine x_iload_n M hl0 dX8_mend_171 1 rfl ?_
      refine x_iconst M dX8_mend_172 ?_
      obtain ⟨g41, hf⟩ := gdt hf
      refine x_iadd M dX8_mend_173 ?_
      refine x_icmp_ne (tgt := 181) M hi39 g41 dX8_mend_174 (by decide) (fun hc => ?_) (fun hc => ?_)
      · have hf := iff_ hf hc
        refine x_aload_n M hl0 dX8_mend_181 0 rfl ?_
        refine x_iload M hl0 dX8_mend_182 3 rfl ?_
        refine x_iconst M dX8_mend_184 ?_
        obtain ⟨r42, w43, hc44, hf⟩ := bdt hf
        refine x_callVi (c0 := 21) (t0 := 0) (As := [iV x4, iV 0]) (rest := [iV ((185 + (5 * x4)) + 0), .ref (G.1 22 0)]) M hl0 hS40 (c_X8_ofCopy l  hx4 ⟨by decide, by decide⟩ hc44) (cwV 2 M.2.2.2.2.1 gX8_mend_X8_ofCopy rfl rfl rfl (by decide +kernel) ⟨Nat.le_of_ble_eq_true rfl, Nat.le_of_ble_eq_true rfl⟩) (by decide) (sE_21 G _ _) rfl rfl (Nat.le_of_ble_eq_true rfl) dX8_mend_185 rfl ⟨Nat.zero_le _, Nat.zero_le _⟩ (fun H locs hi45 hS46 => ?_)
        obtain ⟨g47, hf⟩ := gdt hf
        refine x_iast (c0 := 22) (t0 := 0) M hS46 (by decide) (hs_22 G _) rfl g47 (by decide) hi45 dX8_mend_188 (fun H locs hS48 => ?_)
        obtain ⟨g49, hf⟩ := gdt hf
        refine x_iinc M hl0 dX8_mend_189 3 rfl (by decide) [(4, iV (x4 + 1)), (0, .ref (G.1 21 0)), (1, iV x1), (2, iV x2)] rfl (fun ls hl50 => ?_)
        refine x_goto (tgt := 142) M dX8_mend_192 (by decide) ?_
        exact ih x1 x2 (x4 + 1) (up w43 22 0 ((185 + (5 * x4)) + 0).toNat r42) hx1 hx2 g49 _ _ hS48 _ (lv_sub hl50 [1, 2, 3, 0] rfl) _ _ hf
      · have hf := ift hf (Decidable.of_not_not hc)
        refine x_iconst M dX8_mend_177 ?_
        refine x_goto (tgt := 188) M dX8_mend_178 (by decide) ?_
        obtain ⟨g51, hf⟩ := gdt hf
        refine x_iast (c0 := 22) (t0 := 0) M hS40 (by decide) (hs_22 G _) rfl g51 (by decide) ⟨by decide, by decide⟩ dX8_mend_188 (fun H locs hS52 => ?_)
        obtain ⟨g53, hf⟩ := gdt hf
        refine x_iinc M hl0 dX8_mend_189 3 rfl (by decide) [(4, iV (x4 + 1)), (0, .ref (G.1 21 0)), (1, iV x1), (2, iV x2)] rfl (fun ls hl54 => ?_)
        refine x_goto (tgt := 142) M dX8_mend_192 (by decide) ?_
        exact ih x1 x2 (x4 + 1) (up w37 22 0 ((185 + (5 * x4)) + 0).toNat 0) hx1 hx2 g53 _ _ hS52 _ (lv_sub hl54 [1, 2, 3, 0] rfl) _ _ hf

set_option maxHeartbeats 4000000 in
set_option maxRecDepth 100000 in
theorem X8_mend_b74_ok (M : MC p s m args meth c cX8_mend 5 RX8 wsX8_mend G) (hr : meth.sig.returnType = (some .int)) : ∀ n : Nat, ∀ x1 : Int, ∀ x2 : Int, ∀ x3 : Int, ∀ x4 : Int, ∀ w : Wd, InR x1 → InR x2 → InR x3 → InR x4 → ∀ (H : Heap) (locs : List Loc), ST G s w H locs → ∀ ls : Array Slot, lv_has ls 5 [(0, .ref (G.1 21 0)), (1, iV x1), (2, iV x2), (3, iV x3), (4, iV x4)] → ∀ (r : Int) (w' : Wd), X8_mend_b74 n x1 x2 x3 x4 w = some (r, w') → W p l e (rmk 2) s m args below meth c H locs 0 0 (MQ below (QiG G r w') args s 0 0 (GA G)) (F0 m 74 ls []) := by
  intro n
  induction n with
  | zero =>
    intro x1 x2 x3 x4 w hx1 hx2 hx3 hx4 H locs hS0 ls hl0 r w' hf
    cases hf
  | succ n ih =>
    intro x1 x2 x3 x4 w hx1 hx2 hx3 hx4 H locs hS0 ls hl0 r w' hf
    rw [X8_mend_b74_s] at hf
    refine x_iload M hl0 dX8_mend_74 4 rfl ?_
    refine x_sipush M dX8_mend_76 rfl ?_
    refine x_icmp_ge (tgt := 137) M hx4 ⟨by decide, by decide⟩ dX8_mend_79 (by decide) (fun hc => ?_) (fun hc => ?_)
    · have hf := iff_ hf (Int.not_lt.mpr hc)
      refine x_iload_n M hl0 dX8_mend_137 3 rfl ?_
      refine x_iconst M dX8_mend_138 ?_
      obtain ⟨g30, hf⟩ := gdt hf
      refine x_iadd M dX8_mend_139 ?_
      refine x_istore M hl0 dX8_mend_140 (by decide) [(4, iV (x3 + 1)), (0, .ref (G.1 21 0)), (1, iV x1), (2, iV x2), (3, iV x3)] rfl (fun ls hl31 => ?_)
      exact X8_mend_b142_ok M hr LF x1 x2 (x3 + 1) w hx1 hx2 g30 _ _ hS0 _ (lv_sub hl31 [1, 2, 3, 0] rfl) _ _ hf
    · have hf := ift hf (Int.not_le.mp hc)
      refine x_aload_n M hl0 dX8_mend_82 0 rfl ?_
      refine x_iload M hl0 dX8_mend_83 4 rfl ?_
      obtain ⟨r55, w56, hc57, hf⟩ := bdt hf
      refine x_callVi (c0 := 21) (t0 := 0) (As := [iV x4]) (rest := []) M hl0 hS0 (c_X8_isCopy l  hx4 hc57) (cwV 1 M.2.2.2.2.1 gX8_mend_X8_isCopy rfl rfl rfl (by decide +kernel) ⟨Nat.le_of_ble_eq_true rfl, Nat.le_of_ble_eq_true rfl⟩) (by decide) (sE_21 G _ _) rfl rfl (Nat.le_of_ble_eq_true rfl) dX8_mend_85 rfl ⟨Nat.zero_le _, Nat.zero_le _⟩ (fun H locs hi58 hS59 => ?_)
      refine x_if_eq (tgt := 131) M hi58 dX8_mend_88 (by decide) (fun hc => ?_) (fun hc => ?_)
      · have hf := ift hf hc
        obtain ⟨g60, hf⟩ := gdt hf
        refine x_iinc M hl0 dX8_mend_131 4 rfl (by decide) [(4, iV (x4 + 1)), (0, .ref (G.1 21 0)), (1, iV x1), (2, iV x2), (3, iV x3)] rfl (fun ls hl61 => ?_)
        refine x_goto (tgt := 74) M dX8_mend_134 (by decide) ?_
        exact ih x1 x2 x3 (x4 + 1) w56 hx1 hx2 hx3 g60 _ _ hS59 _ (lv_sub hl61 [1, 2, 3, 4, 0] rfl) _ _ hf
      · have hf := iff_ hf hc
        refine x_aload_n M hl0 dX8_mend_91 0 rfl ?_
        refine x_sipush M dX8_mend_92 rfl ?_
        refine x_iconst M dX8_mend_95 ?_
        refine x_iload M hl0 dX8_mend_96 4 rfl ?_
        obtain ⟨g62, hf⟩ := gdt hf
        refine x_imul M dX8_mend_98 ?_
        obtain ⟨g63, hf⟩ := gdt hf
        refine x_iadd M dX8_mend_99 ?_
        refine x_iconst M dX8_mend_100 ?_
        obtain ⟨g64, hf⟩ := gdt hf
        refine x_iadd M dX8_mend_101 ?_
        refine x_iload_n M hl0 dX8_mend_102 1 rfl ?_
        refine x_iload_n M hl0 dX8_mend_103 3 rfl ?_
        obtain ⟨r65, w66, hc67, hf⟩ := bdt hf
        refine x_callSi (As := [iV x3]) (rest := [iV x1, iV ((185 + (5 * x4)) + 1), .ref (G.1 21 0)]) M hl0 hS59 (c_X8_address l  hx3 hc67) (va_cwS 1 M.2.2.2.2.1 gX8_mend_X8_address rfl rfl rfl (by decide +kernel) ⟨Nat.le_of_ble_eq_true rfl, Nat.le_of_ble_eq_true rfl⟩) rfl (Nat.le_of_ble_eq_true rfl) dX8_mend_104 rfl ⟨Nat.zero_le _, Nat.zero_le _⟩ (fun H locs hi68 hS69 => ?_)
        obtain ⟨r70, w71, hc72, hf⟩ := bdt hf
        refine x_callVv (c0 := 21) (t0 := 0) (As := [iV ((185 + (5 * x4)) + 1), iV x1, iV r65]) (rest := []) M hl0 hS69 (c_X8_turns l  g64 hx1 hi68 hc72) (cwV 3 M.2.2.2.2.1 gX8_mend_X8_turns rfl rfl rfl (by decide +kernel) ⟨Nat.le_of_ble_eq_true rfl, Nat.le_of_ble_eq_true rfl⟩) (by decide) (sE_21 G _ _) rfl rfl (Nat.le_of_ble_eq_true rfl) dX8_mend_107 rfl ⟨Nat.zero_le _, Nat.zero_le _⟩ (fun H locs hS74 => ?_)
        refine x_aload_n M hl0 dX8_mend_110 0 rfl ?_
        refine x_sipush M dX8_mend_111 rfl ?_
        refine x_iconst M dX8_mend_114 ?_
        refine x_iload M hl0 dX8_mend_115 4 rfl ?_
        refine x_imul M dX8_mend_117 ?_
        refine x_iadd M dX8_mend_118 ?_
        refine x_iconst M dX8_mend_119 ?_
        refine x_iadd M dX8_mend_120 ?_
        refine x_iconst M dX8_mend_121 ?_
        obtain ⟨g75, hf⟩ := gdt hf
        refine x_iadd M dX8_mend_122 ?_
        refine x_iload_n M hl0 dX8_mend_123 1 rfl ?_
        refine x_iload_n M hl0 dX8_mend_124 3 rfl ?_
        obtain ⟨r76, w77, hc78, hf⟩ := bdt hf
        refine x_callSi (As := [iV x3]) (rest := [iV x1, iV (((185 + (5 * x4)) + 1) + 1), .ref (G.1 21 0)]) M hl0 hS74 (c_X8_address l  hx3 hc78) (va_cwS 1 M.2.2.2.2.1 gX8_mend_X8_address rfl rfl rfl (by decide +kernel) ⟨Nat.le_of_ble_eq_true rfl, Nat.le_of_ble_eq_true rfl⟩) rfl (Nat.le_of_ble_eq_true rfl) dX8_mend_125 rfl ⟨Nat.zero_le _, Nat.zero_le _⟩ (fun H locs hi79 hS80 => ?_)
        obtain ⟨r81, w82, hc83, hf⟩ := bdt hf
        refine x_callVv (c0 := 21) (t0 := 0) (As := [iV (((185 + (5 * x4)) + 1) + 1), iV x1, iV r76]) (rest := []) M hl0 hS80 (c_X8_turns l  g75 hx1 hi79 hc83) (cwV 3 M.2.2.2.2.1 gX8_mend_X8_turns rfl rfl rfl (by decide +kernel) ⟨Nat.le_of_ble_eq_true rfl, Nat.le_of_ble_eq_true rfl⟩) (by decide) (sE_21 G _ _) rfl rfl (Nat.le_of_ble_eq_true rfl) dX8_mend_128 rfl ⟨Nat.zero_le _, Nat.zero_le _⟩ (fun H locs hS85 => ?_)
        obtain ⟨g86, hf⟩ := gdt hf
        refine x_iinc M hl0 dX8_mend_131 4 rfl (by decide) [(4, iV (x4 + 1)), (0, .ref (G.1 21 0)), (1, iV x1), (2, iV x2), (3, iV x3)] rfl (fun ls hl87 => ?_)
        refine x_goto (tgt := 74) M dX8_mend_134 (by decide) ?_
        exact ih x1 x2 x3 (x4 + 1) w82 hx1 hx2 hx3 g86 _ _ hS85 _ (lv_sub hl87 [1, 2, 3, 4, 0] rfl) _ _ hf

set_option maxHeartbeats 4000000 in
set_option maxRecDepth 100000 in
theorem X8_mend_b44_ok (M : MC p s m args meth c cX8_mend 5 RX8 wsX8_mend G) (hr : meth.sig.returnType = (some .int)) : ∀ n : Nat, ∀ x1 : Int, ∀ x2 : Int, ∀ x3 : Int, ∀ x4 : Int, ∀ w : Wd, InR x1 → InR x2 → InR x3 → InR x4 → ∀ (H : Heap) (locs : List Loc), ST G s w H locs → ∀ ls : Array Slot, lv_has ls 5 [(0, .ref (G.1 21 0)), (1, iV x1), (2, iV x2), (3, iV x3), (4, iV x4)] → ∀ (r : Int) (w' : Wd), X8_mend_b44 n x1 x2 x3 x4 w = some (r, w') → W p l e (rmk 2) s m args below meth c H locs 0 0 (MQ below (QiG G r w') args s 0 0 (GA G)) (F0 m 44 ls []) := by
  intro n
  induction n with
  | zero =>
    intro x1 x2 x3 x4 w hx1 hx2 hx3 hx4 H locs hS0 ls hl0 r w' hf
    cases hf
  | succ n ih =>
    intro x1 x2 x3 x4 w hx1 hx2 hx3 hx4 H locs hS0 ls hl0 r w' hf
    rw [X8_mend_b44_s] at hf
    refine x_iload M hl0 dX8_mend_44 4 rfl ?_
    refine x_bipush M dX8_mend_46 rfl ?_
    refine x_icmp_ge (tgt := 71) M hx4 ⟨by decide, by decide⟩ dX8_mend_48 (by decide) (fun hc => ?_) (fun hc => ?_)
    · have hf := iff_ hf (Int.not_lt.mpr hc)
      refine x_iconst M dX8_mend_71 ?_
      refine x_istore M hl0 dX8_mend_72 (by decide) [(4, iV 0), (0, .ref (G.1 21 0)), (1, iV x1), (2, iV x2), (3, iV x3)] rfl (fun ls hl29 => ?_)
      exact X8_mend_b74_ok M hr LF x1 x2 x3 0 w hx1 hx2 hx3 ⟨by decide, by decide⟩ _ _ hS0 _ (lv_sub hl29 [1, 2, 3, 4, 0] rfl) _ _ hf
    · have hf := ift hf (Int.not_le.mp hc)
      refine x_aload_n M hl0 dX8_mend_51 0 rfl ?_
      refine x_bipush M dX8_mend_52 rfl ?_
      refine x_iload M hl0 dX8_mend_54 4 rfl ?_
      obtain ⟨g88, hf⟩ := gdt hf
      refine x_iadd M dX8_mend_56 ?_
      refine x_iload_n M hl0 dX8_mend_57 1 rfl ?_
      refine x_iload_n M hl0 dX8_mend_58 3 rfl ?_
      obtain ⟨r89, w90, hc91, hf⟩ := bdt hf
      refine x_callSi (As := [iV x3]) (rest := [iV x1, iV (9 + x4), .ref (G.1 21 0)]) M hl0 hS0 (c_X8_address l  hx3 hc91) (va_cwS 1 M.2.2.2.2.1 gX8_mend_X8_address rfl rfl rfl (by decide +kernel) ⟨Nat.le_of_ble_eq_true rfl, Nat.le_of_ble_eq_true rfl⟩) rfl (Nat.le_of_ble_eq_true rfl) dX8_mend_59 rfl ⟨Nat.zero_le _, Nat.zero_le _⟩ (fun H locs hi92 hS93 => ?_)
      obtain ⟨r94, w95, hc96, hf⟩ := bdt hf
      refine x_callVv (c0 := 21) (t0 := 0) (As := [iV (9 + x4), iV x1, iV r89]) (rest := []) M hl0 hS93 (c_X8_turns l  g88 hx1 hi92 hc96) (cwV 3 M.2.2.2.2.1 gX8_mend_X8_turns rfl rfl rfl (by decide +kernel) ⟨Nat.le_of_ble_eq_true rfl, Nat.le_of_ble_eq_true rfl⟩) (by decide) (sE_21 G _ _) rfl rfl (Nat.le_of_ble_eq_true rfl) dX8_mend_62 rfl ⟨Nat.zero_le _, Nat.zero_le _⟩ (fun H locs hS98 => ?_)
      obtain ⟨g99, hf⟩ := gdt hf
      refine x_iinc M hl0 dX8_mend_65 4 rfl (by decide) [(4, iV (x4 + 1)), (0, .ref (G.1 21 0)), (1, iV x1), (2, iV x2), (3, iV x3)] rfl (fun ls hl100 => ?_)
      refine x_goto (tgt := 44) M dX8_mend_68 (by decide) ?_
      exact ih x1 x2 x3 (x4 + 1) w95 hx1 hx2 hx3 g99 _ _ hS98 _ (lv_sub hl100 [1, 2, 3, 4, 0] rfl) _ _ hf

set_option maxHeartbeats 4000000 in
set_option maxRecDepth 100000 in
theorem c_X8_mend (l : Launch) {G : GG} {x1 : Int} (hx1 : InR x1) {w : Wd} {r : Int} {w' : Wd} (hf : X8_mend x1 w = some (r, w')) : Met l yX8_mend wsX8_mend (rmk 2) (PcG G w [.ref (G.1 21 0), iV x1]) (QiG G r w') 0 0 (GA G) := by
  refine met_of (own := RX8) (by decide) rfl (Nat.le_of_ble_eq_true rfl) rfl ?_
  intro p e s m args below meth c M hr ls hl0 hS0
  have hl0 : lv_has ls 5 [(0, .ref (G.1 21 0)), (1, iV x1)] := hl0
  unfold X8_mend at hf
  refine x_aload_n M hl0 dX8_mend_0 0 rfl ?_
  refine x_iload_n M hl0 dX8_mend_1 1 rfl ?_
  obtain ⟨r1, w2, hc3, hf⟩ := bdt hf
  refine x_callVi (c0 := 21) (t0 := 0) (As := [iV x1]) (rest := []) M hl0 hS0 (c_X8_isThing l  hx1 hc3) (cwV 1 M.2.2.2.2.1 gX8_mend_X8_isThing rfl rfl rfl (by decide +kernel) ⟨Nat.le_of_ble_eq_true rfl, Nat.le_of_ble_eq_true rfl⟩) (by decide) (sE_21 G _ _) rfl rfl (Nat.le_of_ble_eq_true rfl) dX8_mend_2 rfl ⟨Nat.zero_le _, Nat.zero_le _⟩ (fun H locs hi4 hS5 => ?_)
  refine x_if_ne (tgt := 10) M hi4 dX8_mend_5 (by decide) (fun hc => ?_) (fun hc => ?_)
  · have hf := iff_ hf hc
    refine x_aload_n M hl0 dX8_mend_10 0 rfl ?_
    refine x_iload_n M hl0 dX8_mend_11 1 rfl ?_
    obtain ⟨r6, w7, hc8, hf⟩ := bdt hf
    refine x_callVi (c0 := 21) (t0 := 0) (As := [iV x1]) (rest := []) M hl0 hS5 (c_X8_copies l  hx1 hc8) (cwV 1 M.2.2.2.2.1 gX8_mend_X8_copies rfl rfl rfl (by decide +kernel) ⟨Nat.le_of_ble_eq_true rfl, Nat.le_of_ble_eq_true rfl⟩) (by decide) (sE_21 G _ _) rfl rfl (Nat.le_of_ble_eq_true rfl) dX8_mend_12 rfl ⟨Nat.zero_le _, Nat.zero_le _⟩ (fun H locs hi9 hS10 => ?_)
    refine x_istore_n M hl0 dX8_mend_15 (by decide) [(2, iV r6), (0, .ref (G.1 21 0)), (1, iV x1)] rfl (fun ls hl11 => ?_)
    refine x_aload_n M hl11 dX8_mend_16 1 rfl ?_
    obtain ⟨r12, w13, hc14, hf⟩ := bdt hf
    refine x_callVi (c0 := 21) (t0 := 0) (As := []) (rest := []) M hl11 hS10 (c_X8_isMoving l   hc14) (cwV 0 M.2.2.2.2.1 gX8_mend_X8_isMoving rfl rfl rfl (by decide +kernel) ⟨Nat.le_of_ble_eq_true rfl, Nat.le_of_ble_eq_true rfl⟩) (by decide) (sE_21 G _ _) rfl rfl (Nat.le_of_ble_eq_true rfl) dX8_mend_17 rfl ⟨Nat.zero_le _, Nat.zero_le _⟩ (fun H locs hi15 hS16 => ?_)
    refine x_if_ne (tgt := 28) M hi15 dX8_mend_20 (by decide) (fun hc => ?_) (fun hc => ?_)
    · have hf := iff_ hf hc
      refine x_bipush M dX8_mend_28 rfl ?_
      exact x_iret M hr hf hS16 ⟨by decide, by decide⟩ dX8_mend_30
    · have hf := ift hf (Decidable.of_not_not hc)
      refine x_iload_n M hl11 dX8_mend_23 0 rfl ?_
      refine x_iconst M dX8_mend_24 ?_
      refine x_icmp_ge (tgt := 31) M hi9 ⟨by decide, by decide⟩ dX8_mend_25 (by decide) (fun hc => ?_) (fun hc => ?_)
      · have hf := iff_ hf (Int.not_lt.mpr hc)
        refine x_aload_n M hl11 dX8_mend_31 1 rfl ?_
        obtain ⟨r17, w18, hc19, hf⟩ := bdt hf
        refine x_callVv (c0 := 21) (t0 := 0) (As := []) (rest := []) M hl11 hS16 (c_X8_acts l   hc19) (cwV 0 M.2.2.2.2.1 gX8_mend_X8_acts rfl rfl rfl (by decide +kernel) ⟨Nat.le_of_ble_eq_true rfl, Nat.le_of_ble_eq_true rfl⟩) (by decide) (sE_21 G _ _) rfl rfl (Nat.le_of_ble_eq_true rfl) dX8_mend_32 rfl ⟨Nat.zero_le _, Nat.zero_le _⟩ (fun H locs hS21 => ?_)
        refine x_aload_n M hl11 dX8_mend_35 1 rfl ?_
        refine x_iload_n M hl11 dX8_mend_36 2 rfl ?_
        obtain ⟨r22, w23, hc24, hf⟩ := bdt hf
        refine x_callVi (c0 := 21) (t0 := 0) (As := [iV x1]) (rest := []) M hl11 hS21 (c_X8_first l  hx1 hc24) (cwV 1 M.2.2.2.2.1 gX8_mend_X8_first rfl rfl rfl (by decide +kernel) ⟨Nat.le_of_ble_eq_true rfl, Nat.le_of_ble_eq_true rfl⟩) (by decide) (sE_21 G _ _) rfl rfl (Nat.le_of_ble_eq_true rfl) dX8_mend_37 rfl ⟨Nat.zero_le _, Nat.zero_le _⟩ (fun H locs hi25 hS26 => ?_)
        refine x_istore_n M hl11 dX8_mend_40 (by decide) [(3, iV r22), (2, iV r6), (0, .ref (G.1 21 0)), (1, iV x1)] rfl (fun ls hl27 => ?_)
        refine x_iconst M dX8_mend_41 ?_
        refine x_istore M hl27 dX8_mend_42 (by decide) [(4, iV 0), (3, iV r22), (2, iV r6), (0, .ref (G.1 21 0)), (1, iV x1)] rfl (fun ls hl28 => ?_)
        exact X8_mend_b44_ok M hr LF x1 r6 r22 0 w23 hx1 hi9 hi25 ⟨by decide, by decide⟩ _ _ hS26 _ (lv_sub hl28 [3, 4, 2, 1, 0] rfl) _ _ hf
      · have hf := ift hf (Int.not_le.mp hc)
        refine x_bipush M dX8_mend_28 rfl ?_
        exact x_iret M hr hf hS16 ⟨by decide, by decide⟩ dX8_mend_30
  · have hf := ift hf (Decidable.of_not_not hc)
    refine x_iconst M dX8_mend_8 ?_
    exact x_iret M hr hf hS5 ⟨by decide, by decide⟩ dX8_mend_9

/-! X8_undo -/
theorem flX8_undo_13 : Cond.fieldLink RX8 13 "NamedMovesModel" "past" "[I" ∈ wsX8_undo := by decide +kernel
theorem flX8_undo_36 : Cond.fieldLink RX8 36 "NamedMovesModel" "pasts" "I" ∈ wsX8_undo := by decide +kernel
theorem flX8_undo_7 : Cond.fieldLink RX8 7 "NamedMovesModel" "s" "[I" ∈ wsX8_undo := by decide +kernel
theorem inX8_undo_X8 : ∀ w ∈ u_ws RX8 TX8 12, w ∈ wsX8_undo := by decide +kernel
set_option maxHeartbeats 4000000 in
set_option maxRecDepth 100000 in
theorem X8_undo_b22_ok (M : MC p s m args meth c cX8_undo 2 RX8 wsX8_undo G) (hr : meth.sig.returnType = (some .int)) : ∀ n : Nat, ∀ x1 : Int, ∀ w : Wd, InR x1 → ∀ (H : Heap) (locs : List Loc), ST G s w H locs → ∀ ls : Array Slot, lv_has ls 2 [(0, .ref (G.1 21 0)), (1, iV x1)] → ∀ (r : Int) (w' : Wd), X8_undo_b22 n x1 w = some (r, w') → W p l e (rmk 0) s m args below meth c H locs 0 0 (MQ below (QiG G r w') args s 0 0 (GA G)) (F0 m 22 ls []) := by
  intro n
  induction n with
  | zero =>
    intro x1 w hx1 H locs hS0 ls hl0 r w' hf
    cases hf
  | succ n ih =>
    intro x1 w hx1 H locs hS0 ls hl0 r w' hf
    rw [X8_undo_b22_s] at hf
    refine x_iload_n M hl0 dX8_undo_22 1 rfl ?_
    refine x_sipush M dX8_undo_23 rfl ?_
    refine x_icmp_ge (tgt := 56) M hx1 ⟨by decide, by decide⟩ dX8_undo_26 (by decide) (fun hc => ?_) (fun hc => ?_)
    · have hf := iff_ hf (Int.not_lt.mpr hc)
      refine x_aload_n M hl0 dX8_undo_56 0 rfl ?_
      refine x_get (c0 := 21) (t0 := 0) (v := iV (w 21 0 0)) M hS0 (by decide) (ref := "NamedMovesModel") inX8_undo_X8 (sE_21 G _ _) rfl 3 (by decide) (M.2.2.2.2.1 _ flX8_undo_36) rfl rfl dX8_undo_57 ?_
      exact x_iret M hr hf hS0 (hS0.inr _ _ _) dX8_undo_60
    · have hf := ift hf (Int.not_le.mp hc)
      refine x_aload_n M hl0 dX8_undo_29 0 rfl ?_
      refine x_get (c0 := 21) (t0 := 0) (v := .ref (G.1 22 0)) M hS0 (by decide) (ref := "NamedMovesModel") inX8_undo_X8 (sE_21 G _ _) rfl 0 (by decide) (M.2.2.2.2.1 _ flX8_undo_7) rfl rfl dX8_undo_30 ?_
      refine x_iload_n M hl0 dX8_undo_33 1 rfl ?_
      refine x_aload_n M hl0 dX8_undo_34 0 rfl ?_
      refine x_get (c0 := 21) (t0 := 0) (v := .ref (G.1 23 0)) M hS0 (by decide) (ref := "NamedMovesModel") inX8_undo_X8 (sE_21 G _ _) rfl 1 (by decide) (M.2.2.2.2.1 _ flX8_undo_13) rfl rfl dX8_undo_35 ?_
      refine x_sipush M dX8_undo_38 rfl ?_
      refine x_aload_n M hl0 dX8_undo_41 0 rfl ?_
      refine x_get (c0 := 21) (t0 := 0) (v := iV (w 21 0 0)) M hS0 (by decide) (ref := "NamedMovesModel") inX8_undo_X8 (sE_21 G _ _) rfl 3 (by decide) (M.2.2.2.2.1 _ flX8_undo_36) rfl rfl dX8_undo_42 ?_
      obtain ⟨g4, hf⟩ := gdt hf
      refine x_imul M dX8_undo_45 ?_
      refine x_iload_n M hl0 dX8_undo_46 1 rfl ?_
      obtain ⟨g5, hf⟩ := gdt hf
      refine x_iadd M dX8_undo_47 ?_
      obtain ⟨g6, hf⟩ := gdt hf
      refine x_iald (c0 := 23) (t0 := 0) M hS0 (by decide) (hs_23 G _) rfl g6 (by decide) dX8_undo_48 ?_
      obtain ⟨g7, hf⟩ := gdt hf
      refine x_iast (c0 := 22) (t0 := 0) M hS0 (by decide) (hs_22 G _) rfl g7 (by decide) (hS0.inr _ _ _) dX8_undo_49 (fun H locs hS8 => ?_)
      obtain ⟨g9, hf⟩ := gdt hf
      refine x_iinc M hl0 dX8_undo_50 1 rfl (by decide) [(1, iV (x1 + 1)), (0, .ref (G.1 21 0))] rfl (fun ls hl10 => ?_)
      refine x_goto (tgt := 22) M dX8_undo_53 (by decide) ?_
      exact ih (x1 + 1) (up w 22 0 x1.toNat (w 23 0 ((1125 * (w 21 0 0)) + x1).toNat)) g9 _ _ hS8 _ (lv_sub hl10 [1, 0] rfl) _ _ hf

set_option maxHeartbeats 4000000 in
set_option maxRecDepth 100000 in
theorem c_X8_undo (l : Launch) {G : GG} {w : Wd} {r : Int} {w' : Wd} (hf : X8_undo w = some (r, w')) : Met l yX8_undo wsX8_undo (rmk 0) (PcG G w [.ref (G.1 21 0)]) (QiG G r w') 0 0 (GA G) := by
  refine met_of (own := RX8) (by decide) rfl (Nat.le_of_ble_eq_true rfl) rfl ?_
  intro p e s m args below meth c M hr ls hl0 hS0
  have hl0 : lv_has ls 2 [(0, .ref (G.1 21 0))] := hl0
  unfold X8_undo at hf
  refine x_aload_n M hl0 dX8_undo_0 0 rfl ?_
  refine x_get (c0 := 21) (t0 := 0) (v := iV (w 21 0 0)) M hS0 (by decide) (ref := "NamedMovesModel") inX8_undo_X8 (sE_21 G _ _) rfl 3 (by decide) (M.2.2.2.2.1 _ flX8_undo_36) rfl rfl dX8_undo_1 ?_
  refine x_if_ne (tgt := 10) M (hS0.inr _ _ _) dX8_undo_4 (by decide) (fun hc => ?_) (fun hc => ?_)
  · have hf := iff_ hf hc
    refine x_aload_n M hl0 dX8_undo_10 0 rfl ?_
    refine x_dup M dX8_undo_11 rfl ?_
    refine x_get (c0 := 21) (t0 := 0) (v := iV (w 21 0 0)) M hS0 (by decide) (ref := "NamedMovesModel") inX8_undo_X8 (sE_21 G _ _) rfl 3 (by decide) (M.2.2.2.2.1 _ flX8_undo_36) rfl rfl dX8_undo_12 ?_
    refine x_iconst M dX8_undo_15 ?_
    obtain ⟨g1, hf⟩ := gdt hf
    refine x_isub M dX8_undo_16 ?_
    refine x_put (c0 := 21) (t0 := 0) M hS0 (by decide) (ref := "NamedMovesModel") inX8_undo_X8 tyX8 tyX8_ok nmX8 (sE_21 G _ _) rfl 3 (by decide) (M.2.2.2.2.1 _ flX8_undo_36) rfl rfl (ty := tyX8 3) g1 (tyX8_ok 3 (by decide)) rfl rfl (by simp) 0 (pset_21_0 G _ _ _) dX8_undo_17 (fun H locs hS2 => ?_)
    refine x_iconst M dX8_undo_20 ?_
    refine x_istore_n M hl0 dX8_undo_21 (by decide) [(1, iV 0), (0, .ref (G.1 21 0))] rfl (fun ls hl3 => ?_)
    exact X8_undo_b22_ok M hr LF 0 (up w 21 0 0 ((w 21 0 0) - 1)) ⟨by decide, by decide⟩ _ _ hS2 _ (lv_sub hl3 [1, 0] rfl) _ _ hf
  · have hf := ift hf (Decidable.of_not_not hc)
    refine x_bipush M dX8_undo_7 rfl ?_
    exact x_iret M hr hf hS0 ⟨by decide, by decide⟩ dX8_undo_9

/-! X8_append -/
theorem flX8_append_134 : Cond.fieldLink RX8 134 "NamedMovesModel" "typed" "I" ∈ wsX8_append := by decide +kernel
theorem flX8_append_19 : Cond.fieldLink RX8 19 "NamedMovesModel" "text" "[I" ∈ wsX8_append := by decide +kernel
theorem inX8_append_X8 : ∀ w ∈ u_ws RX8 TX8 12, w ∈ wsX8_append := by decide +kernel
set_option maxHeartbeats 4000000 in
set_option maxRecDepth 100000 in
theorem c_X8_append (l : Launch) {G : GG} {x1 : Int} (hx1 : InR x1) {w : Wd} {r : Int} {w' : Wd} (hf : X8_append x1 w = some (r, w')) : Met l yX8_append wsX8_append (rmk 1) (PcG G w [.ref (G.1 21 0), iV x1]) (QiG G r w') 0 0 (GA G) := by
  refine met_of (own := RX8) (by decide) rfl (Nat.le_of_ble_eq_true rfl) rfl ?_
  intro p e s m args below meth c M hr ls hl0 hS0
  have hl0 : lv_has ls 2 [(0, .ref (G.1 21 0)), (1, iV x1)] := hl0
  unfold X8_append at hf
  refine x_iload_n M hl0 dX8_append_0 1 rfl ?_
  refine x_iconst M dX8_append_1 ?_
  refine x_sipush M dX8_append_2 rfl ?_
  obtain ⟨r1, w2, hc3, hf⟩ := bdt hf
  refine x_callSi (As := [iV x1, iV 1, iV 255]) (rest := []) M hl0 hS0 (c_X8_in l  hx1 ⟨by decide, by decide⟩ ⟨by decide, by decide⟩ hc3) (va_cwS 3 M.2.2.2.2.1 gX8_append_X8_in rfl rfl rfl (by decide +kernel) ⟨Nat.le_of_ble_eq_true rfl, Nat.le_of_ble_eq_true rfl⟩) rfl (Nat.le_of_ble_eq_true rfl) dX8_append_5 rfl ⟨Nat.zero_le _, Nat.zero_le _⟩ (fun H locs hi4 hS5 => ?_)
  refine x_if_ne (tgt := 13) M hi4 dX8_append_8 (by decide) (fun hc => ?_) (fun hc => ?_)
  · have hf := iff_ hf hc
    refine x_aload_n M hl0 dX8_append_13 0 rfl ?_
    refine x_get (c0 := 21) (t0 := 0) (v := iV (w2 21 0 2)) M hS5 (by decide) (ref := "NamedMovesModel") inX8_append_X8 (sE_21 G _ _) rfl 6 (by decide) (M.2.2.2.2.1 _ flX8_append_134) rfl rfl dX8_append_14 ?_
    refine x_bipush M dX8_append_17 rfl ?_
    refine x_icmp_ne (tgt := 25) M (hS5.inr _ _ _) ⟨by decide, by decide⟩ dX8_append_19 (by decide) (fun hc => ?_) (fun hc => ?_)
    · have hf := iff_ hf hc
      refine x_aload_n M hl0 dX8_append_25 0 rfl ?_
      refine x_get (c0 := 21) (t0 := 0) (v := .ref (G.1 25 0)) M hS5 (by decide) (ref := "NamedMovesModel") inX8_append_X8 (sE_21 G _ _) rfl 5 (by decide) (M.2.2.2.2.1 _ flX8_append_19) rfl rfl dX8_append_26 ?_
      refine x_aload_n M hl0 dX8_append_29 0 rfl ?_
      refine x_get (c0 := 21) (t0 := 0) (v := iV (w2 21 0 2)) M hS5 (by decide) (ref := "NamedMovesModel") inX8_append_X8 (sE_21 G _ _) rfl 6 (by decide) (M.2.2.2.2.1 _ flX8_append_134) rfl rfl dX8_append_30 ?_
      refine x_iload_n M hl0 dX8_append_33 1 rfl ?_
      obtain ⟨g6, hf⟩ := gdt hf
      refine x_iast (c0 := 25) (t0 := 0) M hS5 (by decide) (hs_25 G _) rfl g6 (by decide) hx1 dX8_append_34 (fun H locs hS7 => ?_)
      refine x_aload_n M hl0 dX8_append_35 0 rfl ?_
      refine x_dup M dX8_append_36 rfl ?_
      refine x_get (c0 := 21) (t0 := 0) (v := iV ((up w2 25 0 (w2 21 0 2).toNat x1) 21 0 2)) M hS7 (by decide) (ref := "NamedMovesModel") inX8_append_X8 (sE_21 G _ _) rfl 6 (by decide) (M.2.2.2.2.1 _ flX8_append_134) rfl rfl dX8_append_37 ?_
      refine x_iconst M dX8_append_40 ?_
      obtain ⟨g8, hf⟩ := gdt hf
      refine x_iadd M dX8_append_41 ?_
      refine x_put (c0 := 21) (t0 := 0) M hS7 (by decide) (ref := "NamedMovesModel") inX8_append_X8 tyX8 tyX8_ok nmX8 (sE_21 G _ _) rfl 6 (by decide) (M.2.2.2.2.1 _ flX8_append_134) rfl rfl (ty := tyX8 6) g8 (tyX8_ok 6 (by decide)) rfl rfl (by simp) 2 (pset_21_2 G _ _ _) dX8_append_42 (fun H locs hS9 => ?_)
      refine x_aload_n M hl0 dX8_append_45 0 rfl ?_
      refine x_get (c0 := 21) (t0 := 0) (v := iV ((up (up w2 25 0 (w2 21 0 2).toNat x1) 21 0 2 (((up w2 25 0 (w2 21 0 2).toNat x1) 21 0 2) + 1)) 21 0 2)) M hS9 (by decide) (ref := "NamedMovesModel") inX8_append_X8 (sE_21 G _ _) rfl 6 (by decide) (M.2.2.2.2.1 _ flX8_append_134) rfl rfl dX8_append_46 ?_
      exact x_iret M hr hf hS9 (hS9.inr _ _ _) dX8_append_49
    · have hf := ift hf (Decidable.of_not_not hc)
      refine x_bipush M dX8_append_22 rfl ?_
      exact x_iret M hr hf hS5 ⟨by decide, by decide⟩ dX8_append_24
  · have hf := ift hf (Decidable.of_not_not hc)
    refine x_iconst M dX8_append_11 ?_
    exact x_iret M hr hf hS5 ⟨by decide, by decide⟩ dX8_append_12

/-! X8_clearText -/
theorem flX8_clearText_134 : Cond.fieldLink RX8 134 "NamedMovesModel" "typed" "I" ∈ wsX8_clearText := by decide +kernel
theorem inX8_clearText_X8 : ∀ w ∈ u_ws RX8 TX8 12, w ∈ wsX8_clearText := by decide +kernel
set_option maxHeartbeats 4000000 in
set_option maxRecDepth 100000 in
theorem c_X8_clearText (l : Launch) {G : GG} {w : Wd} {r : Int} {w' : Wd} (hf : X8_clearText w = some (r, w')) : Met l yX8_clearText wsX8_clearText (rmk 0) (PcG G w [.ref (G.1 21 0)]) (QiG G r w') 0 0 (GA G) := by
  refine met_of (own := RX8) (by decide) rfl (Nat.le_of_ble_eq_true rfl) rfl ?_
  intro p e s m args below meth c M hr ls hl0 hS0
  have hl0 : lv_has ls 2 [(0, .ref (G.1 21 0))] := hl0
  unfold X8_clearText at hf
  refine x_aload_n M hl0 dX8_clearText_0 0 rfl ?_
  refine x_get (c0 := 21) (t0 := 0) (v := iV (w 21 0 2)) M hS0 (by decide) (ref := "NamedMovesModel") inX8_clearText_X8 (sE_21 G _ _) rfl 6 (by decide) (M.2.2.2.2.1 _ flX8_clearText_134) rfl rfl dX8_clearText_1 ?_
  refine x_istore_n M hl0 dX8_clearText_4 (by decide) [(1, iV (w 21 0 2)), (0, .ref (G.1 21 0))] rfl (fun ls hl1 => ?_)
  refine x_aload_n M hl1 dX8_clearText_5 1 rfl ?_
  refine x_iconst M dX8_clearText_6 ?_
  refine x_put (c0 := 21) (t0 := 0) M hS0 (by decide) (ref := "NamedMovesModel") inX8_clearText_X8 tyX8 tyX8_ok nmX8 (sE_21 G _ _) rfl 6 (by decide) (M.2.2.2.2.1 _ flX8_clearText_134) rfl rfl (ty := tyX8 6) ⟨by decide, by decide⟩ (tyX8_ok 6 (by decide)) rfl rfl (by simp) 2 (pset_21_2 G _ _ _) dX8_clearText_7 (fun H locs hS2 => ?_)
  refine x_iload_n M hl1 dX8_clearText_10 0 rfl ?_
  exact x_iret M hr hf hS2 (hS0.inr _ _ _) dX8_clearText_11

/-! X8_isAt -/
theorem flX8_isAt_134 : Cond.fieldLink RX8 134 "NamedMovesModel" "typed" "I" ∈ wsX8_isAt := by decide +kernel
theorem flX8_isAt_137 : Cond.fieldLink RX8 137 "NamedMovesModel" "at" "I" ∈ wsX8_isAt := by decide +kernel
theorem flX8_isAt_19 : Cond.fieldLink RX8 19 "NamedMovesModel" "text" "[I" ∈ wsX8_isAt := by decide +kernel
theorem inX8_isAt_X8 : ∀ w ∈ u_ws RX8 TX8 12, w ∈ wsX8_isAt := by decide +kernel
set_option maxHeartbeats 4000000 in
set_option maxRecDepth 100000 in
theorem c_X8_isAt (l : Launch) {G : GG} {x1 : Int} (hx1 : InR x1) {x2 : Int} (hx2 : InR x2) {w : Wd} {r : Int} {w' : Wd} (hf : X8_isAt x1 x2 w = some (r, w')) : Met l yX8_isAt wsX8_isAt (rmk 1) (PcG G w [.ref (G.1 21 0), iV x1, iV x2]) (QiG G r w') 0 0 (GA G) := by
  refine met_of (own := RX8) (by decide) rfl (Nat.le_of_ble_eq_true rfl) rfl ?_
  intro p e s m args below meth c M hr ls hl0 hS0
  have hl0 : lv_has ls 3 [(0, .ref (G.1 21 0)), (1, iV x1), (2, iV x2)] := hl0
  unfold X8_isAt at hf
  refine x_aload_n M hl0 dX8_isAt_0 0 rfl ?_
  refine x_get (c0 := 21) (t0 := 0) (v := iV (w 21 0 3)) M hS0 (by decide) (ref := "NamedMovesModel") inX8_isAt_X8 (sE_21 G _ _) rfl 7 (by decide) (M.2.2.2.2.1 _ flX8_isAt_137) rfl rfl dX8_isAt_1 ?_
  refine x_aload_n M hl0 dX8_isAt_4 0 rfl ?_
  refine x_get (c0 := 21) (t0 := 0) (v := iV (w 21 0 2)) M hS0 (by decide) (ref := "NamedMovesModel") inX8_isAt_X8 (sE_21 G _ _) rfl 6 (by decide) (M.2.2.2.2.1 _ flX8_isAt_134) rfl rfl dX8_isAt_5 ?_
  refine x_icmp_ge (tgt := 32) M (hS0.inr _ _ _) (hS0.inr _ _ _) dX8_isAt_8 (by decide) (fun hc => ?_) (fun hc => ?_)
  · have hf := iff_ hf (Int.not_lt.mpr hc)
    refine x_iconst M dX8_isAt_32 ?_
    exact x_zret M hr hf hS0 (Or.inl rfl) dX8_isAt_33
  · have hf := ift hf (Int.not_le.mp hc)
    refine x_aload_n M hl0 dX8_isAt_11 0 rfl ?_
    refine x_get (c0 := 21) (t0 := 0) (v := .ref (G.1 25 0)) M hS0 (by decide) (ref := "NamedMovesModel") inX8_isAt_X8 (sE_21 G _ _) rfl 5 (by decide) (M.2.2.2.2.1 _ flX8_isAt_19) rfl rfl dX8_isAt_12 ?_
    refine x_aload_n M hl0 dX8_isAt_15 0 rfl ?_
    refine x_get (c0 := 21) (t0 := 0) (v := iV (w 21 0 3)) M hS0 (by decide) (ref := "NamedMovesModel") inX8_isAt_X8 (sE_21 G _ _) rfl 7 (by decide) (M.2.2.2.2.1 _ flX8_isAt_137) rfl rfl dX8_isAt_16 ?_
    obtain ⟨g1, hf⟩ := gdt hf
    refine x_iald (c0 := 25) (t0 := 0) M hS0 (by decide) (hs_25 G _) rfl g1 (by decide) dX8_isAt_19 ?_
    refine x_iload_n M hl0 dX8_isAt_20 1 rfl ?_
    refine x_iload_n M hl0 dX8_isAt_21 2 rfl ?_
    obtain ⟨r2, w3, hc4, hf⟩ := bdt hf
    refine x_callSi (As := [iV (w 25 0 (w 21 0 3).toNat), iV x1, iV x2]) (rest := []) M hl0 hS0 (c_X8_in l  (hS0.inr _ _ _) hx1 hx2 hc4) (va_cwS 3 M.2.2.2.2.1 gX8_isAt_X8_in rfl rfl rfl (by decide +kernel) ⟨Nat.le_of_ble_eq_true rfl, Nat.le_of_ble_eq_true rfl⟩) rfl (Nat.le_of_ble_eq_true rfl) dX8_isAt_22 rfl ⟨Nat.zero_le _, Nat.zero_le _⟩ (fun H locs hi5 hS6 => ?_)
    refine x_if_eq (tgt := 32) M hi5 dX8_isAt_25 (by decide) (fun hc => ?_) (fun hc => ?_)
    · have hf := ift hf hc
      refine x_iconst M dX8_isAt_32 ?_
      exact x_zret M hr hf hS6 (Or.inl rfl) dX8_isAt_33
    · have hf := iff_ hf hc
      refine x_iconst M dX8_isAt_28 ?_
      refine x_goto (tgt := 33) M dX8_isAt_29 (by decide) ?_
      exact x_zret M hr hf hS6 (Or.inr rfl) dX8_isAt_33

end
