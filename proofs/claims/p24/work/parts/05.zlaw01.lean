section
variable {p : Program} {l : Launch} {e : Env} {s : State} {m : MethodId} {args : Array Value} {below : List Frame} {meth : Method} {c : Code} {G : GG}
/-! L_low -/
theorem kcL_low_8 : Cond.constant RL 8 (2147483647) ∈ wsL_low := by decide +kernel
set_option maxHeartbeats 4000000 in
set_option maxRecDepth 100000 in
theorem c_L_low (l : Launch) {G : GG} {x0 : Int} (hx0 : InR x0) {x1 : Int} (hx1 : InR x1) {w : Wd} {r : Int} {w' : Wd} (hf : L_low x0 x1 w = some (r, w')) : Met l yL_low wsL_low (rmL 0 0) (PcG G w [iV x0, iV x1]) (QiG G r w') 0 0 (GA G) := by
  refine met_of (own := RL) (by decide) rfl (Nat.le_of_ble_eq_true rfl) rfl ?_
  intro p e s m args below meth c M hr ls hl0 hS0
  have hl0 : lv_has ls 2 [(0, iV x0), (1, iV x1)] := hl0
  unfold L_low at hf
  refine x_iload_n M hl0 dL_low_0 0 rfl ?_
  refine x_ldc (z := 2147483647) M kcL_low_8 rfl dL_low_1 ?_
  refine x_iand M dL_low_3 ?_
  refine x_iload_n M hl0 dL_low_4 1 rfl ?_
  obtain ⟨g1, hf⟩ := gdt hf
  refine x_irem M (o_inr _) hx1 g1 dL_low_5 ?_
  exact x_iret M hr hf hS0 (o_inr_rem hx1 g1) dL_low_6

/-! L_at -/
set_option maxHeartbeats 4000000 in
set_option maxRecDepth 100000 in
theorem c_L_at (l : Launch) {G : GG} {x3 : Int} (hx3 : InR x3) {w : Wd} {r : Int} {w' : Wd} (hf : L_at x3 w = some (r, w')) : Met l yL_at wsL_at (rmL 0 0) (PcG G w [.ref (G.1 34 0), .ref (G.1 35 0), .ref (G.1 36 0), iV x3]) (QlG G r w') 0 0 (GA G) := by
  refine met_of (own := RL) (by decide) rfl (Nat.le_of_ble_eq_true rfl) rfl ?_
  intro p e s m args below meth c M hr ls hl0 hS0
  have hl0 : lv_has ls 4 [(0, .ref (G.1 34 0)), (1, .ref (G.1 35 0)), (2, .ref (G.1 36 0)), (3, iV x3)] := hl0
  unfold L_at at hf
  refine x_iload_n M hl0 dL_at_0 3 rfl ?_
  refine x_bipush M dL_at_1 rfl ?_
  refine x_icmp_ge (tgt := 12) M hx3 ⟨by decide, by decide⟩ dL_at_3 (by decide) (fun hc => ?_) (fun hc => ?_)
  · have hf := iff_ hf (Int.not_lt.mpr hc)
    refine x_iload_n M hl0 dL_at_12 3 rfl ?_
    refine x_sipush M dL_at_13 rfl ?_
    refine x_icmp_ge (tgt := 28) M hx3 ⟨by decide, by decide⟩ dL_at_16 (by decide) (fun hc => ?_) (fun hc => ?_)
    · have hf := iff_ hf (Int.not_lt.mpr hc)
      refine x_aload_n M hl0 dL_at_28 2 rfl ?_
      refine x_iload_n M hl0 dL_at_29 3 rfl ?_
      refine x_sipush M dL_at_30 rfl ?_
      obtain ⟨g1, hf⟩ := gdt hf
      refine x_isub M dL_at_33 ?_
      obtain ⟨g2, hf⟩ := gdt hf
      refine x_lald (c0 := 36) (t0 := 0) M hS0 (by decide) (hs_36 G _) rfl g2 (by decide) dL_at_34 ?_
      exact x_lret M hr hf hS0 (hS0.inl _ _ _) dL_at_35
    · have hf := ift hf (Int.not_le.mp hc)
      refine x_aload_n M hl0 dL_at_19 1 rfl ?_
      refine x_iload_n M hl0 dL_at_20 3 rfl ?_
      refine x_bipush M dL_at_21 rfl ?_
      obtain ⟨g3, hf⟩ := gdt hf
      refine x_isub M dL_at_23 ?_
      obtain ⟨g4, hf⟩ := gdt hf
      refine x_lald (c0 := 35) (t0 := 0) M hS0 (by decide) (hs_35 G _) rfl g4 (by decide) dL_at_24 ?_
      refine x_goto (tgt := 35) M dL_at_25 (by decide) ?_
      exact x_lret M hr hf hS0 (hS0.inl _ _ _) dL_at_35
  · have hf := ift hf (Int.not_le.mp hc)
    refine x_aload_n M hl0 dL_at_6 0 rfl ?_
    refine x_iload_n M hl0 dL_at_7 3 rfl ?_
    obtain ⟨g5, hf⟩ := gdt hf
    refine x_lald (c0 := 34) (t0 := 0) M hS0 (by decide) (hs_34 G _) rfl g5 (by decide) dL_at_8 ?_
    refine x_goto (tgt := 35) M dL_at_9 (by decide) ?_
    exact x_lret M hr hf hS0 (hS0.inl _ _ _) dL_at_35

/-! L_puts -/
set_option maxHeartbeats 4000000 in
set_option maxRecDepth 100000 in
theorem c_L_puts (l : Launch) {G : GG} {x3 : Int} (hx3 : InR x3) {x4 : Int} (hx4 : InL x4) {w : Wd} {r : Int} {w' : Wd} (hf : L_puts x3 x4 w = some (r, w')) : Met l yL_puts wsL_puts (rmL 0 0) (PcG G w [.ref (G.1 34 0), .ref (G.1 35 0), .ref (G.1 36 0), iV x3, lV x4]) (QvG G w') 0 0 (GA G) := by
  refine met_of (own := RL) (by decide) rfl (Nat.le_of_ble_eq_true rfl) rfl ?_
  intro p e s m args below meth c M hr ls hl0 hS0
  have hl0 : lv_has ls 6 [(0, .ref (G.1 34 0)), (1, .ref (G.1 35 0)), (2, .ref (G.1 36 0)), (3, iV x3), (4, lV x4)] := hl0
  unfold L_puts at hf
  refine x_iload_n M hl0 dL_puts_0 3 rfl ?_
  refine x_bipush M dL_puts_1 rfl ?_
  refine x_icmp_ge (tgt := 14) M hx3 ⟨by decide, by decide⟩ dL_puts_3 (by decide) (fun hc => ?_) (fun hc => ?_)
  · have hf := iff_ hf (Int.not_lt.mpr hc)
    refine x_iload_n M hl0 dL_puts_14 3 rfl ?_
    refine x_sipush M dL_puts_15 rfl ?_
    refine x_icmp_ge (tgt := 32) M hx3 ⟨by decide, by decide⟩ dL_puts_18 (by decide) (fun hc => ?_) (fun hc => ?_)
    · have hf := iff_ hf (Int.not_lt.mpr hc)
      refine x_aload_n M hl0 dL_puts_32 2 rfl ?_
      refine x_iload_n M hl0 dL_puts_33 3 rfl ?_
      refine x_sipush M dL_puts_34 rfl ?_
      obtain ⟨g1, hf⟩ := gdt hf
      refine x_isub M dL_puts_37 ?_
      refine x_lload M hl0 dL_puts_38 4 rfl ?_
      obtain ⟨g2, hf⟩ := gdt hf
      refine x_last (c0 := 36) (t0 := 0) M hS0 (by decide) (hs_36 G _) rfl g2 (by decide) (by decide) hx4 dL_puts_40 (fun H locs hS3 => ?_)
      exact x_vret M hr hf hS3 dL_puts_41
    · have hf := ift hf (Int.not_le.mp hc)
      refine x_aload_n M hl0 dL_puts_21 1 rfl ?_
      refine x_iload_n M hl0 dL_puts_22 3 rfl ?_
      refine x_bipush M dL_puts_23 rfl ?_
      obtain ⟨g4, hf⟩ := gdt hf
      refine x_isub M dL_puts_25 ?_
      refine x_lload M hl0 dL_puts_26 4 rfl ?_
      obtain ⟨g5, hf⟩ := gdt hf
      refine x_last (c0 := 35) (t0 := 0) M hS0 (by decide) (hs_35 G _) rfl g5 (by decide) (by decide) hx4 dL_puts_28 (fun H locs hS6 => ?_)
      refine x_goto (tgt := 41) M dL_puts_29 (by decide) ?_
      exact x_vret M hr hf hS6 dL_puts_41
  · have hf := ift hf (Int.not_le.mp hc)
    refine x_aload_n M hl0 dL_puts_6 0 rfl ?_
    refine x_iload_n M hl0 dL_puts_7 3 rfl ?_
    refine x_lload M hl0 dL_puts_8 4 rfl ?_
    obtain ⟨g7, hf⟩ := gdt hf
    refine x_last (c0 := 34) (t0 := 0) M hS0 (by decide) (hs_34 G _) rfl g7 (by decide) (by decide) hx4 dL_puts_10 (fun H locs hS8 => ?_)
    refine x_goto (tgt := 41) M dL_puts_11 (by decide) ?_
    exact x_vret M hr hf hS8 dL_puts_41

/-! L_pack -/
theorem kcL_pack_9 : Cond.constantLong RL 9 (9) ∈ wsL_pack := by decide +kernel
set_option maxHeartbeats 4000000 in
set_option maxRecDepth 100000 in
theorem c_L_pack (l : Launch) {G : GG} {x0 : Int} (hx0 : InR x0) {x1 : Int} (hx1 : InR x1) {x2 : Int} (hx2 : InR x2) {x3 : Int} (hx3 : InR x3) {x4 : Int} (hx4 : InR x4) {w : Wd} {r : Int} {w' : Wd} (hf : L_pack x0 x1 x2 x3 x4 w = some (r, w')) : Met l yL_pack wsL_pack (rmL 0 0) (PcG G w [iV x0, iV x1, iV x2, iV x3, iV x4]) (QlG G r w') 0 0 (GA G) := by
  refine met_of (own := RL) (by decide) rfl (Nat.le_of_ble_eq_true rfl) rfl ?_
  intro p e s m args below meth c M hr ls hl0 hS0
  have hl0 : lv_has ls 5 [(0, iV x0), (1, iV x1), (2, iV x2), (3, iV x3), (4, iV x4)] := hl0
  unfold L_pack at hf
  refine x_iload_n M hl0 dL_pack_0 0 rfl ?_
  refine x_i2l M hx0 dL_pack_1 ?_
  refine x_lconst (z := 1) M dL_pack_2 rfl ?_
  obtain ⟨g1, hf⟩ := gdt hf
  refine x_ladd M dL_pack_3 ?_
  refine x_iload_n M hl0 dL_pack_4 1 rfl ?_
  refine x_i2l M hx1 dL_pack_5 ?_
  refine x_ldc2 (z := 9) M kcL_pack_9 rfl dL_pack_6 ?_
  obtain ⟨g2, hf⟩ := gdt hf
  refine x_ladd M dL_pack_9 ?_
  refine x_bipush M dL_pack_10 rfl ?_
  refine x_lshl M dL_pack_12 ?_
  refine x_lor M dL_pack_13 ?_
  refine x_iload_n M hl0 dL_pack_14 2 rfl ?_
  refine x_i2l M hx2 dL_pack_15 ?_
  refine x_ldc2 (z := 9) M kcL_pack_9 rfl dL_pack_16 ?_
  obtain ⟨g3, hf⟩ := gdt hf
  refine x_ladd M dL_pack_19 ?_
  refine x_bipush M dL_pack_20 rfl ?_
  refine x_lshl M dL_pack_22 ?_
  refine x_lor M dL_pack_23 ?_
  refine x_iload_n M hl0 dL_pack_24 3 rfl ?_
  refine x_i2l M hx3 dL_pack_25 ?_
  refine x_ldc2 (z := 9) M kcL_pack_9 rfl dL_pack_26 ?_
  obtain ⟨g4, hf⟩ := gdt hf
  refine x_ladd M dL_pack_29 ?_
  refine x_bipush M dL_pack_30 rfl ?_
  refine x_lshl M dL_pack_32 ?_
  refine x_lor M dL_pack_33 ?_
  refine x_iload M hl0 dL_pack_34 4 rfl ?_
  refine x_i2l M hx4 dL_pack_36 ?_
  refine x_bipush M dL_pack_37 rfl ?_
  refine x_lshl M dL_pack_39 ?_
  refine x_lor M dL_pack_40 ?_
  exact x_lret M hr hf hS0 (ol_inl _) dL_pack_41

/-! L_thing -/
theorem kcL_thing_11 : Cond.constantLong RL 11 (63) ∈ wsL_thing := by decide +kernel
set_option maxHeartbeats 4000000 in
set_option maxRecDepth 100000 in
theorem c_L_thing (l : Launch) {G : GG} {x0 : Int} (hx0 : InL x0) {w : Wd} {r : Int} {w' : Wd} (hf : L_thing x0 w = some (r, w')) : Met l yL_thing wsL_thing (rmL 0 0) (PcG G w [lV x0]) (QiG G r w') 0 0 (GA G) := by
  refine met_of (own := RL) (by decide) rfl (Nat.le_of_ble_eq_true rfl) rfl ?_
  intro p e s m args below meth c M hr ls hl0 hS0
  have hl0 : lv_has ls 2 [(0, lV x0)] := hl0
  unfold L_thing at hf
  refine x_lload_n M hl0 dL_thing_0 0 rfl ?_
  refine x_ldc2 (z := 63) M kcL_thing_11 rfl dL_thing_1 ?_
  refine x_land M dL_thing_4 ?_
  refine x_l2i M dL_thing_5 ?_
  refine x_iconst M dL_thing_6 ?_
  obtain ⟨g1, hf⟩ := gdt hf
  refine x_isub M dL_thing_7 ?_
  exact x_iret M hr hf hS0 g1 dL_thing_8

/-! L_name -/
theorem kcL_name_13 : Cond.constantLong RL 13 (511) ∈ wsL_name := by decide +kernel
set_option maxHeartbeats 4000000 in
set_option maxRecDepth 100000 in
theorem c_L_name (l : Launch) {G : GG} {x0 : Int} (hx0 : InL x0) {x2 : Int} (hx2 : InR x2) {w : Wd} {r : Int} {w' : Wd} (hf : L_name x0 x2 w = some (r, w')) : Met l yL_name wsL_name (rmL 0 0) (PcG G w [lV x0, iV x2]) (QiG G r w') 0 0 (GA G) := by
  refine met_of (own := RL) (by decide) rfl (Nat.le_of_ble_eq_true rfl) rfl ?_
  intro p e s m args below meth c M hr ls hl0 hS0
  have hl0 : lv_has ls 3 [(0, lV x0), (2, iV x2)] := hl0
  unfold L_name at hf
  refine x_lload_n M hl0 dL_name_0 0 rfl ?_
  refine x_bipush M dL_name_1 rfl ?_
  refine x_bipush M dL_name_3 rfl ?_
  refine x_iload_n M hl0 dL_name_5 1 rfl ?_
  obtain ⟨g1, hf⟩ := gdt hf
  refine x_imul M dL_name_6 ?_
  obtain ⟨g2, hf⟩ := gdt hf
  refine x_iadd M dL_name_7 ?_
  refine x_lshr M dL_name_8 ?_
  refine x_ldc2 (z := 511) M kcL_name_13 rfl dL_name_9 ?_
  refine x_land M dL_name_12 ?_
  refine x_l2i M dL_name_13 ?_
  refine x_bipush M dL_name_14 rfl ?_
  obtain ⟨g3, hf⟩ := gdt hf
  refine x_isub M dL_name_16 ?_
  exact x_iret M hr hf hS0 g3 dL_name_17

/-! L_mark -/
set_option maxHeartbeats 4000000 in
set_option maxRecDepth 100000 in
theorem c_L_mark (l : Launch) {G : GG} {x0 : Int} (hx0 : InL x0) {w : Wd} {r : Int} {w' : Wd} (hf : L_mark x0 w = some (r, w')) : Met l yL_mark wsL_mark (rmL 0 0) (PcG G w [lV x0]) (QiG G r w') 0 0 (GA G) := by
  refine met_of (own := RL) (by decide) rfl (Nat.le_of_ble_eq_true rfl) rfl ?_
  intro p e s m args below meth c M hr ls hl0 hS0
  have hl0 : lv_has ls 2 [(0, lV x0)] := hl0
  unfold L_mark at hf
  refine x_lload_n M hl0 dL_mark_0 0 rfl ?_
  refine x_bipush M dL_mark_1 rfl ?_
  refine x_lshr M dL_mark_3 ?_
  refine x_lconst (z := 1) M dL_mark_4 rfl ?_
  refine x_land M dL_mark_5 ?_
  refine x_l2i M dL_mark_6 ?_
  exact x_iret M hr hf hS0 (o_inr _) dL_mark_7

/-! L_kept -/
set_option maxHeartbeats 4000000 in
set_option maxRecDepth 100000 in
theorem L_kept_b38_ok (M : MC p s m args meth c cL_kept 8 RL wsL_kept G) (hr : meth.sig.returnType = (some .int)) {K6 : Int → Int → Wd → Option (Int × Wd)} (hK6 : ∀ x4 : Int, ∀ x5 : Int, ∀ w : Wd, InR x4 → InR x5 → ∀ (H : Heap) (locs : List Loc), ST G s w H locs → ∀ ls : Array Slot, lv_has ls 8 [(0, .ref (G.1 30 0)), (1, .ref (G.1 32 0)), (2, .ref (G.1 34 0)), (3, .ref (G.1 35 0)), (4, iV x4), (5, iV x5)] → ∀ (r : Int) (w' : Wd), K6 x4 x5 w = some (r, w') → W p l e (rmL 1 30) s m args below meth c H locs 0 0 (MQ below (QiG G r w') args s 0 0 (GA G)) (F0 m 6 ls [])) : ∀ x4 : Int, ∀ x5 : Int, ∀ s0 : Int, ∀ w : Wd, InR x4 → InR x5 → InL s0 → ∀ (H : Heap) (locs : List Loc), ST G s w H locs → ∀ ls : Array Slot, lv_has ls 8 [(0, .ref (G.1 30 0)), (1, .ref (G.1 32 0)), (2, .ref (G.1 34 0)), (3, .ref (G.1 35 0)), (4, iV x4), (5, iV x5)] → ∀ (r : Int) (w' : Wd), L_kept_b38 K6 x4 x5 s0 w = some (r, w') → W p l e (rmL 1 30) s m args below meth c H locs 0 0 (MQ below (QiG G r w') args s 0 0 (GA G)) (F0 m 38 ls [lV s0]) := by
  intro x4 x5 s0 w hx4 hx5 hs0 H locs hS0 ls hl0 r w' hf
  unfold L_kept_b38 at hf
  refine x_lstore M hl0 dL_kept_38 (by decide) [(6, lV s0), (0, .ref (G.1 30 0)), (1, .ref (G.1 32 0)), (2, .ref (G.1 34 0)), (3, .ref (G.1 35 0)), (4, iV x4), (5, iV x5)] rfl (fun ls hl4 => ?_)
  refine x_iload M hl4 dL_kept_40 5 rfl ?_
  refine x_lload M hl4 dL_kept_42 0 rfl ?_
  refine x_lconst (z := 0) M dL_kept_44 rfl ?_
  refine x_lcmp M dL_kept_45 ?_
  refine x_if_eq (tgt := 68) M (o_inr _) dL_kept_46 (by decide) (fun hc => ?_) (fun hc => ?_)
  · have hf := ift hf hc
    refine x_iconst M dL_kept_68 ?_
    obtain ⟨g5, hf⟩ := gdt hf
    refine x_iadd M dL_kept_69 ?_
    refine x_istore M hl4 dL_kept_70 (by decide) [(4, iV (x4 + 0)), (6, lV s0), (0, .ref (G.1 30 0)), (1, .ref (G.1 32 0)), (2, .ref (G.1 34 0)), (3, .ref (G.1 35 0)), (5, iV x5)] rfl (fun ls hl6 => ?_)
    obtain ⟨g7, hf⟩ := gdt hf
    refine x_iinc M hl6 dL_kept_72 6 rfl (by decide) [(5, iV (x5 + 1)), (4, iV (x4 + 0)), (6, lV s0), (0, .ref (G.1 30 0)), (1, .ref (G.1 32 0)), (2, .ref (G.1 34 0)), (3, .ref (G.1 35 0))] rfl (fun ls hl8 => ?_)
    refine x_goto (tgt := 6) M dL_kept_75 (by decide) ?_
    exact hK6 (x4 + 0) (x5 + 1) w g5 g7 _ _ hS0 _ (lv_sub hl8 [3, 4, 5, 6, 1, 0] rfl) _ _ hf
  · have hf := iff_ hf hc
    refine x_lload M hl4 dL_kept_49 0 rfl ?_
    refine x_iconst M dL_kept_51 ?_
    obtain ⟨r9, w10, hc11, hf⟩ := bdt hf
    refine x_callTi (As := [lV s0, iV 2]) (rest := [iV x4]) M hl4 hS0 (c_L_name l  hs0 ⟨by decide, by decide⟩ hc11) (va_cwS 2 M.2.2.2.2.1 gL_kept_L_name rfl rfl rfl (by decide +kernel) ⟨Nat.le_of_ble_eq_true rfl, Nat.le_of_ble_eq_true rfl⟩) (Nat.le_of_ble_eq_true rfl) rfl (Nat.le_of_ble_eq_true rfl) dL_kept_52 rfl ⟨Nat.zero_le _, Nat.zero_le _⟩ (fun H locs hi12 hS13 => ?_)
    refine x_if_ge (tgt := 68) M hi12 dL_kept_55 (by decide) (fun hc => ?_) (fun hc => ?_)
    · have hf := iff_ hf (Int.not_lt.mpr hc)
      refine x_iconst M dL_kept_68 ?_
      obtain ⟨g14, hf⟩ := gdt hf
      refine x_iadd M dL_kept_69 ?_
      refine x_istore M hl4 dL_kept_70 (by decide) [(4, iV (x4 + 0)), (6, lV s0), (0, .ref (G.1 30 0)), (1, .ref (G.1 32 0)), (2, .ref (G.1 34 0)), (3, .ref (G.1 35 0)), (5, iV x5)] rfl (fun ls hl15 => ?_)
      obtain ⟨g16, hf⟩ := gdt hf
      refine x_iinc M hl15 dL_kept_72 6 rfl (by decide) [(5, iV (x5 + 1)), (4, iV (x4 + 0)), (6, lV s0), (0, .ref (G.1 30 0)), (1, .ref (G.1 32 0)), (2, .ref (G.1 34 0)), (3, .ref (G.1 35 0))] rfl (fun ls hl17 => ?_)
      refine x_goto (tgt := 6) M dL_kept_75 (by decide) ?_
      exact hK6 (x4 + 0) (x5 + 1) w10 g14 g16 _ _ hS13 _ (lv_sub hl17 [3, 4, 5, 6, 1, 0] rfl) _ _ hf
    · have hf := ift hf (Int.not_le.mp hc)
      refine x_aload_n M hl4 dL_kept_58 2 rfl ?_
      refine x_lload M hl4 dL_kept_59 0 rfl ?_
      obtain ⟨r18, w19, hc20, hf⟩ := bdt hf
      refine x_callTi (As := [lV s0]) (rest := [.ref (G.1 32 0), iV x4]) M hl4 hS13 (c_L_thing l  hs0 hc20) (va_cwS 1 M.2.2.2.2.1 gL_kept_L_thing rfl rfl rfl (by decide +kernel) ⟨Nat.le_of_ble_eq_true rfl, Nat.le_of_ble_eq_true rfl⟩) (Nat.le_of_ble_eq_true rfl) rfl (Nat.le_of_ble_eq_true rfl) dL_kept_61 rfl ⟨Nat.zero_le _, Nat.zero_le _⟩ (fun H locs hi21 hS22 => ?_)
      obtain ⟨g23, hf⟩ := gdt hf
      refine x_iald (c0 := 32) (t0 := 0) M hS22 (by decide) (hs_32 G _) rfl g23 (by decide) dL_kept_64 ?_
      refine x_goto (tgt := 69) M dL_kept_65 (by decide) ?_
      obtain ⟨g24, hf⟩ := gdt hf
      refine x_iadd M dL_kept_69 ?_
      refine x_istore M hl4 dL_kept_70 (by decide) [(4, iV (x4 + (w19 32 0 r18.toNat))), (6, lV s0), (0, .ref (G.1 30 0)), (1, .ref (G.1 32 0)), (2, .ref (G.1 34 0)), (3, .ref (G.1 35 0)), (5, iV x5)] rfl (fun ls hl25 => ?_)
      obtain ⟨g26, hf⟩ := gdt hf
      refine x_iinc M hl25 dL_kept_72 6 rfl (by decide) [(5, iV (x5 + 1)), (4, iV (x4 + (w19 32 0 r18.toNat))), (6, lV s0), (0, .ref (G.1 30 0)), (1, .ref (G.1 32 0)), (2, .ref (G.1 34 0)), (3, .ref (G.1 35 0))] rfl (fun ls hl27 => ?_)
      refine x_goto (tgt := 6) M dL_kept_75 (by decide) ?_
      exact hK6 (x4 + (w19 32 0 r18.toNat)) (x5 + 1) w19 g24 g26 _ _ hS22 _ (lv_sub hl27 [3, 4, 5, 6, 1, 0] rfl) _ _ hf

set_option maxHeartbeats 4000000 in
set_option maxRecDepth 100000 in
theorem L_kept_b6_ok (M : MC p s m args meth c cL_kept 8 RL wsL_kept G) (hr : meth.sig.returnType = (some .int)) : ∀ n : Nat, ∀ x4 : Int, ∀ x5 : Int, ∀ w : Wd, InR x4 → InR x5 → ∀ (H : Heap) (locs : List Loc), ST G s w H locs → ∀ ls : Array Slot, lv_has ls 8 [(0, .ref (G.1 30 0)), (1, .ref (G.1 32 0)), (2, .ref (G.1 34 0)), (3, .ref (G.1 35 0)), (4, iV x4), (5, iV x5)] → ∀ (r : Int) (w' : Wd), L_kept_b6 n x4 x5 w = some (r, w') → W p l e (rmL 1 30) s m args below meth c H locs 0 0 (MQ below (QiG G r w') args s 0 0 (GA G)) (F0 m 6 ls []) := by
  intro n
  induction n with
  | zero =>
    intro x4 x5 w hx4 hx5 H locs hS0 ls hl0 r w' hf
    cases hf
  | succ n ih =>
    intro x4 x5 w hx4 hx5 H locs hS0 ls hl0 r w' hf
    rw [L_kept_b6_s] at hf
    refine x_iload M hl0 dL_kept_6 5 rfl ?_
    refine x_bipush M dL_kept_8 rfl ?_
    refine x_icmp_ge (tgt := 78) M hx5 ⟨by decide, by decide⟩ dL_kept_10 (by decide) (fun hc => ?_) (fun hc => ?_)
    · have hf := iff_ hf (Int.not_lt.mpr hc)
      refine x_iload M hl0 dL_kept_78 4 rfl ?_
      exact x_iret M hr hf hS0 hx4 dL_kept_80
    · have hf := ift hf (Int.not_le.mp hc)
      refine x_aload_n M hl0 dL_kept_13 0 rfl ?_
      refine x_iconst M dL_kept_14 ?_
      refine x_iald (c0 := 30) (t0 := 0) M hS0 (by decide) (hs_30 G _) rfl ⟨by decide, by decide⟩ (by decide) dL_kept_15 ?_
      refine x_iconst M dL_kept_16 ?_
      refine x_icmp_ne (tgt := 78) M (hS0.inr _ _ _) ⟨by decide, by decide⟩ dL_kept_17 (by decide) (fun hc => ?_) (fun hc => ?_)
      · have hf := iff_ hf hc
        refine x_iload M hl0 dL_kept_78 4 rfl ?_
        exact x_iret M hr hf hS0 hx4 dL_kept_80
      · have hf := ift hf (Decidable.of_not_not hc)
        refine x_aload_n M hl0 dL_kept_20 0 rfl ?_
        refine x_iconst M dL_kept_21 ?_
        refine x_iald (c0 := 30) (t0 := 0) M hS0 (by decide) (hs_30 G _) rfl ⟨by decide, by decide⟩ (by decide) dL_kept_22 ?_
        refine x_iconst M dL_kept_23 ?_
        refine x_icmp_ne (tgt := 34) M (hS0.inr _ _ _) ⟨by decide, by decide⟩ dL_kept_24 (by decide) (fun hc => ?_) (fun hc => ?_)
        · have hf := iff_ hf hc
          refine x_aload_n M hl0 dL_kept_34 3 rfl ?_
          refine x_iload M hl0 dL_kept_35 5 rfl ?_
          obtain ⟨g3, hf⟩ := gdt hf
          refine x_lald (c0 := 35) (t0 := 0) M hS0 (by decide) (hs_35 G _) rfl g3 (by decide) dL_kept_37 ?_
          exact L_kept_b38_ok M hr ih x4 x5 (w 35 0 x5.toNat) w hx4 hx5 (hS0.inl _ _ _) _ _ hS0 _ (lv_sub hl0 [0, 1, 2, 3, 4, 5] rfl) _ _ hf
        · have hf := ift hf (Decidable.of_not_not hc)
          refine x_aload_n M hl0 dL_kept_27 2 rfl ?_
          refine x_iload M hl0 dL_kept_28 5 rfl ?_
          obtain ⟨g28, hf⟩ := gdt hf
          refine x_lald (c0 := 34) (t0 := 0) M hS0 (by decide) (hs_34 G _) rfl g28 (by decide) dL_kept_30 ?_
          refine x_goto (tgt := 38) M dL_kept_31 (by decide) ?_
          exact L_kept_b38_ok M hr ih x4 x5 (w 34 0 x5.toNat) w hx4 hx5 (hS0.inl _ _ _) _ _ hS0 _ (lv_sub hl0 [0, 1, 2, 3, 4, 5] rfl) _ _ hf

set_option maxHeartbeats 4000000 in
set_option maxRecDepth 100000 in
theorem c_L_kept (l : Launch) {G : GG} {w : Wd} {r : Int} {w' : Wd} (hf : L_kept w = some (r, w')) : Met l yL_kept wsL_kept (rmL 1 30) (PcG G w [.ref (G.1 30 0), .ref (G.1 32 0), .ref (G.1 34 0), .ref (G.1 35 0)]) (QiG G r w') 0 0 (GA G) := by
  refine met_of (own := RL) (by decide) rfl (Nat.le_of_ble_eq_true rfl) rfl ?_
  intro p e s m args below meth c M hr ls hl0 hS0
  have hl0 : lv_has ls 8 [(0, .ref (G.1 30 0)), (1, .ref (G.1 32 0)), (2, .ref (G.1 34 0)), (3, .ref (G.1 35 0))] := hl0
  unfold L_kept at hf
  refine x_iconst M dL_kept_0 ?_
  refine x_istore M hl0 dL_kept_1 (by decide) [(4, iV 0), (0, .ref (G.1 30 0)), (1, .ref (G.1 32 0)), (2, .ref (G.1 34 0)), (3, .ref (G.1 35 0))] rfl (fun ls hl1 => ?_)
  refine x_iconst M dL_kept_3 ?_
  refine x_istore M hl1 dL_kept_4 (by decide) [(5, iV 0), (4, iV 0), (0, .ref (G.1 30 0)), (1, .ref (G.1 32 0)), (2, .ref (G.1 34 0)), (3, .ref (G.1 35 0))] rfl (fun ls hl2 => ?_)
  exact L_kept_b6_ok M hr LF 0 0 w ⟨by decide, by decide⟩ ⟨by decide, by decide⟩ _ _ hS0 _ (lv_sub hl2 [2, 3, 4, 5, 1, 0] rfl) _ _ hf

/-! L_lays -/
set_option maxHeartbeats 4000000 in
set_option maxRecDepth 100000 in
theorem c_L_lays (l : Launch) {G : GG} {x5 : Int} (hx5 : InR x5) {x6 : Int} (hx6 : InR x6) {x7 : Int} (hx7 : InR x7) {w : Wd} {r : Int} {w' : Wd} (hf : L_lays x5 x6 x7 w = some (r, w')) : Met l yL_lays wsL_lays (rmL 1 33) (PcG G w [.ref (G.1 30 0), .ref (G.1 32 0), .ref (G.1 34 0), .ref (G.1 35 0), .ref (G.1 36 0), iV x5, iV x6, iV x7]) (QiG G r w') 0 0 (GA G) := by
  refine met_of (own := RL) (by decide) rfl (Nat.le_of_ble_eq_true rfl) rfl ?_
  intro p e s m args below meth c M hr ls hl0 hS0
  have hl0 : lv_has ls 9 [(0, .ref (G.1 30 0)), (1, .ref (G.1 32 0)), (2, .ref (G.1 34 0)), (3, .ref (G.1 35 0)), (4, .ref (G.1 36 0)), (5, iV x5), (6, iV x6), (7, iV x7)] := hl0
  unfold L_lays at hf
  refine x_bipush M dL_lays_0 rfl ?_
  refine x_aload_n M hl0 dL_lays_2 0 rfl ?_
  refine x_iconst M dL_lays_3 ?_
  refine x_iald (c0 := 30) (t0 := 0) M hS0 (by decide) (hs_30 G _) rfl ⟨by decide, by decide⟩ (by decide) dL_lays_4 ?_
  obtain ⟨g1, hf⟩ := gdt hf
  refine x_imul M dL_lays_5 ?_
  refine x_aload_n M hl0 dL_lays_6 0 rfl ?_
  refine x_iconst M dL_lays_7 ?_
  refine x_aload_n M hl0 dL_lays_8 0 rfl ?_
  refine x_iconst M dL_lays_9 ?_
  refine x_iald (c0 := 30) (t0 := 0) M hS0 (by decide) (hs_30 G _) rfl ⟨by decide, by decide⟩ (by decide) dL_lays_10 ?_
  obtain ⟨g2, hf⟩ := gdt hf
  refine x_iadd M dL_lays_11 ?_
  obtain ⟨g3, hf⟩ := gdt hf
  refine x_iald (c0 := 30) (t0 := 0) M hS0 (by decide) (hs_30 G _) rfl g3 (by decide) dL_lays_12 ?_
  obtain ⟨g4, hf⟩ := gdt hf
  refine x_iadd M dL_lays_13 ?_
  refine x_istore M hl0 dL_lays_14 (by decide) [(8, iV ((100 * (w 30 0 3)) + (w 30 0 (4 + (w 30 0 3)).toNat))), (0, .ref (G.1 30 0)), (1, .ref (G.1 32 0)), (2, .ref (G.1 34 0)), (3, .ref (G.1 35 0)), (4, .ref (G.1 36 0)), (5, iV x5), (6, iV x6), (7, iV x7)] rfl (fun ls hl5 => ?_)
  refine x_aload_n M hl5 dL_lays_16 3 rfl ?_
  refine x_aload_n M hl5 dL_lays_17 4 rfl ?_
  refine x_aload M hl5 dL_lays_18 5 rfl ?_
  refine x_iload M hl5 dL_lays_20 0 rfl ?_
  refine x_iload M hl5 dL_lays_22 6 rfl ?_
  refine x_iload M hl5 dL_lays_24 7 rfl ?_
  refine x_iload M hl5 dL_lays_26 8 rfl ?_
  refine x_bipush M dL_lays_28 rfl ?_
  refine x_iconst M dL_lays_30 ?_
  obtain ⟨r6, w7, hc8, hf⟩ := bdt hf
  refine x_callTl (As := [iV x5, iV x6, iV x7, iV ((-9)), iV 0]) (rest := [iV ((100 * (w 30 0 3)) + (w 30 0 (4 + (w 30 0 3)).toNat)), .ref (G.1 36 0), .ref (G.1 35 0), .ref (G.1 34 0)]) M hl5 hS0 (c_L_pack l  hx5 hx6 hx7 ⟨by decide, by decide⟩ ⟨by decide, by decide⟩ hc8) (va_cwS 5 M.2.2.2.2.1 gL_lays_L_pack rfl rfl rfl (by decide +kernel) ⟨Nat.le_of_ble_eq_true rfl, Nat.le_of_ble_eq_true rfl⟩) (Nat.le_of_ble_eq_true rfl) rfl (Nat.le_of_ble_eq_true rfl) dL_lays_31 rfl ⟨Nat.zero_le _, Nat.zero_le _⟩ (fun H locs hi9 hS10 => ?_)
  obtain ⟨r11, w12, hc13, hf⟩ := bdt hf
  refine x_callTv (As := [.ref (G.1 34 0), .ref (G.1 35 0), .ref (G.1 36 0), iV ((100 * (w 30 0 3)) + (w 30 0 (4 + (w 30 0 3)).toNat)), lV r6]) (rest := []) M hl5 hS10 (c_L_puts l  g4 hi9 hc13) (va_cwS 5 M.2.2.2.2.1 gL_lays_L_puts rfl rfl rfl (by decide +kernel) ⟨Nat.le_of_ble_eq_true rfl, Nat.le_of_ble_eq_true rfl⟩) (Nat.le_of_ble_eq_true rfl) rfl (Nat.le_of_ble_eq_true rfl) dL_lays_34 rfl ⟨Nat.zero_le _, Nat.zero_le _⟩ (fun H locs hS15 => ?_)
  refine x_aload_n M hl5 dL_lays_37 1 rfl ?_
  refine x_iconst M dL_lays_38 ?_
  refine x_aload_n M hl5 dL_lays_39 1 rfl ?_
  refine x_iconst M dL_lays_40 ?_
  refine x_iald (c0 := 30) (t0 := 0) M hS15 (by decide) (hs_30 G _) rfl ⟨by decide, by decide⟩ (by decide) dL_lays_41 ?_
  obtain ⟨g16, hf⟩ := gdt hf
  refine x_iadd M dL_lays_42 ?_
  refine x_dup2 M dL_lays_43 rfl rfl ?_
  obtain ⟨g17, hf⟩ := gdt hf
  refine x_iald (c0 := 30) (t0 := 0) M hS15 (by decide) (hs_30 G _) rfl g17 (by decide) dL_lays_44 ?_
  refine x_aload_n M hl5 dL_lays_45 2 rfl ?_
  refine x_iload M hl5 dL_lays_46 6 rfl ?_
  obtain ⟨g18, hf⟩ := gdt hf
  refine x_iald (c0 := 32) (t0 := 0) M hS15 (by decide) (hs_32 G _) rfl g18 (by decide) dL_lays_48 ?_
  obtain ⟨g19, hf⟩ := gdt hf
  refine x_iadd M dL_lays_49 ?_
  refine x_iast (c0 := 30) (t0 := 0) M hS15 (by decide) (hs_30 G _) rfl g17 (by decide) g19 dL_lays_50 (fun H locs hS20 => ?_)
  refine x_iload M hl5 dL_lays_51 0 rfl ?_
  exact x_iret M hr hf hS20 g4 dL_lays_53

/-! L_read -/
theorem kcL_read_40 : Cond.constantLong RL 40 (8589934592) ∈ wsL_read := by decide +kernel
set_option maxHeartbeats 4000000 in
set_option maxRecDepth 100000 in
theorem c_L_read (l : Launch) {G : GG} {x6 : Int} (hx6 : InR x6) {w : Wd} {r : Int} {w' : Wd} (hf : L_read x6 w = some (r, w')) : Met l yL_read wsL_read (rmL 2 69) (PcG G w [.ref (G.1 30 0), .ref (G.1 32 0), .ref (G.1 33 0), .ref (G.1 34 0), .ref (G.1 35 0), .ref (G.1 36 0), iV x6]) (QiG G r w') 0 0 (GA G) := by
  refine met_of (own := RL) (by decide) rfl (Nat.le_of_ble_eq_true rfl) rfl ?_
  intro p e s m args below meth c M hr ls hl0 hS0
  have hl0 : lv_has ls 10 [(0, .ref (G.1 30 0)), (1, .ref (G.1 32 0)), (2, .ref (G.1 33 0)), (3, .ref (G.1 34 0)), (4, .ref (G.1 35 0)), (5, .ref (G.1 36 0)), (6, iV x6)] := hl0
  unfold L_read at hf
  refine x_iload M hl0 dL_read_0 6 rfl ?_
  refine x_if_lt (tgt := 22) M hx6 dL_read_2 (by decide) (fun hc => ?_) (fun hc => ?_)
  · have hf := ift hf hc
    refine x_iload M hl0 dL_read_22 6 rfl ?_
    exact x_iret M hr hf hS0 hx6 dL_read_24
  · have hf := iff_ hf hc
    refine x_aload_n M hl0 dL_read_5 0 rfl ?_
    refine x_iconst M dL_read_6 ?_
    refine x_iald (c0 := 30) (t0 := 0) M hS0 (by decide) (hs_30 G _) rfl ⟨by decide, by decide⟩ (by decide) dL_read_7 ?_
    refine x_if_eq (tgt := 22) M (hS0.inr _ _ _) dL_read_8 (by decide) (fun hc => ?_) (fun hc => ?_)
    · have hf := ift hf hc
      refine x_iload M hl0 dL_read_22 6 rfl ?_
      exact x_iret M hr hf hS0 hx6 dL_read_24
    · have hf := iff_ hf hc
      refine x_iload M hl0 dL_read_11 6 rfl ?_
      refine x_bipush M dL_read_13 rfl ?_
      obtain ⟨g1, hf⟩ := gdt hf
      refine x_idiv M hx6 ⟨by decide, by decide⟩ ⟨g1, by decide⟩ dL_read_15 ?_
      refine x_aload_n M hl0 dL_read_16 0 rfl ?_
      refine x_iconst M dL_read_17 ?_
      refine x_iald (c0 := 30) (t0 := 0) M hS0 (by decide) (hs_30 G _) rfl ⟨by decide, by decide⟩ (by decide) dL_read_18 ?_
      refine x_icmp_ne (tgt := 25) M (o_inr_div hx6 ⟨g1, by decide⟩) (hS0.inr _ _ _) dL_read_19 (by decide) (fun hc => ?_) (fun hc => ?_)
      · have hf := iff_ hf hc
        refine x_aload_n M hl0 dL_read_25 3 rfl ?_
        refine x_aload M hl0 dL_read_26 4 rfl ?_
        refine x_aload M hl0 dL_read_28 5 rfl ?_
        refine x_iload M hl0 dL_read_30 6 rfl ?_
        obtain ⟨r2, w3, hc4, hf⟩ := bdt hf
        refine x_callTl (As := [.ref (G.1 34 0), .ref (G.1 35 0), .ref (G.1 36 0), iV x6]) (rest := []) M hl0 hS0 (c_L_at l  hx6 hc4) (va_cwS 4 M.2.2.2.2.1 gL_read_L_at rfl rfl rfl (by decide +kernel) ⟨Nat.le_of_ble_eq_true rfl, Nat.le_of_ble_eq_true rfl⟩) (Nat.le_of_ble_eq_true rfl) rfl (Nat.le_of_ble_eq_true rfl) dL_read_32 rfl ⟨Nat.zero_le _, Nat.zero_le _⟩ (fun H locs hi5 hS6 => ?_)
        refine x_lstore M hl0 dL_read_35 (by decide) [(7, lV r2), (0, .ref (G.1 30 0)), (1, .ref (G.1 32 0)), (2, .ref (G.1 33 0)), (3, .ref (G.1 34 0)), (4, .ref (G.1 35 0)), (5, .ref (G.1 36 0)), (6, iV x6)] rfl (fun ls hl7 => ?_)
        refine x_iload M hl7 dL_read_37 7 rfl ?_
        refine x_sipush M dL_read_39 rfl ?_
        refine x_icmp_lt (tgt := 88) M hx6 ⟨by decide, by decide⟩ dL_read_42 (by decide) (fun hc => ?_) (fun hc => ?_)
        · have hf := ift hf hc
          refine x_lload M hl7 dL_read_88 0 rfl ?_
          refine x_iconst M dL_read_90 ?_
          obtain ⟨r8, w9, hc10, hf⟩ := bdt hf
          refine x_callTi (As := [lV r2, iV 2]) (rest := []) M hl7 hS6 (c_L_name l  hi5 ⟨by decide, by decide⟩ hc10) (va_cwS 2 M.2.2.2.2.1 gL_read_L_name rfl rfl rfl (by decide +kernel) ⟨Nat.le_of_ble_eq_true rfl, Nat.le_of_ble_eq_true rfl⟩) (Nat.le_of_ble_eq_true rfl) rfl (Nat.le_of_ble_eq_true rfl) dL_read_91 rfl ⟨Nat.zero_le _, Nat.zero_le _⟩ (fun H locs hi11 hS12 => ?_)
          refine x_if_ge (tgt := 178) M hi11 dL_read_94 (by decide) (fun hc => ?_) (fun hc => ?_)
          · have hf := iff_ hf (Int.not_lt.mpr hc)
            refine x_lload M hl7 dL_read_178 0 rfl ?_
            refine x_iconst M dL_read_180 ?_
            obtain ⟨r13, w14, hc15, hf⟩ := bdt hf
            refine x_callTi (As := [lV r2, iV 2]) (rest := []) M hl7 hS12 (c_L_name l  hi5 ⟨by decide, by decide⟩ hc15) (va_cwS 2 M.2.2.2.2.1 gL_read_L_name rfl rfl rfl (by decide +kernel) ⟨Nat.le_of_ble_eq_true rfl, Nat.le_of_ble_eq_true rfl⟩) (Nat.le_of_ble_eq_true rfl) rfl (Nat.le_of_ble_eq_true rfl) dL_read_181 rfl ⟨Nat.zero_le _, Nat.zero_le _⟩ (fun H locs hi16 hS17 => ?_)
            exact x_iret M hr hf hS17 hi16 dL_read_184
          · have hf := ift hf (Int.not_le.mp hc)
            refine x_aload_n M hl7 dL_read_97 1 rfl ?_
            refine x_aload_n M hl7 dL_read_98 2 rfl ?_
            refine x_aload_n M hl7 dL_read_99 4 rfl ?_
            refine x_aload M hl7 dL_read_100 5 rfl ?_
            refine x_aload M hl7 dL_read_102 6 rfl ?_
            refine x_lload M hl7 dL_read_104 0 rfl ?_
            obtain ⟨r18, w19, hc20, hf⟩ := bdt hf
            refine x_callTi (As := [lV r2]) (rest := [.ref (G.1 36 0), .ref (G.1 35 0), .ref (G.1 34 0), .ref (G.1 32 0), .ref (G.1 30 0)]) M hl7 hS12 (c_L_thing l  hi5 hc20) (va_cwS 1 M.2.2.2.2.1 gL_read_L_thing rfl rfl rfl (by decide +kernel) ⟨Nat.le_of_ble_eq_true rfl, Nat.le_of_ble_eq_true rfl⟩) (Nat.le_of_ble_eq_true rfl) rfl (Nat.le_of_ble_eq_true rfl) dL_read_106 rfl ⟨Nat.zero_le _, Nat.zero_le _⟩ (fun H locs hi21 hS22 => ?_)
            refine x_lload M hl7 dL_read_109 0 rfl ?_
            refine x_iconst M dL_read_111 ?_
            obtain ⟨r23, w24, hc25, hf⟩ := bdt hf
            refine x_callTi (As := [lV r2, iV 0]) (rest := [iV r18, .ref (G.1 36 0), .ref (G.1 35 0), .ref (G.1 34 0), .ref (G.1 32 0), .ref (G.1 30 0)]) M hl7 hS22 (c_L_name l  hi5 ⟨by decide, by decide⟩ hc25) (va_cwS 2 M.2.2.2.2.1 gL_read_L_name rfl rfl rfl (by decide +kernel) ⟨Nat.le_of_ble_eq_true rfl, Nat.le_of_ble_eq_true rfl⟩) (Nat.le_of_ble_eq_true rfl) rfl (Nat.le_of_ble_eq_true rfl) dL_read_112 rfl ⟨Nat.zero_le _, Nat.zero_le _⟩ (fun H locs hi26 hS27 => ?_)
            refine x_lload M hl7 dL_read_115 0 rfl ?_
            refine x_iconst M dL_read_117 ?_
            obtain ⟨r28, w29, hc30, hf⟩ := bdt hf
            refine x_callTi (As := [lV r2, iV 1]) (rest := [iV r23, iV r18, .ref (G.1 36 0), .ref (G.1 35 0), .ref (G.1 34 0), .ref (G.1 32 0), .ref (G.1 30 0)]) M hl7 hS27 (c_L_name l  hi5 ⟨by decide, by decide⟩ hc30) (va_cwS 2 M.2.2.2.2.1 gL_read_L_name rfl rfl rfl (by decide +kernel) ⟨Nat.le_of_ble_eq_true rfl, Nat.le_of_ble_eq_true rfl⟩) (Nat.le_of_ble_eq_true rfl) rfl (Nat.le_of_ble_eq_true rfl) dL_read_118 rfl ⟨Nat.zero_le _, Nat.zero_le _⟩ (fun H locs hi31 hS32 => ?_)
            obtain ⟨r33, w34, hc35, hf⟩ := bdt hf
            refine x_callTi (As := [.ref (G.1 30 0), .ref (G.1 32 0), .ref (G.1 34 0), .ref (G.1 35 0), .ref (G.1 36 0), iV r18, iV r23, iV r28]) (rest := []) M hl7 hS32 (c_L_lays l  hi21 hi26 hi31 hc35) (va_cwS 8 M.2.2.2.2.1 gL_read_L_lays rfl rfl rfl (by decide +kernel) ⟨Nat.le_of_ble_eq_true rfl, Nat.le_of_ble_eq_true rfl⟩) (Nat.le_of_ble_eq_true rfl) rfl (Nat.le_of_ble_eq_true rfl) dL_read_121 rfl ⟨Nat.zero_le _, Nat.zero_le _⟩ (fun H locs hi36 hS37 => ?_)
            refine x_istore M hl7 dL_read_124 (by decide) [(9, iV r33), (7, lV r2), (0, .ref (G.1 30 0)), (1, .ref (G.1 32 0)), (2, .ref (G.1 33 0)), (3, .ref (G.1 34 0)), (4, .ref (G.1 35 0)), (5, .ref (G.1 36 0)), (6, iV x6)] rfl (fun ls hl38 => ?_)
            refine x_aload_n M hl38 dL_read_126 4 rfl ?_
            refine x_aload_n M hl38 dL_read_127 2 rfl ?_
            refine x_bipush M dL_read_128 rfl ?_
            refine x_iald (c0 := 30) (t0 := 0) M hS37 (by decide) (hs_30 G _) rfl ⟨by decide, by decide⟩ (by decide) dL_read_130 ?_
            refine x_iload M hl38 dL_read_131 0 rfl ?_
            obtain ⟨g39, hf⟩ := gdt hf
            refine x_iast (c0 := 33) (t0 := 0) M hS37 (by decide) (hs_33 G _) rfl g39 (by decide) hi36 dL_read_133 (fun H locs hS40 => ?_)
            refine x_aload_n M hl38 dL_read_134 2 rfl ?_
            refine x_bipush M dL_read_135 rfl ?_
            refine x_dup2 M dL_read_137 rfl rfl ?_
            refine x_iald (c0 := 30) (t0 := 0) M hS40 (by decide) (hs_30 G _) rfl ⟨by decide, by decide⟩ (by decide) dL_read_138 ?_
            refine x_iconst M dL_read_139 ?_
            obtain ⟨g41, hf⟩ := gdt hf
            refine x_iadd M dL_read_140 ?_
            refine x_iast (c0 := 30) (t0 := 0) M hS40 (by decide) (hs_30 G _) rfl ⟨by decide, by decide⟩ (by decide) g41 dL_read_141 (fun H locs hS42 => ?_)
            refine x_aload_n M hl38 dL_read_142 5 rfl ?_
            refine x_aload M hl38 dL_read_143 6 rfl ?_
            refine x_aload M hl38 dL_read_145 7 rfl ?_
            refine x_iload M hl38 dL_read_147 8 rfl ?_
            refine x_lload M hl38 dL_read_149 1 rfl ?_
            obtain ⟨r43, w44, hc45, hf⟩ := bdt hf
            refine x_callTi (As := [lV r2]) (rest := [iV x6, .ref (G.1 36 0), .ref (G.1 35 0), .ref (G.1 34 0)]) M hl38 hS42 (c_L_thing l  hi5 hc45) (va_cwS 1 M.2.2.2.2.1 gL_read_L_thing rfl rfl rfl (by decide +kernel) ⟨Nat.le_of_ble_eq_true rfl, Nat.le_of_ble_eq_true rfl⟩) (Nat.le_of_ble_eq_true rfl) rfl (Nat.le_of_ble_eq_true rfl) dL_read_151 rfl ⟨Nat.zero_le _, Nat.zero_le _⟩ (fun H locs hi46 hS47 => ?_)
            refine x_lload M hl38 dL_read_154 1 rfl ?_
            refine x_iconst M dL_read_156 ?_
            obtain ⟨r48, w49, hc50, hf⟩ := bdt hf
            refine x_callTi (As := [lV r2, iV 0]) (rest := [iV r43, iV x6, .ref (G.1 36 0), .ref (G.1 35 0), .ref (G.1 34 0)]) M hl38 hS47 (c_L_name l  hi5 ⟨by decide, by decide⟩ hc50) (va_cwS 2 M.2.2.2.2.1 gL_read_L_name rfl rfl rfl (by decide +kernel) ⟨Nat.le_of_ble_eq_true rfl, Nat.le_of_ble_eq_true rfl⟩) (Nat.le_of_ble_eq_true rfl) rfl (Nat.le_of_ble_eq_true rfl) dL_read_157 rfl ⟨Nat.zero_le _, Nat.zero_le _⟩ (fun H locs hi51 hS52 => ?_)
            refine x_lload M hl38 dL_read_160 1 rfl ?_
            refine x_iconst M dL_read_162 ?_
            obtain ⟨r53, w54, hc55, hf⟩ := bdt hf
            refine x_callTi (As := [lV r2, iV 1]) (rest := [iV r48, iV r43, iV x6, .ref (G.1 36 0), .ref (G.1 35 0), .ref (G.1 34 0)]) M hl38 hS52 (c_L_name l  hi5 ⟨by decide, by decide⟩ hc55) (va_cwS 2 M.2.2.2.2.1 gL_read_L_name rfl rfl rfl (by decide +kernel) ⟨Nat.le_of_ble_eq_true rfl, Nat.le_of_ble_eq_true rfl⟩) (Nat.le_of_ble_eq_true rfl) rfl (Nat.le_of_ble_eq_true rfl) dL_read_163 rfl ⟨Nat.zero_le _, Nat.zero_le _⟩ (fun H locs hi56 hS57 => ?_)
            refine x_iload M hl38 dL_read_166 0 rfl ?_
            refine x_iconst M dL_read_168 ?_
            obtain ⟨r58, w59, hc60, hf⟩ := bdt hf
            refine x_callTl (As := [iV r43, iV r48, iV r53, iV r33, iV 0]) (rest := [iV x6, .ref (G.1 36 0), .ref (G.1 35 0), .ref (G.1 34 0)]) M hl38 hS57 (c_L_pack l  hi46 hi51 hi56 hi36 ⟨by decide, by decide⟩ hc60) (va_cwS 5 M.2.2.2.2.1 gL_read_L_pack rfl rfl rfl (by decide +kernel) ⟨Nat.le_of_ble_eq_true rfl, Nat.le_of_ble_eq_true rfl⟩) (Nat.le_of_ble_eq_true rfl) rfl (Nat.le_of_ble_eq_true rfl) dL_read_169 rfl ⟨Nat.zero_le _, Nat.zero_le _⟩ (fun H locs hi61 hS62 => ?_)
            obtain ⟨r63, w64, hc65, hf⟩ := bdt hf
            refine x_callTv (As := [.ref (G.1 34 0), .ref (G.1 35 0), .ref (G.1 36 0), iV x6, lV r58]) (rest := []) M hl38 hS62 (c_L_puts l  hx6 hi61 hc65) (va_cwS 5 M.2.2.2.2.1 gL_read_L_puts rfl rfl rfl (by decide +kernel) ⟨Nat.le_of_ble_eq_true rfl, Nat.le_of_ble_eq_true rfl⟩) (Nat.le_of_ble_eq_true rfl) rfl (Nat.le_of_ble_eq_true rfl) dL_read_172 rfl ⟨Nat.zero_le _, Nat.zero_le _⟩ (fun H locs hS67 => ?_)
            refine x_iload M hl38 dL_read_175 0 rfl ?_
            exact x_iret M hr hf hS67 hi36 dL_read_177
        · have hf := iff_ hf hc
          refine x_lload M hl7 dL_read_45 0 rfl ?_
          obtain ⟨r68, w69, hc70, hf⟩ := bdt hf
          refine x_callTi (As := [lV r2]) (rest := []) M hl7 hS6 (c_L_mark l  hi5 hc70) (va_cwS 1 M.2.2.2.2.1 gL_read_L_mark rfl rfl rfl (by decide +kernel) ⟨Nat.le_of_ble_eq_true rfl, Nat.le_of_ble_eq_true rfl⟩) (Nat.le_of_ble_eq_true rfl) rfl (Nat.le_of_ble_eq_true rfl) dL_read_47 rfl ⟨Nat.zero_le _, Nat.zero_le _⟩ (fun H locs hi71 hS72 => ?_)
          refine x_if_ne (tgt := 85) M hi71 dL_read_50 (by decide) (fun hc => ?_) (fun hc => ?_)
          · have hf := iff_ hf hc
            refine x_iload M hl7 dL_read_85 7 rfl ?_
            exact x_iret M hr hf hS72 hx6 dL_read_87
          · have hf := ift hf (Decidable.of_not_not hc)
            refine x_aload_n M hl7 dL_read_53 4 rfl ?_
            refine x_aload M hl7 dL_read_54 5 rfl ?_
            refine x_aload M hl7 dL_read_56 6 rfl ?_
            refine x_iload M hl7 dL_read_58 7 rfl ?_
            refine x_lload M hl7 dL_read_60 0 rfl ?_
            refine x_ldc2 (z := 8589934592) M kcL_read_40 rfl dL_read_62 ?_
            refine x_lor M dL_read_65 ?_
            obtain ⟨r73, w74, hc75, hf⟩ := bdt hf
            refine x_callTv (As := [.ref (G.1 34 0), .ref (G.1 35 0), .ref (G.1 36 0), iV x6, lV (orL r2 8589934592)]) (rest := []) M hl7 hS72 (c_L_puts l  hx6 (ol_inl _) hc75) (va_cwS 5 M.2.2.2.2.1 gL_read_L_puts rfl rfl rfl (by decide +kernel) ⟨Nat.le_of_ble_eq_true rfl, Nat.le_of_ble_eq_true rfl⟩) (Nat.le_of_ble_eq_true rfl) rfl (Nat.le_of_ble_eq_true rfl) dL_read_66 rfl ⟨Nat.zero_le _, Nat.zero_le _⟩ (fun H locs hS77 => ?_)
            refine x_aload_n M hl7 dL_read_69 3 rfl ?_
            refine x_aload_n M hl7 dL_read_70 1 rfl ?_
            refine x_bipush M dL_read_71 rfl ?_
            refine x_iald (c0 := 30) (t0 := 0) M hS77 (by decide) (hs_30 G _) rfl ⟨by decide, by decide⟩ (by decide) dL_read_73 ?_
            refine x_iload M hl7 dL_read_74 7 rfl ?_
            obtain ⟨g78, hf⟩ := gdt hf
            refine x_iast (c0 := 33) (t0 := 0) M hS77 (by decide) (hs_33 G _) rfl g78 (by decide) hx6 dL_read_76 (fun H locs hS79 => ?_)
            refine x_aload_n M hl7 dL_read_77 1 rfl ?_
            refine x_bipush M dL_read_78 rfl ?_
            refine x_dup2 M dL_read_80 rfl rfl ?_
            refine x_iald (c0 := 30) (t0 := 0) M hS79 (by decide) (hs_30 G _) rfl ⟨by decide, by decide⟩ (by decide) dL_read_81 ?_
            refine x_iconst M dL_read_82 ?_
            obtain ⟨g80, hf⟩ := gdt hf
            refine x_iadd M dL_read_83 ?_
            refine x_iast (c0 := 30) (t0 := 0) M hS79 (by decide) (hs_30 G _) rfl ⟨by decide, by decide⟩ (by decide) g80 dL_read_84 (fun H locs hS81 => ?_)
            refine x_iload M hl7 dL_read_85 7 rfl ?_
            exact x_iret M hr hf hS81 hx6 dL_read_87
      · have hf := ift hf (Decidable.of_not_not hc)
        refine x_iload M hl0 dL_read_22 6 rfl ?_
        exact x_iret M hr hf hS0 hx6 dL_read_24

/-! L_renames -/
set_option maxHeartbeats 4000000 in
set_option maxRecDepth 100000 in
theorem c_L_renames (l : Launch) {G : GG} {x3 : Int} (hx3 : InR x3) {x4 : Int} (hx4 : InR x4) {x5 : Int} (hx5 : InR x5) {w : Wd} {r : Int} {w' : Wd} (hf : L_renames x3 x4 x5 w = some (r, w')) : Met l yL_renames wsL_renames (rmL 1 33) (PcG G w [.ref (G.1 34 0), .ref (G.1 35 0), .ref (G.1 36 0), iV x3, iV x4, iV x5]) (QvG G w') 0 0 (GA G) := by
  refine met_of (own := RL) (by decide) rfl (Nat.le_of_ble_eq_true rfl) rfl ?_
  intro p e s m args below meth c M hr ls hl0 hS0
  have hl0 : lv_has ls 8 [(0, .ref (G.1 34 0)), (1, .ref (G.1 35 0)), (2, .ref (G.1 36 0)), (3, iV x3), (4, iV x4), (5, iV x5)] := hl0
  unfold L_renames at hf
  refine x_aload_n M hl0 dL_renames_0 0 rfl ?_
  refine x_aload_n M hl0 dL_renames_1 1 rfl ?_
  refine x_aload_n M hl0 dL_renames_2 2 rfl ?_
  refine x_iload_n M hl0 dL_renames_3 3 rfl ?_
  obtain ⟨r1, w2, hc3, hf⟩ := bdt hf
  refine x_callTl (As := [.ref (G.1 34 0), .ref (G.1 35 0), .ref (G.1 36 0), iV x3]) (rest := []) M hl0 hS0 (c_L_at l  hx3 hc3) (va_cwS 4 M.2.2.2.2.1 gL_renames_L_at rfl rfl rfl (by decide +kernel) ⟨Nat.le_of_ble_eq_true rfl, Nat.le_of_ble_eq_true rfl⟩) (Nat.le_of_ble_eq_true rfl) rfl (Nat.le_of_ble_eq_true rfl) dL_renames_4 rfl ⟨Nat.zero_le _, Nat.zero_le _⟩ (fun H locs hi4 hS5 => ?_)
  refine x_lstore M hl0 dL_renames_7 (by decide) [(6, lV r1), (0, .ref (G.1 34 0)), (1, .ref (G.1 35 0)), (2, .ref (G.1 36 0)), (3, iV x3), (4, iV x4), (5, iV x5)] rfl (fun ls hl6 => ?_)
  refine x_aload_n M hl6 dL_renames_9 1 rfl ?_
  refine x_aload_n M hl6 dL_renames_10 2 rfl ?_
  refine x_aload_n M hl6 dL_renames_11 3 rfl ?_
  refine x_iload_n M hl6 dL_renames_12 4 rfl ?_
  refine x_lload M hl6 dL_renames_13 0 rfl ?_
  refine x_iload M hl6 dL_renames_15 6 rfl ?_
  refine x_lload M hl6 dL_renames_17 0 rfl ?_
  refine x_iload M hl6 dL_renames_19 5 rfl ?_
  obtain ⟨r7, w8, hc9, hf⟩ := bdt hf
  refine x_callTi (As := [lV r1, iV x4]) (rest := [iV x5, lV r1, iV x3, .ref (G.1 36 0), .ref (G.1 35 0), .ref (G.1 34 0)]) M hl6 hS5 (c_L_name l  hi4 hx4 hc9) (va_cwS 2 M.2.2.2.2.1 gL_renames_L_name rfl rfl rfl (by decide +kernel) ⟨Nat.le_of_ble_eq_true rfl, Nat.le_of_ble_eq_true rfl⟩) (Nat.le_of_ble_eq_true rfl) rfl (Nat.le_of_ble_eq_true rfl) dL_renames_21 rfl ⟨Nat.zero_le _, Nat.zero_le _⟩ (fun H locs hi10 hS11 => ?_)
  obtain ⟨g12, hf⟩ := gdt hf
  refine x_isub M dL_renames_24 ?_
  refine x_i2l M g12 dL_renames_25 ?_
  refine x_bipush M dL_renames_26 rfl ?_
  refine x_bipush M dL_renames_28 rfl ?_
  refine x_iload M hl6 dL_renames_30 5 rfl ?_
  obtain ⟨g13, hf⟩ := gdt hf
  refine x_imul M dL_renames_32 ?_
  obtain ⟨g14, hf⟩ := gdt hf
  refine x_iadd M dL_renames_33 ?_
  refine x_lshl M dL_renames_34 ?_
  obtain ⟨g15, hf⟩ := gdt hf
  refine x_ladd M dL_renames_35 ?_
  obtain ⟨r16, w17, hc18, hf⟩ := bdt hf
  refine x_callTv (As := [.ref (G.1 34 0), .ref (G.1 35 0), .ref (G.1 36 0), iV x3, lV (r1 + (shlL (x5 - r7) (6 + (9 * x4))))]) (rest := []) M hl6 hS11 (c_L_puts l  hx3 g15 hc18) (va_cwS 5 M.2.2.2.2.1 gL_renames_L_puts rfl rfl rfl (by decide +kernel) ⟨Nat.le_of_ble_eq_true rfl, Nat.le_of_ble_eq_true rfl⟩) (Nat.le_of_ble_eq_true rfl) rfl (Nat.le_of_ble_eq_true rfl) dL_renames_36 rfl ⟨Nat.zero_le _, Nat.zero_le _⟩ (fun H locs hS20 => ?_)
  exact x_vret M hr hf hS20 dL_renames_39

/-! L_ends -/
theorem kcL_ends_46 : Cond.constantLong RL 46 (-8589934593) ∈ wsL_ends := by decide +kernel
set_option maxHeartbeats 4000000 in
set_option maxRecDepth 100000 in
theorem L_ends_b54_ok (M : MC p s m args meth c cL_ends 5 RL wsL_ends G) (hr : meth.sig.returnType = none) {K11 : Int → Wd → Option (Int × Wd)} (hK11 : ∀ x4 : Int, ∀ w : Wd, InR x4 → ∀ (H : Heap) (locs : List Loc), ST G s w H locs → ∀ ls : Array Slot, lv_has ls 5 [(0, .ref (G.1 30 0)), (1, .ref (G.1 34 0)), (2, .ref (G.1 35 0)), (3, .ref (G.1 36 0)), (4, iV x4)] → ∀ (r : Int) (w' : Wd), K11 x4 w = some (r, w') → W p l e (rmL 1 29) s m args below meth c H locs 0 0 (MQ below (QvG G w') args s 0 0 (GA G)) (F0 m 11 ls [])) : ∀ x4 : Int, ∀ s0 : Int, ∀ s1 : Int, ∀ w : Wd, InR x4 → InL s0 → InR s1 → ∀ (H : Heap) (locs : List Loc), ST G s w H locs → ∀ ls : Array Slot, lv_has ls 5 [(0, .ref (G.1 30 0)), (1, .ref (G.1 34 0)), (2, .ref (G.1 35 0)), (3, .ref (G.1 36 0)), (4, iV x4)] → ∀ (r : Int) (w' : Wd), L_ends_b54 K11 x4 s0 s1 w = some (r, w') → W p l e (rmL 1 29) s m args below meth c H locs 0 0 (MQ below (QvG G w') args s 0 0 (GA G)) (F0 m 54 ls [lV s0, iV s1, .ref (G.1 35 0)]) := by
  intro x4 s0 s1 w hx4 hs0 hs1 H locs hS0 ls hl0 r w' hf
  unfold L_ends_b54 at hf
  obtain ⟨g10, hf⟩ := gdt hf
  refine x_last (c0 := 35) (t0 := 0) M hS0 (by decide) (hs_35 G _) rfl g10 (by decide) (by decide) hs0 dL_ends_54 (fun H locs hS11 => ?_)
  refine x_aload_n M hl0 dL_ends_55 3 rfl ?_
  refine x_iload M hl0 dL_ends_56 4 rfl ?_
  refine x_aload_n M hl0 dL_ends_58 3 rfl ?_
  refine x_iload M hl0 dL_ends_59 4 rfl ?_
  obtain ⟨g12, hf⟩ := gdt hf
  refine x_lald (c0 := 36) (t0 := 0) M hS11 (by decide) (hs_36 G _) rfl g12 (by decide) dL_ends_61 ?_
  obtain ⟨r13, w14, hc15, hf⟩ := bdt hf
  refine x_callTi (As := [lV ((up w 35 0 s1.toNat s0) 36 0 x4.toNat)]) (rest := [iV x4, .ref (G.1 36 0)]) M hl0 hS11 (c_L_mark l  (hS11.inl _ _ _) hc15) (va_cwS 1 M.2.2.2.2.1 gL_ends_L_mark rfl rfl rfl (by decide +kernel) ⟨Nat.le_of_ble_eq_true rfl, Nat.le_of_ble_eq_true rfl⟩) (Nat.le_of_ble_eq_true rfl) rfl (Nat.le_of_ble_eq_true rfl) dL_ends_62 rfl ⟨Nat.zero_le _, Nat.zero_le _⟩ (fun H locs hi16 hS17 => ?_)
  refine x_if_ne (tgt := 72) M hi16 dL_ends_65 (by decide) (fun hc => ?_) (fun hc => ?_)
  · have hf := iff_ hf hc
    refine x_aload_n M hl0 dL_ends_72 3 rfl ?_
    refine x_iload M hl0 dL_ends_73 4 rfl ?_
    refine x_lald (c0 := 36) (t0 := 0) M hS17 (by decide) (hs_36 G _) rfl g12 (by decide) dL_ends_75 ?_
    refine x_ldc2 (z := (-8589934593)) M kcL_ends_46 rfl dL_ends_76 ?_
    refine x_land M dL_ends_79 ?_
    refine x_last (c0 := 36) (t0 := 0) M hS17 (by decide) (hs_36 G _) rfl g12 (by decide) (by decide) (ol_inl _) dL_ends_80 (fun H locs hS18 => ?_)
    obtain ⟨g19, hf⟩ := gdt hf
    refine x_iinc M hl0 dL_ends_81 4 rfl (by decide) [(4, iV (x4 + 1)), (0, .ref (G.1 30 0)), (1, .ref (G.1 34 0)), (2, .ref (G.1 35 0)), (3, .ref (G.1 36 0))] rfl (fun ls hl20 => ?_)
    refine x_goto (tgt := 11) M dL_ends_84 (by decide) ?_
    exact hK11 (x4 + 1) (up w14 36 0 x4.toNat (andL (w14 36 0 x4.toNat) ((-8589934593)))) g19 _ _ hS18 _ (lv_sub hl20 [1, 2, 3, 4, 0] rfl) _ _ hf
  · have hf := ift hf (Decidable.of_not_not hc)
    refine x_lconst (z := 0) M dL_ends_68 rfl ?_
    refine x_goto (tgt := 80) M dL_ends_69 (by decide) ?_
    refine x_last (c0 := 36) (t0 := 0) M hS17 (by decide) (hs_36 G _) rfl g12 (by decide) (by decide) ⟨by decide, by decide⟩ dL_ends_80 (fun H locs hS21 => ?_)
    obtain ⟨g22, hf⟩ := gdt hf
    refine x_iinc M hl0 dL_ends_81 4 rfl (by decide) [(4, iV (x4 + 1)), (0, .ref (G.1 30 0)), (1, .ref (G.1 34 0)), (2, .ref (G.1 35 0)), (3, .ref (G.1 36 0))] rfl (fun ls hl23 => ?_)
    refine x_goto (tgt := 11) M dL_ends_84 (by decide) ?_
    exact hK11 (x4 + 1) (up w14 36 0 x4.toNat 0) g22 _ _ hS21 _ (lv_sub hl23 [1, 2, 3, 4, 0] rfl) _ _ hf

set_option maxHeartbeats 4000000 in
set_option maxRecDepth 100000 in
theorem L_ends_b11_ok (M : MC p s m args meth c cL_ends 5 RL wsL_ends G) (hr : meth.sig.returnType = none) : ∀ n : Nat, ∀ x4 : Int, ∀ w : Wd, InR x4 → ∀ (H : Heap) (locs : List Loc), ST G s w H locs → ∀ ls : Array Slot, lv_has ls 5 [(0, .ref (G.1 30 0)), (1, .ref (G.1 34 0)), (2, .ref (G.1 35 0)), (3, .ref (G.1 36 0)), (4, iV x4)] → ∀ (r : Int) (w' : Wd), L_ends_b11 n x4 w = some (r, w') → W p l e (rmL 1 29) s m args below meth c H locs 0 0 (MQ below (QvG G w') args s 0 0 (GA G)) (F0 m 11 ls []) := by
  intro n
  induction n with
  | zero =>
    intro x4 w hx4 H locs hS0 ls hl0 r w' hf
    cases hf
  | succ n ih =>
    intro x4 w hx4 H locs hS0 ls hl0 r w' hf
    rw [L_ends_b11_s] at hf
    refine x_iload M hl0 dL_ends_11 4 rfl ?_
    refine x_bipush M dL_ends_13 rfl ?_
    refine x_icmp_ge (tgt := 87) M hx4 ⟨by decide, by decide⟩ dL_ends_15 (by decide) (fun hc => ?_) (fun hc => ?_)
    · have hf := iff_ hf (Int.not_lt.mpr hc)
      refine x_aload_n M hl0 dL_ends_87 0 rfl ?_
      refine x_iconst M dL_ends_88 ?_
      refine x_aload_n M hl0 dL_ends_89 0 rfl ?_
      refine x_iconst M dL_ends_90 ?_
      refine x_iald (c0 := 30) (t0 := 0) M hS0 (by decide) (hs_30 G _) rfl ⟨by decide, by decide⟩ (by decide) dL_ends_91 ?_
      obtain ⟨g2, hf⟩ := gdt hf
      refine x_isub M dL_ends_92 ?_
      refine x_iconst M dL_ends_93 ?_
      obtain ⟨g3, hf⟩ := gdt hf
      refine x_iast (c0 := 30) (t0 := 0) M hS0 (by decide) (hs_30 G _) rfl g3 (by decide) ⟨by decide, by decide⟩ dL_ends_94 (fun H locs hS4 => ?_)
      refine x_aload_n M hl0 dL_ends_95 0 rfl ?_
      refine x_iconst M dL_ends_96 ?_
      refine x_iconst M dL_ends_97 ?_
      refine x_iast (c0 := 30) (t0 := 0) M hS4 (by decide) (hs_30 G _) rfl ⟨by decide, by decide⟩ (by decide) ⟨by decide, by decide⟩ dL_ends_98 (fun H locs hS5 => ?_)
      refine x_aload_n M hl0 dL_ends_99 0 rfl ?_
      refine x_bipush M dL_ends_100 rfl ?_
      refine x_dup2 M dL_ends_102 rfl rfl ?_
      refine x_iald (c0 := 30) (t0 := 0) M hS5 (by decide) (hs_30 G _) rfl ⟨by decide, by decide⟩ (by decide) dL_ends_103 ?_
      refine x_iconst M dL_ends_104 ?_
      obtain ⟨g6, hf⟩ := gdt hf
      refine x_iadd M dL_ends_105 ?_
      refine x_iast (c0 := 30) (t0 := 0) M hS5 (by decide) (hs_30 G _) rfl ⟨by decide, by decide⟩ (by decide) g6 dL_ends_106 (fun H locs hS7 => ?_)
      exact x_vret M hr hf hS7 dL_ends_107
    · have hf := ift hf (Int.not_le.mp hc)
      refine x_aload_n M hl0 dL_ends_18 1 rfl ?_
      refine x_iload M hl0 dL_ends_19 4 rfl ?_
      refine x_aload_n M hl0 dL_ends_21 0 rfl ?_
      refine x_iconst M dL_ends_22 ?_
      refine x_iald (c0 := 30) (t0 := 0) M hS0 (by decide) (hs_30 G _) rfl ⟨by decide, by decide⟩ (by decide) dL_ends_23 ?_
      refine x_iconst M dL_ends_24 ?_
      refine x_icmp_ne (tgt := 32) M (hS0.inr _ _ _) ⟨by decide, by decide⟩ dL_ends_25 (by decide) (fun hc => ?_) (fun hc => ?_)
      · have hf := iff_ hf hc
        refine x_aload_n M hl0 dL_ends_32 1 rfl ?_
        refine x_iload M hl0 dL_ends_33 4 rfl ?_
        obtain ⟨g8, hf⟩ := gdt hf
        refine x_lald (c0 := 34) (t0 := 0) M hS0 (by decide) (hs_34 G _) rfl g8 (by decide) dL_ends_35 ?_
        refine x_last (c0 := 34) (t0 := 0) M hS0 (by decide) (hs_34 G _) rfl g8 (by decide) (by decide) (hS0.inl _ _ _) dL_ends_36 (fun H locs hS9 => ?_)
        refine x_aload_n M hl0 dL_ends_37 2 rfl ?_
        refine x_iload M hl0 dL_ends_38 4 rfl ?_
        refine x_aload_n M hl0 dL_ends_40 0 rfl ?_
        refine x_iconst M dL_ends_41 ?_
        refine x_iald (c0 := 30) (t0 := 0) M hS9 (by decide) (hs_30 G _) rfl ⟨by decide, by decide⟩ (by decide) dL_ends_42 ?_
        refine x_if_ne (tgt := 50) M (hS9.inr _ _ _) dL_ends_43 (by decide) (fun hc => ?_) (fun hc => ?_)
        · have hf := iff_ hf hc
          refine x_aload_n M hl0 dL_ends_50 2 rfl ?_
          refine x_iload M hl0 dL_ends_51 4 rfl ?_
          refine x_lald (c0 := 35) (t0 := 0) M hS9 (by decide) (hs_35 G _) rfl g8 (by decide) dL_ends_53 ?_
          exact L_ends_b54_ok M hr ih x4 ((up w 34 0 x4.toNat (w 34 0 x4.toNat)) 35 0 x4.toNat) x4 (up w 34 0 x4.toNat (w 34 0 x4.toNat)) hx4 (hS9.inl _ _ _) hx4 _ _ hS9 _ (lv_sub hl0 [0, 1, 2, 3, 4] rfl) _ _ hf
        · have hf := ift hf (Decidable.of_not_not hc)
          refine x_lconst (z := 0) M dL_ends_46 rfl ?_
          refine x_goto (tgt := 54) M dL_ends_47 (by decide) ?_
          exact L_ends_b54_ok M hr ih x4 0 x4 (up w 34 0 x4.toNat (w 34 0 x4.toNat)) hx4 ⟨by decide, by decide⟩ hx4 _ _ hS9 _ (lv_sub hl0 [0, 1, 2, 3, 4] rfl) _ _ hf
      · have hf := ift hf (Decidable.of_not_not hc)
        refine x_lconst (z := 0) M dL_ends_28 rfl ?_
        refine x_goto (tgt := 36) M dL_ends_29 (by decide) ?_
        obtain ⟨g24, hf⟩ := gdt hf
        refine x_last (c0 := 34) (t0 := 0) M hS0 (by decide) (hs_34 G _) rfl g24 (by decide) (by decide) ⟨by decide, by decide⟩ dL_ends_36 (fun H locs hS25 => ?_)
        refine x_aload_n M hl0 dL_ends_37 2 rfl ?_
        refine x_iload M hl0 dL_ends_38 4 rfl ?_
        refine x_aload_n M hl0 dL_ends_40 0 rfl ?_
        refine x_iconst M dL_ends_41 ?_
        refine x_iald (c0 := 30) (t0 := 0) M hS25 (by decide) (hs_30 G _) rfl ⟨by decide, by decide⟩ (by decide) dL_ends_42 ?_
        refine x_if_ne (tgt := 50) M (hS25.inr _ _ _) dL_ends_43 (by decide) (fun hc => ?_) (fun hc => ?_)
        · have hf := iff_ hf hc
          refine x_aload_n M hl0 dL_ends_50 2 rfl ?_
          refine x_iload M hl0 dL_ends_51 4 rfl ?_
          refine x_lald (c0 := 35) (t0 := 0) M hS25 (by decide) (hs_35 G _) rfl g24 (by decide) dL_ends_53 ?_
          exact L_ends_b54_ok M hr ih x4 ((up w 34 0 x4.toNat 0) 35 0 x4.toNat) x4 (up w 34 0 x4.toNat 0) hx4 (hS25.inl _ _ _) hx4 _ _ hS25 _ (lv_sub hl0 [0, 1, 2, 3, 4] rfl) _ _ hf
        · have hf := ift hf (Decidable.of_not_not hc)
          refine x_lconst (z := 0) M dL_ends_46 rfl ?_
          refine x_goto (tgt := 54) M dL_ends_47 (by decide) ?_
          exact L_ends_b54_ok M hr ih x4 0 x4 (up w 34 0 x4.toNat 0) hx4 ⟨by decide, by decide⟩ hx4 _ _ hS25 _ (lv_sub hl0 [0, 1, 2, 3, 4] rfl) _ _ hf

set_option maxHeartbeats 4000000 in
set_option maxRecDepth 100000 in
theorem c_L_ends (l : Launch) {G : GG} {w : Wd} {r : Int} {w' : Wd} (hf : L_ends w = some (r, w')) : Met l yL_ends wsL_ends (rmL 1 29) (PcG G w [.ref (G.1 30 0), .ref (G.1 34 0), .ref (G.1 35 0), .ref (G.1 36 0)]) (QvG G w') 0 0 (GA G) := by
  refine met_of (own := RL) (by decide) rfl (Nat.le_of_ble_eq_true rfl) rfl ?_
  intro p e s m args below meth c M hr ls hl0 hS0
  have hl0 : lv_has ls 5 [(0, .ref (G.1 30 0)), (1, .ref (G.1 34 0)), (2, .ref (G.1 35 0)), (3, .ref (G.1 36 0))] := hl0
  unfold L_ends at hf
  refine x_aload_n M hl0 dL_ends_0 0 rfl ?_
  refine x_bipush M dL_ends_1 rfl ?_
  refine x_iald (c0 := 30) (t0 := 0) M hS0 (by decide) (hs_30 G _) rfl ⟨by decide, by decide⟩ (by decide) dL_ends_3 ?_
  refine x_if_le (tgt := 8) M (hS0.inr _ _ _) dL_ends_4 (by decide) (fun hc => ?_) (fun hc => ?_)
  · have hf := iff_ hf (Int.not_lt.mpr hc)
    refine x_iconst M dL_ends_8 ?_
    refine x_istore M hl0 dL_ends_9 (by decide) [(4, iV 0), (0, .ref (G.1 30 0)), (1, .ref (G.1 34 0)), (2, .ref (G.1 35 0)), (3, .ref (G.1 36 0))] rfl (fun ls hl1 => ?_)
    exact L_ends_b11_ok M hr LF 0 w ⟨by decide, by decide⟩ _ _ hS0 _ (lv_sub hl1 [1, 2, 3, 4, 0] rfl) _ _ hf
  · have hf := ift hf (Int.not_le.mp hc)
    exact x_vret M hr hf hS0 dL_ends_7

/-! L_begins -/
set_option maxHeartbeats 4000000 in
set_option maxRecDepth 100000 in
theorem L_begins_b15_ok (M : MC p s m args meth c cL_begins 8 RL wsL_begins G) (hr : meth.sig.returnType = none) : ∀ n : Nat, ∀ x7 : Int, ∀ w : Wd, InR x7 → ∀ (H : Heap) (locs : List Loc), ST G s w H locs → ∀ ls : Array Slot, lv_has ls 8 [(0, .ref (G.1 30 0)), (1, .ref (G.1 31 0)), (2, .ref (G.1 32 0)), (3, .ref (G.1 33 0)), (4, .ref (G.1 34 0)), (5, .ref (G.1 35 0)), (6, .ref (G.1 36 0)), (7, iV x7)] → ∀ (r : Int) (w' : Wd), L_begins_b15 n x7 w = some (r, w') → W p l e (rmL 3 106) s m args below meth c H locs 0 0 (MQ below (QvG G w') args s 0 0 (GA G)) (F0 m 15 ls []) := by
  intro n
  induction n with
  | zero =>
    intro x7 w hx7 H locs hS0 ls hl0 r w' hf
    cases hf
  | succ n ih =>
    intro x7 w hx7 H locs hS0 ls hl0 r w' hf
    rw [L_begins_b15_s] at hf
    refine x_iload M hl0 dL_begins_15 7 rfl ?_
    refine x_bipush M dL_begins_17 rfl ?_
    refine x_icmp_ge (tgt := 48) M hx7 ⟨by decide, by decide⟩ dL_begins_19 (by decide) (fun hc => ?_) (fun hc => ?_)
    · have hf := iff_ hf (Int.not_lt.mpr hc)
      refine x_aload_n M hl0 dL_begins_48 0 rfl ?_
      refine x_aload M hl0 dL_begins_49 4 rfl ?_
      refine x_aload M hl0 dL_begins_51 5 rfl ?_
      refine x_aload M hl0 dL_begins_53 6 rfl ?_
      obtain ⟨r5, w6, hc7, hf⟩ := bdt hf
      refine x_callTv (As := [.ref (G.1 30 0), .ref (G.1 34 0), .ref (G.1 35 0), .ref (G.1 36 0)]) (rest := []) M hl0 hS0 (c_L_ends l   hc7) (va_cwS 4 M.2.2.2.2.1 gL_begins_L_ends rfl rfl rfl (by decide +kernel) ⟨Nat.le_of_ble_eq_true rfl, Nat.le_of_ble_eq_true rfl⟩) (Nat.le_of_ble_eq_true rfl) rfl (Nat.le_of_ble_eq_true rfl) dL_begins_55 rfl ⟨Nat.zero_le _, Nat.zero_le _⟩ (fun H locs hS9 => ?_)
      exact x_vret M hr hf hS9 dL_begins_58
    · have hf := ift hf (Int.not_le.mp hc)
      refine x_aload_n M hl0 dL_begins_22 1 rfl ?_
      refine x_iload M hl0 dL_begins_23 7 rfl ?_
      refine x_aload_n M hl0 dL_begins_25 0 rfl ?_
      refine x_aload_n M hl0 dL_begins_26 2 rfl ?_
      refine x_aload_n M hl0 dL_begins_27 3 rfl ?_
      refine x_aload M hl0 dL_begins_28 4 rfl ?_
      refine x_aload M hl0 dL_begins_30 5 rfl ?_
      refine x_aload M hl0 dL_begins_32 6 rfl ?_
      refine x_aload_n M hl0 dL_begins_34 1 rfl ?_
      refine x_iload M hl0 dL_begins_35 7 rfl ?_
      obtain ⟨g10, hf⟩ := gdt hf
      refine x_iald (c0 := 31) (t0 := 0) M hS0 (by decide) (hs_31 G _) rfl g10 (by decide) dL_begins_37 ?_
      obtain ⟨r11, w12, hc13, hf⟩ := bdt hf
      refine x_callTi (As := [.ref (G.1 30 0), .ref (G.1 32 0), .ref (G.1 33 0), .ref (G.1 34 0), .ref (G.1 35 0), .ref (G.1 36 0), iV (w 31 0 x7.toNat)]) (rest := [iV x7, .ref (G.1 31 0)]) M hl0 hS0 (c_L_read l  (hS0.inr _ _ _) hc13) (va_cwS 7 M.2.2.2.2.1 gL_begins_L_read rfl rfl rfl (by decide +kernel) ⟨Nat.le_of_ble_eq_true rfl, Nat.le_of_ble_eq_true rfl⟩) (Nat.le_of_ble_eq_true rfl) rfl (Nat.le_of_ble_eq_true rfl) dL_begins_38 rfl ⟨Nat.zero_le _, Nat.zero_le _⟩ (fun H locs hi14 hS15 => ?_)
      refine x_iast (c0 := 31) (t0 := 0) M hS15 (by decide) (hs_31 G _) rfl g10 (by decide) hi14 dL_begins_41 (fun H locs hS16 => ?_)
      obtain ⟨g17, hf⟩ := gdt hf
      refine x_iinc M hl0 dL_begins_42 7 rfl (by decide) [(7, iV (x7 + 1)), (0, .ref (G.1 30 0)), (1, .ref (G.1 31 0)), (2, .ref (G.1 32 0)), (3, .ref (G.1 33 0)), (4, .ref (G.1 34 0)), (5, .ref (G.1 35 0)), (6, .ref (G.1 36 0))] rfl (fun ls hl18 => ?_)
      refine x_goto (tgt := 15) M dL_begins_45 (by decide) ?_
      exact ih (x7 + 1) (up w12 31 0 x7.toNat r11) g17 _ _ hS16 _ (lv_sub hl18 [1, 2, 3, 4, 5, 6, 7, 0] rfl) _ _ hf

set_option maxHeartbeats 4000000 in
set_option maxRecDepth 100000 in
theorem c_L_begins (l : Launch) {G : GG} {w : Wd} {r : Int} {w' : Wd} (hf : L_begins w = some (r, w')) : Met l yL_begins wsL_begins (rmL 3 106) (PcG G w [.ref (G.1 30 0), .ref (G.1 31 0), .ref (G.1 32 0), .ref (G.1 33 0), .ref (G.1 34 0), .ref (G.1 35 0), .ref (G.1 36 0)]) (QvG G w') 0 0 (GA G) := by
  refine met_of (own := RL) (by decide) rfl (Nat.le_of_ble_eq_true rfl) rfl ?_
  intro p e s m args below meth c M hr ls hl0 hS0
  have hl0 : lv_has ls 8 [(0, .ref (G.1 30 0)), (1, .ref (G.1 31 0)), (2, .ref (G.1 32 0)), (3, .ref (G.1 33 0)), (4, .ref (G.1 34 0)), (5, .ref (G.1 35 0)), (6, .ref (G.1 36 0))] := hl0
  unfold L_begins at hf
  refine x_aload_n M hl0 dL_begins_0 0 rfl ?_
  refine x_iconst M dL_begins_1 ?_
  refine x_iconst M dL_begins_2 ?_
  refine x_aload_n M hl0 dL_begins_3 0 rfl ?_
  refine x_iconst M dL_begins_4 ?_
  refine x_iald (c0 := 30) (t0 := 0) M hS0 (by decide) (hs_30 G _) rfl ⟨by decide, by decide⟩ (by decide) dL_begins_5 ?_
  obtain ⟨g1, hf⟩ := gdt hf
  refine x_isub M dL_begins_6 ?_
  refine x_iast (c0 := 30) (t0 := 0) M hS0 (by decide) (hs_30 G _) rfl ⟨by decide, by decide⟩ (by decide) g1 dL_begins_7 (fun H locs hS2 => ?_)
  refine x_aload_n M hl0 dL_begins_8 0 rfl ?_
  refine x_iconst M dL_begins_9 ?_
  refine x_iconst M dL_begins_10 ?_
  refine x_iast (c0 := 30) (t0 := 0) M hS2 (by decide) (hs_30 G _) rfl ⟨by decide, by decide⟩ (by decide) ⟨by decide, by decide⟩ dL_begins_11 (fun H locs hS3 => ?_)
  refine x_iconst M dL_begins_12 ?_
  refine x_istore M hl0 dL_begins_13 (by decide) [(7, iV 0), (0, .ref (G.1 30 0)), (1, .ref (G.1 31 0)), (2, .ref (G.1 32 0)), (3, .ref (G.1 33 0)), (4, .ref (G.1 34 0)), (5, .ref (G.1 35 0)), (6, .ref (G.1 36 0))] rfl (fun ls hl4 => ?_)
  exact L_begins_b15_ok M hr LF 0 (up (up w 30 0 3 (1 - (w 30 0 3))) 30 0 2 1) ⟨by decide, by decide⟩ _ _ hS3 _ (lv_sub hl4 [1, 2, 3, 4, 5, 6, 7, 0] rfl) _ _ hf

/-! L_step -/
set_option maxHeartbeats 4000000 in
set_option maxRecDepth 100000 in
theorem L_step_b44_ok (M : MC p s m args meth c cL_step 8 RL wsL_step G) (hr : meth.sig.returnType = none) : ∀ n : Nat, ∀ x6 : Int, ∀ x7 : Int, ∀ w : Wd, InR x6 → InR x7 → ∀ (H : Heap) (locs : List Loc), ST G s w H locs → ∀ ls : Array Slot, lv_has ls 8 [(0, .ref (G.1 30 0)), (1, .ref (G.1 32 0)), (2, .ref (G.1 33 0)), (3, .ref (G.1 34 0)), (4, .ref (G.1 35 0)), (5, .ref (G.1 36 0)), (6, iV x6), (7, iV x7)] → ∀ (r : Int) (w' : Wd), L_step_b44 n x6 x7 w = some (r, w') → W p l e (rmL 3 106) s m args below meth c H locs 0 0 (MQ below (QvG G w') args s 0 0 (GA G)) (F0 m 44 ls []) := by
  intro n
  induction n with
  | zero =>
    intro x6 x7 w hx6 hx7 H locs hS0 ls hl0 r w' hf
    cases hf
  | succ n ih =>
    intro x6 x7 w hx6 hx7 H locs hS0 ls hl0 r w' hf
    rw [L_step_b44_s] at hf
    refine x_iload M hl0 dL_step_44 7 rfl ?_
    refine x_iconst M dL_step_46 ?_
    refine x_icmp_ge (tgt := 94) M hx7 ⟨by decide, by decide⟩ dL_step_47 (by decide) (fun hc => ?_) (fun hc => ?_)
    · have hf := iff_ hf (Int.not_lt.mpr hc)
      refine x_aload_n M hl0 dL_step_94 0 rfl ?_
      refine x_aload_n M hl0 dL_step_95 3 rfl ?_
      refine x_aload M hl0 dL_step_96 4 rfl ?_
      refine x_aload M hl0 dL_step_98 5 rfl ?_
      obtain ⟨r6, w7, hc8, hf⟩ := bdt hf
      refine x_callTv (As := [.ref (G.1 30 0), .ref (G.1 34 0), .ref (G.1 35 0), .ref (G.1 36 0)]) (rest := []) M hl0 hS0 (c_L_ends l   hc8) (va_cwS 4 M.2.2.2.2.1 gL_step_L_ends rfl rfl rfl (by decide +kernel) ⟨Nat.le_of_ble_eq_true rfl, Nat.le_of_ble_eq_true rfl⟩) (Nat.le_of_ble_eq_true rfl) rfl (Nat.le_of_ble_eq_true rfl) dL_step_100 rfl ⟨Nat.zero_le _, Nat.zero_le _⟩ (fun H locs hS10 => ?_)
      exact x_vret M hr hf hS10 dL_step_103
    · have hf := ift hf (Int.not_le.mp hc)
      refine x_aload_n M hl0 dL_step_50 3 rfl ?_
      refine x_aload M hl0 dL_step_51 4 rfl ?_
      refine x_aload M hl0 dL_step_53 5 rfl ?_
      refine x_iload M hl0 dL_step_55 6 rfl ?_
      refine x_iload M hl0 dL_step_57 7 rfl ?_
      refine x_aload_n M hl0 dL_step_59 0 rfl ?_
      refine x_aload_n M hl0 dL_step_60 1 rfl ?_
      refine x_aload_n M hl0 dL_step_61 2 rfl ?_
      refine x_aload_n M hl0 dL_step_62 3 rfl ?_
      refine x_aload M hl0 dL_step_63 4 rfl ?_
      refine x_aload M hl0 dL_step_65 5 rfl ?_
      refine x_aload_n M hl0 dL_step_67 3 rfl ?_
      refine x_aload M hl0 dL_step_68 4 rfl ?_
      refine x_aload M hl0 dL_step_70 5 rfl ?_
      refine x_iload M hl0 dL_step_72 6 rfl ?_
      obtain ⟨r11, w12, hc13, hf⟩ := bdt hf
      refine x_callTl (As := [.ref (G.1 34 0), .ref (G.1 35 0), .ref (G.1 36 0), iV x6]) (rest := [.ref (G.1 36 0), .ref (G.1 35 0), .ref (G.1 34 0), .ref (G.1 33 0), .ref (G.1 32 0), .ref (G.1 30 0), iV x7, iV x6, .ref (G.1 36 0), .ref (G.1 35 0), .ref (G.1 34 0)]) M hl0 hS0 (c_L_at l  hx6 hc13) (va_cwS 4 M.2.2.2.2.1 gL_step_L_at rfl rfl rfl (by decide +kernel) ⟨Nat.le_of_ble_eq_true rfl, Nat.le_of_ble_eq_true rfl⟩) (Nat.le_of_ble_eq_true rfl) rfl (Nat.le_of_ble_eq_true rfl) dL_step_74 rfl ⟨Nat.zero_le _, Nat.zero_le _⟩ (fun H locs hi14 hS15 => ?_)
      refine x_iload M hl0 dL_step_77 7 rfl ?_
      obtain ⟨r16, w17, hc18, hf⟩ := bdt hf
      refine x_callTi (As := [lV r11, iV x7]) (rest := [.ref (G.1 36 0), .ref (G.1 35 0), .ref (G.1 34 0), .ref (G.1 33 0), .ref (G.1 32 0), .ref (G.1 30 0), iV x7, iV x6, .ref (G.1 36 0), .ref (G.1 35 0), .ref (G.1 34 0)]) M hl0 hS15 (c_L_name l  hi14 hx7 hc18) (va_cwS 2 M.2.2.2.2.1 gL_step_L_name rfl rfl rfl (by decide +kernel) ⟨Nat.le_of_ble_eq_true rfl, Nat.le_of_ble_eq_true rfl⟩) (Nat.le_of_ble_eq_true rfl) rfl (Nat.le_of_ble_eq_true rfl) dL_step_79 rfl ⟨Nat.zero_le _, Nat.zero_le _⟩ (fun H locs hi19 hS20 => ?_)
      obtain ⟨r21, w22, hc23, hf⟩ := bdt hf
      refine x_callTi (As := [.ref (G.1 30 0), .ref (G.1 32 0), .ref (G.1 33 0), .ref (G.1 34 0), .ref (G.1 35 0), .ref (G.1 36 0), iV r16]) (rest := [iV x7, iV x6, .ref (G.1 36 0), .ref (G.1 35 0), .ref (G.1 34 0)]) M hl0 hS20 (c_L_read l  hi19 hc23) (va_cwS 7 M.2.2.2.2.1 gL_step_L_read rfl rfl rfl (by decide +kernel) ⟨Nat.le_of_ble_eq_true rfl, Nat.le_of_ble_eq_true rfl⟩) (Nat.le_of_ble_eq_true rfl) rfl (Nat.le_of_ble_eq_true rfl) dL_step_82 rfl ⟨Nat.zero_le _, Nat.zero_le _⟩ (fun H locs hi24 hS25 => ?_)
      obtain ⟨r26, w27, hc28, hf⟩ := bdt hf
      refine x_callTv (As := [.ref (G.1 34 0), .ref (G.1 35 0), .ref (G.1 36 0), iV x6, iV x7, iV r21]) (rest := []) M hl0 hS25 (c_L_renames l  hx6 hx7 hi24 hc28) (va_cwS 6 M.2.2.2.2.1 gL_step_L_renames rfl rfl rfl (by decide +kernel) ⟨Nat.le_of_ble_eq_true rfl, Nat.le_of_ble_eq_true rfl⟩) (Nat.le_of_ble_eq_true rfl) rfl (Nat.le_of_ble_eq_true rfl) dL_step_85 rfl ⟨Nat.zero_le _, Nat.zero_le _⟩ (fun H locs hS30 => ?_)
      obtain ⟨g31, hf⟩ := gdt hf
      refine x_iinc M hl0 dL_step_88 7 rfl (by decide) [(7, iV (x7 + 1)), (0, .ref (G.1 30 0)), (1, .ref (G.1 32 0)), (2, .ref (G.1 33 0)), (3, .ref (G.1 34 0)), (4, .ref (G.1 35 0)), (5, .ref (G.1 36 0)), (6, iV x6)] rfl (fun ls hl32 => ?_)
      refine x_goto (tgt := 44) M dL_step_91 (by decide) ?_
      exact ih x6 (x7 + 1) w27 hx6 g31 _ _ hS30 _ (lv_sub hl32 [1, 2, 3, 4, 5, 6, 7, 0] rfl) _ _ hf

set_option maxHeartbeats 4000000 in
set_option maxRecDepth 100000 in
theorem L_step_b16_ok (M : MC p s m args meth c cL_step 8 RL wsL_step G) (hr : meth.sig.returnType = none) : ∀ n : Nat, ∀ x6 : Int, ∀ x7 : Int, ∀ w : Wd, InR x6 → InR x7 → ∀ (H : Heap) (locs : List Loc), ST G s w H locs → ∀ ls : Array Slot, lv_has ls 8 [(0, .ref (G.1 30 0)), (1, .ref (G.1 32 0)), (2, .ref (G.1 33 0)), (3, .ref (G.1 34 0)), (4, .ref (G.1 35 0)), (5, .ref (G.1 36 0)), (6, iV x6), (7, iV x7)] → ∀ (r : Int) (w' : Wd), L_step_b16 n x6 x7 w = some (r, w') → W p l e (rmL 3 106) s m args below meth c H locs 0 0 (MQ below (QvG G w') args s 0 0 (GA G)) (F0 m 16 ls []) := by
  intro n
  induction n with
  | zero =>
    intro x6 x7 w hx6 hx7 H locs hS0 ls hl0 r w' hf
    cases hf
  | succ n ih =>
    intro x6 x7 w hx6 hx7 H locs hS0 ls hl0 r w' hf
    rw [L_step_b16_s] at hf
    refine x_iload M hl0 dL_step_16 7 rfl ?_
    refine x_aload_n M hl0 dL_step_18 0 rfl ?_
    refine x_bipush M dL_step_19 rfl ?_
    refine x_iald (c0 := 30) (t0 := 0) M hS0 (by decide) (hs_30 G _) rfl ⟨by decide, by decide⟩ (by decide) dL_step_21 ?_
    refine x_icmp_ge (tgt := 41) M hx7 (hS0.inr _ _ _) dL_step_22 (by decide) (fun hc => ?_) (fun hc => ?_)
    · have hf := iff_ hf (Int.not_lt.mpr hc)
      refine x_iconst M dL_step_41 ?_
      refine x_istore M hl0 dL_step_42 (by decide) [(7, iV 0), (0, .ref (G.1 30 0)), (1, .ref (G.1 32 0)), (2, .ref (G.1 33 0)), (3, .ref (G.1 34 0)), (4, .ref (G.1 35 0)), (5, .ref (G.1 36 0)), (6, iV x6)] rfl (fun ls hl5 => ?_)
      exact L_step_b44_ok M hr LF x6 0 w hx6 ⟨by decide, by decide⟩ _ _ hS0 _ (lv_sub hl5 [1, 2, 3, 4, 5, 6, 7, 0] rfl) _ _ hf
    · have hf := ift hf (Int.not_le.mp hc)
      refine x_aload_n M hl0 dL_step_25 2 rfl ?_
      refine x_iload M hl0 dL_step_26 7 rfl ?_
      refine x_aload_n M hl0 dL_step_28 2 rfl ?_
      refine x_iload M hl0 dL_step_29 7 rfl ?_
      refine x_iconst M dL_step_31 ?_
      obtain ⟨g33, hf⟩ := gdt hf
      refine x_iadd M dL_step_32 ?_
      obtain ⟨g34, hf⟩ := gdt hf
      refine x_iald (c0 := 33) (t0 := 0) M hS0 (by decide) (hs_33 G _) rfl g34 (by decide) dL_step_33 ?_
      obtain ⟨g35, hf⟩ := gdt hf
      refine x_iast (c0 := 33) (t0 := 0) M hS0 (by decide) (hs_33 G _) rfl g35 (by decide) (hS0.inr _ _ _) dL_step_34 (fun H locs hS36 => ?_)
      refine x_iinc M hl0 dL_step_35 7 rfl (by decide) [(7, iV (x7 + 1)), (0, .ref (G.1 30 0)), (1, .ref (G.1 32 0)), (2, .ref (G.1 33 0)), (3, .ref (G.1 34 0)), (4, .ref (G.1 35 0)), (5, .ref (G.1 36 0)), (6, iV x6)] rfl (fun ls hl37 => ?_)
      refine x_goto (tgt := 16) M dL_step_38 (by decide) ?_
      exact ih x6 (x7 + 1) (up w 33 0 x7.toNat (w 33 0 (x7 + 1).toNat)) hx6 g33 _ _ hS36 _ (lv_sub hl37 [1, 2, 3, 4, 5, 6, 7, 0] rfl) _ _ hf

set_option maxHeartbeats 4000000 in
set_option maxRecDepth 100000 in
theorem c_L_step (l : Launch) {G : GG} {w : Wd} {r : Int} {w' : Wd} (hf : L_step w = some (r, w')) : Met l yL_step wsL_step (rmL 3 106) (PcG G w [.ref (G.1 30 0), .ref (G.1 32 0), .ref (G.1 33 0), .ref (G.1 34 0), .ref (G.1 35 0), .ref (G.1 36 0)]) (QvG G w') 0 0 (GA G) := by
  refine met_of (own := RL) (by decide) rfl (Nat.le_of_ble_eq_true rfl) rfl ?_
  intro p e s m args below meth c M hr ls hl0 hS0
  have hl0 : lv_has ls 8 [(0, .ref (G.1 30 0)), (1, .ref (G.1 32 0)), (2, .ref (G.1 33 0)), (3, .ref (G.1 34 0)), (4, .ref (G.1 35 0)), (5, .ref (G.1 36 0))] := hl0
  unfold L_step at hf
  refine x_aload_n M hl0 dL_step_0 2 rfl ?_
  refine x_iconst M dL_step_1 ?_
  refine x_iald (c0 := 33) (t0 := 0) M hS0 (by decide) (hs_33 G _) rfl ⟨by decide, by decide⟩ (by decide) dL_step_2 ?_
  refine x_istore M hl0 dL_step_3 (by decide) [(6, iV (w 33 0 0)), (0, .ref (G.1 30 0)), (1, .ref (G.1 32 0)), (2, .ref (G.1 33 0)), (3, .ref (G.1 34 0)), (4, .ref (G.1 35 0)), (5, .ref (G.1 36 0))] rfl (fun ls hl1 => ?_)
  refine x_aload_n M hl1 dL_step_5 1 rfl ?_
  refine x_bipush M dL_step_6 rfl ?_
  refine x_dup2 M dL_step_8 rfl rfl ?_
  refine x_iald (c0 := 30) (t0 := 0) M hS0 (by decide) (hs_30 G _) rfl ⟨by decide, by decide⟩ (by decide) dL_step_9 ?_
  refine x_iconst M dL_step_10 ?_
  obtain ⟨g2, hf⟩ := gdt hf
  refine x_isub M dL_step_11 ?_
  refine x_iast (c0 := 30) (t0 := 0) M hS0 (by decide) (hs_30 G _) rfl ⟨by decide, by decide⟩ (by decide) g2 dL_step_12 (fun H locs hS3 => ?_)
  refine x_iconst M dL_step_13 ?_
  refine x_istore M hl1 dL_step_14 (by decide) [(7, iV 0), (6, iV (w 33 0 0)), (0, .ref (G.1 30 0)), (1, .ref (G.1 32 0)), (2, .ref (G.1 33 0)), (3, .ref (G.1 34 0)), (4, .ref (G.1 35 0)), (5, .ref (G.1 36 0))] rfl (fun ls hl4 => ?_)
  exact L_step_b16_ok M hr LF (w 33 0 0) 0 (up w 30 0 8 ((w 30 0 8) - 1)) (hS0.inr _ _ _) ⟨by decide, by decide⟩ _ _ hS3 _ (lv_sub hl4 [2, 3, 4, 5, 6, 7, 1, 0] rfl) _ _ hf

end
