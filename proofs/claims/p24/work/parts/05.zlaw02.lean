section
variable {p : Program} {l : Launch} {e : Env} {s : State} {m : MethodId} {args : Array Value} {below : List Frame} {meth : Method} {c : Code} {G : GG}
/-! L_floor -/
set_option maxHeartbeats 4000000 in
set_option maxRecDepth 100000 in
theorem L_floor_b53_ok (M : MC p s m args meth c cL_floor 6 RL wsL_floor G) (hr : meth.sig.returnType = (some .int)) : ∀ n : Nat, ∀ x2 : Int, ∀ x3 : Int, ∀ x5 : Int, ∀ w : Wd, InR x2 → InL x3 → InR x5 → ∀ (H : Heap) (locs : List Loc), ST G s w H locs → ∀ ls : Array Slot, lv_has ls 6 [(2, iV x2), (3, lV x3), (5, iV x5)] → ∀ (r : Int) (w' : Wd), L_floor_b53 n x2 x3 x5 w = some (r, w') → W p l e (rmL 1 29) s m args below meth c H locs 0 0 (MQ below (QiG G r w') args s 0 0 (GA G)) (F0 m 53 ls []) := by
  intro n
  induction n with
  | zero =>
    intro x2 x3 x5 w hx2 hx3 hx5 H locs hS0 ls hl0 r w' hf
    cases hf
  | succ n ih =>
    intro x2 x3 x5 w hx2 hx3 hx5 H locs hS0 ls hl0 r w' hf
    rw [L_floor_b53_s] at hf
    refine x_iload M hl0 dL_floor_53 2 rfl ?_
    refine x_iload_n M hl0 dL_floor_55 0 rfl ?_
    obtain ⟨g4, hf⟩ := gdt hf
    refine x_iadd M dL_floor_56 ?_
    refine x_bipush M dL_floor_57 rfl ?_
    refine x_icmp_gt (tgt := 86) M g4 ⟨by decide, by decide⟩ dL_floor_59 (by decide) (fun hc => ?_) (fun hc => ?_)
    · have hf := ift hf hc
      refine x_iconst M dL_floor_86 ?_
      exact x_iret M hr hf hS0 ⟨by decide, by decide⟩ dL_floor_87
    · have hf := iff_ hf hc
      refine x_lload_n M hl0 dL_floor_62 1 rfl ?_
      refine x_iload M hl0 dL_floor_63 2 rfl ?_
      refine x_lshr M dL_floor_65 ?_
      refine x_lconst (z := 1) M dL_floor_66 rfl ?_
      refine x_iload_n M hl0 dL_floor_67 0 rfl ?_
      refine x_lshl M dL_floor_68 ?_
      refine x_lconst (z := 1) M dL_floor_69 rfl ?_
      obtain ⟨g5, hf⟩ := gdt hf
      refine x_lsub M dL_floor_70 ?_
      refine x_land M dL_floor_71 ?_
      refine x_lconst (z := 0) M dL_floor_72 rfl ?_
      refine x_lcmp M dL_floor_73 ?_
      refine x_if_ne (tgt := 80) M (o_inr _) dL_floor_74 (by decide) (fun hc => ?_) (fun hc => ?_)
      · have hf := iff_ hf hc
        obtain ⟨g6, hf⟩ := gdt hf
        refine x_iinc M hl0 dL_floor_80 2 rfl (by decide) [(5, iV (x5 + 1)), (2, iV x2), (3, lV x3)] rfl (fun ls hl7 => ?_)
        refine x_goto (tgt := 53) M dL_floor_83 (by decide) ?_
        exact ih x2 x3 (x5 + 1) w hx2 hx3 g6 _ _ hS0 _ (lv_sub hl7 [1, 2, 0] rfl) _ _ hf
      · have hf := ift hf (Decidable.of_not_not hc)
        refine x_iload M hl0 dL_floor_77 2 rfl ?_
        exact x_iret M hr hf hS0 hx5 dL_floor_79

set_option maxHeartbeats 4000000 in
set_option maxRecDepth 100000 in
theorem L_floor_b5_ok (M : MC p s m args meth c cL_floor 6 RL wsL_floor G) (hr : meth.sig.returnType = (some .int)) : ∀ n : Nat, ∀ x2 : Int, ∀ x3 : Int, ∀ x5 : Int, ∀ w : Wd, InR x2 → InL x3 → InR x5 → ∀ (H : Heap) (locs : List Loc), ST G s w H locs → ∀ ls : Array Slot, lv_has ls 6 [(0, .ref (G.1 32 0)), (1, .ref (G.1 36 0)), (2, iV x2), (3, lV x3), (5, iV x5)] → ∀ (r : Int) (w' : Wd), L_floor_b5 n x2 x3 x5 w = some (r, w') → W p l e (rmL 1 29) s m args below meth c H locs 0 0 (MQ below (QiG G r w') args s 0 0 (GA G)) (F0 m 5 ls []) := by
  intro n
  induction n with
  | zero =>
    intro x2 x3 x5 w hx2 hx3 hx5 H locs hS0 ls hl0 r w' hf
    cases hf
  | succ n ih =>
    intro x2 x3 x5 w hx2 hx3 hx5 H locs hS0 ls hl0 r w' hf
    rw [L_floor_b5_s] at hf
    refine x_iload M hl0 dL_floor_5 4 rfl ?_
    refine x_bipush M dL_floor_7 rfl ?_
    refine x_icmp_ge (tgt := 50) M hx5 ⟨by decide, by decide⟩ dL_floor_9 (by decide) (fun hc => ?_) (fun hc => ?_)
    · have hf := iff_ hf (Int.not_lt.mpr hc)
      refine x_iconst M dL_floor_50 ?_
      refine x_istore M hl0 dL_floor_51 (by decide) [(5, iV 0), (0, .ref (G.1 32 0)), (1, .ref (G.1 36 0)), (2, iV x2), (3, lV x3)] rfl (fun ls hl3 => ?_)
      exact L_floor_b53_ok M hr LF x2 x3 0 w hx2 hx3 ⟨by decide, by decide⟩ _ _ hS0 _ (lv_sub hl3 [3, 4, 0] rfl) _ _ hf
    · have hf := ift hf (Int.not_le.mp hc)
      refine x_lload_n M hl0 dL_floor_12 3 rfl ?_
      refine x_aload_n M hl0 dL_floor_13 1 rfl ?_
      refine x_iload M hl0 dL_floor_14 4 rfl ?_
      obtain ⟨g8, hf⟩ := gdt hf
      refine x_lald (c0 := 36) (t0 := 0) M hS0 (by decide) (hs_36 G _) rfl g8 (by decide) dL_floor_16 ?_
      refine x_lconst (z := 0) M dL_floor_17 rfl ?_
      refine x_lcmp M dL_floor_18 ?_
      refine x_if_eq (tgt := 41) M (o_inr _) dL_floor_19 (by decide) (fun hc => ?_) (fun hc => ?_)
      · have hf := ift hf hc
        refine x_lconst (z := 0) M dL_floor_41 rfl ?_
        refine x_lor M dL_floor_42 ?_
        refine x_lstore_n M hl0 dL_floor_43 (by decide) [(3, lV (orL x3 0)), (0, .ref (G.1 32 0)), (1, .ref (G.1 36 0)), (2, iV x2), (5, iV x5)] rfl (fun ls hl9 => ?_)
        obtain ⟨g10, hf⟩ := gdt hf
        refine x_iinc M hl9 dL_floor_44 4 rfl (by decide) [(5, iV (x5 + 1)), (3, lV (orL x3 0)), (0, .ref (G.1 32 0)), (1, .ref (G.1 36 0)), (2, iV x2)] rfl (fun ls hl11 => ?_)
        refine x_goto (tgt := 5) M dL_floor_47 (by decide) ?_
        exact ih x2 (orL x3 0) (x5 + 1) w hx2 (ol_inl _) g10 _ _ hS0 _ (lv_sub hl11 [2, 3, 4, 1, 0] rfl) _ _ hf
      · have hf := iff_ hf hc
        refine x_lconst (z := 1) M dL_floor_22 rfl ?_
        refine x_aload_n M hl0 dL_floor_23 0 rfl ?_
        refine x_aload_n M hl0 dL_floor_24 1 rfl ?_
        refine x_iload M hl0 dL_floor_25 4 rfl ?_
        refine x_lald (c0 := 36) (t0 := 0) M hS0 (by decide) (hs_36 G _) rfl g8 (by decide) dL_floor_27 ?_
        obtain ⟨r12, w13, hc14, hf⟩ := bdt hf
        refine x_callTi (As := [lV (w 36 0 x5.toNat)]) (rest := [.ref (G.1 32 0), lV 1, lV x3]) M hl0 hS0 (c_L_thing l  (hS0.inl _ _ _) hc14) (va_cwS 1 M.2.2.2.2.1 gL_floor_L_thing rfl rfl rfl (by decide +kernel) ⟨Nat.le_of_ble_eq_true rfl, Nat.le_of_ble_eq_true rfl⟩) (Nat.le_of_ble_eq_true rfl) rfl (Nat.le_of_ble_eq_true rfl) dL_floor_28 rfl ⟨Nat.zero_le _, Nat.zero_le _⟩ (fun H locs hi15 hS16 => ?_)
        obtain ⟨g17, hf⟩ := gdt hf
        refine x_iald (c0 := 32) (t0 := 0) M hS16 (by decide) (hs_32 G _) rfl g17 (by decide) dL_floor_31 ?_
        refine x_lshl M dL_floor_32 ?_
        refine x_lconst (z := 1) M dL_floor_33 rfl ?_
        obtain ⟨g18, hf⟩ := gdt hf
        refine x_lsub M dL_floor_34 ?_
        refine x_iload M hl0 dL_floor_35 4 rfl ?_
        refine x_lshl M dL_floor_37 ?_
        refine x_goto (tgt := 42) M dL_floor_38 (by decide) ?_
        refine x_lor M dL_floor_42 ?_
        refine x_lstore_n M hl0 dL_floor_43 (by decide) [(3, lV (orL x3 (shlL ((shlL 1 (w13 32 0 r12.toNat)) - 1) x5))), (0, .ref (G.1 32 0)), (1, .ref (G.1 36 0)), (2, iV x2), (5, iV x5)] rfl (fun ls hl19 => ?_)
        obtain ⟨g20, hf⟩ := gdt hf
        refine x_iinc M hl19 dL_floor_44 4 rfl (by decide) [(5, iV (x5 + 1)), (3, lV (orL x3 (shlL ((shlL 1 (w13 32 0 r12.toNat)) - 1) x5))), (0, .ref (G.1 32 0)), (1, .ref (G.1 36 0)), (2, iV x2)] rfl (fun ls hl21 => ?_)
        refine x_goto (tgt := 5) M dL_floor_47 (by decide) ?_
        exact ih x2 (orL x3 (shlL ((shlL 1 (w13 32 0 r12.toNat)) - 1) x5)) (x5 + 1) w13 hx2 (ol_inl _) g20 _ _ hS16 _ (lv_sub hl21 [2, 3, 4, 1, 0] rfl) _ _ hf

set_option maxHeartbeats 4000000 in
set_option maxRecDepth 100000 in
theorem c_L_floor (l : Launch) {G : GG} {x2 : Int} (hx2 : InR x2) {w : Wd} {r : Int} {w' : Wd} (hf : L_floor x2 w = some (r, w')) : Met l yL_floor wsL_floor (rmL 1 29) (PcG G w [.ref (G.1 32 0), .ref (G.1 36 0), iV x2]) (QiG G r w') 0 0 (GA G) := by
  refine met_of (own := RL) (by decide) rfl (Nat.le_of_ble_eq_true rfl) rfl ?_
  intro p e s m args below meth c M hr ls hl0 hS0
  have hl0 : lv_has ls 6 [(0, .ref (G.1 32 0)), (1, .ref (G.1 36 0)), (2, iV x2)] := hl0
  unfold L_floor at hf
  refine x_lconst (z := 0) M dL_floor_0 rfl ?_
  refine x_lstore_n M hl0 dL_floor_1 (by decide) [(3, lV 0), (0, .ref (G.1 32 0)), (1, .ref (G.1 36 0)), (2, iV x2)] rfl (fun ls hl1 => ?_)
  refine x_iconst M dL_floor_2 ?_
  refine x_istore M hl1 dL_floor_3 (by decide) [(5, iV 0), (3, lV 0), (0, .ref (G.1 32 0)), (1, .ref (G.1 36 0)), (2, iV x2)] rfl (fun ls hl2 => ?_)
  exact L_floor_b5_ok M hr LF x2 0 0 w hx2 ⟨by decide, by decide⟩ ⟨by decide, by decide⟩ _ _ hS0 _ (lv_sub hl2 [2, 3, 4, 1, 0] rfl) _ _ hf

/-! L_makes -/
set_option maxHeartbeats 4000000 in
set_option maxRecDepth 100000 in
theorem L_makes_b108_ok (M : MC p s m args meth c cL_makes 12 RL wsL_makes G) (hr : meth.sig.returnType = (some .boolean)) : ∀ x8 : Int, ∀ x9 : Int, ∀ w : Wd, InR x8 → InR x9 → ∀ (H : Heap) (locs : List Loc), ST G s w H locs → ∀ ls : Array Slot, lv_has ls 12 [(0, .ref (G.1 10 0)), (8, iV x8), (9, iV x9)] → ∀ (r : Int) (w' : Wd), L_makes_b108 x8 x9 w = some (r, w') → W p l e (rmL 6 182) s m args below meth c H locs 0 0 (MQ below (QiG G r w') args s 0 0 (GA G)) (F0 m 108 ls []) := by
  intro x8 x9 w hx8 hx9 H locs hS0 ls hl0 r w' hf
  unfold L_makes_b108 at hf
  refine x_aload_n M hl0 dL_makes_108 0 rfl ?_
  refine x_iload M hl0 dL_makes_109 1 rfl ?_
  refine x_iload M hl0 dL_makes_111 2 rfl ?_
  obtain ⟨r20, w21, hc22, hf⟩ := bdt hf
  refine x_callVi (c0 := 10) (t0 := 0) (As := [iV x8, iV x9]) (rest := []) M hl0 hS0 (c_X7_make l  hx8 hx9 hc22) (cwV 2 M.2.2.2.2.1 gL_makes_X7_make rfl rfl rfl (by decide +kernel) ⟨Nat.le_of_ble_eq_true rfl, Nat.le_of_ble_eq_true rfl⟩) (by decide) (sE_10 G _ _) rfl rfl (Nat.le_of_ble_eq_true rfl) dL_makes_113 rfl ⟨Nat.zero_le _, Nat.zero_le _⟩ (fun H locs hi23 hS24 => ?_)
  refine x_bipush M dL_makes_116 rfl ?_
  refine x_icmp_ne (tgt := 125) M hi23 ⟨by decide, by decide⟩ dL_makes_118 (by decide) (fun hc => ?_) (fun hc => ?_)
  · have hf := iff_ hf hc
    refine x_iconst M dL_makes_125 ?_
    exact x_zret M hr hf hS24 (Or.inl rfl) dL_makes_126
  · have hf := ift hf (Decidable.of_not_not hc)
    refine x_iconst M dL_makes_121 ?_
    refine x_goto (tgt := 126) M dL_makes_122 (by decide) ?_
    exact x_zret M hr hf hS24 (Or.inr rfl) dL_makes_126

set_option maxHeartbeats 4000000 in
set_option maxRecDepth 100000 in
theorem L_makes_b194_ok (M : MC p s m args meth c cL_makes 12 RL wsL_makes G) (hr : meth.sig.returnType = (some .boolean)) : ∀ x8 : Int, ∀ x9 : Int, ∀ w : Wd, InR x8 → InR x9 → ∀ (H : Heap) (locs : List Loc), ST G s w H locs → ∀ ls : Array Slot, lv_has ls 12 [(0, .ref (G.1 10 0)), (1, .ref (G.1 30 0)), (8, iV x8), (9, iV x9)] → ∀ (r : Int) (w' : Wd), L_makes_b194 x8 x9 w = some (r, w') → W p l e (rmL 6 182) s m args below meth c H locs 0 0 (MQ below (QiG G r w') args s 0 0 (GA G)) (F0 m 194 ls []) := by
  intro x8 x9 w hx8 hx9 H locs hS0 ls hl0 r w' hf
  unfold L_makes_b194 at hf
  refine x_aload_n M hl0 dL_makes_194 1 rfl ?_
  refine x_iconst M dL_makes_195 ?_
  refine x_dup2 M dL_makes_196 rfl rfl ?_
  refine x_iald (c0 := 30) (t0 := 0) M hS0 (by decide) (hs_30 G _) rfl ⟨by decide, by decide⟩ (by decide) dL_makes_197 ?_
  refine x_iconst M dL_makes_198 ?_
  obtain ⟨g34, hf⟩ := gdt hf
  refine x_iadd M dL_makes_199 ?_
  refine x_iast (c0 := 30) (t0 := 0) M hS0 (by decide) (hs_30 G _) rfl ⟨by decide, by decide⟩ (by decide) g34 dL_makes_200 (fun H locs hS35 => ?_)
  refine x_aload_n M hl0 dL_makes_201 0 rfl ?_
  refine x_iload M hl0 dL_makes_202 2 rfl ?_
  refine x_iload M hl0 dL_makes_204 3 rfl ?_
  obtain ⟨r36, w37, hc38, hf⟩ := bdt hf
  refine x_callVi (c0 := 10) (t0 := 0) (As := [iV x8, iV x9]) (rest := []) M hl0 hS35 (c_X7_make l  hx8 hx9 hc38) (cwV 2 M.2.2.2.2.1 gL_makes_X7_make rfl rfl rfl (by decide +kernel) ⟨Nat.le_of_ble_eq_true rfl, Nat.le_of_ble_eq_true rfl⟩) (by decide) (sE_10 G _ _) rfl rfl (Nat.le_of_ble_eq_true rfl) dL_makes_206 rfl ⟨Nat.zero_le _, Nat.zero_le _⟩ (fun H locs hi39 hS40 => ?_)
  refine x_aload_n M hl0 dL_makes_209 1 rfl ?_
  refine x_iconst M dL_makes_210 ?_
  refine x_iald (c0 := 30) (t0 := 0) M hS40 (by decide) (hs_30 G _) rfl ⟨by decide, by decide⟩ (by decide) dL_makes_211 ?_
  refine x_iconst M dL_makes_212 ?_
  obtain ⟨g41, hf⟩ := gdt hf
  refine x_isub M dL_makes_213 ?_
  refine x_icmp_ne (tgt := 221) M hi39 g41 dL_makes_214 (by decide) (fun hc => ?_) (fun hc => ?_)
  · have hf := iff_ hf hc
    refine x_iconst M dL_makes_221 ?_
    exact x_zret M hr hf hS40 (Or.inl rfl) dL_makes_222
  · have hf := ift hf (Decidable.of_not_not hc)
    refine x_iconst M dL_makes_217 ?_
    refine x_goto (tgt := 222) M dL_makes_218 (by decide) ?_
    exact x_zret M hr hf hS40 (Or.inr rfl) dL_makes_222

set_option maxHeartbeats 4000000 in
set_option maxRecDepth 100000 in
theorem L_makes_b93_ok (M : MC p s m args meth c cL_makes 12 RL wsL_makes G) (hr : meth.sig.returnType = (some .boolean)) : ∀ x8 : Int, ∀ x9 : Int, ∀ x10 : Int, ∀ s0 : Int, ∀ w : Wd, InR x8 → InR x9 → InR x10 → InR s0 → ∀ (H : Heap) (locs : List Loc), ST G s w H locs → ∀ ls : Array Slot, lv_has ls 12 [(0, .ref (G.1 10 0)), (1, .ref (G.1 30 0)), (2, .ref (G.1 31 0)), (3, .ref (G.1 32 0)), (4, .ref (G.1 34 0)), (5, .ref (G.1 35 0)), (6, .ref (G.1 36 0)), (8, iV x8), (9, iV x9), (10, iV x10)] → ∀ (r : Int) (w' : Wd), L_makes_b93 x8 x9 x10 s0 w = some (r, w') → W p l e (rmL 6 182) s m args below meth c H locs 0 0 (MQ below (QiG G r w') args s 0 0 (GA G)) (F0 m 93 ls [iV s0]) := by
  intro x8 x9 x10 s0 w hx8 hx9 hx10 hs0 H locs hS0 ls hl0 r w' hf
  unfold L_makes_b93 at hf
  refine x_istore M hl0 dL_makes_93 (by decide) [(11, iV s0), (0, .ref (G.1 10 0)), (1, .ref (G.1 30 0)), (2, .ref (G.1 31 0)), (3, .ref (G.1 32 0)), (4, .ref (G.1 34 0)), (5, .ref (G.1 35 0)), (6, .ref (G.1 36 0)), (8, iV x8), (9, iV x9), (10, iV x10)] rfl (fun ls hl19 => ?_)
  refine x_aload_n M hl19 dL_makes_95 2 rfl ?_
  refine x_iconst M dL_makes_96 ?_
  refine x_iald (c0 := 30) (t0 := 0) M hS0 (by decide) (hs_30 G _) rfl ⟨by decide, by decide⟩ (by decide) dL_makes_97 ?_
  refine x_bipush M dL_makes_98 rfl ?_
  refine x_icmp_eq (tgt := 108) M (hS0.inr _ _ _) ⟨by decide, by decide⟩ dL_makes_100 (by decide) (fun hc => ?_) (fun hc => ?_)
  · have hf := ift hf hc
    exact L_makes_b108_ok M hr x8 x9 w hx8 hx9 _ _ hS0 _ (lv_sub hl19 [1, 8, 9] rfl) _ _ hf
  · have hf := iff_ hf hc
    refine x_iload M hl19 dL_makes_103 0 rfl ?_
    refine x_if_ge (tgt := 127) M hs0 dL_makes_105 (by decide) (fun hc => ?_) (fun hc => ?_)
    · have hf := iff_ hf (Int.not_lt.mpr hc)
      refine x_aload_n M hl19 dL_makes_127 4 rfl ?_
      refine x_aload_n M hl19 dL_makes_128 2 rfl ?_
      refine x_iconst M dL_makes_129 ?_
      refine x_iald (c0 := 30) (t0 := 0) M hS0 (by decide) (hs_30 G _) rfl ⟨by decide, by decide⟩ (by decide) dL_makes_130 ?_
      refine x_iload M hl19 dL_makes_131 8 rfl ?_
      obtain ⟨g25, hf⟩ := gdt hf
      refine x_iast (c0 := 32) (t0 := 0) M hS0 (by decide) (hs_32 G _) rfl g25 (by decide) hx8 dL_makes_133 (fun H locs hS26 => ?_)
      refine x_iload M hl19 dL_makes_134 10 rfl ?_
      refine x_if_eq (tgt := 172) M hx10 dL_makes_136 (by decide) (fun hc => ?_) (fun hc => ?_)
      · have hf := ift hf hc
        refine x_aload_n M hl19 dL_makes_172 3 rfl ?_
        refine x_iload M hl19 dL_makes_173 9 rfl ?_
        refine x_aload_n M hl19 dL_makes_175 2 rfl ?_
        refine x_aload_n M hl19 dL_makes_176 4 rfl ?_
        refine x_aload M hl19 dL_makes_177 5 rfl ?_
        refine x_aload M hl19 dL_makes_179 6 rfl ?_
        refine x_aload M hl19 dL_makes_181 7 rfl ?_
        refine x_aload_n M hl19 dL_makes_183 2 rfl ?_
        refine x_iconst M dL_makes_184 ?_
        refine x_iald (c0 := 30) (t0 := 0) M hS26 (by decide) (hs_30 G _) rfl ⟨by decide, by decide⟩ (by decide) dL_makes_185 ?_
        refine x_bipush M dL_makes_186 rfl ?_
        refine x_bipush M dL_makes_188 rfl ?_
        obtain ⟨r27, w28, hc29, hf⟩ := bdt hf
        refine x_callTi (As := [.ref (G.1 30 0), .ref (G.1 32 0), .ref (G.1 34 0), .ref (G.1 35 0), .ref (G.1 36 0), iV ((up w 32 0 (w 30 0 0).toNat x8) 30 0 0), iV ((-9)), iV ((-9))]) (rest := [iV x9, .ref (G.1 31 0)]) M hl19 hS26 (c_L_lays l  (hS26.inr _ _ _) ⟨by decide, by decide⟩ ⟨by decide, by decide⟩ hc29) (va_cwS 8 M.2.2.2.2.1 gL_makes_L_lays rfl rfl rfl (by decide +kernel) ⟨Nat.le_of_ble_eq_true rfl, Nat.le_of_ble_eq_true rfl⟩) (Nat.le_of_ble_eq_true rfl) rfl (Nat.le_of_ble_eq_true rfl) dL_makes_190 rfl ⟨Nat.zero_le _, Nat.zero_le _⟩ (fun H locs hi30 hS31 => ?_)
        obtain ⟨g32, hf⟩ := gdt hf
        refine x_iast (c0 := 31) (t0 := 0) M hS31 (by decide) (hs_31 G _) rfl g32 (by decide) hi30 dL_makes_193 (fun H locs hS33 => ?_)
        exact L_makes_b194_ok M hr x8 x9 (up w28 31 0 x9.toNat r27) hx8 hx9 _ _ hS33 _ (lv_sub hl19 [1, 2, 8, 9] rfl) _ _ hf
      · have hf := iff_ hf hc
        refine x_aload M hl19 dL_makes_139 7 rfl ?_
        refine x_iload M hl19 dL_makes_141 0 rfl ?_
        refine x_aload_n M hl19 dL_makes_143 2 rfl ?_
        refine x_iconst M dL_makes_144 ?_
        refine x_iald (c0 := 30) (t0 := 0) M hS26 (by decide) (hs_30 G _) rfl ⟨by decide, by decide⟩ (by decide) dL_makes_145 ?_
        refine x_bipush M dL_makes_146 rfl ?_
        refine x_bipush M dL_makes_148 rfl ?_
        refine x_bipush M dL_makes_150 rfl ?_
        refine x_aload_n M hl19 dL_makes_152 2 rfl ?_
        refine x_iconst M dL_makes_153 ?_
        refine x_iald (c0 := 30) (t0 := 0) M hS26 (by decide) (hs_30 G _) rfl ⟨by decide, by decide⟩ (by decide) dL_makes_154 ?_
        obtain ⟨r42, w43, hc44, hf⟩ := bdt hf
        refine x_callTl (As := [iV ((up w 32 0 (w 30 0 0).toNat x8) 30 0 0), iV ((-9)), iV ((-9)), iV ((-9)), iV ((up w 32 0 (w 30 0 0).toNat x8) 30 0 2)]) (rest := [iV s0, .ref (G.1 36 0)]) M hl19 hS26 (c_L_pack l  (hS26.inr _ _ _) ⟨by decide, by decide⟩ ⟨by decide, by decide⟩ ⟨by decide, by decide⟩ (hS26.inr _ _ _) hc44) (va_cwS 5 M.2.2.2.2.1 gL_makes_L_pack rfl rfl rfl (by decide +kernel) ⟨Nat.le_of_ble_eq_true rfl, Nat.le_of_ble_eq_true rfl⟩) (Nat.le_of_ble_eq_true rfl) rfl (Nat.le_of_ble_eq_true rfl) dL_makes_155 rfl ⟨Nat.zero_le _, Nat.zero_le _⟩ (fun H locs hi45 hS46 => ?_)
        obtain ⟨g47, hf⟩ := gdt hf
        refine x_last (c0 := 36) (t0 := 0) M hS46 (by decide) (hs_36 G _) rfl g47 (by decide) (by decide) hi45 dL_makes_158 (fun H locs hS48 => ?_)
        refine x_aload_n M hl19 dL_makes_159 3 rfl ?_
        refine x_iload M hl19 dL_makes_160 9 rfl ?_
        refine x_sipush M dL_makes_162 rfl ?_
        refine x_iload M hl19 dL_makes_165 0 rfl ?_
        obtain ⟨g49, hf⟩ := gdt hf
        refine x_iadd M dL_makes_167 ?_
        obtain ⟨g50, hf⟩ := gdt hf
        refine x_iast (c0 := 31) (t0 := 0) M hS48 (by decide) (hs_31 G _) rfl g50 (by decide) g49 dL_makes_168 (fun H locs hS51 => ?_)
        refine x_goto (tgt := 194) M dL_makes_169 (by decide) ?_
        exact L_makes_b194_ok M hr x8 x9 (up (up w43 36 0 s0.toNat r42) 31 0 x9.toNat (200 + s0)) hx8 hx9 _ _ hS51 _ (lv_sub hl19 [1, 2, 8, 9] rfl) _ _ hf
    · have hf := ift hf (Int.not_le.mp hc)
      exact L_makes_b108_ok M hr x8 x9 w hx8 hx9 _ _ hS0 _ (lv_sub hl19 [1, 8, 9] rfl) _ _ hf

set_option maxHeartbeats 4000000 in
set_option maxRecDepth 100000 in
theorem L_makes_b52_ok (M : MC p s m args meth c cL_makes 12 RL wsL_makes G) (hr : meth.sig.returnType = (some .boolean)) : ∀ x8 : Int, ∀ x9 : Int, ∀ s0 : Int, ∀ w : Wd, InR x8 → InR x9 → InR s0 → ∀ (H : Heap) (locs : List Loc), ST G s w H locs → ∀ ls : Array Slot, lv_has ls 12 [(0, .ref (G.1 10 0)), (1, .ref (G.1 30 0)), (2, .ref (G.1 31 0)), (3, .ref (G.1 32 0)), (4, .ref (G.1 34 0)), (5, .ref (G.1 35 0)), (6, .ref (G.1 36 0)), (8, iV x8), (9, iV x9)] → ∀ (r : Int) (w' : Wd), L_makes_b52 x8 x9 s0 w = some (r, w') → W p l e (rmL 6 182) s m args below meth c H locs 0 0 (MQ below (QiG G r w') args s 0 0 (GA G)) (F0 m 52 ls [iV s0]) := by
  intro x8 x9 s0 w hx8 hx9 hs0 H locs hS0 ls hl0 r w' hf
  unfold L_makes_b52 at hf
  refine x_istore M hl0 dL_makes_52 (by decide) [(10, iV s0), (0, .ref (G.1 10 0)), (1, .ref (G.1 30 0)), (2, .ref (G.1 31 0)), (3, .ref (G.1 32 0)), (4, .ref (G.1 34 0)), (5, .ref (G.1 35 0)), (6, .ref (G.1 36 0)), (8, iV x8), (9, iV x9)] rfl (fun ls hl8 => ?_)
  refine x_iload M hl8 dL_makes_54 0 rfl ?_
  refine x_if_eq (tgt := 70) M hs0 dL_makes_56 (by decide) (fun hc => ?_) (fun hc => ?_)
  · have hf := ift hf hc
    refine x_bipush M dL_makes_70 rfl ?_
    refine x_aload_n M hl8 dL_makes_72 2 rfl ?_
    refine x_iconst M dL_makes_73 ?_
    refine x_aload_n M hl8 dL_makes_74 2 rfl ?_
    refine x_iconst M dL_makes_75 ?_
    refine x_iald (c0 := 30) (t0 := 0) M hS0 (by decide) (hs_30 G _) rfl ⟨by decide, by decide⟩ (by decide) dL_makes_76 ?_
    obtain ⟨g9, hf⟩ := gdt hf
    refine x_iadd M dL_makes_77 ?_
    obtain ⟨g10, hf⟩ := gdt hf
    refine x_iald (c0 := 30) (t0 := 0) M hS0 (by decide) (hs_30 G _) rfl g10 (by decide) dL_makes_78 ?_
    obtain ⟨g11, hf⟩ := gdt hf
    refine x_isub M dL_makes_79 ?_
    refine x_aload_n M hl8 dL_makes_80 2 rfl ?_
    refine x_aload_n M hl8 dL_makes_81 4 rfl ?_
    refine x_aload M hl8 dL_makes_82 5 rfl ?_
    refine x_aload M hl8 dL_makes_84 6 rfl ?_
    obtain ⟨r12, w13, hc14, hf⟩ := bdt hf
    refine x_callTi (As := [.ref (G.1 30 0), .ref (G.1 32 0), .ref (G.1 34 0), .ref (G.1 35 0)]) (rest := [iV (64 - (w 30 0 (4 + (w 30 0 3)).toNat))]) M hl8 hS0 (c_L_kept l   hc14) (va_cwS 4 M.2.2.2.2.1 gL_makes_L_kept rfl rfl rfl (by decide +kernel) ⟨Nat.le_of_ble_eq_true rfl, Nat.le_of_ble_eq_true rfl⟩) (Nat.le_of_ble_eq_true rfl) rfl (Nat.le_of_ble_eq_true rfl) dL_makes_86 rfl ⟨Nat.zero_le _, Nat.zero_le _⟩ (fun H locs hi15 hS16 => ?_)
    obtain ⟨g17, hf⟩ := gdt hf
    refine x_isub M dL_makes_89 ?_
    refine x_iload M hl8 dL_makes_90 8 rfl ?_
    obtain ⟨g18, hf⟩ := gdt hf
    refine x_isub M dL_makes_92 ?_
    exact L_makes_b93_ok M hr x8 x9 s0 (((64 - (w 30 0 (4 + (w 30 0 3)).toNat)) - r12) - x8) w13 hx8 hx9 hs0 g18 _ _ hS16 _ (lv_sub hl8 [1, 2, 3, 4, 5, 6, 7, 8, 9, 0] rfl) _ _ hf
  · have hf := iff_ hf hc
    refine x_aload_n M hl8 dL_makes_59 4 rfl ?_
    refine x_aload M hl8 dL_makes_60 7 rfl ?_
    refine x_iload M hl8 dL_makes_62 8 rfl ?_
    obtain ⟨r52, w53, hc54, hf⟩ := bdt hf
    refine x_callTi (As := [.ref (G.1 32 0), .ref (G.1 36 0), iV x8]) (rest := []) M hl8 hS0 (c_L_floor l  hx8 hc54) (va_cwS 3 M.2.2.2.2.1 gL_makes_L_floor rfl rfl rfl (by decide +kernel) ⟨Nat.le_of_ble_eq_true rfl, Nat.le_of_ble_eq_true rfl⟩) (Nat.le_of_ble_eq_true rfl) rfl (Nat.le_of_ble_eq_true rfl) dL_makes_64 rfl ⟨Nat.zero_le _, Nat.zero_le _⟩ (fun H locs hi55 hS56 => ?_)
    refine x_goto (tgt := 93) M dL_makes_67 (by decide) ?_
    exact L_makes_b93_ok M hr x8 x9 s0 r52 w53 hx8 hx9 hs0 hi55 _ _ hS56 _ (lv_sub hl8 [1, 2, 3, 4, 5, 6, 7, 8, 9, 0] rfl) _ _ hf

set_option maxHeartbeats 4000000 in
set_option maxRecDepth 100000 in
theorem L_makes_b27_ok (M : MC p s m args meth c cL_makes 12 RL wsL_makes G) (hr : meth.sig.returnType = (some .boolean)) : ∀ x7 : Int, ∀ s0 : Int, ∀ w : Wd, InR x7 → InR s0 → ∀ (H : Heap) (locs : List Loc), ST G s w H locs → ∀ ls : Array Slot, lv_has ls 12 [(0, .ref (G.1 10 0)), (1, .ref (G.1 30 0)), (2, .ref (G.1 31 0)), (3, .ref (G.1 32 0)), (4, .ref (G.1 34 0)), (5, .ref (G.1 35 0)), (6, .ref (G.1 36 0)), (7, iV x7)] → ∀ (r : Int) (w' : Wd), L_makes_b27 x7 s0 w = some (r, w') → W p l e (rmL 6 182) s m args below meth c H locs 0 0 (MQ below (QiG G r w') args s 0 0 (GA G)) (F0 m 27 ls [iV s0]) := by
  intro x7 s0 w hx7 hs0 H locs hS0 ls hl0 r w' hf
  unfold L_makes_b27 at hf
  refine x_istore M hl0 dL_makes_27 (by decide) [(8, iV s0), (0, .ref (G.1 10 0)), (1, .ref (G.1 30 0)), (2, .ref (G.1 31 0)), (3, .ref (G.1 32 0)), (4, .ref (G.1 34 0)), (5, .ref (G.1 35 0)), (6, .ref (G.1 36 0)), (7, iV x7)] rfl (fun ls hl4 => ?_)
  refine x_iload M hl4 dL_makes_29 8 rfl ?_
  refine x_bipush M dL_makes_31 rfl ?_
  obtain ⟨g5, hf⟩ := gdt hf
  refine x_idiv M hx7 ⟨by decide, by decide⟩ ⟨g5, by decide⟩ dL_makes_33 ?_
  refine x_bipush M dL_makes_34 rfl ?_
  obtain ⟨g6, hf⟩ := gdt hf
  refine x_irem M (o_inr_div hx7 ⟨g5, by decide⟩) ⟨by decide, by decide⟩ ⟨g6, by decide⟩ dL_makes_36 ?_
  refine x_istore M hl4 dL_makes_37 (by decide) [(9, iV ((x7 / 60) % 8)), (8, iV s0), (0, .ref (G.1 10 0)), (1, .ref (G.1 30 0)), (2, .ref (G.1 31 0)), (3, .ref (G.1 32 0)), (4, .ref (G.1 34 0)), (5, .ref (G.1 35 0)), (6, .ref (G.1 36 0)), (7, iV x7)] rfl (fun ls hl7 => ?_)
  refine x_iload M hl7 dL_makes_39 1 rfl ?_
  refine x_aload_n M hl7 dL_makes_41 3 rfl ?_
  refine x_iconst M dL_makes_42 ?_
  refine x_iald (c0 := 30) (t0 := 0) M hS0 (by decide) (hs_30 G _) rfl ⟨by decide, by decide⟩ (by decide) dL_makes_43 ?_
  refine x_icmp_lt (tgt := 51) M hs0 (hS0.inr _ _ _) dL_makes_44 (by decide) (fun hc => ?_) (fun hc => ?_)
  · have hf := ift hf hc
    refine x_iconst M dL_makes_51 ?_
    exact L_makes_b52_ok M hr s0 ((x7 / 60) % 8) 0 w hs0 (o_inr_rem ⟨by decide, by decide⟩ ⟨g6, by decide⟩) ⟨by decide, by decide⟩ _ _ hS0 _ (lv_sub hl7 [2, 3, 4, 5, 6, 7, 8, 1, 0] rfl) _ _ hf
  · have hf := iff_ hf hc
    refine x_iconst M dL_makes_47 ?_
    refine x_goto (tgt := 52) M dL_makes_48 (by decide) ?_
    exact L_makes_b52_ok M hr s0 ((x7 / 60) % 8) 1 w hs0 (o_inr_rem ⟨by decide, by decide⟩ ⟨g6, by decide⟩) ⟨by decide, by decide⟩ _ _ hS0 _ (lv_sub hl7 [2, 3, 4, 5, 6, 7, 8, 1, 0] rfl) _ _ hf

set_option maxHeartbeats 4000000 in
set_option maxRecDepth 100000 in
theorem c_L_makes (l : Launch) {G : GG} {x7 : Int} (hx7 : InR x7) {w : Wd} {r : Int} {w' : Wd} (hf : L_makes x7 w = some (r, w')) : Met l yL_makes wsL_makes (rmL 6 182) (PcG G w [.ref (G.1 10 0), .ref (G.1 30 0), .ref (G.1 31 0), .ref (G.1 32 0), .ref (G.1 34 0), .ref (G.1 35 0), .ref (G.1 36 0), iV x7]) (QiG G r w') 0 0 (GA G) := by
  refine met_of (own := RL) (by decide) rfl (Nat.le_of_ble_eq_true rfl) rfl ?_
  intro p e s m args below meth c M hr ls hl0 hS0
  have hl0 : lv_has ls 12 [(0, .ref (G.1 10 0)), (1, .ref (G.1 30 0)), (2, .ref (G.1 31 0)), (3, .ref (G.1 32 0)), (4, .ref (G.1 34 0)), (5, .ref (G.1 35 0)), (6, .ref (G.1 36 0)), (7, iV x7)] := hl0
  unfold L_makes at hf
  refine x_iload M hl0 dL_makes_0 7 rfl ?_
  refine x_iconst M dL_makes_2 ?_
  obtain ⟨g1, hf⟩ := gdt hf
  refine x_irem M hx7 ⟨by decide, by decide⟩ ⟨g1, by decide⟩ dL_makes_3 ?_
  refine x_if_le (tgt := 18) M (o_inr_rem ⟨by decide, by decide⟩ ⟨g1, by decide⟩) dL_makes_4 (by decide) (fun hc => ?_) (fun hc => ?_)
  · have hf := iff_ hf (Int.not_lt.mpr hc)
    refine x_iconst M dL_makes_18 ?_
    refine x_iload M hl0 dL_makes_19 7 rfl ?_
    refine x_iconst M dL_makes_21 ?_
    refine x_idiv M hx7 ⟨by decide, by decide⟩ ⟨g1, by decide⟩ dL_makes_22 ?_
    refine x_bipush M dL_makes_23 rfl ?_
    obtain ⟨g2, hf⟩ := gdt hf
    refine x_irem M (o_inr_div hx7 ⟨g1, by decide⟩) ⟨by decide, by decide⟩ ⟨g2, by decide⟩ dL_makes_25 ?_
    obtain ⟨g3, hf⟩ := gdt hf
    refine x_iadd M dL_makes_26 ?_
    exact L_makes_b27_ok M hr x7 (1 + ((x7 / 5) % 12)) w hx7 g3 _ _ hS0 _ (lv_sub hl0 [0, 1, 2, 3, 4, 5, 6, 7] rfl) _ _ hf
  · have hf := ift hf (Int.not_le.mp hc)
    refine x_iconst M dL_makes_7 ?_
    refine x_iload M hl0 dL_makes_8 7 rfl ?_
    refine x_iconst M dL_makes_10 ?_
    refine x_idiv M hx7 ⟨by decide, by decide⟩ ⟨g1, by decide⟩ dL_makes_11 ?_
    refine x_iconst M dL_makes_12 ?_
    obtain ⟨g57, hf⟩ := gdt hf
    refine x_irem M (o_inr_div hx7 ⟨g1, by decide⟩) ⟨by decide, by decide⟩ ⟨g57, by decide⟩ dL_makes_13 ?_
    obtain ⟨g58, hf⟩ := gdt hf
    refine x_iadd M dL_makes_14 ?_
    refine x_goto (tgt := 27) M dL_makes_15 (by decide) ?_
    exact L_makes_b27_ok M hr x7 (1 + ((x7 / 5) % 4)) w hx7 g58 _ _ hS0 _ (lv_sub hl0 [0, 1, 2, 3, 4, 5, 6, 7] rfl) _ _ hf

/-! L_names -/
set_option maxHeartbeats 4000000 in
set_option maxRecDepth 100000 in
theorem c_L_names (l : Launch) {G : GG} {x8 : Int} (hx8 : InR x8) {x9 : Int} (hx9 : InR x9) {w : Wd} {r : Int} {w' : Wd} (hf : L_names x8 x9 w = some (r, w')) : Met l yL_names wsL_names (rmL 5 151) (PcG G w [.ref (G.1 10 0), .ref (G.1 30 0), .ref (G.1 31 0), .ref (G.1 32 0), .ref (G.1 33 0), .ref (G.1 34 0), .ref (G.1 35 0), .ref (G.1 36 0), iV x8, iV x9]) (QiG G r w') 0 0 (GA G) := by
  refine met_of (own := RL) (by decide) rfl (Nat.le_of_ble_eq_true rfl) rfl ?_
  intro p e s m args below meth c M hr ls hl0 hS0
  have hl0 : lv_has ls 14 [(0, .ref (G.1 10 0)), (1, .ref (G.1 30 0)), (2, .ref (G.1 31 0)), (3, .ref (G.1 32 0)), (4, .ref (G.1 33 0)), (5, .ref (G.1 34 0)), (6, .ref (G.1 35 0)), (7, .ref (G.1 36 0)), (8, iV x8), (9, iV x9)] := hl0
  unfold L_names at hf
  refine x_iload M hl0 dL_names_0 8 rfl ?_
  refine x_bipush M dL_names_2 rfl ?_
  obtain ⟨g1, hf⟩ := gdt hf
  refine x_irem M hx8 ⟨by decide, by decide⟩ ⟨g1, by decide⟩ dL_names_4 ?_
  refine x_istore M hl0 dL_names_5 (by decide) [(10, iV (x8 % 8)), (0, .ref (G.1 10 0)), (1, .ref (G.1 30 0)), (2, .ref (G.1 31 0)), (3, .ref (G.1 32 0)), (4, .ref (G.1 33 0)), (5, .ref (G.1 34 0)), (6, .ref (G.1 35 0)), (7, .ref (G.1 36 0)), (8, iV x8), (9, iV x9)] rfl (fun ls hl2 => ?_)
  refine x_iload M hl2 dL_names_7 9 rfl ?_
  refine x_bipush M dL_names_9 rfl ?_
  refine x_idiv M hx8 ⟨by decide, by decide⟩ ⟨g1, by decide⟩ dL_names_11 ?_
  refine x_iconst M dL_names_12 ?_
  obtain ⟨g3, hf⟩ := gdt hf
  refine x_irem M (o_inr_div hx8 ⟨g1, by decide⟩) ⟨by decide, by decide⟩ ⟨g3, by decide⟩ dL_names_13 ?_
  refine x_istore M hl2 dL_names_14 (by decide) [(11, iV ((x8 / 8) % 2)), (10, iV (x8 % 8)), (0, .ref (G.1 10 0)), (1, .ref (G.1 30 0)), (2, .ref (G.1 31 0)), (3, .ref (G.1 32 0)), (4, .ref (G.1 33 0)), (5, .ref (G.1 34 0)), (6, .ref (G.1 35 0)), (7, .ref (G.1 36 0)), (8, iV x8), (9, iV x9)] rfl (fun ls hl4 => ?_)
  refine x_iload M hl4 dL_names_16 10 rfl ?_
  refine x_bipush M dL_names_18 rfl ?_
  refine x_idiv M hx8 ⟨by decide, by decide⟩ ⟨g1, by decide⟩ dL_names_20 ?_
  refine x_bipush M dL_names_21 rfl ?_
  obtain ⟨g5, hf⟩ := gdt hf
  refine x_irem M (o_inr_div hx8 ⟨g1, by decide⟩) ⟨by decide, by decide⟩ ⟨g5, by decide⟩ dL_names_23 ?_
  refine x_istore M hl4 dL_names_24 (by decide) [(12, iV ((x8 / 16) % 8)), (11, iV ((x8 / 8) % 2)), (10, iV (x8 % 8)), (0, .ref (G.1 10 0)), (1, .ref (G.1 30 0)), (2, .ref (G.1 31 0)), (3, .ref (G.1 32 0)), (4, .ref (G.1 33 0)), (5, .ref (G.1 34 0)), (6, .ref (G.1 35 0)), (7, .ref (G.1 36 0)), (8, iV x8), (9, iV x9)] rfl (fun ls hl6 => ?_)
  refine x_aload_n M hl6 dL_names_26 5 rfl ?_
  refine x_iload M hl6 dL_names_27 2 rfl ?_
  obtain ⟨g7, hf⟩ := gdt hf
  refine x_iald (c0 := 31) (t0 := 0) M hS0 (by decide) (hs_31 G _) rfl g7 (by decide) dL_names_29 ?_
  refine x_if_ge (tgt := 72) M (hS0.inr _ _ _) dL_names_30 (by decide) (fun hc => ?_) (fun hc => ?_)
  · have hf := iff_ hf (Int.not_lt.mpr hc)
    refine x_aload_n M hl6 dL_names_72 5 rfl ?_
    refine x_iload M hl6 dL_names_73 2 rfl ?_
    refine x_aload_n M hl6 dL_names_75 4 rfl ?_
    refine x_aload_n M hl6 dL_names_76 6 rfl ?_
    refine x_aload M hl6 dL_names_77 7 rfl ?_
    refine x_aload M hl6 dL_names_79 8 rfl ?_
    refine x_aload M hl6 dL_names_81 9 rfl ?_
    refine x_aload M hl6 dL_names_83 10 rfl ?_
    refine x_aload_n M hl6 dL_names_85 5 rfl ?_
    refine x_iload M hl6 dL_names_86 2 rfl ?_
    refine x_iald (c0 := 31) (t0 := 0) M hS0 (by decide) (hs_31 G _) rfl g7 (by decide) dL_names_88 ?_
    obtain ⟨r8, w9, hc10, hf⟩ := bdt hf
    refine x_callTi (As := [.ref (G.1 30 0), .ref (G.1 32 0), .ref (G.1 33 0), .ref (G.1 34 0), .ref (G.1 35 0), .ref (G.1 36 0), iV (w 31 0 (x8 % 8).toNat)]) (rest := [iV (x8 % 8), .ref (G.1 31 0)]) M hl6 hS0 (c_L_read l  (hS0.inr _ _ _) hc10) (va_cwS 7 M.2.2.2.2.1 gL_names_L_read rfl rfl rfl (by decide +kernel) ⟨Nat.le_of_ble_eq_true rfl, Nat.le_of_ble_eq_true rfl⟩) (Nat.le_of_ble_eq_true rfl) rfl (Nat.le_of_ble_eq_true rfl) dL_names_89 rfl ⟨Nat.zero_le _, Nat.zero_le _⟩ (fun H locs hi11 hS12 => ?_)
    refine x_iast (c0 := 31) (t0 := 0) M hS12 (by decide) (hs_31 G _) rfl g7 (by decide) hi11 dL_names_92 (fun H locs hS13 => ?_)
    refine x_aload_n M hl6 dL_names_93 5 rfl ?_
    refine x_iload M hl6 dL_names_94 2 rfl ?_
    refine x_iald (c0 := 31) (t0 := 0) M hS13 (by decide) (hs_31 G _) rfl g7 (by decide) dL_names_96 ?_
    refine x_istore M hl6 dL_names_97 (by decide) [(13, iV ((up w9 31 0 (x8 % 8).toNat r8) 31 0 (x8 % 8).toNat)), (12, iV ((x8 / 16) % 8)), (11, iV ((x8 / 8) % 2)), (10, iV (x8 % 8)), (0, .ref (G.1 10 0)), (1, .ref (G.1 30 0)), (2, .ref (G.1 31 0)), (3, .ref (G.1 32 0)), (4, .ref (G.1 33 0)), (5, .ref (G.1 34 0)), (6, .ref (G.1 35 0)), (7, .ref (G.1 36 0)), (8, iV x8), (9, iV x9)] rfl (fun ls hl14 => ?_)
    refine x_iload M hl14 dL_names_99 13 rfl ?_
    refine x_if_eq (tgt := 178) M hx9 dL_names_101 (by decide) (fun hc => ?_) (fun hc => ?_)
    · have hf := ift hf hc
      refine x_aload M hl14 dL_names_178 9 rfl ?_
      refine x_aload M hl14 dL_names_180 10 rfl ?_
      refine x_aload M hl14 dL_names_182 11 rfl ?_
      refine x_iload M hl14 dL_names_184 0 rfl ?_
      refine x_iload M hl14 dL_names_186 2 rfl ?_
      refine x_aload_n M hl14 dL_names_188 5 rfl ?_
      refine x_aload_n M hl14 dL_names_189 7 rfl ?_
      refine x_aload M hl14 dL_names_190 8 rfl ?_
      refine x_aload M hl14 dL_names_192 9 rfl ?_
      refine x_aload M hl14 dL_names_194 10 rfl ?_
      refine x_aload M hl14 dL_names_196 11 rfl ?_
      refine x_aload M hl14 dL_names_198 9 rfl ?_
      refine x_aload M hl14 dL_names_200 10 rfl ?_
      refine x_aload M hl14 dL_names_202 11 rfl ?_
      refine x_iload M hl14 dL_names_204 0 rfl ?_
      obtain ⟨r15, w16, hc17, hf⟩ := bdt hf
      refine x_callTl (As := [.ref (G.1 34 0), .ref (G.1 35 0), .ref (G.1 36 0), iV ((up w9 31 0 (x8 % 8).toNat r8) 31 0 (x8 % 8).toNat)]) (rest := [.ref (G.1 36 0), .ref (G.1 35 0), .ref (G.1 34 0), .ref (G.1 33 0), .ref (G.1 32 0), .ref (G.1 30 0), iV ((x8 / 8) % 2), iV ((up w9 31 0 (x8 % 8).toNat r8) 31 0 (x8 % 8).toNat), .ref (G.1 36 0), .ref (G.1 35 0), .ref (G.1 34 0)]) M hl14 hS13 (c_L_at l  (hS13.inr _ _ _) hc17) (va_cwS 4 M.2.2.2.2.1 gL_names_L_at rfl rfl rfl (by decide +kernel) ⟨Nat.le_of_ble_eq_true rfl, Nat.le_of_ble_eq_true rfl⟩) (Nat.le_of_ble_eq_true rfl) rfl (Nat.le_of_ble_eq_true rfl) dL_names_206 rfl ⟨Nat.zero_le _, Nat.zero_le _⟩ (fun H locs hi18 hS19 => ?_)
      refine x_iload M hl14 dL_names_209 2 rfl ?_
      obtain ⟨r20, w21, hc22, hf⟩ := bdt hf
      refine x_callTi (As := [lV r15, iV ((x8 / 8) % 2)]) (rest := [.ref (G.1 36 0), .ref (G.1 35 0), .ref (G.1 34 0), .ref (G.1 33 0), .ref (G.1 32 0), .ref (G.1 30 0), iV ((x8 / 8) % 2), iV ((up w9 31 0 (x8 % 8).toNat r8) 31 0 (x8 % 8).toNat), .ref (G.1 36 0), .ref (G.1 35 0), .ref (G.1 34 0)]) M hl14 hS19 (c_L_name l  hi18 (o_inr_rem ⟨by decide, by decide⟩ ⟨g3, by decide⟩) hc22) (va_cwS 2 M.2.2.2.2.1 gL_names_L_name rfl rfl rfl (by decide +kernel) ⟨Nat.le_of_ble_eq_true rfl, Nat.le_of_ble_eq_true rfl⟩) (Nat.le_of_ble_eq_true rfl) rfl (Nat.le_of_ble_eq_true rfl) dL_names_211 rfl ⟨Nat.zero_le _, Nat.zero_le _⟩ (fun H locs hi23 hS24 => ?_)
      obtain ⟨r25, w26, hc27, hf⟩ := bdt hf
      refine x_callTi (As := [.ref (G.1 30 0), .ref (G.1 32 0), .ref (G.1 33 0), .ref (G.1 34 0), .ref (G.1 35 0), .ref (G.1 36 0), iV r20]) (rest := [iV ((x8 / 8) % 2), iV ((up w9 31 0 (x8 % 8).toNat r8) 31 0 (x8 % 8).toNat), .ref (G.1 36 0), .ref (G.1 35 0), .ref (G.1 34 0)]) M hl14 hS24 (c_L_read l  hi23 hc27) (va_cwS 7 M.2.2.2.2.1 gL_names_L_read rfl rfl rfl (by decide +kernel) ⟨Nat.le_of_ble_eq_true rfl, Nat.le_of_ble_eq_true rfl⟩) (Nat.le_of_ble_eq_true rfl) rfl (Nat.le_of_ble_eq_true rfl) dL_names_214 rfl ⟨Nat.zero_le _, Nat.zero_le _⟩ (fun H locs hi28 hS29 => ?_)
      obtain ⟨r30, w31, hc32, hf⟩ := bdt hf
      refine x_callTv (As := [.ref (G.1 34 0), .ref (G.1 35 0), .ref (G.1 36 0), iV ((up w9 31 0 (x8 % 8).toNat r8) 31 0 (x8 % 8).toNat), iV ((x8 / 8) % 2), iV r25]) (rest := []) M hl14 hS29 (c_L_renames l  (hS13.inr _ _ _) (o_inr_rem ⟨by decide, by decide⟩ ⟨g3, by decide⟩) hi28 hc32) (va_cwS 6 M.2.2.2.2.1 gL_names_L_renames rfl rfl rfl (by decide +kernel) ⟨Nat.le_of_ble_eq_true rfl, Nat.le_of_ble_eq_true rfl⟩) (Nat.le_of_ble_eq_true rfl) rfl (Nat.le_of_ble_eq_true rfl) dL_names_217 rfl ⟨Nat.zero_le _, Nat.zero_le _⟩ (fun H locs hS34 => ?_)
      refine x_aload_n M hl14 dL_names_220 6 rfl ?_
      refine x_iload M hl14 dL_names_221 1 rfl ?_
      refine x_aload M hl14 dL_names_223 9 rfl ?_
      refine x_aload M hl14 dL_names_225 10 rfl ?_
      refine x_aload M hl14 dL_names_227 11 rfl ?_
      refine x_iload M hl14 dL_names_229 0 rfl ?_
      obtain ⟨r35, w36, hc37, hf⟩ := bdt hf
      refine x_callTl (As := [.ref (G.1 34 0), .ref (G.1 35 0), .ref (G.1 36 0), iV ((up w9 31 0 (x8 % 8).toNat r8) 31 0 (x8 % 8).toNat)]) (rest := [iV ((x8 / 16) % 8), .ref (G.1 31 0)]) M hl14 hS34 (c_L_at l  (hS13.inr _ _ _) hc37) (va_cwS 4 M.2.2.2.2.1 gL_names_L_at rfl rfl rfl (by decide +kernel) ⟨Nat.le_of_ble_eq_true rfl, Nat.le_of_ble_eq_true rfl⟩) (Nat.le_of_ble_eq_true rfl) rfl (Nat.le_of_ble_eq_true rfl) dL_names_231 rfl ⟨Nat.zero_le _, Nat.zero_le _⟩ (fun H locs hi38 hS39 => ?_)
      refine x_iload M hl14 dL_names_234 2 rfl ?_
      obtain ⟨r40, w41, hc42, hf⟩ := bdt hf
      refine x_callTi (As := [lV r35, iV ((x8 / 8) % 2)]) (rest := [iV ((x8 / 16) % 8), .ref (G.1 31 0)]) M hl14 hS39 (c_L_name l  hi38 (o_inr_rem ⟨by decide, by decide⟩ ⟨g3, by decide⟩) hc42) (va_cwS 2 M.2.2.2.2.1 gL_names_L_name rfl rfl rfl (by decide +kernel) ⟨Nat.le_of_ble_eq_true rfl, Nat.le_of_ble_eq_true rfl⟩) (Nat.le_of_ble_eq_true rfl) rfl (Nat.le_of_ble_eq_true rfl) dL_names_236 rfl ⟨Nat.zero_le _, Nat.zero_le _⟩ (fun H locs hi43 hS44 => ?_)
      obtain ⟨g45, hf⟩ := gdt hf
      refine x_iast (c0 := 31) (t0 := 0) M hS44 (by decide) (hs_31 G _) rfl g45 (by decide) hi43 dL_names_239 (fun H locs hS46 => ?_)
      refine x_aload_n M hl14 dL_names_240 4 rfl ?_
      refine x_iload M hl14 dL_names_241 3 rfl ?_
      refine x_iload M hl14 dL_names_243 2 rfl ?_
      refine x_iload M hl14 dL_names_245 1 rfl ?_
      obtain ⟨r47, w48, hc49, hf⟩ := bdt hf
      refine x_callVi (c0 := 10) (t0 := 0) (As := [iV (x8 % 8), iV ((x8 / 8) % 2), iV ((x8 / 16) % 8)]) (rest := []) M hl14 hS46 (c_X7_follow l  (o_inr_rem ⟨by decide, by decide⟩ ⟨g1, by decide⟩) (o_inr_rem ⟨by decide, by decide⟩ ⟨g3, by decide⟩) (o_inr_rem ⟨by decide, by decide⟩ ⟨g5, by decide⟩) hc49) (cwV 3 M.2.2.2.2.1 gL_names_X7_follow rfl rfl rfl (by decide +kernel) ⟨Nat.le_of_ble_eq_true rfl, Nat.le_of_ble_eq_true rfl⟩) (by decide) (sE_10 G _ _) rfl rfl (Nat.le_of_ble_eq_true rfl) dL_names_247 rfl ⟨Nat.zero_le _, Nat.zero_le _⟩ (fun H locs hi50 hS51 => ?_)
      refine x_aload_n M hl14 dL_names_250 6 rfl ?_
      refine x_iload M hl14 dL_names_251 1 rfl ?_
      refine x_iald (c0 := 31) (t0 := 0) M hS51 (by decide) (hs_31 G _) rfl g45 (by decide) dL_names_253 ?_
      refine x_if_ge (tgt := 263) M (hS51.inr _ _ _) dL_names_254 (by decide) (fun hc => ?_) (fun hc => ?_)
      · have hf := iff_ hf (Int.not_lt.mpr hc)
        refine x_aload_n M hl14 dL_names_263 6 rfl ?_
        refine x_iload M hl14 dL_names_264 1 rfl ?_
        refine x_iald (c0 := 31) (t0 := 0) M hS51 (by decide) (hs_31 G _) rfl g45 (by decide) dL_names_266 ?_
        refine x_icmp_ne (tgt := 274) M hi50 (hS51.inr _ _ _) dL_names_267 (by decide) (fun hc => ?_) (fun hc => ?_)
        · have hf := iff_ hf hc
          refine x_iconst M dL_names_274 ?_
          exact x_zret M hr hf hS51 (Or.inl rfl) dL_names_275
        · have hf := ift hf (Decidable.of_not_not hc)
          refine x_iconst M dL_names_270 ?_
          refine x_goto (tgt := 275) M dL_names_271 (by decide) ?_
          exact x_zret M hr hf hS51 (Or.inr rfl) dL_names_275
      · have hf := ift hf (Int.not_le.mp hc)
        refine x_sipush M dL_names_257 rfl ?_
        refine x_goto (tgt := 267) M dL_names_260 (by decide) ?_
        refine x_icmp_ne (tgt := 274) M hi50 ⟨by decide, by decide⟩ dL_names_267 (by decide) (fun hc => ?_) (fun hc => ?_)
        · have hf := iff_ hf hc
          refine x_iconst M dL_names_274 ?_
          exact x_zret M hr hf hS51 (Or.inl rfl) dL_names_275
        · have hf := ift hf (Decidable.of_not_not hc)
          refine x_iconst M dL_names_270 ?_
          refine x_goto (tgt := 275) M dL_names_271 (by decide) ?_
          exact x_zret M hr hf hS51 (Or.inr rfl) dL_names_275
    · have hf := iff_ hf hc
      refine x_aload_n M hl14 dL_names_104 6 rfl ?_
      refine x_iload M hl14 dL_names_105 1 rfl ?_
      refine x_aload_n M hl14 dL_names_107 5 rfl ?_
      refine x_aload_n M hl14 dL_names_108 7 rfl ?_
      refine x_aload M hl14 dL_names_109 8 rfl ?_
      refine x_aload M hl14 dL_names_111 9 rfl ?_
      refine x_aload M hl14 dL_names_113 10 rfl ?_
      refine x_aload M hl14 dL_names_115 11 rfl ?_
      refine x_aload_n M hl14 dL_names_117 6 rfl ?_
      refine x_iload M hl14 dL_names_118 1 rfl ?_
      obtain ⟨g52, hf⟩ := gdt hf
      refine x_iald (c0 := 31) (t0 := 0) M hS13 (by decide) (hs_31 G _) rfl g52 (by decide) dL_names_120 ?_
      obtain ⟨r53, w54, hc55, hf⟩ := bdt hf
      refine x_callTi (As := [.ref (G.1 30 0), .ref (G.1 32 0), .ref (G.1 33 0), .ref (G.1 34 0), .ref (G.1 35 0), .ref (G.1 36 0), iV ((up w9 31 0 (x8 % 8).toNat r8) 31 0 ((x8 / 16) % 8).toNat)]) (rest := [iV ((x8 / 16) % 8), .ref (G.1 31 0)]) M hl14 hS13 (c_L_read l  (hS13.inr _ _ _) hc55) (va_cwS 7 M.2.2.2.2.1 gL_names_L_read rfl rfl rfl (by decide +kernel) ⟨Nat.le_of_ble_eq_true rfl, Nat.le_of_ble_eq_true rfl⟩) (Nat.le_of_ble_eq_true rfl) rfl (Nat.le_of_ble_eq_true rfl) dL_names_121 rfl ⟨Nat.zero_le _, Nat.zero_le _⟩ (fun H locs hi56 hS57 => ?_)
      refine x_iast (c0 := 31) (t0 := 0) M hS57 (by decide) (hs_31 G _) rfl g52 (by decide) hi56 dL_names_124 (fun H locs hS58 => ?_)
      refine x_aload M hl14 dL_names_125 9 rfl ?_
      refine x_aload M hl14 dL_names_127 10 rfl ?_
      refine x_aload M hl14 dL_names_129 11 rfl ?_
      refine x_iload M hl14 dL_names_131 0 rfl ?_
      refine x_iload M hl14 dL_names_133 2 rfl ?_
      refine x_aload_n M hl14 dL_names_135 6 rfl ?_
      refine x_iload M hl14 dL_names_136 1 rfl ?_
      refine x_iald (c0 := 31) (t0 := 0) M hS58 (by decide) (hs_31 G _) rfl g52 (by decide) dL_names_138 ?_
      obtain ⟨r59, w60, hc61, hf⟩ := bdt hf
      refine x_callTv (As := [.ref (G.1 34 0), .ref (G.1 35 0), .ref (G.1 36 0), iV ((up w9 31 0 (x8 % 8).toNat r8) 31 0 (x8 % 8).toNat), iV ((x8 / 8) % 2), iV ((up w54 31 0 ((x8 / 16) % 8).toNat r53) 31 0 ((x8 / 16) % 8).toNat)]) (rest := []) M hl14 hS58 (c_L_renames l  (hS13.inr _ _ _) (o_inr_rem ⟨by decide, by decide⟩ ⟨g3, by decide⟩) (hS58.inr _ _ _) hc61) (va_cwS 6 M.2.2.2.2.1 gL_names_L_renames rfl rfl rfl (by decide +kernel) ⟨Nat.le_of_ble_eq_true rfl, Nat.le_of_ble_eq_true rfl⟩) (Nat.le_of_ble_eq_true rfl) rfl (Nat.le_of_ble_eq_true rfl) dL_names_139 rfl ⟨Nat.zero_le _, Nat.zero_le _⟩ (fun H locs hS63 => ?_)
      refine x_aload_n M hl14 dL_names_142 4 rfl ?_
      refine x_iload M hl14 dL_names_143 3 rfl ?_
      refine x_iload M hl14 dL_names_145 2 rfl ?_
      refine x_iload M hl14 dL_names_147 1 rfl ?_
      obtain ⟨r64, w65, hc66, hf⟩ := bdt hf
      refine x_callVi (c0 := 10) (t0 := 0) (As := [iV (x8 % 8), iV ((x8 / 8) % 2), iV ((x8 / 16) % 8)]) (rest := []) M hl14 hS63 (c_X7_link l  (o_inr_rem ⟨by decide, by decide⟩ ⟨g1, by decide⟩) (o_inr_rem ⟨by decide, by decide⟩ ⟨g3, by decide⟩) (o_inr_rem ⟨by decide, by decide⟩ ⟨g5, by decide⟩) hc66) (cwV 3 M.2.2.2.2.1 gL_names_X7_link rfl rfl rfl (by decide +kernel) ⟨Nat.le_of_ble_eq_true rfl, Nat.le_of_ble_eq_true rfl⟩) (by decide) (sE_10 G _ _) rfl rfl (Nat.le_of_ble_eq_true rfl) dL_names_149 rfl ⟨Nat.zero_le _, Nat.zero_le _⟩ (fun H locs hi67 hS68 => ?_)
      refine x_aload_n M hl14 dL_names_152 6 rfl ?_
      refine x_iload M hl14 dL_names_153 1 rfl ?_
      refine x_iald (c0 := 31) (t0 := 0) M hS68 (by decide) (hs_31 G _) rfl g52 (by decide) dL_names_155 ?_
      refine x_if_ge (tgt := 165) M (hS68.inr _ _ _) dL_names_156 (by decide) (fun hc => ?_) (fun hc => ?_)
      · have hf := iff_ hf (Int.not_lt.mpr hc)
        refine x_aload_n M hl14 dL_names_165 6 rfl ?_
        refine x_iload M hl14 dL_names_166 1 rfl ?_
        refine x_iald (c0 := 31) (t0 := 0) M hS68 (by decide) (hs_31 G _) rfl g52 (by decide) dL_names_168 ?_
        refine x_icmp_ne (tgt := 176) M hi67 (hS68.inr _ _ _) dL_names_169 (by decide) (fun hc => ?_) (fun hc => ?_)
        · have hf := iff_ hf hc
          refine x_iconst M dL_names_176 ?_
          exact x_zret M hr hf hS68 (Or.inl rfl) dL_names_177
        · have hf := ift hf (Decidable.of_not_not hc)
          refine x_iconst M dL_names_172 ?_
          refine x_goto (tgt := 177) M dL_names_173 (by decide) ?_
          exact x_zret M hr hf hS68 (Or.inr rfl) dL_names_177
      · have hf := ift hf (Int.not_le.mp hc)
        refine x_sipush M dL_names_159 rfl ?_
        refine x_goto (tgt := 169) M dL_names_162 (by decide) ?_
        refine x_icmp_ne (tgt := 176) M hi67 ⟨by decide, by decide⟩ dL_names_169 (by decide) (fun hc => ?_) (fun hc => ?_)
        · have hf := iff_ hf hc
          refine x_iconst M dL_names_176 ?_
          exact x_zret M hr hf hS68 (Or.inl rfl) dL_names_177
        · have hf := ift hf (Decidable.of_not_not hc)
          refine x_iconst M dL_names_172 ?_
          refine x_goto (tgt := 177) M dL_names_173 (by decide) ?_
          exact x_zret M hr hf hS68 (Or.inr rfl) dL_names_177
  · have hf := ift hf (Int.not_le.mp hc)
    refine x_iload M hl6 dL_names_33 12 rfl ?_
    refine x_if_eq (tgt := 51) M hx9 dL_names_35 (by decide) (fun hc => ?_) (fun hc => ?_)
    · have hf := ift hf hc
      refine x_aload_n M hl6 dL_names_51 3 rfl ?_
      refine x_iload M hl6 dL_names_52 2 rfl ?_
      refine x_iload M hl6 dL_names_54 1 rfl ?_
      refine x_iload M hl6 dL_names_56 0 rfl ?_
      obtain ⟨r69, w70, hc71, hf⟩ := bdt hf
      refine x_callVi (c0 := 10) (t0 := 0) (As := [iV (x8 % 8), iV ((x8 / 8) % 2), iV ((x8 / 16) % 8)]) (rest := []) M hl6 hS0 (c_X7_follow l  (o_inr_rem ⟨by decide, by decide⟩ ⟨g1, by decide⟩) (o_inr_rem ⟨by decide, by decide⟩ ⟨g3, by decide⟩) (o_inr_rem ⟨by decide, by decide⟩ ⟨g5, by decide⟩) hc71) (cwV 3 M.2.2.2.2.1 gL_names_X7_follow rfl rfl rfl (by decide +kernel) ⟨Nat.le_of_ble_eq_true rfl, Nat.le_of_ble_eq_true rfl⟩) (by decide) (sE_10 G _ _) rfl rfl (Nat.le_of_ble_eq_true rfl) dL_names_58 rfl ⟨Nat.zero_le _, Nat.zero_le _⟩ (fun H locs hi72 hS73 => ?_)
      refine x_bipush M dL_names_61 rfl ?_
      refine x_icmp_ne (tgt := 70) M hi72 ⟨by decide, by decide⟩ dL_names_63 (by decide) (fun hc => ?_) (fun hc => ?_)
      · have hf := iff_ hf hc
        refine x_iconst M dL_names_70 ?_
        exact x_zret M hr hf hS73 (Or.inl rfl) dL_names_71
      · have hf := ift hf (Decidable.of_not_not hc)
        refine x_iconst M dL_names_66 ?_
        refine x_goto (tgt := 71) M dL_names_67 (by decide) ?_
        exact x_zret M hr hf hS73 (Or.inr rfl) dL_names_71
    · have hf := iff_ hf hc
      refine x_aload_n M hl6 dL_names_38 3 rfl ?_
      refine x_iload M hl6 dL_names_39 2 rfl ?_
      refine x_iload M hl6 dL_names_41 1 rfl ?_
      refine x_iload M hl6 dL_names_43 0 rfl ?_
      obtain ⟨r74, w75, hc76, hf⟩ := bdt hf
      refine x_callVi (c0 := 10) (t0 := 0) (As := [iV (x8 % 8), iV ((x8 / 8) % 2), iV ((x8 / 16) % 8)]) (rest := []) M hl6 hS0 (c_X7_link l  (o_inr_rem ⟨by decide, by decide⟩ ⟨g1, by decide⟩) (o_inr_rem ⟨by decide, by decide⟩ ⟨g3, by decide⟩) (o_inr_rem ⟨by decide, by decide⟩ ⟨g5, by decide⟩) hc76) (cwV 3 M.2.2.2.2.1 gL_names_X7_link rfl rfl rfl (by decide +kernel) ⟨Nat.le_of_ble_eq_true rfl, Nat.le_of_ble_eq_true rfl⟩) (by decide) (sE_10 G _ _) rfl rfl (Nat.le_of_ble_eq_true rfl) dL_names_45 rfl ⟨Nat.zero_le _, Nat.zero_le _⟩ (fun H locs hi77 hS78 => ?_)
      refine x_goto (tgt := 61) M dL_names_48 (by decide) ?_
      refine x_bipush M dL_names_61 rfl ?_
      refine x_icmp_ne (tgt := 70) M hi77 ⟨by decide, by decide⟩ dL_names_63 (by decide) (fun hc => ?_) (fun hc => ?_)
      · have hf := iff_ hf hc
        refine x_iconst M dL_names_70 ?_
        exact x_zret M hr hf hS78 (Or.inl rfl) dL_names_71
      · have hf := ift hf (Decidable.of_not_not hc)
        refine x_iconst M dL_names_66 ?_
        refine x_goto (tgt := 71) M dL_names_67 (by decide) ?_
        exact x_zret M hr hf hS78 (Or.inr rfl) dL_names_71

/-! L_address -/
set_option maxHeartbeats 4000000 in
set_option maxRecDepth 100000 in
theorem c_L_address (l : Launch) {G : GG} {x0 : Int} (hx0 : InR x0) {w : Wd} {r : Int} {w' : Wd} (hf : L_address x0 w = some (r, w')) : Met l yL_address wsL_address (rmL 0 0) (PcG G w [iV x0]) (QiG G r w') 0 0 (GA G) := by
  refine met_of (own := RL) (by decide) rfl (Nat.le_of_ble_eq_true rfl) rfl ?_
  intro p e s m args below meth c M hr ls hl0 hS0
  have hl0 : lv_has ls 1 [(0, iV x0)] := hl0
  unfold L_address at hf
  refine x_iload_n M hl0 dL_address_0 0 rfl ?_
  refine x_bipush M dL_address_1 rfl ?_
  obtain ⟨g1, hf⟩ := gdt hf
  refine x_idiv M hx0 ⟨by decide, by decide⟩ ⟨g1, by decide⟩ dL_address_3 ?_
  refine x_bipush M dL_address_4 rfl ?_
  obtain ⟨g2, hf⟩ := gdt hf
  refine x_imul M dL_address_6 ?_
  refine x_iload_n M hl0 dL_address_7 0 rfl ?_
  refine x_bipush M dL_address_8 rfl ?_
  refine x_irem M hx0 ⟨by decide, by decide⟩ ⟨g1, by decide⟩ dL_address_10 ?_
  obtain ⟨g3, hf⟩ := gdt hf
  refine x_iadd M dL_address_11 ?_
  exact x_iret M hr hf hS0 g3 dL_address_12

end
