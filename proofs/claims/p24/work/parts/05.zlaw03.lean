section
variable {p : Program} {l : Launch} {e : Env} {s : State} {m : MethodId} {args : Array Value} {below : List Frame} {meth : Method} {c : Code} {G : GG}
/-! L_mends -/
set_option maxHeartbeats 4000000 in
set_option maxRecDepth 100000 in
theorem L_mends_b77_ok (M : MC p s m args meth c cL_mends 14 RL wsL_mends G) (hr : meth.sig.returnType = (some .boolean)) : ∀ x6 : Int, ∀ w : Wd, InR x6 → ∀ (H : Heap) (locs : List Loc), ST G s w H locs → ∀ ls : Array Slot, lv_has ls 14 [(0, .ref (G.1 10 0)), (6, iV x6)] → ∀ (r : Int) (w' : Wd), L_mends_b77 x6 w = some (r, w') → W p l e (rmL 5 149) s m args below meth c H locs 0 0 (MQ below (QiG G r w') args s 0 0 (GA G)) (F0 m 77 ls []) := by
  intro x6 w hx6 H locs hS0 ls hl0 r w' hf
  unfold L_mends_b77 at hf
  refine x_aload_n M hl0 dL_mends_77 0 rfl ?_
  refine x_iload M hl0 dL_mends_78 1 rfl ?_
  obtain ⟨r4, w5, hc6, hf⟩ := bdt hf
  refine x_callVi (c0 := 10) (t0 := 0) (As := [iV x6]) (rest := []) M hl0 hS0 (c_X7_mend l  hx6 hc6) (cwV 1 M.2.2.2.2.1 gL_mends_X7_mend rfl rfl rfl (by decide +kernel) ⟨Nat.le_of_ble_eq_true rfl, Nat.le_of_ble_eq_true rfl⟩) (by decide) (sE_10 G _ _) rfl rfl (Nat.le_of_ble_eq_true rfl) dL_mends_80 rfl ⟨Nat.zero_le _, Nat.zero_le _⟩ (fun H locs hi7 hS8 => ?_)
  refine x_bipush M dL_mends_83 rfl ?_
  refine x_icmp_ne (tgt := 92) M hi7 ⟨by decide, by decide⟩ dL_mends_85 (by decide) (fun hc => ?_) (fun hc => ?_)
  · have hf := iff_ hf hc
    refine x_iconst M dL_mends_92 ?_
    exact x_zret M hr hf hS8 (Or.inl rfl) dL_mends_93
  · have hf := ift hf (Decidable.of_not_not hc)
    refine x_iconst M dL_mends_88 ?_
    refine x_goto (tgt := 93) M dL_mends_89 (by decide) ?_
    exact x_zret M hr hf hS8 (Or.inr rfl) dL_mends_93

set_option maxHeartbeats 4000000 in
set_option maxRecDepth 100000 in
theorem L_mends_b253_ok (M : MC p s m args meth c cL_mends 14 RL wsL_mends G) (hr : meth.sig.returnType = (some .boolean)) : ∀ n : Nat, ∀ x6 : Int, ∀ x7 : Int, ∀ x8 : Int, ∀ x9 : Int, ∀ w : Wd, InR x6 → InR x7 → InR x8 → InR x9 → ∀ (H : Heap) (locs : List Loc), ST G s w H locs → ∀ ls : Array Slot, lv_has ls 14 [(0, .ref (G.1 10 0)), (3, .ref (G.1 34 0)), (4, .ref (G.1 35 0)), (5, .ref (G.1 36 0)), (6, iV x6), (7, iV x7), (8, iV x8), (9, iV x9)] → ∀ (r : Int) (w' : Wd), L_mends_b253 n x6 x7 x8 x9 w = some (r, w') → W p l e (rmL 5 149) s m args below meth c H locs 0 0 (MQ below (QiG G r w') args s 0 0 (GA G)) (F0 m 253 ls []) := by
  intro n
  induction n with
  | zero =>
    intro x6 x7 x8 x9 w hx6 hx7 hx8 hx9 H locs hS0 ls hl0 r w' hf
    cases hf
  | succ n ih =>
    intro x6 x7 x8 x9 w hx6 hx7 hx8 hx9 H locs hS0 ls hl0 r w' hf
    rw [L_mends_b253_s] at hf
    refine x_iload M hl0 dL_mends_253 7 rfl ?_
    refine x_sipush M dL_mends_255 rfl ?_
    refine x_icmp_ge (tgt := 312) M hx9 ⟨by decide, by decide⟩ dL_mends_258 (by decide) (fun hc => ?_) (fun hc => ?_)
    · have hf := iff_ hf (Int.not_lt.mpr hc)
      refine x_aload_n M hl0 dL_mends_312 0 rfl ?_
      refine x_iload M hl0 dL_mends_313 4 rfl ?_
      obtain ⟨r12, w13, hc14, hf⟩ := bdt hf
      refine x_callVi (c0 := 10) (t0 := 0) (As := [iV x6]) (rest := []) M hl0 hS0 (c_X7_mend l  hx6 hc14) (cwV 1 M.2.2.2.2.1 gL_mends_X7_mend rfl rfl rfl (by decide +kernel) ⟨Nat.le_of_ble_eq_true rfl, Nat.le_of_ble_eq_true rfl⟩) (by decide) (sE_10 G _ _) rfl rfl (Nat.le_of_ble_eq_true rfl) dL_mends_315 rfl ⟨Nat.zero_le _, Nat.zero_le _⟩ (fun H locs hi15 hS16 => ?_)
      refine x_iload M hl0 dL_mends_318 6 rfl ?_
      refine x_iconst M dL_mends_320 ?_
      obtain ⟨g17, hf⟩ := gdt hf
      refine x_isub M dL_mends_321 ?_
      refine x_icmp_ne (tgt := 329) M hi15 g17 dL_mends_322 (by decide) (fun hc => ?_) (fun hc => ?_)
      · have hf := iff_ hf hc
        refine x_iconst M dL_mends_329 ?_
        exact x_zret M hr hf hS16 (Or.inl rfl) dL_mends_330
      · have hf := ift hf (Decidable.of_not_not hc)
        refine x_iconst M dL_mends_325 ?_
        refine x_goto (tgt := 330) M dL_mends_326 (by decide) ?_
        exact x_zret M hr hf hS16 (Or.inr rfl) dL_mends_330
    · have hf := ift hf (Int.not_le.mp hc)
      refine x_iload M hl0 dL_mends_261 7 rfl ?_
      obtain ⟨r18, w19, hc20, hf⟩ := bdt hf
      refine x_callTi (As := [iV x9]) (rest := []) M hl0 hS0 (c_L_address l  hx9 hc20) (va_cwS 1 M.2.2.2.2.1 gL_mends_L_address rfl rfl rfl (by decide +kernel) ⟨Nat.le_of_ble_eq_true rfl, Nat.le_of_ble_eq_true rfl⟩) (Nat.le_of_ble_eq_true rfl) rfl (Nat.le_of_ble_eq_true rfl) dL_mends_263 rfl ⟨Nat.zero_le _, Nat.zero_le _⟩ (fun H locs hi21 hS22 => ?_)
      refine x_iload M hl0 dL_mends_266 5 rfl ?_
      refine x_icmp_eq (tgt := 306) M hi21 hx7 dL_mends_268 (by decide) (fun hc => ?_) (fun hc => ?_)
      · have hf := ift hf hc
        obtain ⟨g23, hf⟩ := gdt hf
        refine x_iinc M hl0 dL_mends_306 7 rfl (by decide) [(9, iV (x9 + 1)), (0, .ref (G.1 10 0)), (3, .ref (G.1 34 0)), (4, .ref (G.1 35 0)), (5, .ref (G.1 36 0)), (6, iV x6), (7, iV x7), (8, iV x8)] rfl (fun ls hl24 => ?_)
        refine x_goto (tgt := 253) M dL_mends_309 (by decide) ?_
        exact ih x6 x7 x8 (x9 + 1) w19 hx6 hx7 hx8 g23 _ _ hS22 _ (lv_sub hl24 [1, 2, 3, 4, 5, 6, 7, 0] rfl) _ _ hf
      · have hf := iff_ hf hc
        refine x_aload_n M hl0 dL_mends_271 1 rfl ?_
        refine x_aload M hl0 dL_mends_272 2 rfl ?_
        refine x_aload M hl0 dL_mends_274 3 rfl ?_
        refine x_iload M hl0 dL_mends_276 7 rfl ?_
        obtain ⟨r25, w26, hc27, hf⟩ := bdt hf
        refine x_callTi (As := [iV x9]) (rest := [.ref (G.1 36 0), .ref (G.1 35 0), .ref (G.1 34 0)]) M hl0 hS22 (c_L_address l  hx9 hc27) (va_cwS 1 M.2.2.2.2.1 gL_mends_L_address rfl rfl rfl (by decide +kernel) ⟨Nat.le_of_ble_eq_true rfl, Nat.le_of_ble_eq_true rfl⟩) (Nat.le_of_ble_eq_true rfl) rfl (Nat.le_of_ble_eq_true rfl) dL_mends_278 rfl ⟨Nat.zero_le _, Nat.zero_le _⟩ (fun H locs hi28 hS29 => ?_)
        obtain ⟨r30, w31, hc32, hf⟩ := bdt hf
        refine x_callTl (As := [.ref (G.1 34 0), .ref (G.1 35 0), .ref (G.1 36 0), iV r25]) (rest := []) M hl0 hS29 (c_L_at l  hi28 hc32) (va_cwS 4 M.2.2.2.2.1 gL_mends_L_at rfl rfl rfl (by decide +kernel) ⟨Nat.le_of_ble_eq_true rfl, Nat.le_of_ble_eq_true rfl⟩) (Nat.le_of_ble_eq_true rfl) rfl (Nat.le_of_ble_eq_true rfl) dL_mends_281 rfl ⟨Nat.zero_le _, Nat.zero_le _⟩ (fun H locs hi33 hS34 => ?_)
        obtain ⟨r35, w36, hc37, hf⟩ := bdt hf
        refine x_callTi (As := [lV r30]) (rest := []) M hl0 hS34 (c_L_thing l  hi33 hc37) (va_cwS 1 M.2.2.2.2.1 gL_mends_L_thing rfl rfl rfl (by decide +kernel) ⟨Nat.le_of_ble_eq_true rfl, Nat.le_of_ble_eq_true rfl⟩) (Nat.le_of_ble_eq_true rfl) rfl (Nat.le_of_ble_eq_true rfl) dL_mends_284 rfl ⟨Nat.zero_le _, Nat.zero_le _⟩ (fun H locs hi38 hS39 => ?_)
        refine x_iload M hl0 dL_mends_287 4 rfl ?_
        refine x_icmp_ne (tgt := 306) M hi38 hx6 dL_mends_289 (by decide) (fun hc => ?_) (fun hc => ?_)
        · have hf := iff_ hf hc
          obtain ⟨g40, hf⟩ := gdt hf
          refine x_iinc M hl0 dL_mends_306 7 rfl (by decide) [(9, iV (x9 + 1)), (0, .ref (G.1 10 0)), (3, .ref (G.1 34 0)), (4, .ref (G.1 35 0)), (5, .ref (G.1 36 0)), (6, iV x6), (7, iV x7), (8, iV x8)] rfl (fun ls hl41 => ?_)
          refine x_goto (tgt := 253) M dL_mends_309 (by decide) ?_
          exact ih x6 x7 x8 (x9 + 1) w36 hx6 hx7 hx8 g40 _ _ hS39 _ (lv_sub hl41 [1, 2, 3, 4, 5, 6, 7, 0] rfl) _ _ hf
        · have hf := ift hf (Decidable.of_not_not hc)
          refine x_aload_n M hl0 dL_mends_292 1 rfl ?_
          refine x_aload M hl0 dL_mends_293 2 rfl ?_
          refine x_aload M hl0 dL_mends_295 3 rfl ?_
          refine x_iload M hl0 dL_mends_297 7 rfl ?_
          obtain ⟨r42, w43, hc44, hf⟩ := bdt hf
          refine x_callTi (As := [iV x9]) (rest := [.ref (G.1 36 0), .ref (G.1 35 0), .ref (G.1 34 0)]) M hl0 hS39 (c_L_address l  hx9 hc44) (va_cwS 1 M.2.2.2.2.1 gL_mends_L_address rfl rfl rfl (by decide +kernel) ⟨Nat.le_of_ble_eq_true rfl, Nat.le_of_ble_eq_true rfl⟩) (Nat.le_of_ble_eq_true rfl) rfl (Nat.le_of_ble_eq_true rfl) dL_mends_299 rfl ⟨Nat.zero_le _, Nat.zero_le _⟩ (fun H locs hi45 hS46 => ?_)
          refine x_lconst (z := 0) M dL_mends_302 rfl ?_
          obtain ⟨r47, w48, hc49, hf⟩ := bdt hf
          refine x_callTv (As := [.ref (G.1 34 0), .ref (G.1 35 0), .ref (G.1 36 0), iV r42, lV 0]) (rest := []) M hl0 hS46 (c_L_puts l  hi45 ⟨by decide, by decide⟩ hc49) (va_cwS 5 M.2.2.2.2.1 gL_mends_L_puts rfl rfl rfl (by decide +kernel) ⟨Nat.le_of_ble_eq_true rfl, Nat.le_of_ble_eq_true rfl⟩) (Nat.le_of_ble_eq_true rfl) rfl (Nat.le_of_ble_eq_true rfl) dL_mends_303 rfl ⟨Nat.zero_le _, Nat.zero_le _⟩ (fun H locs hS51 => ?_)
          obtain ⟨g52, hf⟩ := gdt hf
          refine x_iinc M hl0 dL_mends_306 7 rfl (by decide) [(9, iV (x9 + 1)), (0, .ref (G.1 10 0)), (3, .ref (G.1 34 0)), (4, .ref (G.1 35 0)), (5, .ref (G.1 36 0)), (6, iV x6), (7, iV x7), (8, iV x8)] rfl (fun ls hl53 => ?_)
          refine x_goto (tgt := 253) M dL_mends_309 (by decide) ?_
          exact ih x6 x7 x8 (x9 + 1) w48 hx6 hx7 hx8 g52 _ _ hS51 _ (lv_sub hl53 [1, 2, 3, 4, 5, 6, 7, 0] rfl) _ _ hf

set_option maxHeartbeats 4000000 in
set_option maxRecDepth 100000 in
theorem L_mends_b203_ok (M : MC p s m args meth c cL_mends 14 RL wsL_mends G) (hr : meth.sig.returnType = (some .boolean)) {K153 : Int → Int → Int → Int → Wd → Option (Int × Wd)} (hK153 : ∀ x6 : Int, ∀ x7 : Int, ∀ x8 : Int, ∀ x9 : Int, ∀ w : Wd, InR x6 → InR x7 → InR x8 → InR x9 → ∀ (H : Heap) (locs : List Loc), ST G s w H locs → ∀ ls : Array Slot, lv_has ls 14 [(0, .ref (G.1 10 0)), (3, .ref (G.1 34 0)), (4, .ref (G.1 35 0)), (5, .ref (G.1 36 0)), (6, iV x6), (7, iV x7), (8, iV x8), (9, iV x9)] → ∀ (r : Int) (w' : Wd), K153 x6 x7 x8 x9 w = some (r, w') → W p l e (rmL 5 149) s m args below meth c H locs 0 0 (MQ below (QiG G r w') args s 0 0 (GA G)) (F0 m 153 ls [])) : ∀ x6 : Int, ∀ x7 : Int, ∀ x8 : Int, ∀ x9 : Int, ∀ x10 : Int, ∀ s0 : Int, ∀ w : Wd, InR x6 → InR x7 → InR x8 → InR x9 → InR x10 → InR s0 → ∀ (H : Heap) (locs : List Loc), ST G s w H locs → ∀ ls : Array Slot, lv_has ls 14 [(0, .ref (G.1 10 0)), (3, .ref (G.1 34 0)), (4, .ref (G.1 35 0)), (5, .ref (G.1 36 0)), (6, iV x6), (7, iV x7), (8, iV x8), (9, iV x9), (10, iV x10)] → ∀ (r : Int) (w' : Wd), L_mends_b203 K153 x6 x7 x8 x9 x10 s0 w = some (r, w') → W p l e (rmL 5 149) s m args below meth c H locs 0 0 (MQ below (QiG G r w') args s 0 0 (GA G)) (F0 m 203 ls [iV s0]) := by
  intro x6 x7 x8 x9 x10 s0 w hx6 hx7 hx8 hx9 hx10 hs0 H locs hS0 ls hl0 r w' hf
  unfold L_mends_b203 at hf
  refine x_istore M hl0 dL_mends_203 (by decide) [(13, iV s0), (0, .ref (G.1 10 0)), (3, .ref (G.1 34 0)), (4, .ref (G.1 35 0)), (5, .ref (G.1 36 0)), (6, iV x6), (7, iV x7), (8, iV x8), (9, iV x9), (10, iV x10)] rfl (fun ls hl72 => ?_)
  refine x_iload M hl72 dL_mends_205 0 rfl ?_
  refine x_if_lt (tgt := 244) M hs0 dL_mends_207 (by decide) (fun hc => ?_) (fun hc => ?_)
  · have hf := ift hf hc
    obtain ⟨g73, hf⟩ := gdt hf
    refine x_iinc M hl72 dL_mends_244 8 rfl (by decide) [(9, iV (x9 + 1)), (13, iV s0), (0, .ref (G.1 10 0)), (3, .ref (G.1 34 0)), (4, .ref (G.1 35 0)), (5, .ref (G.1 36 0)), (6, iV x6), (7, iV x7), (8, iV x8), (10, iV x10)] rfl (fun ls hl74 => ?_)
    refine x_goto (tgt := 153) M dL_mends_247 (by decide) ?_
    exact hK153 x6 x7 x8 (x9 + 1) w hx6 hx7 hx8 g73 _ _ hS0 _ (lv_sub hl74 [2, 3, 4, 5, 6, 7, 8, 0] rfl) _ _ hf
  · have hf := iff_ hf hc
    refine x_aload_n M hl72 dL_mends_210 2 rfl ?_
    refine x_aload M hl72 dL_mends_211 3 rfl ?_
    refine x_aload M hl72 dL_mends_213 4 rfl ?_
    refine x_iload M hl72 dL_mends_215 0 rfl ?_
    obtain ⟨r75, w76, hc77, hf⟩ := bdt hf
    refine x_callTl (As := [.ref (G.1 34 0), .ref (G.1 35 0), .ref (G.1 36 0), iV s0]) (rest := []) M hl72 hS0 (c_L_at l  hs0 hc77) (va_cwS 4 M.2.2.2.2.1 gL_mends_L_at rfl rfl rfl (by decide +kernel) ⟨Nat.le_of_ble_eq_true rfl, Nat.le_of_ble_eq_true rfl⟩) (Nat.le_of_ble_eq_true rfl) rfl (Nat.le_of_ble_eq_true rfl) dL_mends_217 rfl ⟨Nat.zero_le _, Nat.zero_le _⟩ (fun H locs hi78 hS79 => ?_)
    obtain ⟨r80, w81, hc82, hf⟩ := bdt hf
    refine x_callTi (As := [lV r75]) (rest := []) M hl72 hS79 (c_L_thing l  hi78 hc82) (va_cwS 1 M.2.2.2.2.1 gL_mends_L_thing rfl rfl rfl (by decide +kernel) ⟨Nat.le_of_ble_eq_true rfl, Nat.le_of_ble_eq_true rfl⟩) (Nat.le_of_ble_eq_true rfl) rfl (Nat.le_of_ble_eq_true rfl) dL_mends_220 rfl ⟨Nat.zero_le _, Nat.zero_le _⟩ (fun H locs hi83 hS84 => ?_)
    refine x_iload M hl72 dL_mends_223 5 rfl ?_
    refine x_icmp_ne (tgt := 244) M hi83 hx6 dL_mends_225 (by decide) (fun hc => ?_) (fun hc => ?_)
    · have hf := iff_ hf hc
      obtain ⟨g85, hf⟩ := gdt hf
      refine x_iinc M hl72 dL_mends_244 8 rfl (by decide) [(9, iV (x9 + 1)), (13, iV s0), (0, .ref (G.1 10 0)), (3, .ref (G.1 34 0)), (4, .ref (G.1 35 0)), (5, .ref (G.1 36 0)), (6, iV x6), (7, iV x7), (8, iV x8), (10, iV x10)] rfl (fun ls hl86 => ?_)
      refine x_goto (tgt := 153) M dL_mends_247 (by decide) ?_
      exact hK153 x6 x7 x8 (x9 + 1) w81 hx6 hx7 hx8 g85 _ _ hS84 _ (lv_sub hl86 [2, 3, 4, 5, 6, 7, 8, 0] rfl) _ _ hf
    · have hf := ift hf (Decidable.of_not_not hc)
      refine x_aload_n M hl72 dL_mends_228 2 rfl ?_
      refine x_aload M hl72 dL_mends_229 3 rfl ?_
      refine x_aload M hl72 dL_mends_231 4 rfl ?_
      refine x_iload M hl72 dL_mends_233 9 rfl ?_
      refine x_iload M hl72 dL_mends_235 8 rfl ?_
      refine x_iconst M dL_mends_237 ?_
      obtain ⟨g87, hf⟩ := gdt hf
      refine x_irem M hx9 ⟨by decide, by decide⟩ ⟨g87, by decide⟩ dL_mends_238 ?_
      refine x_iload M hl72 dL_mends_239 6 rfl ?_
      obtain ⟨r88, w89, hc90, hf⟩ := bdt hf
      refine x_callTv (As := [.ref (G.1 34 0), .ref (G.1 35 0), .ref (G.1 36 0), iV x10, iV (x9 % 2), iV x7]) (rest := []) M hl72 hS84 (c_L_renames l  hx10 (o_inr_rem ⟨by decide, by decide⟩ ⟨g87, by decide⟩) hx7 hc90) (va_cwS 6 M.2.2.2.2.1 gL_mends_L_renames rfl rfl rfl (by decide +kernel) ⟨Nat.le_of_ble_eq_true rfl, Nat.le_of_ble_eq_true rfl⟩) (Nat.le_of_ble_eq_true rfl) rfl (Nat.le_of_ble_eq_true rfl) dL_mends_241 rfl ⟨Nat.zero_le _, Nat.zero_le _⟩ (fun H locs hS92 => ?_)
      obtain ⟨g93, hf⟩ := gdt hf
      refine x_iinc M hl72 dL_mends_244 8 rfl (by decide) [(9, iV (x9 + 1)), (13, iV s0), (0, .ref (G.1 10 0)), (3, .ref (G.1 34 0)), (4, .ref (G.1 35 0)), (5, .ref (G.1 36 0)), (6, iV x6), (7, iV x7), (8, iV x8), (10, iV x10)] rfl (fun ls hl94 => ?_)
      refine x_goto (tgt := 153) M dL_mends_247 (by decide) ?_
      exact hK153 x6 x7 x8 (x9 + 1) w89 hx6 hx7 hx8 g93 _ _ hS92 _ (lv_sub hl94 [2, 3, 4, 5, 6, 7, 8, 0] rfl) _ _ hf

set_option maxHeartbeats 4000000 in
set_option maxRecDepth 100000 in
theorem L_mends_b153_ok (M : MC p s m args meth c cL_mends 14 RL wsL_mends G) (hr : meth.sig.returnType = (some .boolean)) : ∀ n : Nat, ∀ x6 : Int, ∀ x7 : Int, ∀ x8 : Int, ∀ x9 : Int, ∀ w : Wd, InR x6 → InR x7 → InR x8 → InR x9 → ∀ (H : Heap) (locs : List Loc), ST G s w H locs → ∀ ls : Array Slot, lv_has ls 14 [(0, .ref (G.1 10 0)), (3, .ref (G.1 34 0)), (4, .ref (G.1 35 0)), (5, .ref (G.1 36 0)), (6, iV x6), (7, iV x7), (8, iV x8), (9, iV x9)] → ∀ (r : Int) (w' : Wd), L_mends_b153 n x6 x7 x8 x9 w = some (r, w') → W p l e (rmL 5 149) s m args below meth c H locs 0 0 (MQ below (QiG G r w') args s 0 0 (GA G)) (F0 m 153 ls []) := by
  intro n
  induction n with
  | zero =>
    intro x6 x7 x8 x9 w hx6 hx7 hx8 hx9 H locs hS0 ls hl0 r w' hf
    cases hf
  | succ n ih =>
    intro x6 x7 x8 x9 w hx6 hx7 hx8 hx9 H locs hS0 ls hl0 r w' hf
    rw [L_mends_b153_s] at hf
    refine x_iload M hl0 dL_mends_153 7 rfl ?_
    refine x_sipush M dL_mends_155 rfl ?_
    refine x_icmp_ge (tgt := 250) M hx9 ⟨by decide, by decide⟩ dL_mends_158 (by decide) (fun hc => ?_) (fun hc => ?_)
    · have hf := iff_ hf (Int.not_lt.mpr hc)
      refine x_iconst M dL_mends_250 ?_
      refine x_istore M hl0 dL_mends_251 (by decide) [(9, iV 0), (0, .ref (G.1 10 0)), (3, .ref (G.1 34 0)), (4, .ref (G.1 35 0)), (5, .ref (G.1 36 0)), (6, iV x6), (7, iV x7), (8, iV x8)] rfl (fun ls hl11 => ?_)
      exact L_mends_b253_ok M hr LF x6 x7 x8 0 w hx6 hx7 hx8 ⟨by decide, by decide⟩ _ _ hS0 _ (lv_sub hl11 [1, 2, 3, 4, 5, 6, 7, 0] rfl) _ _ hf
    · have hf := ift hf (Int.not_le.mp hc)
      refine x_iload M hl0 dL_mends_161 7 rfl ?_
      refine x_iconst M dL_mends_163 ?_
      obtain ⟨g54, hf⟩ := gdt hf
      refine x_idiv M hx9 ⟨by decide, by decide⟩ ⟨g54, by decide⟩ dL_mends_164 ?_
      obtain ⟨r55, w56, hc57, hf⟩ := bdt hf
      refine x_callTi (As := [iV (x9 / 2)]) (rest := []) M hl0 hS0 (c_L_address l  (o_inr_div hx9 ⟨g54, by decide⟩) hc57) (va_cwS 1 M.2.2.2.2.1 gL_mends_L_address rfl rfl rfl (by decide +kernel) ⟨Nat.le_of_ble_eq_true rfl, Nat.le_of_ble_eq_true rfl⟩) (Nat.le_of_ble_eq_true rfl) rfl (Nat.le_of_ble_eq_true rfl) dL_mends_165 rfl ⟨Nat.zero_le _, Nat.zero_le _⟩ (fun H locs hi58 hS59 => ?_)
      refine x_istore M hl0 dL_mends_168 (by decide) [(10, iV r55), (0, .ref (G.1 10 0)), (3, .ref (G.1 34 0)), (4, .ref (G.1 35 0)), (5, .ref (G.1 36 0)), (6, iV x6), (7, iV x7), (8, iV x8), (9, iV x9)] rfl (fun ls hl60 => ?_)
      refine x_aload_n M hl60 dL_mends_170 2 rfl ?_
      refine x_aload M hl60 dL_mends_171 3 rfl ?_
      refine x_aload M hl60 dL_mends_173 4 rfl ?_
      refine x_iload M hl60 dL_mends_175 0 rfl ?_
      obtain ⟨r61, w62, hc63, hf⟩ := bdt hf
      refine x_callTl (As := [.ref (G.1 34 0), .ref (G.1 35 0), .ref (G.1 36 0), iV r55]) (rest := []) M hl60 hS59 (c_L_at l  hi58 hc63) (va_cwS 4 M.2.2.2.2.1 gL_mends_L_at rfl rfl rfl (by decide +kernel) ⟨Nat.le_of_ble_eq_true rfl, Nat.le_of_ble_eq_true rfl⟩) (Nat.le_of_ble_eq_true rfl) rfl (Nat.le_of_ble_eq_true rfl) dL_mends_177 rfl ⟨Nat.zero_le _, Nat.zero_le _⟩ (fun H locs hi64 hS65 => ?_)
      refine x_lstore M hl60 dL_mends_180 (by decide) [(11, lV r61), (10, iV r55), (0, .ref (G.1 10 0)), (3, .ref (G.1 34 0)), (4, .ref (G.1 35 0)), (5, .ref (G.1 36 0)), (6, iV x6), (7, iV x7), (8, iV x8), (9, iV x9)] rfl (fun ls hl66 => ?_)
      refine x_lload M hl66 dL_mends_182 0 rfl ?_
      refine x_lconst (z := 0) M dL_mends_184 rfl ?_
      refine x_lcmp M dL_mends_185 ?_
      refine x_if_ne (tgt := 194) M (o_inr _) dL_mends_186 (by decide) (fun hc => ?_) (fun hc => ?_)
      · have hf := iff_ hf hc
        refine x_lload M hl66 dL_mends_194 0 rfl ?_
        refine x_iload M hl66 dL_mends_196 9 rfl ?_
        refine x_iconst M dL_mends_198 ?_
        refine x_irem M hx9 ⟨by decide, by decide⟩ ⟨g54, by decide⟩ dL_mends_199 ?_
        obtain ⟨r67, w68, hc69, hf⟩ := bdt hf
        refine x_callTi (As := [lV r61, iV (x9 % 2)]) (rest := []) M hl66 hS65 (c_L_name l  hi64 (o_inr_rem ⟨by decide, by decide⟩ ⟨g54, by decide⟩) hc69) (va_cwS 2 M.2.2.2.2.1 gL_mends_L_name rfl rfl rfl (by decide +kernel) ⟨Nat.le_of_ble_eq_true rfl, Nat.le_of_ble_eq_true rfl⟩) (Nat.le_of_ble_eq_true rfl) rfl (Nat.le_of_ble_eq_true rfl) dL_mends_200 rfl ⟨Nat.zero_le _, Nat.zero_le _⟩ (fun H locs hi70 hS71 => ?_)
        exact L_mends_b203_ok M hr ih x6 x7 x8 x9 r55 r67 w68 hx6 hx7 hx8 hx9 hi58 hi70 _ _ hS71 _ (lv_sub hl66 [2, 3, 4, 5, 6, 7, 8, 9, 1] rfl) _ _ hf
      · have hf := ift hf (Decidable.of_not_not hc)
        refine x_bipush M dL_mends_189 rfl ?_
        refine x_goto (tgt := 203) M dL_mends_191 (by decide) ?_
        exact L_mends_b203_ok M hr ih x6 x7 x8 x9 r55 ((-9)) w62 hx6 hx7 hx8 hx9 hi58 ⟨by decide, by decide⟩ _ _ hS65 _ (lv_sub hl66 [2, 3, 4, 5, 6, 7, 8, 9, 1] rfl) _ _ hf

set_option maxHeartbeats 4000000 in
set_option maxRecDepth 100000 in
theorem L_mends_b97_ok (M : MC p s m args meth c cL_mends 14 RL wsL_mends G) (hr : meth.sig.returnType = (some .boolean)) : ∀ n : Nat, ∀ x6 : Int, ∀ x7 : Int, ∀ x8 : Int, ∀ x9 : Int, ∀ w : Wd, InR x6 → InR x7 → InR x8 → InR x9 → ∀ (H : Heap) (locs : List Loc), ST G s w H locs → ∀ ls : Array Slot, lv_has ls 14 [(0, .ref (G.1 10 0)), (2, .ref (G.1 31 0)), (3, .ref (G.1 34 0)), (4, .ref (G.1 35 0)), (5, .ref (G.1 36 0)), (6, iV x6), (7, iV x7), (8, iV x8), (9, iV x9)] → ∀ (r : Int) (w' : Wd), L_mends_b97 n x6 x7 x8 x9 w = some (r, w') → W p l e (rmL 5 149) s m args below meth c H locs 0 0 (MQ below (QiG G r w') args s 0 0 (GA G)) (F0 m 97 ls []) := by
  intro n
  induction n with
  | zero =>
    intro x6 x7 x8 x9 w hx6 hx7 hx8 hx9 H locs hS0 ls hl0 r w' hf
    cases hf
  | succ n ih =>
    intro x6 x7 x8 x9 w hx6 hx7 hx8 hx9 H locs hS0 ls hl0 r w' hf
    rw [L_mends_b97_s] at hf
    refine x_iload M hl0 dL_mends_97 8 rfl ?_
    refine x_bipush M dL_mends_99 rfl ?_
    refine x_icmp_ge (tgt := 150) M hx9 ⟨by decide, by decide⟩ dL_mends_101 (by decide) (fun hc => ?_) (fun hc => ?_)
    · have hf := iff_ hf (Int.not_lt.mpr hc)
      refine x_iconst M dL_mends_150 ?_
      refine x_istore M hl0 dL_mends_151 (by decide) [(9, iV 0), (0, .ref (G.1 10 0)), (2, .ref (G.1 31 0)), (3, .ref (G.1 34 0)), (4, .ref (G.1 35 0)), (5, .ref (G.1 36 0)), (6, iV x6), (7, iV x7), (8, iV x8)] rfl (fun ls hl10 => ?_)
      exact L_mends_b153_ok M hr LF x6 x7 x8 0 w hx6 hx7 hx8 ⟨by decide, by decide⟩ _ _ hS0 _ (lv_sub hl10 [1, 3, 4, 5, 6, 7, 8, 0] rfl) _ _ hf
    · have hf := ift hf (Int.not_le.mp hc)
      refine x_aload_n M hl0 dL_mends_104 1 rfl ?_
      refine x_iload M hl0 dL_mends_105 8 rfl ?_
      refine x_aload_n M hl0 dL_mends_107 1 rfl ?_
      refine x_iload M hl0 dL_mends_108 8 rfl ?_
      obtain ⟨g95, hf⟩ := gdt hf
      refine x_iald (c0 := 31) (t0 := 0) M hS0 (by decide) (hs_31 G _) rfl g95 (by decide) dL_mends_110 ?_
      refine x_if_lt (tgt := 139) M (hS0.inr _ _ _) dL_mends_111 (by decide) (fun hc => ?_) (fun hc => ?_)
      · have hf := ift hf hc
        refine x_aload_n M hl0 dL_mends_139 1 rfl ?_
        refine x_iload M hl0 dL_mends_140 8 rfl ?_
        refine x_iald (c0 := 31) (t0 := 0) M hS0 (by decide) (hs_31 G _) rfl g95 (by decide) dL_mends_142 ?_
        refine x_iast (c0 := 31) (t0 := 0) M hS0 (by decide) (hs_31 G _) rfl g95 (by decide) (hS0.inr _ _ _) dL_mends_143 (fun H locs hS96 => ?_)
        obtain ⟨g97, hf⟩ := gdt hf
        refine x_iinc M hl0 dL_mends_144 8 rfl (by decide) [(9, iV (x9 + 1)), (0, .ref (G.1 10 0)), (2, .ref (G.1 31 0)), (3, .ref (G.1 34 0)), (4, .ref (G.1 35 0)), (5, .ref (G.1 36 0)), (6, iV x6), (7, iV x7), (8, iV x8)] rfl (fun ls hl98 => ?_)
        refine x_goto (tgt := 97) M dL_mends_147 (by decide) ?_
        exact ih x6 x7 x8 (x9 + 1) (up w 31 0 x9.toNat (w 31 0 x9.toNat)) hx6 hx7 hx8 g97 _ _ hS96 _ (lv_sub hl98 [1, 2, 3, 4, 5, 6, 7, 8, 0] rfl) _ _ hf
      · have hf := iff_ hf hc
        refine x_aload_n M hl0 dL_mends_114 2 rfl ?_
        refine x_aload M hl0 dL_mends_115 3 rfl ?_
        refine x_aload M hl0 dL_mends_117 4 rfl ?_
        refine x_aload_n M hl0 dL_mends_119 1 rfl ?_
        refine x_iload M hl0 dL_mends_120 8 rfl ?_
        refine x_iald (c0 := 31) (t0 := 0) M hS0 (by decide) (hs_31 G _) rfl g95 (by decide) dL_mends_122 ?_
        obtain ⟨r99, w100, hc101, hf⟩ := bdt hf
        refine x_callTl (As := [.ref (G.1 34 0), .ref (G.1 35 0), .ref (G.1 36 0), iV (w 31 0 x9.toNat)]) (rest := [iV x9, .ref (G.1 31 0)]) M hl0 hS0 (c_L_at l  (hS0.inr _ _ _) hc101) (va_cwS 4 M.2.2.2.2.1 gL_mends_L_at rfl rfl rfl (by decide +kernel) ⟨Nat.le_of_ble_eq_true rfl, Nat.le_of_ble_eq_true rfl⟩) (Nat.le_of_ble_eq_true rfl) rfl (Nat.le_of_ble_eq_true rfl) dL_mends_123 rfl ⟨Nat.zero_le _, Nat.zero_le _⟩ (fun H locs hi102 hS103 => ?_)
        obtain ⟨r104, w105, hc106, hf⟩ := bdt hf
        refine x_callTi (As := [lV r99]) (rest := [iV x9, .ref (G.1 31 0)]) M hl0 hS103 (c_L_thing l  hi102 hc106) (va_cwS 1 M.2.2.2.2.1 gL_mends_L_thing rfl rfl rfl (by decide +kernel) ⟨Nat.le_of_ble_eq_true rfl, Nat.le_of_ble_eq_true rfl⟩) (Nat.le_of_ble_eq_true rfl) rfl (Nat.le_of_ble_eq_true rfl) dL_mends_126 rfl ⟨Nat.zero_le _, Nat.zero_le _⟩ (fun H locs hi107 hS108 => ?_)
        refine x_iload M hl0 dL_mends_129 5 rfl ?_
        refine x_icmp_ne (tgt := 139) M hi107 hx6 dL_mends_131 (by decide) (fun hc => ?_) (fun hc => ?_)
        · have hf := iff_ hf hc
          refine x_aload_n M hl0 dL_mends_139 1 rfl ?_
          refine x_iload M hl0 dL_mends_140 8 rfl ?_
          refine x_iald (c0 := 31) (t0 := 0) M hS108 (by decide) (hs_31 G _) rfl g95 (by decide) dL_mends_142 ?_
          refine x_iast (c0 := 31) (t0 := 0) M hS108 (by decide) (hs_31 G _) rfl g95 (by decide) (hS108.inr _ _ _) dL_mends_143 (fun H locs hS109 => ?_)
          obtain ⟨g110, hf⟩ := gdt hf
          refine x_iinc M hl0 dL_mends_144 8 rfl (by decide) [(9, iV (x9 + 1)), (0, .ref (G.1 10 0)), (2, .ref (G.1 31 0)), (3, .ref (G.1 34 0)), (4, .ref (G.1 35 0)), (5, .ref (G.1 36 0)), (6, iV x6), (7, iV x7), (8, iV x8)] rfl (fun ls hl111 => ?_)
          refine x_goto (tgt := 97) M dL_mends_147 (by decide) ?_
          exact ih x6 x7 x8 (x9 + 1) (up w105 31 0 x9.toNat (w105 31 0 x9.toNat)) hx6 hx7 hx8 g110 _ _ hS109 _ (lv_sub hl111 [1, 2, 3, 4, 5, 6, 7, 8, 0] rfl) _ _ hf
        · have hf := ift hf (Decidable.of_not_not hc)
          refine x_iload M hl0 dL_mends_134 6 rfl ?_
          refine x_goto (tgt := 143) M dL_mends_136 (by decide) ?_
          refine x_iast (c0 := 31) (t0 := 0) M hS108 (by decide) (hs_31 G _) rfl g95 (by decide) hx7 dL_mends_143 (fun H locs hS112 => ?_)
          obtain ⟨g113, hf⟩ := gdt hf
          refine x_iinc M hl0 dL_mends_144 8 rfl (by decide) [(9, iV (x9 + 1)), (0, .ref (G.1 10 0)), (2, .ref (G.1 31 0)), (3, .ref (G.1 34 0)), (4, .ref (G.1 35 0)), (5, .ref (G.1 36 0)), (6, iV x6), (7, iV x7), (8, iV x8)] rfl (fun ls hl114 => ?_)
          refine x_goto (tgt := 97) M dL_mends_147 (by decide) ?_
          exact ih x6 x7 x8 (x9 + 1) (up w105 31 0 x9.toNat x7) hx6 hx7 hx8 g113 _ _ hS112 _ (lv_sub hl114 [1, 2, 3, 4, 5, 6, 7, 8, 0] rfl) _ _ hf

set_option maxHeartbeats 4000000 in
set_option maxRecDepth 100000 in
theorem L_mends_b9_ok (M : MC p s m args meth c cL_mends 14 RL wsL_mends G) (hr : meth.sig.returnType = (some .boolean)) : ∀ n : Nat, ∀ x6 : Int, ∀ x7 : Int, ∀ x8 : Int, ∀ x9 : Int, ∀ w : Wd, InR x6 → InR x7 → InR x8 → InR x9 → ∀ (H : Heap) (locs : List Loc), ST G s w H locs → ∀ ls : Array Slot, lv_has ls 14 [(0, .ref (G.1 10 0)), (1, .ref (G.1 30 0)), (2, .ref (G.1 31 0)), (3, .ref (G.1 34 0)), (4, .ref (G.1 35 0)), (5, .ref (G.1 36 0)), (6, iV x6), (7, iV x7), (8, iV x8), (9, iV x9)] → ∀ (r : Int) (w' : Wd), L_mends_b9 n x6 x7 x8 x9 w = some (r, w') → W p l e (rmL 5 149) s m args below meth c H locs 0 0 (MQ below (QiG G r w') args s 0 0 (GA G)) (F0 m 9 ls []) := by
  intro n
  induction n with
  | zero =>
    intro x6 x7 x8 x9 w hx6 hx7 hx8 hx9 H locs hS0 ls hl0 r w' hf
    cases hf
  | succ n ih =>
    intro x6 x7 x8 x9 w hx6 hx7 hx8 hx9 H locs hS0 ls hl0 r w' hf
    rw [L_mends_b9_s] at hf
    refine x_iload M hl0 dL_mends_9 9 rfl ?_
    refine x_sipush M dL_mends_11 rfl ?_
    refine x_icmp_ge (tgt := 64) M hx9 ⟨by decide, by decide⟩ dL_mends_14 (by decide) (fun hc => ?_) (fun hc => ?_)
    · have hf := iff_ hf (Int.not_lt.mpr hc)
      refine x_aload_n M hl0 dL_mends_64 1 rfl ?_
      refine x_iconst M dL_mends_65 ?_
      refine x_iald (c0 := 30) (t0 := 0) M hS0 (by decide) (hs_30 G _) rfl ⟨by decide, by decide⟩ (by decide) dL_mends_66 ?_
      refine x_iconst M dL_mends_67 ?_
      refine x_icmp_eq (tgt := 77) M (hS0.inr _ _ _) ⟨by decide, by decide⟩ dL_mends_68 (by decide) (fun hc => ?_) (fun hc => ?_)
      · have hf := ift hf hc
        exact L_mends_b77_ok M hr x6 w hx6 _ _ hS0 _ (lv_sub hl0 [0, 6] rfl) _ _ hf
      · have hf := iff_ hf hc
        refine x_iload M hl0 dL_mends_71 8 rfl ?_
        refine x_iconst M dL_mends_73 ?_
        refine x_icmp_ge (tgt := 94) M hx8 ⟨by decide, by decide⟩ dL_mends_74 (by decide) (fun hc => ?_) (fun hc => ?_)
        · have hf := iff_ hf (Int.not_lt.mpr hc)
          refine x_iconst M dL_mends_94 ?_
          refine x_istore M hl0 dL_mends_95 (by decide) [(9, iV 0), (0, .ref (G.1 10 0)), (1, .ref (G.1 30 0)), (2, .ref (G.1 31 0)), (3, .ref (G.1 34 0)), (4, .ref (G.1 35 0)), (5, .ref (G.1 36 0)), (6, iV x6), (7, iV x7), (8, iV x8)] rfl (fun ls hl9 => ?_)
          exact L_mends_b97_ok M hr LF x6 x7 x8 0 w hx6 hx7 hx8 ⟨by decide, by decide⟩ _ _ hS0 _ (lv_sub hl9 [1, 3, 4, 5, 6, 7, 8, 9, 0] rfl) _ _ hf
        · have hf := ift hf (Int.not_le.mp hc)
          exact L_mends_b77_ok M hr x6 w hx6 _ _ hS0 _ (lv_sub hl0 [0, 6] rfl) _ _ hf
    · have hf := ift hf (Int.not_le.mp hc)
      refine x_aload_n M hl0 dL_mends_17 3 rfl ?_
      refine x_aload M hl0 dL_mends_18 4 rfl ?_
      refine x_aload M hl0 dL_mends_20 5 rfl ?_
      refine x_iload M hl0 dL_mends_22 9 rfl ?_
      obtain ⟨r115, w116, hc117, hf⟩ := bdt hf
      refine x_callTi (As := [iV x9]) (rest := [.ref (G.1 36 0), .ref (G.1 35 0), .ref (G.1 34 0)]) M hl0 hS0 (c_L_address l  hx9 hc117) (va_cwS 1 M.2.2.2.2.1 gL_mends_L_address rfl rfl rfl (by decide +kernel) ⟨Nat.le_of_ble_eq_true rfl, Nat.le_of_ble_eq_true rfl⟩) (Nat.le_of_ble_eq_true rfl) rfl (Nat.le_of_ble_eq_true rfl) dL_mends_24 rfl ⟨Nat.zero_le _, Nat.zero_le _⟩ (fun H locs hi118 hS119 => ?_)
      obtain ⟨r120, w121, hc122, hf⟩ := bdt hf
      refine x_callTl (As := [.ref (G.1 34 0), .ref (G.1 35 0), .ref (G.1 36 0), iV r115]) (rest := []) M hl0 hS119 (c_L_at l  hi118 hc122) (va_cwS 4 M.2.2.2.2.1 gL_mends_L_at rfl rfl rfl (by decide +kernel) ⟨Nat.le_of_ble_eq_true rfl, Nat.le_of_ble_eq_true rfl⟩) (Nat.le_of_ble_eq_true rfl) rfl (Nat.le_of_ble_eq_true rfl) dL_mends_27 rfl ⟨Nat.zero_le _, Nat.zero_le _⟩ (fun H locs hi123 hS124 => ?_)
      obtain ⟨r125, w126, hc127, hf⟩ := bdt hf
      refine x_callTi (As := [lV r120]) (rest := []) M hl0 hS124 (c_L_thing l  hi123 hc127) (va_cwS 1 M.2.2.2.2.1 gL_mends_L_thing rfl rfl rfl (by decide +kernel) ⟨Nat.le_of_ble_eq_true rfl, Nat.le_of_ble_eq_true rfl⟩) (Nat.le_of_ble_eq_true rfl) rfl (Nat.le_of_ble_eq_true rfl) dL_mends_30 rfl ⟨Nat.zero_le _, Nat.zero_le _⟩ (fun H locs hi128 hS129 => ?_)
      refine x_iload M hl0 dL_mends_33 6 rfl ?_
      refine x_icmp_ne (tgt := 58) M hi128 hx6 dL_mends_35 (by decide) (fun hc => ?_) (fun hc => ?_)
      · have hf := iff_ hf hc
        obtain ⟨g130, hf⟩ := gdt hf
        refine x_iinc M hl0 dL_mends_58 9 rfl (by decide) [(9, iV (x9 + 1)), (0, .ref (G.1 10 0)), (1, .ref (G.1 30 0)), (2, .ref (G.1 31 0)), (3, .ref (G.1 34 0)), (4, .ref (G.1 35 0)), (5, .ref (G.1 36 0)), (6, iV x6), (7, iV x7), (8, iV x8)] rfl (fun ls hl131 => ?_)
        refine x_goto (tgt := 9) M dL_mends_61 (by decide) ?_
        exact ih x6 x7 x8 (x9 + 1) w126 hx6 hx7 hx8 g130 _ _ hS129 _ (lv_sub hl131 [1, 2, 3, 4, 5, 6, 7, 8, 9, 0] rfl) _ _ hf
      · have hf := ift hf (Decidable.of_not_not hc)
        refine x_iload M hl0 dL_mends_38 8 rfl ?_
        refine x_if_ne (tgt := 51) M hx8 dL_mends_40 (by decide) (fun hc => ?_) (fun hc => ?_)
        · have hf := iff_ hf hc
          refine x_iload M hl0 dL_mends_51 7 rfl ?_
          refine x_istore M hl0 dL_mends_53 (by decide) [(7, iV x7), (0, .ref (G.1 10 0)), (1, .ref (G.1 30 0)), (2, .ref (G.1 31 0)), (3, .ref (G.1 34 0)), (4, .ref (G.1 35 0)), (5, .ref (G.1 36 0)), (6, iV x6), (8, iV x8), (9, iV x9)] rfl (fun ls hl132 => ?_)
          obtain ⟨g133, hf⟩ := gdt hf
          refine x_iinc M hl132 dL_mends_55 8 rfl (by decide) [(8, iV (x8 + 1)), (7, iV x7), (0, .ref (G.1 10 0)), (1, .ref (G.1 30 0)), (2, .ref (G.1 31 0)), (3, .ref (G.1 34 0)), (4, .ref (G.1 35 0)), (5, .ref (G.1 36 0)), (6, iV x6), (9, iV x9)] rfl (fun ls hl134 => ?_)
          obtain ⟨g135, hf⟩ := gdt hf
          refine x_iinc M hl134 dL_mends_58 9 rfl (by decide) [(9, iV (x9 + 1)), (8, iV (x8 + 1)), (7, iV x7), (0, .ref (G.1 10 0)), (1, .ref (G.1 30 0)), (2, .ref (G.1 31 0)), (3, .ref (G.1 34 0)), (4, .ref (G.1 35 0)), (5, .ref (G.1 36 0)), (6, iV x6)] rfl (fun ls hl136 => ?_)
          refine x_goto (tgt := 9) M dL_mends_61 (by decide) ?_
          exact ih x6 x7 (x8 + 1) (x9 + 1) w126 hx6 hx7 g133 g135 _ _ hS129 _ (lv_sub hl136 [3, 4, 5, 6, 7, 8, 9, 2, 1, 0] rfl) _ _ hf
        · have hf := ift hf (Decidable.of_not_not hc)
          refine x_iload M hl0 dL_mends_43 9 rfl ?_
          obtain ⟨r137, w138, hc139, hf⟩ := bdt hf
          refine x_callTi (As := [iV x9]) (rest := []) M hl0 hS129 (c_L_address l  hx9 hc139) (va_cwS 1 M.2.2.2.2.1 gL_mends_L_address rfl rfl rfl (by decide +kernel) ⟨Nat.le_of_ble_eq_true rfl, Nat.le_of_ble_eq_true rfl⟩) (Nat.le_of_ble_eq_true rfl) rfl (Nat.le_of_ble_eq_true rfl) dL_mends_45 rfl ⟨Nat.zero_le _, Nat.zero_le _⟩ (fun H locs hi140 hS141 => ?_)
          refine x_goto (tgt := 53) M dL_mends_48 (by decide) ?_
          refine x_istore M hl0 dL_mends_53 (by decide) [(7, iV r137), (0, .ref (G.1 10 0)), (1, .ref (G.1 30 0)), (2, .ref (G.1 31 0)), (3, .ref (G.1 34 0)), (4, .ref (G.1 35 0)), (5, .ref (G.1 36 0)), (6, iV x6), (8, iV x8), (9, iV x9)] rfl (fun ls hl142 => ?_)
          obtain ⟨g143, hf⟩ := gdt hf
          refine x_iinc M hl142 dL_mends_55 8 rfl (by decide) [(8, iV (x8 + 1)), (7, iV r137), (0, .ref (G.1 10 0)), (1, .ref (G.1 30 0)), (2, .ref (G.1 31 0)), (3, .ref (G.1 34 0)), (4, .ref (G.1 35 0)), (5, .ref (G.1 36 0)), (6, iV x6), (9, iV x9)] rfl (fun ls hl144 => ?_)
          obtain ⟨g145, hf⟩ := gdt hf
          refine x_iinc M hl144 dL_mends_58 9 rfl (by decide) [(9, iV (x9 + 1)), (8, iV (x8 + 1)), (7, iV r137), (0, .ref (G.1 10 0)), (1, .ref (G.1 30 0)), (2, .ref (G.1 31 0)), (3, .ref (G.1 34 0)), (4, .ref (G.1 35 0)), (5, .ref (G.1 36 0)), (6, iV x6)] rfl (fun ls hl146 => ?_)
          refine x_goto (tgt := 9) M dL_mends_61 (by decide) ?_
          exact ih x6 r137 (x8 + 1) (x9 + 1) w138 hx6 hi140 g143 g145 _ _ hS141 _ (lv_sub hl146 [3, 4, 5, 6, 7, 8, 9, 2, 1, 0] rfl) _ _ hf

set_option maxHeartbeats 4000000 in
set_option maxRecDepth 100000 in
theorem c_L_mends (l : Launch) {G : GG} {x6 : Int} (hx6 : InR x6) {w : Wd} {r : Int} {w' : Wd} (hf : L_mends x6 w = some (r, w')) : Met l yL_mends wsL_mends (rmL 5 149) (PcG G w [.ref (G.1 10 0), .ref (G.1 30 0), .ref (G.1 31 0), .ref (G.1 34 0), .ref (G.1 35 0), .ref (G.1 36 0), iV x6]) (QiG G r w') 0 0 (GA G) := by
  refine met_of (own := RL) (by decide) rfl (Nat.le_of_ble_eq_true rfl) rfl ?_
  intro p e s m args below meth c M hr ls hl0 hS0
  have hl0 : lv_has ls 14 [(0, .ref (G.1 10 0)), (1, .ref (G.1 30 0)), (2, .ref (G.1 31 0)), (3, .ref (G.1 34 0)), (4, .ref (G.1 35 0)), (5, .ref (G.1 36 0)), (6, iV x6)] := hl0
  unfold L_mends at hf
  refine x_iconst M dL_mends_0 ?_
  refine x_istore M hl0 dL_mends_1 (by decide) [(7, iV ((-1))), (0, .ref (G.1 10 0)), (1, .ref (G.1 30 0)), (2, .ref (G.1 31 0)), (3, .ref (G.1 34 0)), (4, .ref (G.1 35 0)), (5, .ref (G.1 36 0)), (6, iV x6)] rfl (fun ls hl1 => ?_)
  refine x_iconst M dL_mends_3 ?_
  refine x_istore M hl1 dL_mends_4 (by decide) [(8, iV 0), (7, iV ((-1))), (0, .ref (G.1 10 0)), (1, .ref (G.1 30 0)), (2, .ref (G.1 31 0)), (3, .ref (G.1 34 0)), (4, .ref (G.1 35 0)), (5, .ref (G.1 36 0)), (6, iV x6)] rfl (fun ls hl2 => ?_)
  refine x_iconst M dL_mends_6 ?_
  refine x_istore M hl2 dL_mends_7 (by decide) [(9, iV 0), (8, iV 0), (7, iV ((-1))), (0, .ref (G.1 10 0)), (1, .ref (G.1 30 0)), (2, .ref (G.1 31 0)), (3, .ref (G.1 34 0)), (4, .ref (G.1 35 0)), (5, .ref (G.1 36 0)), (6, iV x6)] rfl (fun ls hl3 => ?_)
  exact L_mends_b9_ok M hr LF x6 ((-1)) 0 0 w hx6 ⟨by decide, by decide⟩ ⟨by decide, by decide⟩ ⟨by decide, by decide⟩ _ _ hS0 _ (lv_sub hl3 [3, 4, 5, 6, 7, 8, 9, 2, 1, 0] rfl) _ _ hf

/-! L_loses -/
set_option maxHeartbeats 4000000 in
set_option maxRecDepth 100000 in
theorem L_loses_b31_ok (M : MC p s m args meth c cL_loses 11 RL wsL_loses G) (hr : meth.sig.returnType = (some .boolean)) {K7 : Int → Int → Int → Wd → Option (Int × Wd)} (hK7 : ∀ x6 : Int, ∀ x7 : Int, ∀ x8 : Int, ∀ w : Wd, InR x6 → InR x7 → InR x8 → ∀ (H : Heap) (locs : List Loc), ST G s w H locs → ∀ ls : Array Slot, lv_has ls 11 [(0, .ref (G.1 10 0)), (1, .ref (G.1 30 0)), (2, .ref (G.1 32 0)), (3, .ref (G.1 34 0)), (4, .ref (G.1 35 0)), (5, .ref (G.1 36 0)), (6, iV x6), (7, iV x7), (8, iV x8)] → ∀ (r : Int) (w' : Wd), K7 x6 x7 x8 w = some (r, w') → W p l e (rmL 5 149) s m args below meth c H locs 0 0 (MQ below (QiG G r w') args s 0 0 (GA G)) (F0 m 7 ls [])) : ∀ x6 : Int, ∀ x7 : Int, ∀ x8 : Int, ∀ s0 : Int, ∀ w : Wd, InR x6 → InR x7 → InR x8 → InL s0 → ∀ (H : Heap) (locs : List Loc), ST G s w H locs → ∀ ls : Array Slot, lv_has ls 11 [(0, .ref (G.1 10 0)), (1, .ref (G.1 30 0)), (2, .ref (G.1 32 0)), (3, .ref (G.1 34 0)), (4, .ref (G.1 35 0)), (5, .ref (G.1 36 0)), (6, iV x6), (7, iV x7), (8, iV x8)] → ∀ (r : Int) (w' : Wd), L_loses_b31 K7 x6 x7 x8 s0 w = some (r, w') → W p l e (rmL 5 149) s m args below meth c H locs 0 0 (MQ below (QiG G r w') args s 0 0 (GA G)) (F0 m 31 ls [lV s0]) := by
  intro x6 x7 x8 s0 w hx6 hx7 hx8 hs0 H locs hS0 ls hl0 r w' hf
  unfold L_loses_b31 at hf
  refine x_lstore M hl0 dL_loses_31 (by decide) [(9, lV s0), (0, .ref (G.1 10 0)), (1, .ref (G.1 30 0)), (2, .ref (G.1 32 0)), (3, .ref (G.1 34 0)), (4, .ref (G.1 35 0)), (5, .ref (G.1 36 0)), (6, iV x6), (7, iV x7), (8, iV x8)] rfl (fun ls hl36 => ?_)
  refine x_aload_n M hl36 dL_loses_33 2 rfl ?_
  refine x_iconst M dL_loses_34 ?_
  refine x_iald (c0 := 30) (t0 := 0) M hS0 (by decide) (hs_30 G _) rfl ⟨by decide, by decide⟩ (by decide) dL_loses_35 ?_
  refine x_iconst M dL_loses_36 ?_
  refine x_icmp_ne (tgt := 74) M (hS0.inr _ _ _) ⟨by decide, by decide⟩ dL_loses_37 (by decide) (fun hc => ?_) (fun hc => ?_)
  · have hf := iff_ hf hc
    refine x_iload M hl36 dL_loses_74 8 rfl ?_
    refine x_istore M hl36 dL_loses_76 (by decide) [(7, iV x7), (9, lV s0), (0, .ref (G.1 10 0)), (1, .ref (G.1 30 0)), (2, .ref (G.1 32 0)), (3, .ref (G.1 34 0)), (4, .ref (G.1 35 0)), (5, .ref (G.1 36 0)), (6, iV x6), (8, iV x8)] rfl (fun ls hl37 => ?_)
    obtain ⟨g38, hf⟩ := gdt hf
    refine x_iinc M hl37 dL_loses_78 9 rfl (by decide) [(8, iV (x8 + (-1))), (7, iV x7), (9, lV s0), (0, .ref (G.1 10 0)), (1, .ref (G.1 30 0)), (2, .ref (G.1 32 0)), (3, .ref (G.1 34 0)), (4, .ref (G.1 35 0)), (5, .ref (G.1 36 0)), (6, iV x6)] rfl (fun ls hl39 => ?_)
    refine x_goto (tgt := 7) M dL_loses_81 (by decide) ?_
    exact hK7 x6 x7 (x8 + (-1)) w hx6 hx7 g38 _ _ hS0 _ (lv_sub hl39 [3, 4, 5, 6, 7, 8, 9, 1, 0] rfl) _ _ hf
  · have hf := ift hf (Decidable.of_not_not hc)
    refine x_lload M hl36 dL_loses_40 0 rfl ?_
    obtain ⟨r40, w41, hc42, hf⟩ := bdt hf
    refine x_callTi (As := [lV s0]) (rest := []) M hl36 hS0 (c_L_thing l  hs0 hc42) (va_cwS 1 M.2.2.2.2.1 gL_loses_L_thing rfl rfl rfl (by decide +kernel) ⟨Nat.le_of_ble_eq_true rfl, Nat.le_of_ble_eq_true rfl⟩) (Nat.le_of_ble_eq_true rfl) rfl (Nat.le_of_ble_eq_true rfl) dL_loses_42 rfl ⟨Nat.zero_le _, Nat.zero_le _⟩ (fun H locs hi43 hS44 => ?_)
    refine x_iload M hl36 dL_loses_45 7 rfl ?_
    refine x_icmp_ne (tgt := 74) M hi43 hx6 dL_loses_47 (by decide) (fun hc => ?_) (fun hc => ?_)
    · have hf := iff_ hf hc
      refine x_iload M hl36 dL_loses_74 8 rfl ?_
      refine x_istore M hl36 dL_loses_76 (by decide) [(7, iV x7), (9, lV s0), (0, .ref (G.1 10 0)), (1, .ref (G.1 30 0)), (2, .ref (G.1 32 0)), (3, .ref (G.1 34 0)), (4, .ref (G.1 35 0)), (5, .ref (G.1 36 0)), (6, iV x6), (8, iV x8)] rfl (fun ls hl45 => ?_)
      obtain ⟨g46, hf⟩ := gdt hf
      refine x_iinc M hl45 dL_loses_78 9 rfl (by decide) [(8, iV (x8 + (-1))), (7, iV x7), (9, lV s0), (0, .ref (G.1 10 0)), (1, .ref (G.1 30 0)), (2, .ref (G.1 32 0)), (3, .ref (G.1 34 0)), (4, .ref (G.1 35 0)), (5, .ref (G.1 36 0)), (6, iV x6)] rfl (fun ls hl47 => ?_)
      refine x_goto (tgt := 7) M dL_loses_81 (by decide) ?_
      exact hK7 x6 x7 (x8 + (-1)) w41 hx6 hx7 g46 _ _ hS44 _ (lv_sub hl47 [3, 4, 5, 6, 7, 8, 9, 1, 0] rfl) _ _ hf
    · have hf := ift hf (Decidable.of_not_not hc)
      refine x_lload M hl36 dL_loses_50 0 rfl ?_
      refine x_iconst M dL_loses_52 ?_
      obtain ⟨r48, w49, hc50, hf⟩ := bdt hf
      refine x_callTi (As := [lV s0, iV 2]) (rest := []) M hl36 hS44 (c_L_name l  hs0 ⟨by decide, by decide⟩ hc50) (va_cwS 2 M.2.2.2.2.1 gL_loses_L_name rfl rfl rfl (by decide +kernel) ⟨Nat.le_of_ble_eq_true rfl, Nat.le_of_ble_eq_true rfl⟩) (Nat.le_of_ble_eq_true rfl) rfl (Nat.le_of_ble_eq_true rfl) dL_loses_53 rfl ⟨Nat.zero_le _, Nat.zero_le _⟩ (fun H locs hi51 hS52 => ?_)
      refine x_if_lt (tgt := 74) M hi51 dL_loses_56 (by decide) (fun hc => ?_) (fun hc => ?_)
      · have hf := ift hf hc
        refine x_iload M hl36 dL_loses_74 8 rfl ?_
        refine x_istore M hl36 dL_loses_76 (by decide) [(7, iV x7), (9, lV s0), (0, .ref (G.1 10 0)), (1, .ref (G.1 30 0)), (2, .ref (G.1 32 0)), (3, .ref (G.1 34 0)), (4, .ref (G.1 35 0)), (5, .ref (G.1 36 0)), (6, iV x6), (8, iV x8)] rfl (fun ls hl53 => ?_)
        obtain ⟨g54, hf⟩ := gdt hf
        refine x_iinc M hl53 dL_loses_78 9 rfl (by decide) [(8, iV (x8 + (-1))), (7, iV x7), (9, lV s0), (0, .ref (G.1 10 0)), (1, .ref (G.1 30 0)), (2, .ref (G.1 32 0)), (3, .ref (G.1 34 0)), (4, .ref (G.1 35 0)), (5, .ref (G.1 36 0)), (6, iV x6)] rfl (fun ls hl55 => ?_)
        refine x_goto (tgt := 7) M dL_loses_81 (by decide) ?_
        exact hK7 x6 x7 (x8 + (-1)) w49 hx6 hx7 g54 _ _ hS52 _ (lv_sub hl55 [3, 4, 5, 6, 7, 8, 9, 1, 0] rfl) _ _ hf
      · have hf := iff_ hf hc
        refine x_bipush M dL_loses_59 rfl ?_
        refine x_bipush M dL_loses_61 rfl ?_
        refine x_aload_n M hl36 dL_loses_63 2 rfl ?_
        refine x_iconst M dL_loses_64 ?_
        refine x_iald (c0 := 30) (t0 := 0) M hS52 (by decide) (hs_30 G _) rfl ⟨by decide, by decide⟩ (by decide) dL_loses_65 ?_
        obtain ⟨g56, hf⟩ := gdt hf
        refine x_imul M dL_loses_66 ?_
        obtain ⟨g57, hf⟩ := gdt hf
        refine x_isub M dL_loses_67 ?_
        refine x_iload M hl36 dL_loses_68 9 rfl ?_
        obtain ⟨g58, hf⟩ := gdt hf
        refine x_iadd M dL_loses_70 ?_
        refine x_goto (tgt := 76) M dL_loses_71 (by decide) ?_
        refine x_istore M hl36 dL_loses_76 (by decide) [(7, iV ((100 - (100 * (w49 30 0 3))) + x8)), (9, lV s0), (0, .ref (G.1 10 0)), (1, .ref (G.1 30 0)), (2, .ref (G.1 32 0)), (3, .ref (G.1 34 0)), (4, .ref (G.1 35 0)), (5, .ref (G.1 36 0)), (6, iV x6), (8, iV x8)] rfl (fun ls hl59 => ?_)
        obtain ⟨g60, hf⟩ := gdt hf
        refine x_iinc M hl59 dL_loses_78 9 rfl (by decide) [(8, iV (x8 + (-1))), (7, iV ((100 - (100 * (w49 30 0 3))) + x8)), (9, lV s0), (0, .ref (G.1 10 0)), (1, .ref (G.1 30 0)), (2, .ref (G.1 32 0)), (3, .ref (G.1 34 0)), (4, .ref (G.1 35 0)), (5, .ref (G.1 36 0)), (6, iV x6)] rfl (fun ls hl61 => ?_)
        refine x_goto (tgt := 7) M dL_loses_81 (by decide) ?_
        exact hK7 x6 ((100 - (100 * (w49 30 0 3))) + x8) (x8 + (-1)) w49 hx6 g58 g60 _ _ hS52 _ (lv_sub hl61 [3, 4, 5, 6, 7, 8, 9, 1, 0] rfl) _ _ hf

set_option maxHeartbeats 4000000 in
set_option maxRecDepth 100000 in
theorem L_loses_b7_ok (M : MC p s m args meth c cL_loses 11 RL wsL_loses G) (hr : meth.sig.returnType = (some .boolean)) : ∀ n : Nat, ∀ x6 : Int, ∀ x7 : Int, ∀ x8 : Int, ∀ w : Wd, InR x6 → InR x7 → InR x8 → ∀ (H : Heap) (locs : List Loc), ST G s w H locs → ∀ ls : Array Slot, lv_has ls 11 [(0, .ref (G.1 10 0)), (1, .ref (G.1 30 0)), (2, .ref (G.1 32 0)), (3, .ref (G.1 34 0)), (4, .ref (G.1 35 0)), (5, .ref (G.1 36 0)), (6, iV x6), (7, iV x7), (8, iV x8)] → ∀ (r : Int) (w' : Wd), L_loses_b7 n x6 x7 x8 w = some (r, w') → W p l e (rmL 5 149) s m args below meth c H locs 0 0 (MQ below (QiG G r w') args s 0 0 (GA G)) (F0 m 7 ls []) := by
  intro n
  induction n with
  | zero =>
    intro x6 x7 x8 w hx6 hx7 hx8 H locs hS0 ls hl0 r w' hf
    cases hf
  | succ n ih =>
    intro x6 x7 x8 w hx6 hx7 hx8 H locs hS0 ls hl0 r w' hf
    rw [L_loses_b7_s] at hf
    refine x_iload M hl0 dL_loses_7 8 rfl ?_
    refine x_if_lt (tgt := 84) M hx8 dL_loses_9 (by decide) (fun hc => ?_) (fun hc => ?_)
    · have hf := ift hf hc
      refine x_iload M hl0 dL_loses_84 7 rfl ?_
      refine x_if_ge (tgt := 106) M hx7 dL_loses_86 (by decide) (fun hc => ?_) (fun hc => ?_)
      · have hf := iff_ hf (Int.not_lt.mpr hc)
        refine x_bipush M dL_loses_106 rfl ?_
        refine x_aload_n M hl0 dL_loses_108 1 rfl ?_
        refine x_iconst M dL_loses_109 ?_
        refine x_aload_n M hl0 dL_loses_110 1 rfl ?_
        refine x_iconst M dL_loses_111 ?_
        refine x_iald (c0 := 30) (t0 := 0) M hS0 (by decide) (hs_30 G _) rfl ⟨by decide, by decide⟩ (by decide) dL_loses_112 ?_
        obtain ⟨g3, hf⟩ := gdt hf
        refine x_iadd M dL_loses_113 ?_
        obtain ⟨g4, hf⟩ := gdt hf
        refine x_iald (c0 := 30) (t0 := 0) M hS0 (by decide) (hs_30 G _) rfl g4 (by decide) dL_loses_114 ?_
        obtain ⟨g5, hf⟩ := gdt hf
        refine x_isub M dL_loses_115 ?_
        refine x_aload_n M hl0 dL_loses_116 1 rfl ?_
        refine x_aload_n M hl0 dL_loses_117 2 rfl ?_
        refine x_aload_n M hl0 dL_loses_118 3 rfl ?_
        refine x_aload M hl0 dL_loses_119 4 rfl ?_
        obtain ⟨r6, w7, hc8, hf⟩ := bdt hf
        refine x_callTi (As := [.ref (G.1 30 0), .ref (G.1 32 0), .ref (G.1 34 0), .ref (G.1 35 0)]) (rest := [iV (64 - (w 30 0 (4 + (w 30 0 3)).toNat))]) M hl0 hS0 (c_L_kept l   hc8) (va_cwS 4 M.2.2.2.2.1 gL_loses_L_kept rfl rfl rfl (by decide +kernel) ⟨Nat.le_of_ble_eq_true rfl, Nat.le_of_ble_eq_true rfl⟩) (Nat.le_of_ble_eq_true rfl) rfl (Nat.le_of_ble_eq_true rfl) dL_loses_121 rfl ⟨Nat.zero_le _, Nat.zero_le _⟩ (fun H locs hi9 hS10 => ?_)
        refine x_aload_n M hl0 dL_loses_124 2 rfl ?_
        refine x_iload M hl0 dL_loses_125 6 rfl ?_
        obtain ⟨g11, hf⟩ := gdt hf
        refine x_iald (c0 := 32) (t0 := 0) M hS10 (by decide) (hs_32 G _) rfl g11 (by decide) dL_loses_127 ?_
        obtain ⟨g12, hf⟩ := gdt hf
        refine x_iadd M dL_loses_128 ?_
        refine x_icmp_ge (tgt := 149) M g5 g12 dL_loses_129 (by decide) (fun hc => ?_) (fun hc => ?_)
        · have hf := iff_ hf (Int.not_lt.mpr hc)
          refine x_aload_n M hl0 dL_loses_149 3 rfl ?_
          refine x_aload M hl0 dL_loses_150 4 rfl ?_
          refine x_aload M hl0 dL_loses_152 5 rfl ?_
          refine x_iload M hl0 dL_loses_154 7 rfl ?_
          refine x_iconst M dL_loses_156 ?_
          refine x_bipush M dL_loses_157 rfl ?_
          obtain ⟨r13, w14, hc15, hf⟩ := bdt hf
          refine x_callTv (As := [.ref (G.1 34 0), .ref (G.1 35 0), .ref (G.1 36 0), iV x7, iV 2, iV ((-9))]) (rest := []) M hl0 hS10 (c_L_renames l  hx7 ⟨by decide, by decide⟩ ⟨by decide, by decide⟩ hc15) (va_cwS 6 M.2.2.2.2.1 gL_loses_L_renames rfl rfl rfl (by decide +kernel) ⟨Nat.le_of_ble_eq_true rfl, Nat.le_of_ble_eq_true rfl⟩) (Nat.le_of_ble_eq_true rfl) rfl (Nat.le_of_ble_eq_true rfl) dL_loses_159 rfl ⟨Nat.zero_le _, Nat.zero_le _⟩ (fun H locs hS17 => ?_)
          refine x_aload_n M hl0 dL_loses_162 1 rfl ?_
          refine x_bipush M dL_loses_163 rfl ?_
          refine x_dup2 M dL_loses_165 rfl rfl ?_
          refine x_iald (c0 := 30) (t0 := 0) M hS17 (by decide) (hs_30 G _) rfl ⟨by decide, by decide⟩ (by decide) dL_loses_166 ?_
          refine x_iconst M dL_loses_167 ?_
          obtain ⟨g18, hf⟩ := gdt hf
          refine x_iadd M dL_loses_168 ?_
          refine x_iast (c0 := 30) (t0 := 0) M hS17 (by decide) (hs_30 G _) rfl ⟨by decide, by decide⟩ (by decide) g18 dL_loses_169 (fun H locs hS19 => ?_)
          refine x_aload_n M hl0 dL_loses_170 0 rfl ?_
          refine x_iload M hl0 dL_loses_171 6 rfl ?_
          obtain ⟨r20, w21, hc22, hf⟩ := bdt hf
          refine x_callVi (c0 := 10) (t0 := 0) (As := [iV x6]) (rest := []) M hl0 hS19 (c_X7_lose l  hx6 hc22) (cwV 1 M.2.2.2.2.1 gL_loses_X7_lose rfl rfl rfl (by decide +kernel) ⟨Nat.le_of_ble_eq_true rfl, Nat.le_of_ble_eq_true rfl⟩) (by decide) (sE_10 G _ _) rfl rfl (Nat.le_of_ble_eq_true rfl) dL_loses_173 rfl ⟨Nat.zero_le _, Nat.zero_le _⟩ (fun H locs hi23 hS24 => ?_)
          refine x_iload M hl0 dL_loses_176 7 rfl ?_
          refine x_icmp_ne (tgt := 185) M hi23 hx7 dL_loses_178 (by decide) (fun hc => ?_) (fun hc => ?_)
          · have hf := iff_ hf hc
            refine x_iconst M dL_loses_185 ?_
            exact x_zret M hr hf hS24 (Or.inl rfl) dL_loses_186
          · have hf := ift hf (Decidable.of_not_not hc)
            refine x_iconst M dL_loses_181 ?_
            refine x_goto (tgt := 186) M dL_loses_182 (by decide) ?_
            exact x_zret M hr hf hS24 (Or.inr rfl) dL_loses_186
        · have hf := ift hf (Int.not_le.mp hc)
          refine x_aload_n M hl0 dL_loses_132 0 rfl ?_
          refine x_iload M hl0 dL_loses_133 6 rfl ?_
          obtain ⟨r25, w26, hc27, hf⟩ := bdt hf
          refine x_callVi (c0 := 10) (t0 := 0) (As := [iV x6]) (rest := []) M hl0 hS10 (c_X7_lose l  hx6 hc27) (cwV 1 M.2.2.2.2.1 gL_loses_X7_lose rfl rfl rfl (by decide +kernel) ⟨Nat.le_of_ble_eq_true rfl, Nat.le_of_ble_eq_true rfl⟩) (by decide) (sE_10 G _ _) rfl rfl (Nat.le_of_ble_eq_true rfl) dL_loses_135 rfl ⟨Nat.zero_le _, Nat.zero_le _⟩ (fun H locs hi28 hS29 => ?_)
          refine x_bipush M dL_loses_138 rfl ?_
          refine x_icmp_ne (tgt := 147) M hi28 ⟨by decide, by decide⟩ dL_loses_140 (by decide) (fun hc => ?_) (fun hc => ?_)
          · have hf := iff_ hf hc
            refine x_iconst M dL_loses_147 ?_
            exact x_zret M hr hf hS29 (Or.inl rfl) dL_loses_148
          · have hf := ift hf (Decidable.of_not_not hc)
            refine x_iconst M dL_loses_143 ?_
            refine x_goto (tgt := 148) M dL_loses_144 (by decide) ?_
            exact x_zret M hr hf hS29 (Or.inr rfl) dL_loses_148
      · have hf := ift hf (Int.not_le.mp hc)
        refine x_aload_n M hl0 dL_loses_89 0 rfl ?_
        refine x_iload M hl0 dL_loses_90 6 rfl ?_
        obtain ⟨r30, w31, hc32, hf⟩ := bdt hf
        refine x_callVi (c0 := 10) (t0 := 0) (As := [iV x6]) (rest := []) M hl0 hS0 (c_X7_lose l  hx6 hc32) (cwV 1 M.2.2.2.2.1 gL_loses_X7_lose rfl rfl rfl (by decide +kernel) ⟨Nat.le_of_ble_eq_true rfl, Nat.le_of_ble_eq_true rfl⟩) (by decide) (sE_10 G _ _) rfl rfl (Nat.le_of_ble_eq_true rfl) dL_loses_92 rfl ⟨Nat.zero_le _, Nat.zero_le _⟩ (fun H locs hi33 hS34 => ?_)
        refine x_bipush M dL_loses_95 rfl ?_
        refine x_icmp_ne (tgt := 104) M hi33 ⟨by decide, by decide⟩ dL_loses_97 (by decide) (fun hc => ?_) (fun hc => ?_)
        · have hf := iff_ hf hc
          refine x_iconst M dL_loses_104 ?_
          exact x_zret M hr hf hS34 (Or.inl rfl) dL_loses_105
        · have hf := ift hf (Decidable.of_not_not hc)
          refine x_iconst M dL_loses_100 ?_
          refine x_goto (tgt := 105) M dL_loses_101 (by decide) ?_
          exact x_zret M hr hf hS34 (Or.inr rfl) dL_loses_105
    · have hf := iff_ hf hc
      refine x_aload_n M hl0 dL_loses_12 1 rfl ?_
      refine x_iconst M dL_loses_13 ?_
      refine x_iald (c0 := 30) (t0 := 0) M hS0 (by decide) (hs_30 G _) rfl ⟨by decide, by decide⟩ (by decide) dL_loses_14 ?_
      refine x_iconst M dL_loses_15 ?_
      refine x_icmp_ne (tgt := 26) M (hS0.inr _ _ _) ⟨by decide, by decide⟩ dL_loses_16 (by decide) (fun hc => ?_) (fun hc => ?_)
      · have hf := iff_ hf hc
        refine x_aload M hl0 dL_loses_26 4 rfl ?_
        refine x_iload M hl0 dL_loses_28 8 rfl ?_
        obtain ⟨g35, hf⟩ := gdt hf
        refine x_lald (c0 := 35) (t0 := 0) M hS0 (by decide) (hs_35 G _) rfl g35 (by decide) dL_loses_30 ?_
        exact L_loses_b31_ok M hr ih x6 x7 x8 (w 35 0 x8.toNat) w hx6 hx7 hx8 (hS0.inl _ _ _) _ _ hS0 _ (lv_sub hl0 [0, 1, 2, 3, 4, 5, 6, 7, 8] rfl) _ _ hf
      · have hf := ift hf (Decidable.of_not_not hc)
        refine x_aload_n M hl0 dL_loses_19 3 rfl ?_
        refine x_iload M hl0 dL_loses_20 8 rfl ?_
        obtain ⟨g62, hf⟩ := gdt hf
        refine x_lald (c0 := 34) (t0 := 0) M hS0 (by decide) (hs_34 G _) rfl g62 (by decide) dL_loses_22 ?_
        refine x_goto (tgt := 31) M dL_loses_23 (by decide) ?_
        exact L_loses_b31_ok M hr ih x6 x7 x8 (w 34 0 x8.toNat) w hx6 hx7 hx8 (hS0.inl _ _ _) _ _ hS0 _ (lv_sub hl0 [0, 1, 2, 3, 4, 5, 6, 7, 8] rfl) _ _ hf

set_option maxHeartbeats 4000000 in
set_option maxRecDepth 100000 in
theorem c_L_loses (l : Launch) {G : GG} {x6 : Int} (hx6 : InR x6) {w : Wd} {r : Int} {w' : Wd} (hf : L_loses x6 w = some (r, w')) : Met l yL_loses wsL_loses (rmL 5 149) (PcG G w [.ref (G.1 10 0), .ref (G.1 30 0), .ref (G.1 32 0), .ref (G.1 34 0), .ref (G.1 35 0), .ref (G.1 36 0), iV x6]) (QiG G r w') 0 0 (GA G) := by
  refine met_of (own := RL) (by decide) rfl (Nat.le_of_ble_eq_true rfl) rfl ?_
  intro p e s m args below meth c M hr ls hl0 hS0
  have hl0 : lv_has ls 11 [(0, .ref (G.1 10 0)), (1, .ref (G.1 30 0)), (2, .ref (G.1 32 0)), (3, .ref (G.1 34 0)), (4, .ref (G.1 35 0)), (5, .ref (G.1 36 0)), (6, iV x6)] := hl0
  unfold L_loses at hf
  refine x_iconst M dL_loses_0 ?_
  refine x_istore M hl0 dL_loses_1 (by decide) [(7, iV ((-1))), (0, .ref (G.1 10 0)), (1, .ref (G.1 30 0)), (2, .ref (G.1 32 0)), (3, .ref (G.1 34 0)), (4, .ref (G.1 35 0)), (5, .ref (G.1 36 0)), (6, iV x6)] rfl (fun ls hl1 => ?_)
  refine x_bipush M dL_loses_3 rfl ?_
  refine x_istore M hl1 dL_loses_5 (by decide) [(8, iV 63), (7, iV ((-1))), (0, .ref (G.1 10 0)), (1, .ref (G.1 30 0)), (2, .ref (G.1 32 0)), (3, .ref (G.1 34 0)), (4, .ref (G.1 35 0)), (5, .ref (G.1 36 0)), (6, iV x6)] rfl (fun ls hl2 => ?_)
  exact L_loses_b7_ok M hr LF x6 ((-1)) 63 w hx6 ⟨by decide, by decide⟩ ⟨by decide, by decide⟩ _ _ hS0 _ (lv_sub hl2 [2, 3, 4, 5, 6, 7, 8, 1, 0] rfl) _ _ hf

end
