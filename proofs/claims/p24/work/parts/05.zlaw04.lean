section
variable {p : Program} {l : Launch} {e : Env} {s : State} {m : MethodId} {args : Array Value} {below : List Frame} {meth : Method} {c : Code} {G : GG}
/-! L_acts -/
theorem kcL_acts_91 : Cond.constant RL 91 (10000000) ∈ wsL_acts := by decide +kernel
set_option maxHeartbeats 4000000 in
set_option maxRecDepth 100000 in
theorem L_acts_b352_ok (M : MC p s m args meth c cL_acts 13 RL wsL_acts G) (hr : meth.sig.returnType = (some .boolean)) : ∀ x10 : Int, ∀ s0 : Int, ∀ w : Wd, InR x10 → InR s0 → ∀ (H : Heap) (locs : List Loc), ST G s w H locs → ∀ ls : Array Slot, lv_has ls 13 [(0, .ref (G.1 10 0)), (1, .ref (G.1 30 0)), (2, .ref (G.1 31 0)), (3, .ref (G.1 32 0)), (5, .ref (G.1 34 0)), (6, .ref (G.1 35 0)), (7, .ref (G.1 36 0)), (10, iV x10)] → ∀ (r : Int) (w' : Wd), L_acts_b352 x10 s0 w = some (r, w') → W p l e (rmL 7 221) s m args below meth c H locs 0 0 (MQ below (QiG G r w') args s 0 0 (GA G)) (F0 m 352 ls [iV s0]) := by
  intro x10 s0 w hx10 hs0 H locs hS0 ls hl0 r w' hf
  unfold L_acts_b352 at hf
  refine x_istore M hl0 dL_acts_352 (by decide) [(11, iV s0), (0, .ref (G.1 10 0)), (1, .ref (G.1 30 0)), (2, .ref (G.1 31 0)), (3, .ref (G.1 32 0)), (5, .ref (G.1 34 0)), (6, .ref (G.1 35 0)), (7, .ref (G.1 36 0)), (10, iV x10)] rfl (fun ls hl14 => ?_)
  refine x_aload_n M hl14 dL_acts_354 2 rfl ?_
  refine x_iconst M dL_acts_355 ?_
  refine x_iald (c0 := 30) (t0 := 0) M hS0 (by decide) (hs_30 G _) rfl ⟨by decide, by decide⟩ (by decide) dL_acts_356 ?_
  refine x_if_ne (tgt := 384) M (hS0.inr _ _ _) dL_acts_357 (by decide) (fun hc => ?_) (fun hc => ?_)
  · have hf := iff_ hf hc
    refine x_iload M hl14 dL_acts_384 8 rfl ?_
    refine x_bipush M dL_acts_386 rfl ?_
    refine x_icmp_ge (tgt := 408) M hx10 ⟨by decide, by decide⟩ dL_acts_388 (by decide) (fun hc => ?_) (fun hc => ?_)
    · have hf := iff_ hf (Int.not_lt.mpr hc)
      refine x_aload_n M hl14 dL_acts_408 1 rfl ?_
      refine x_aload_n M hl14 dL_acts_409 2 rfl ?_
      refine x_aload_n M hl14 dL_acts_410 3 rfl ?_
      refine x_aload M hl14 dL_acts_411 5 rfl ?_
      refine x_aload M hl14 dL_acts_413 6 rfl ?_
      refine x_aload M hl14 dL_acts_415 7 rfl ?_
      refine x_iload M hl14 dL_acts_417 0 rfl ?_
      obtain ⟨r15, w16, hc17, hf⟩ := bdt hf
      refine x_callTi (As := [.ref (G.1 10 0), .ref (G.1 30 0), .ref (G.1 31 0), .ref (G.1 34 0), .ref (G.1 35 0), .ref (G.1 36 0), iV s0]) (rest := []) M hl14 hS0 (c_L_mends l  hs0 hc17) (va_cwS 7 M.2.2.2.2.1 gL_acts_L_mends rfl rfl rfl (by decide +kernel) ⟨Nat.le_of_ble_eq_true rfl, Nat.le_of_ble_eq_true rfl⟩) (Nat.le_of_ble_eq_true rfl) rfl (Nat.le_of_ble_eq_true rfl) dL_acts_419 rfl ⟨Nat.zero_le _, Nat.zero_le _⟩ (fun H locs hi18 hS19 => ?_)
      obtain ⟨g20, hf⟩ := gdt hf
      exact x_zret M hr hf hS19 g20 dL_acts_422
    · have hf := ift hf (Int.not_le.mp hc)
      refine x_aload_n M hl14 dL_acts_391 1 rfl ?_
      refine x_aload_n M hl14 dL_acts_392 2 rfl ?_
      refine x_aload_n M hl14 dL_acts_393 4 rfl ?_
      refine x_aload M hl14 dL_acts_394 5 rfl ?_
      refine x_aload M hl14 dL_acts_396 6 rfl ?_
      refine x_aload M hl14 dL_acts_398 7 rfl ?_
      refine x_iload M hl14 dL_acts_400 0 rfl ?_
      obtain ⟨r21, w22, hc23, hf⟩ := bdt hf
      refine x_callTi (As := [.ref (G.1 10 0), .ref (G.1 30 0), .ref (G.1 32 0), .ref (G.1 34 0), .ref (G.1 35 0), .ref (G.1 36 0), iV s0]) (rest := []) M hl14 hS0 (c_L_loses l  hs0 hc23) (va_cwS 7 M.2.2.2.2.1 gL_acts_L_loses rfl rfl rfl (by decide +kernel) ⟨Nat.le_of_ble_eq_true rfl, Nat.le_of_ble_eq_true rfl⟩) (Nat.le_of_ble_eq_true rfl) rfl (Nat.le_of_ble_eq_true rfl) dL_acts_402 rfl ⟨Nat.zero_le _, Nat.zero_le _⟩ (fun H locs hi24 hS25 => ?_)
      refine x_goto (tgt := 422) M dL_acts_405 (by decide) ?_
      obtain ⟨g26, hf⟩ := gdt hf
      exact x_zret M hr hf hS25 g26 dL_acts_422
  · have hf := ift hf (Decidable.of_not_not hc)
    refine x_aload_n M hl14 dL_acts_360 1 rfl ?_
    refine x_iconst M dL_acts_361 ?_
    obtain ⟨r27, w28, hc29, hf⟩ := bdt hf
    refine x_callVi (c0 := 10) (t0 := 0) (As := [iV 0]) (rest := []) M hl14 hS0 (c_X7_lose l  ⟨by decide, by decide⟩ hc29) (cwV 1 M.2.2.2.2.1 gL_acts_X7_lose rfl rfl rfl (by decide +kernel) ⟨Nat.le_of_ble_eq_true rfl, Nat.le_of_ble_eq_true rfl⟩) (by decide) (sE_10 G _ _) rfl rfl (Nat.le_of_ble_eq_true rfl) dL_acts_362 rfl ⟨Nat.zero_le _, Nat.zero_le _⟩ (fun H locs hi30 hS31 => ?_)
    refine x_iconst M dL_acts_365 ?_
    refine x_icmp_ne (tgt := 382) M hi30 ⟨by decide, by decide⟩ dL_acts_366 (by decide) (fun hc => ?_) (fun hc => ?_)
    · have hf := iff_ hf hc
      refine x_iconst M dL_acts_382 ?_
      exact x_zret M hr hf hS31 (Or.inl rfl) dL_acts_383
    · have hf := ift hf (Decidable.of_not_not hc)
      refine x_aload_n M hl14 dL_acts_369 1 rfl ?_
      refine x_iconst M dL_acts_370 ?_
      obtain ⟨r32, w33, hc34, hf⟩ := bdt hf
      refine x_callVi (c0 := 10) (t0 := 0) (As := [iV 0]) (rest := []) M hl14 hS31 (c_X7_mend l  ⟨by decide, by decide⟩ hc34) (cwV 1 M.2.2.2.2.1 gL_acts_X7_mend rfl rfl rfl (by decide +kernel) ⟨Nat.le_of_ble_eq_true rfl, Nat.le_of_ble_eq_true rfl⟩) (by decide) (sE_10 G _ _) rfl rfl (Nat.le_of_ble_eq_true rfl) dL_acts_371 rfl ⟨Nat.zero_le _, Nat.zero_le _⟩ (fun H locs hi35 hS36 => ?_)
      refine x_iconst M dL_acts_374 ?_
      refine x_icmp_ne (tgt := 382) M hi35 ⟨by decide, by decide⟩ dL_acts_375 (by decide) (fun hc => ?_) (fun hc => ?_)
      · have hf := iff_ hf hc
        refine x_iconst M dL_acts_382 ?_
        exact x_zret M hr hf hS36 (Or.inl rfl) dL_acts_383
      · have hf := ift hf (Decidable.of_not_not hc)
        refine x_iconst M dL_acts_378 ?_
        refine x_goto (tgt := 383) M dL_acts_379 (by decide) ?_
        exact x_zret M hr hf hS36 (Or.inr rfl) dL_acts_383

set_option maxHeartbeats 4000000 in
set_option maxRecDepth 100000 in
theorem L_acts_b279_ok (M : MC p s m args meth c cL_acts 13 RL wsL_acts G) (hr : meth.sig.returnType = (some .boolean)) : ∀ x11 : Int, ∀ x12 : Int, ∀ w : Wd, InR x11 → InR x12 → ∀ (H : Heap) (locs : List Loc), ST G s w H locs → ∀ ls : Array Slot, lv_has ls 13 [(0, .ref (G.1 10 0)), (11, iV x11), (12, iV x12)] → ∀ (r : Int) (w' : Wd), L_acts_b279 x11 x12 w = some (r, w') → W p l e (rmL 7 221) s m args below meth c H locs 0 0 (MQ below (QiG G r w') args s 0 0 (GA G)) (F0 m 279 ls []) := by
  intro x11 x12 w hx11 hx12 H locs hS0 ls hl0 r w' hf
  unfold L_acts_b279 at hf
  refine x_aload_n M hl0 dL_acts_279 0 rfl ?_
  refine x_iload M hl0 dL_acts_280 1 rfl ?_
  obtain ⟨r50, w51, hc52, hf⟩ := bdt hf
  refine x_callVi (c0 := 10) (t0 := 0) (As := [iV x11]) (rest := []) M hl0 hS0 (c_X7_carry l  hx11 hc52) (cwV 1 M.2.2.2.2.1 gL_acts_X7_carry rfl rfl rfl (by decide +kernel) ⟨Nat.le_of_ble_eq_true rfl, Nat.le_of_ble_eq_true rfl⟩) (by decide) (sE_10 G _ _) rfl rfl (Nat.le_of_ble_eq_true rfl) dL_acts_282 rfl ⟨Nat.zero_le _, Nat.zero_le _⟩ (fun H locs hi53 hS54 => ?_)
  refine x_iload M hl0 dL_acts_285 2 rfl ?_
  refine x_icmp_ne (tgt := 294) M hi53 hx12 dL_acts_287 (by decide) (fun hc => ?_) (fun hc => ?_)
  · have hf := iff_ hf hc
    refine x_iconst M dL_acts_294 ?_
    exact x_zret M hr hf hS54 (Or.inl rfl) dL_acts_295
  · have hf := ift hf (Decidable.of_not_not hc)
    refine x_iconst M dL_acts_290 ?_
    refine x_goto (tgt := 295) M dL_acts_291 (by decide) ?_
    exact x_zret M hr hf hS54 (Or.inr rfl) dL_acts_295

set_option maxHeartbeats 4000000 in
set_option maxRecDepth 100000 in
theorem L_acts_b246_ok (M : MC p s m args meth c cL_acts 13 RL wsL_acts G) (hr : meth.sig.returnType = (some .boolean)) : ∀ n : Nat, ∀ x11 : Int, ∀ x12 : Int, ∀ w : Wd, InR x11 → InR x12 → ∀ (H : Heap) (locs : List Loc), ST G s w H locs → ∀ ls : Array Slot, lv_has ls 13 [(0, .ref (G.1 10 0)), (1, .ref (G.1 30 0)), (3, .ref (G.1 32 0)), (4, .ref (G.1 33 0)), (5, .ref (G.1 34 0)), (6, .ref (G.1 35 0)), (7, .ref (G.1 36 0)), (11, iV x11), (12, iV x12)] → ∀ (r : Int) (w' : Wd), L_acts_b246 n x11 x12 w = some (r, w') → W p l e (rmL 7 221) s m args below meth c H locs 0 0 (MQ below (QiG G r w') args s 0 0 (GA G)) (F0 m 246 ls []) := by
  intro n
  induction n with
  | zero =>
    intro x11 x12 w hx11 hx12 H locs hS0 ls hl0 r w' hf
    cases hf
  | succ n ih =>
    intro x11 x12 w hx11 hx12 H locs hS0 ls hl0 r w' hf
    rw [L_acts_b246_s] at hf
    refine x_iload M hl0 dL_acts_246 8 rfl ?_
    refine x_iload M hl0 dL_acts_248 7 rfl ?_
    refine x_icmp_ge (tgt := 279) M hx12 hx11 dL_acts_250 (by decide) (fun hc => ?_) (fun hc => ?_)
    · have hf := iff_ hf (Int.not_lt.mpr hc)
      exact L_acts_b279_ok M hr x11 x12 w hx11 hx12 _ _ hS0 _ (lv_sub hl0 [0, 7, 8] rfl) _ _ hf
    · have hf := ift hf (Int.not_le.mp hc)
      refine x_aload_n M hl0 dL_acts_253 1 rfl ?_
      refine x_iconst M dL_acts_254 ?_
      refine x_iald (c0 := 30) (t0 := 0) M hS0 (by decide) (hs_30 G _) rfl ⟨by decide, by decide⟩ (by decide) dL_acts_255 ?_
      refine x_iconst M dL_acts_256 ?_
      refine x_icmp_ne (tgt := 279) M (hS0.inr _ _ _) ⟨by decide, by decide⟩ dL_acts_257 (by decide) (fun hc => ?_) (fun hc => ?_)
      · have hf := iff_ hf hc
        exact L_acts_b279_ok M hr x11 x12 w hx11 hx12 _ _ hS0 _ (lv_sub hl0 [0, 7, 8] rfl) _ _ hf
      · have hf := ift hf (Decidable.of_not_not hc)
        refine x_aload_n M hl0 dL_acts_260 1 rfl ?_
        refine x_aload_n M hl0 dL_acts_261 2 rfl ?_
        refine x_aload M hl0 dL_acts_262 3 rfl ?_
        refine x_aload M hl0 dL_acts_264 4 rfl ?_
        refine x_aload M hl0 dL_acts_266 5 rfl ?_
        refine x_aload M hl0 dL_acts_268 6 rfl ?_
        obtain ⟨r55, w56, hc57, hf⟩ := bdt hf
        refine x_callTv (As := [.ref (G.1 30 0), .ref (G.1 32 0), .ref (G.1 33 0), .ref (G.1 34 0), .ref (G.1 35 0), .ref (G.1 36 0)]) (rest := []) M hl0 hS0 (c_L_step l   hc57) (va_cwS 6 M.2.2.2.2.1 gL_acts_L_step rfl rfl rfl (by decide +kernel) ⟨Nat.le_of_ble_eq_true rfl, Nat.le_of_ble_eq_true rfl⟩) (Nat.le_of_ble_eq_true rfl) rfl (Nat.le_of_ble_eq_true rfl) dL_acts_270 rfl ⟨Nat.zero_le _, Nat.zero_le _⟩ (fun H locs hS59 => ?_)
        obtain ⟨g60, hf⟩ := gdt hf
        refine x_iinc M hl0 dL_acts_273 8 rfl (by decide) [(12, iV (x12 + 1)), (0, .ref (G.1 10 0)), (1, .ref (G.1 30 0)), (3, .ref (G.1 32 0)), (4, .ref (G.1 33 0)), (5, .ref (G.1 34 0)), (6, .ref (G.1 35 0)), (7, .ref (G.1 36 0)), (11, iV x11)] rfl (fun ls hl61 => ?_)
        refine x_goto (tgt := 246) M dL_acts_276 (by decide) ?_
        exact ih x11 (x12 + 1) w56 hx11 g60 _ _ hS59 _ (lv_sub hl61 [1, 2, 3, 4, 5, 6, 7, 8, 0] rfl) _ _ hf

set_option maxHeartbeats 4000000 in
set_option maxRecDepth 100000 in
theorem c_L_acts (l : Launch) {G : GG} {x8 : Int} (hx8 : InR x8) {w : Wd} {r : Int} {w' : Wd} (hf : L_acts x8 w = some (r, w')) : Met l yL_acts wsL_acts (rmL 7 221) (PcG G w [.ref (G.1 10 0), .ref (G.1 30 0), .ref (G.1 31 0), .ref (G.1 32 0), .ref (G.1 33 0), .ref (G.1 34 0), .ref (G.1 35 0), .ref (G.1 36 0), iV x8]) (QiG G r w') 0 0 (GA G) := by
  refine met_of (own := RL) (by decide) rfl (Nat.le_of_ble_eq_true rfl) rfl ?_
  intro p e s m args below meth c M hr ls hl0 hS0
  have hl0 : lv_has ls 13 [(0, .ref (G.1 10 0)), (1, .ref (G.1 30 0)), (2, .ref (G.1 31 0)), (3, .ref (G.1 32 0)), (4, .ref (G.1 33 0)), (5, .ref (G.1 34 0)), (6, .ref (G.1 35 0)), (7, .ref (G.1 36 0)), (8, iV x8)] := hl0
  unfold L_acts at hf
  refine x_iload M hl0 dL_acts_0 8 rfl ?_
  refine x_iconst M dL_acts_2 ?_
  refine x_ishr M dL_acts_3 ?_
  refine x_ldc (z := 10000000) M kcL_acts_91 rfl dL_acts_4 ?_
  obtain ⟨r1, w2, hc3, hf⟩ := bdt hf
  refine x_callTi (As := [iV (shrI x8 5), iV 10000000]) (rest := []) M hl0 hS0 (c_L_low l  (o_inr _) ⟨by decide, by decide⟩ hc3) (va_cwS 2 M.2.2.2.2.1 gL_acts_L_low rfl rfl rfl (by decide +kernel) ⟨Nat.le_of_ble_eq_true rfl, Nat.le_of_ble_eq_true rfl⟩) (Nat.le_of_ble_eq_true rfl) rfl (Nat.le_of_ble_eq_true rfl) dL_acts_6 rfl ⟨Nat.zero_le _, Nat.zero_le _⟩ (fun H locs hi4 hS5 => ?_)
  refine x_istore M hl0 dL_acts_9 (by decide) [(9, iV r1), (0, .ref (G.1 10 0)), (1, .ref (G.1 30 0)), (2, .ref (G.1 31 0)), (3, .ref (G.1 32 0)), (4, .ref (G.1 33 0)), (5, .ref (G.1 34 0)), (6, .ref (G.1 35 0)), (7, .ref (G.1 36 0)), (8, iV x8)] rfl (fun ls hl6 => ?_)
  refine x_iload M hl6 dL_acts_11 9 rfl ?_
  refine x_bipush M dL_acts_13 rfl ?_
  obtain ⟨r7, w8, hc9, hf⟩ := bdt hf
  refine x_callTi (As := [iV x8, iV 27]) (rest := []) M hl6 hS5 (c_L_low l  hx8 ⟨by decide, by decide⟩ hc9) (va_cwS 2 M.2.2.2.2.1 gL_acts_L_low rfl rfl rfl (by decide +kernel) ⟨Nat.le_of_ble_eq_true rfl, Nat.le_of_ble_eq_true rfl⟩) (Nat.le_of_ble_eq_true rfl) rfl (Nat.le_of_ble_eq_true rfl) dL_acts_15 rfl ⟨Nat.zero_le _, Nat.zero_le _⟩ (fun H locs hi10 hS11 => ?_)
  refine x_istore M hl6 dL_acts_18 (by decide) [(10, iV r7), (9, iV r1), (0, .ref (G.1 10 0)), (1, .ref (G.1 30 0)), (2, .ref (G.1 31 0)), (3, .ref (G.1 32 0)), (4, .ref (G.1 33 0)), (5, .ref (G.1 34 0)), (6, .ref (G.1 35 0)), (7, .ref (G.1 36 0)), (8, iV x8)] rfl (fun ls hl12 => ?_)
  refine x_iload M hl12 dL_acts_20 0 rfl ?_
  refine x_bipush M dL_acts_22 rfl ?_
  refine x_icmp_ge (tgt := 43) M hi10 ⟨by decide, by decide⟩ dL_acts_24 (by decide) (fun hc => ?_) (fun hc => ?_)
  · have hf := iff_ hf (Int.not_lt.mpr hc)
    refine x_iload M hl12 dL_acts_43 0 rfl ?_
    refine x_bipush M dL_acts_45 rfl ?_
    refine x_icmp_ge (tgt := 80) M hi10 ⟨by decide, by decide⟩ dL_acts_47 (by decide) (fun hc => ?_) (fun hc => ?_)
    · have hf := iff_ hf (Int.not_lt.mpr hc)
      refine x_iload M hl12 dL_acts_80 0 rfl ?_
      refine x_bipush M dL_acts_82 rfl ?_
      refine x_icmp_ge (tgt := 136) M hi10 ⟨by decide, by decide⟩ dL_acts_84 (by decide) (fun hc => ?_) (fun hc => ?_)
      · have hf := iff_ hf (Int.not_lt.mpr hc)
        refine x_iload M hl12 dL_acts_136 0 rfl ?_
        refine x_bipush M dL_acts_138 rfl ?_
        refine x_icmp_ge (tgt := 196) M hi10 ⟨by decide, by decide⟩ dL_acts_140 (by decide) (fun hc => ?_) (fun hc => ?_)
        · have hf := iff_ hf (Int.not_lt.mpr hc)
          refine x_iload M hl12 dL_acts_196 0 rfl ?_
          refine x_bipush M dL_acts_198 rfl ?_
          refine x_icmp_ge (tgt := 296) M hi10 ⟨by decide, by decide⟩ dL_acts_200 (by decide) (fun hc => ?_) (fun hc => ?_)
          · have hf := iff_ hf (Int.not_lt.mpr hc)
            refine x_iload M hl12 dL_acts_296 0 rfl ?_
            refine x_bipush M dL_acts_298 rfl ?_
            refine x_icmp_ne (tgt := 336) M hi10 ⟨by decide, by decide⟩ dL_acts_300 (by decide) (fun hc => ?_) (fun hc => ?_)
            · have hf := iff_ hf hc
              refine x_aload_n M hl12 dL_acts_336 3 rfl ?_
              refine x_iconst M dL_acts_337 ?_
              refine x_iald (c0 := 30) (t0 := 0) M hS11 (by decide) (hs_30 G _) rfl ⟨by decide, by decide⟩ (by decide) dL_acts_338 ?_
              refine x_if_ne (tgt := 346) M (hS11.inr _ _ _) dL_acts_339 (by decide) (fun hc => ?_) (fun hc => ?_)
              · have hf := iff_ hf hc
                refine x_iload M hl12 dL_acts_346 1 rfl ?_
                refine x_aload_n M hl12 dL_acts_348 3 rfl ?_
                refine x_iconst M dL_acts_349 ?_
                refine x_iald (c0 := 30) (t0 := 0) M hS11 (by decide) (hs_30 G _) rfl ⟨by decide, by decide⟩ (by decide) dL_acts_350 ?_
                obtain ⟨g13, hf⟩ := gdt hf
                refine x_irem M hi4 (hS11.inr _ _ _) g13 dL_acts_351 ?_
                exact L_acts_b352_ok M hr r7 (r1 % (w8 30 0 0)) w8 hi10 (o_inr_rem (hS11.inr _ _ _) g13) _ _ hS11 _ (lv_sub hl12 [2, 3, 4, 5, 7, 8, 9, 0] rfl) _ _ hf
              · have hf := ift hf (Decidable.of_not_not hc)
                refine x_iconst M dL_acts_342 ?_
                refine x_goto (tgt := 352) M dL_acts_343 (by decide) ?_
                exact L_acts_b352_ok M hr r7 0 w8 hi10 ⟨by decide, by decide⟩ _ _ hS11 _ (lv_sub hl12 [2, 3, 4, 5, 7, 8, 9, 0] rfl) _ _ hf
            · have hf := ift hf (Decidable.of_not_not hc)
              refine x_aload_n M hl12 dL_acts_303 3 rfl ?_
              refine x_iconst M dL_acts_304 ?_
              refine x_iald (c0 := 30) (t0 := 0) M hS11 (by decide) (hs_30 G _) rfl ⟨by decide, by decide⟩ (by decide) dL_acts_305 ?_
              refine x_istore M hl12 dL_acts_306 (by decide) [(11, iV (w8 30 0 1)), (10, iV r7), (9, iV r1), (0, .ref (G.1 10 0)), (1, .ref (G.1 30 0)), (2, .ref (G.1 31 0)), (3, .ref (G.1 32 0)), (4, .ref (G.1 33 0)), (5, .ref (G.1 34 0)), (6, .ref (G.1 35 0)), (7, .ref (G.1 36 0)), (8, iV x8)] rfl (fun ls hl37 => ?_)
              refine x_aload_n M hl37 dL_acts_308 4 rfl ?_
              refine x_iconst M dL_acts_309 ?_
              refine x_iconst M dL_acts_310 ?_
              refine x_iload M hl37 dL_acts_311 2 rfl ?_
              refine x_bipush M dL_acts_313 rfl ?_
              obtain ⟨g38, hf⟩ := gdt hf
              refine x_irem M hi4 ⟨by decide, by decide⟩ ⟨g38, by decide⟩ dL_acts_315 ?_
              obtain ⟨g39, hf⟩ := gdt hf
              refine x_iadd M dL_acts_316 ?_
              refine x_iast (c0 := 30) (t0 := 0) M hS11 (by decide) (hs_30 G _) rfl ⟨by decide, by decide⟩ (by decide) g39 dL_acts_317 (fun H locs hS40 => ?_)
              refine x_aload_n M hl37 dL_acts_318 3 rfl ?_
              refine x_aload_n M hl37 dL_acts_319 4 rfl ?_
              refine x_iconst M dL_acts_320 ?_
              refine x_iald (c0 := 30) (t0 := 0) M hS40 (by decide) (hs_30 G _) rfl ⟨by decide, by decide⟩ (by decide) dL_acts_321 ?_
              obtain ⟨r41, w42, hc43, hf⟩ := bdt hf
              refine x_callVi (c0 := 10) (t0 := 0) (As := [iV ((up w8 30 0 1 (2 + (r1 % 12))) 30 0 1)]) (rest := []) M hl37 hS40 (c_X7_setHeavy l  (hS40.inr _ _ _) hc43) (cwV 1 M.2.2.2.2.1 gL_acts_X7_setHeavy rfl rfl rfl (by decide +kernel) ⟨Nat.le_of_ble_eq_true rfl, Nat.le_of_ble_eq_true rfl⟩) (by decide) (sE_10 G _ _) rfl rfl (Nat.le_of_ble_eq_true rfl) dL_acts_322 rfl ⟨Nat.zero_le _, Nat.zero_le _⟩ (fun H locs hi44 hS45 => ?_)
              refine x_iload M hl37 dL_acts_325 0 rfl ?_
              refine x_icmp_ne (tgt := 334) M hi44 (hS11.inr _ _ _) dL_acts_327 (by decide) (fun hc => ?_) (fun hc => ?_)
              · have hf := iff_ hf hc
                refine x_iconst M dL_acts_334 ?_
                exact x_zret M hr hf hS45 (Or.inl rfl) dL_acts_335
              · have hf := ift hf (Decidable.of_not_not hc)
                refine x_iconst M dL_acts_330 ?_
                refine x_goto (tgt := 335) M dL_acts_331 (by decide) ?_
                exact x_zret M hr hf hS45 (Or.inr rfl) dL_acts_335
          · have hf := ift hf (Int.not_le.mp hc)
            refine x_iconst M dL_acts_203 ?_
            refine x_iload M hl12 dL_acts_204 1 rfl ?_
            refine x_iconst M dL_acts_206 ?_
            obtain ⟨g46, hf⟩ := gdt hf
            refine x_irem M hi4 ⟨by decide, by decide⟩ ⟨g46, by decide⟩ dL_acts_207 ?_
            obtain ⟨g47, hf⟩ := gdt hf
            refine x_iadd M dL_acts_208 ?_
            refine x_istore M hl12 dL_acts_209 (by decide) [(11, iV (1 + (r1 % 4))), (10, iV r7), (9, iV r1), (0, .ref (G.1 10 0)), (1, .ref (G.1 30 0)), (2, .ref (G.1 31 0)), (3, .ref (G.1 32 0)), (4, .ref (G.1 33 0)), (5, .ref (G.1 34 0)), (6, .ref (G.1 35 0)), (7, .ref (G.1 36 0)), (8, iV x8)] rfl (fun ls hl48 => ?_)
            refine x_aload_n M hl48 dL_acts_211 4 rfl ?_
            refine x_iconst M dL_acts_212 ?_
            refine x_iald (c0 := 30) (t0 := 0) M hS11 (by decide) (hs_30 G _) rfl ⟨by decide, by decide⟩ (by decide) dL_acts_213 ?_
            refine x_if_ne (tgt := 243) M (hS11.inr _ _ _) dL_acts_214 (by decide) (fun hc => ?_) (fun hc => ?_)
            · have hf := iff_ hf hc
              refine x_iconst M dL_acts_243 ?_
              refine x_istore M hl48 dL_acts_244 (by decide) [(12, iV 0), (11, iV (1 + (r1 % 4))), (10, iV r7), (9, iV r1), (0, .ref (G.1 10 0)), (1, .ref (G.1 30 0)), (2, .ref (G.1 31 0)), (3, .ref (G.1 32 0)), (4, .ref (G.1 33 0)), (5, .ref (G.1 34 0)), (6, .ref (G.1 35 0)), (7, .ref (G.1 36 0)), (8, iV x8)] rfl (fun ls hl49 => ?_)
              exact L_acts_b246_ok M hr LF (1 + (r1 % 4)) 0 w8 g47 ⟨by decide, by decide⟩ _ _ hS11 _ (lv_sub hl49 [4, 5, 7, 8, 9, 10, 11, 1, 0] rfl) _ _ hf
            · have hf := ift hf (Decidable.of_not_not hc)
              refine x_aload_n M hl48 dL_acts_217 3 rfl ?_
              refine x_iload M hl48 dL_acts_218 0 rfl ?_
              obtain ⟨r62, w63, hc64, hf⟩ := bdt hf
              refine x_callVi (c0 := 10) (t0 := 0) (As := [iV (1 + (r1 % 4))]) (rest := []) M hl48 hS11 (c_X7_carry l  g47 hc64) (cwV 1 M.2.2.2.2.1 gL_acts_X7_carry rfl rfl rfl (by decide +kernel) ⟨Nat.le_of_ble_eq_true rfl, Nat.le_of_ble_eq_true rfl⟩) (by decide) (sE_10 G _ _) rfl rfl (Nat.le_of_ble_eq_true rfl) dL_acts_220 rfl ⟨Nat.zero_le _, Nat.zero_le _⟩ (fun H locs hi65 hS66 => ?_)
              refine x_bipush M dL_acts_223 rfl ?_
              refine x_icmp_ne (tgt := 241) M hi65 ⟨by decide, by decide⟩ dL_acts_225 (by decide) (fun hc => ?_) (fun hc => ?_)
              · have hf := iff_ hf hc
                refine x_iconst M dL_acts_241 ?_
                exact x_zret M hr hf hS66 (Or.inl rfl) dL_acts_242
              · have hf := ift hf (Decidable.of_not_not hc)
                refine x_aload_n M hl48 dL_acts_228 3 rfl ?_
                refine x_iconst M dL_acts_229 ?_
                obtain ⟨r67, w68, hc69, hf⟩ := bdt hf
                refine x_callVi (c0 := 10) (t0 := 0) (As := [iV 0]) (rest := []) M hl48 hS66 (c_X7_carry l  ⟨by decide, by decide⟩ hc69) (cwV 1 M.2.2.2.2.1 gL_acts_X7_carry rfl rfl rfl (by decide +kernel) ⟨Nat.le_of_ble_eq_true rfl, Nat.le_of_ble_eq_true rfl⟩) (by decide) (sE_10 G _ _) rfl rfl (Nat.le_of_ble_eq_true rfl) dL_acts_230 rfl ⟨Nat.zero_le _, Nat.zero_le _⟩ (fun H locs hi70 hS71 => ?_)
                refine x_iconst M dL_acts_233 ?_
                refine x_icmp_ne (tgt := 241) M hi70 ⟨by decide, by decide⟩ dL_acts_234 (by decide) (fun hc => ?_) (fun hc => ?_)
                · have hf := iff_ hf hc
                  refine x_iconst M dL_acts_241 ?_
                  exact x_zret M hr hf hS71 (Or.inl rfl) dL_acts_242
                · have hf := ift hf (Decidable.of_not_not hc)
                  refine x_iconst M dL_acts_237 ?_
                  refine x_goto (tgt := 242) M dL_acts_238 (by decide) ?_
                  exact x_zret M hr hf hS71 (Or.inr rfl) dL_acts_242
        · have hf := ift hf (Int.not_le.mp hc)
          refine x_aload_n M hl12 dL_acts_143 3 rfl ?_
          refine x_iconst M dL_acts_144 ?_
          refine x_iald (c0 := 30) (t0 := 0) M hS11 (by decide) (hs_30 G _) rfl ⟨by decide, by decide⟩ (by decide) dL_acts_145 ?_
          refine x_iconst M dL_acts_146 ?_
          refine x_icmp_ne (tgt := 165) M (hS11.inr _ _ _) ⟨by decide, by decide⟩ dL_acts_147 (by decide) (fun hc => ?_) (fun hc => ?_)
          · have hf := iff_ hf hc
            refine x_aload_n M hl12 dL_acts_165 3 rfl ?_
            refine x_aload_n M hl12 dL_acts_166 4 rfl ?_
            refine x_aload_n M hl12 dL_acts_167 5 rfl ?_
            refine x_aload M hl12 dL_acts_168 6 rfl ?_
            refine x_aload M hl12 dL_acts_170 7 rfl ?_
            refine x_aload M hl12 dL_acts_172 8 rfl ?_
            refine x_aload M hl12 dL_acts_174 9 rfl ?_
            obtain ⟨r72, w73, hc74, hf⟩ := bdt hf
            refine x_callTv (As := [.ref (G.1 30 0), .ref (G.1 31 0), .ref (G.1 32 0), .ref (G.1 33 0), .ref (G.1 34 0), .ref (G.1 35 0), .ref (G.1 36 0)]) (rest := []) M hl12 hS11 (c_L_begins l   hc74) (va_cwS 7 M.2.2.2.2.1 gL_acts_L_begins rfl rfl rfl (by decide +kernel) ⟨Nat.le_of_ble_eq_true rfl, Nat.le_of_ble_eq_true rfl⟩) (Nat.le_of_ble_eq_true rfl) rfl (Nat.le_of_ble_eq_true rfl) dL_acts_176 rfl ⟨Nat.zero_le _, Nat.zero_le _⟩ (fun H locs hS76 => ?_)
            refine x_aload_n M hl12 dL_acts_179 2 rfl ?_
            obtain ⟨r77, w78, hc79, hf⟩ := bdt hf
            refine x_callVi (c0 := 10) (t0 := 0) (As := []) (rest := []) M hl12 hS76 (c_X7_begin l   hc79) (cwV 0 M.2.2.2.2.1 gL_acts_X7_begin rfl rfl rfl (by decide +kernel) ⟨Nat.le_of_ble_eq_true rfl, Nat.le_of_ble_eq_true rfl⟩) (by decide) (sE_10 G _ _) rfl rfl (Nat.le_of_ble_eq_true rfl) dL_acts_180 rfl ⟨Nat.zero_le _, Nat.zero_le _⟩ (fun H locs hi80 hS81 => ?_)
            refine x_aload_n M hl12 dL_acts_183 3 rfl ?_
            refine x_bipush M dL_acts_184 rfl ?_
            refine x_iald (c0 := 30) (t0 := 0) M hS81 (by decide) (hs_30 G _) rfl ⟨by decide, by decide⟩ (by decide) dL_acts_186 ?_
            refine x_icmp_ne (tgt := 194) M hi80 (hS81.inr _ _ _) dL_acts_187 (by decide) (fun hc => ?_) (fun hc => ?_)
            · have hf := iff_ hf hc
              refine x_iconst M dL_acts_194 ?_
              exact x_zret M hr hf hS81 (Or.inl rfl) dL_acts_195
            · have hf := ift hf (Decidable.of_not_not hc)
              refine x_iconst M dL_acts_190 ?_
              refine x_goto (tgt := 195) M dL_acts_191 (by decide) ?_
              exact x_zret M hr hf hS81 (Or.inr rfl) dL_acts_195
          · have hf := ift hf (Decidable.of_not_not hc)
            refine x_aload_n M hl12 dL_acts_150 2 rfl ?_
            obtain ⟨r82, w83, hc84, hf⟩ := bdt hf
            refine x_callVi (c0 := 10) (t0 := 0) (As := []) (rest := []) M hl12 hS11 (c_X7_begin l   hc84) (cwV 0 M.2.2.2.2.1 gL_acts_X7_begin rfl rfl rfl (by decide +kernel) ⟨Nat.le_of_ble_eq_true rfl, Nat.le_of_ble_eq_true rfl⟩) (by decide) (sE_10 G _ _) rfl rfl (Nat.le_of_ble_eq_true rfl) dL_acts_151 rfl ⟨Nat.zero_le _, Nat.zero_le _⟩ (fun H locs hi85 hS86 => ?_)
            refine x_bipush M dL_acts_154 rfl ?_
            refine x_icmp_ne (tgt := 163) M hi85 ⟨by decide, by decide⟩ dL_acts_156 (by decide) (fun hc => ?_) (fun hc => ?_)
            · have hf := iff_ hf hc
              refine x_iconst M dL_acts_163 ?_
              exact x_zret M hr hf hS86 (Or.inl rfl) dL_acts_164
            · have hf := ift hf (Decidable.of_not_not hc)
              refine x_iconst M dL_acts_159 ?_
              refine x_goto (tgt := 164) M dL_acts_160 (by decide) ?_
              exact x_zret M hr hf hS86 (Or.inr rfl) dL_acts_164
      · have hf := ift hf (Int.not_le.mp hc)
        refine x_aload_n M hl12 dL_acts_87 4 rfl ?_
        refine x_iload M hl12 dL_acts_88 1 rfl ?_
        refine x_bipush M dL_acts_90 rfl ?_
        obtain ⟨g87, hf⟩ := gdt hf
        refine x_irem M hi4 ⟨by decide, by decide⟩ ⟨g87, by decide⟩ dL_acts_92 ?_
        obtain ⟨g88, hf⟩ := gdt hf
        refine x_iald (c0 := 31) (t0 := 0) M hS11 (by decide) (hs_31 G _) rfl g88 (by decide) dL_acts_93 ?_
        refine x_istore M hl12 dL_acts_94 (by decide) [(11, iV (w8 31 0 (r1 % 8).toNat)), (10, iV r7), (9, iV r1), (0, .ref (G.1 10 0)), (1, .ref (G.1 30 0)), (2, .ref (G.1 31 0)), (3, .ref (G.1 32 0)), (4, .ref (G.1 33 0)), (5, .ref (G.1 34 0)), (6, .ref (G.1 35 0)), (7, .ref (G.1 36 0)), (8, iV x8)] rfl (fun ls hl89 => ?_)
        refine x_aload_n M hl89 dL_acts_96 5 rfl ?_
        refine x_iload M hl89 dL_acts_97 2 rfl ?_
        refine x_bipush M dL_acts_99 rfl ?_
        refine x_irem M hi4 ⟨by decide, by decide⟩ ⟨g87, by decide⟩ dL_acts_101 ?_
        refine x_bipush M dL_acts_102 rfl ?_
        refine x_iast (c0 := 31) (t0 := 0) M hS11 (by decide) (hs_31 G _) rfl g88 (by decide) ⟨by decide, by decide⟩ dL_acts_104 (fun H locs hS90 => ?_)
        refine x_aload_n M hl89 dL_acts_105 3 rfl ?_
        refine x_iload M hl89 dL_acts_106 2 rfl ?_
        refine x_bipush M dL_acts_108 rfl ?_
        refine x_irem M hi4 ⟨by decide, by decide⟩ ⟨g87, by decide⟩ dL_acts_110 ?_
        obtain ⟨r91, w92, hc93, hf⟩ := bdt hf
        refine x_callVi (c0 := 10) (t0 := 0) (As := [iV (r1 % 8)]) (rest := []) M hl89 hS90 (c_X7_drop l  (o_inr_rem ⟨by decide, by decide⟩ ⟨g87, by decide⟩) hc93) (cwV 1 M.2.2.2.2.1 gL_acts_X7_drop rfl rfl rfl (by decide +kernel) ⟨Nat.le_of_ble_eq_true rfl, Nat.le_of_ble_eq_true rfl⟩) (by decide) (sE_10 G _ _) rfl rfl (Nat.le_of_ble_eq_true rfl) dL_acts_111 rfl ⟨Nat.zero_le _, Nat.zero_le _⟩ (fun H locs hi94 hS95 => ?_)
        refine x_iload M hl89 dL_acts_114 0 rfl ?_
        refine x_if_ge (tgt := 125) M (hS11.inr _ _ _) dL_acts_116 (by decide) (fun hc => ?_) (fun hc => ?_)
        · have hf := iff_ hf (Int.not_lt.mpr hc)
          refine x_iload M hl89 dL_acts_125 0 rfl ?_
          refine x_icmp_ne (tgt := 134) M hi94 (hS11.inr _ _ _) dL_acts_127 (by decide) (fun hc => ?_) (fun hc => ?_)
          · have hf := iff_ hf hc
            refine x_iconst M dL_acts_134 ?_
            exact x_zret M hr hf hS95 (Or.inl rfl) dL_acts_135
          · have hf := ift hf (Decidable.of_not_not hc)
            refine x_iconst M dL_acts_130 ?_
            refine x_goto (tgt := 135) M dL_acts_131 (by decide) ?_
            exact x_zret M hr hf hS95 (Or.inr rfl) dL_acts_135
        · have hf := ift hf (Int.not_le.mp hc)
          refine x_sipush M dL_acts_119 rfl ?_
          refine x_goto (tgt := 127) M dL_acts_122 (by decide) ?_
          refine x_icmp_ne (tgt := 134) M hi94 ⟨by decide, by decide⟩ dL_acts_127 (by decide) (fun hc => ?_) (fun hc => ?_)
          · have hf := iff_ hf hc
            refine x_iconst M dL_acts_134 ?_
            exact x_zret M hr hf hS95 (Or.inl rfl) dL_acts_135
          · have hf := ift hf (Decidable.of_not_not hc)
            refine x_iconst M dL_acts_130 ?_
            refine x_goto (tgt := 135) M dL_acts_131 (by decide) ?_
            exact x_zret M hr hf hS95 (Or.inr rfl) dL_acts_135
    · have hf := ift hf (Int.not_le.mp hc)
      refine x_aload_n M hl12 dL_acts_50 2 rfl ?_
      refine x_aload_n M hl12 dL_acts_51 3 rfl ?_
      refine x_aload_n M hl12 dL_acts_52 4 rfl ?_
      refine x_aload_n M hl12 dL_acts_53 5 rfl ?_
      refine x_aload M hl12 dL_acts_54 6 rfl ?_
      refine x_aload M hl12 dL_acts_56 7 rfl ?_
      refine x_aload M hl12 dL_acts_58 8 rfl ?_
      refine x_aload M hl12 dL_acts_60 9 rfl ?_
      refine x_iload M hl12 dL_acts_62 1 rfl ?_
      refine x_iload M hl12 dL_acts_64 0 rfl ?_
      refine x_bipush M dL_acts_66 rfl ?_
      refine x_icmp_ge (tgt := 75) M hi10 ⟨by decide, by decide⟩ dL_acts_68 (by decide) (fun hc => ?_) (fun hc => ?_)
      · have hf := iff_ hf (Int.not_lt.mpr hc)
        refine x_iconst M dL_acts_75 ?_
        obtain ⟨r96, w97, hc98, hf⟩ := bdt hf
        refine x_callTi (As := [.ref (G.1 10 0), .ref (G.1 30 0), .ref (G.1 31 0), .ref (G.1 32 0), .ref (G.1 33 0), .ref (G.1 34 0), .ref (G.1 35 0), .ref (G.1 36 0), iV r1, iV 0]) (rest := []) M hl12 hS11 (c_L_names l  hi4 ⟨by decide, by decide⟩ hc98) (va_cwS 10 M.2.2.2.2.1 gL_acts_L_names rfl rfl rfl (by decide +kernel) ⟨Nat.le_of_ble_eq_true rfl, Nat.le_of_ble_eq_true rfl⟩) (Nat.le_of_ble_eq_true rfl) rfl (Nat.le_of_ble_eq_true rfl) dL_acts_76 rfl ⟨Nat.zero_le _, Nat.zero_le _⟩ (fun H locs hi99 hS100 => ?_)
        obtain ⟨g101, hf⟩ := gdt hf
        exact x_zret M hr hf hS100 g101 dL_acts_79
      · have hf := ift hf (Int.not_le.mp hc)
        refine x_iconst M dL_acts_71 ?_
        refine x_goto (tgt := 76) M dL_acts_72 (by decide) ?_
        obtain ⟨r102, w103, hc104, hf⟩ := bdt hf
        refine x_callTi (As := [.ref (G.1 10 0), .ref (G.1 30 0), .ref (G.1 31 0), .ref (G.1 32 0), .ref (G.1 33 0), .ref (G.1 34 0), .ref (G.1 35 0), .ref (G.1 36 0), iV r1, iV 1]) (rest := []) M hl12 hS11 (c_L_names l  hi4 ⟨by decide, by decide⟩ hc104) (va_cwS 10 M.2.2.2.2.1 gL_acts_L_names rfl rfl rfl (by decide +kernel) ⟨Nat.le_of_ble_eq_true rfl, Nat.le_of_ble_eq_true rfl⟩) (Nat.le_of_ble_eq_true rfl) rfl (Nat.le_of_ble_eq_true rfl) dL_acts_76 rfl ⟨Nat.zero_le _, Nat.zero_le _⟩ (fun H locs hi105 hS106 => ?_)
        obtain ⟨g107, hf⟩ := gdt hf
        exact x_zret M hr hf hS106 g107 dL_acts_79
  · have hf := ift hf (Int.not_le.mp hc)
    refine x_aload_n M hl12 dL_acts_27 2 rfl ?_
    refine x_aload_n M hl12 dL_acts_28 3 rfl ?_
    refine x_aload_n M hl12 dL_acts_29 4 rfl ?_
    refine x_aload_n M hl12 dL_acts_30 5 rfl ?_
    refine x_aload M hl12 dL_acts_31 7 rfl ?_
    refine x_aload M hl12 dL_acts_33 8 rfl ?_
    refine x_aload M hl12 dL_acts_35 9 rfl ?_
    refine x_iload M hl12 dL_acts_37 1 rfl ?_
    obtain ⟨r108, w109, hc110, hf⟩ := bdt hf
    refine x_callTi (As := [.ref (G.1 10 0), .ref (G.1 30 0), .ref (G.1 31 0), .ref (G.1 32 0), .ref (G.1 34 0), .ref (G.1 35 0), .ref (G.1 36 0), iV r1]) (rest := []) M hl12 hS11 (c_L_makes l  hi4 hc110) (va_cwS 8 M.2.2.2.2.1 gL_acts_L_makes rfl rfl rfl (by decide +kernel) ⟨Nat.le_of_ble_eq_true rfl, Nat.le_of_ble_eq_true rfl⟩) (Nat.le_of_ble_eq_true rfl) rfl (Nat.le_of_ble_eq_true rfl) dL_acts_39 rfl ⟨Nat.zero_le _, Nat.zero_le _⟩ (fun H locs hi111 hS112 => ?_)
    obtain ⟨g113, hf⟩ := gdt hf
    exact x_zret M hr hf hS112 g113 dL_acts_42

end
