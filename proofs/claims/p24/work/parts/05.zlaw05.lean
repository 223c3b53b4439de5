section
variable {p : Program} {l : Launch} {e : Env} {s : State} {m : MethodId} {args : Array Value} {below : List Frame} {meth : Method} {c : Code} {G : GG}
/-! L_isSo -/
set_option maxHeartbeats 4000000 in
set_option maxRecDepth 100000 in
theorem L_isSo_b504_ok (M : MC p s m args meth c cL_isSo 15 RL wsL_isSo G) (hr : meth.sig.returnType = (some .boolean)) : ∀ x7 : Int, ∀ x8 : Int, ∀ x9 : Int, ∀ x10 : Int, ∀ w : Wd, InR x7 → InR x8 → InR x9 → InR x10 → ∀ (H : Heap) (locs : List Loc), ST G s w H locs → ∀ ls : Array Slot, lv_has ls 15 [(0, .ref (G.1 10 0)), (1, .ref (G.1 30 0)), (3, .ref (G.1 32 0)), (4, .ref (G.1 34 0)), (5, .ref (G.1 35 0)), (7, iV x7), (8, iV x8), (9, iV x9), (10, iV x10)] → ∀ (r : Int) (w' : Wd), L_isSo_b504 x7 x8 x9 x10 w = some (r, w') → W p l e (rmL 6 181) s m args below meth c H locs 0 0 (MQ below (QiG G r w') args s 0 0 (GA G)) (F0 m 504 ls []) := by
  intro x7 x8 x9 x10 w hx7 hx8 hx9 hx10 H locs hS0 ls hl0 r w' hf
  unfold L_isSo_b504 at hf
  refine x_iload M hl0 dL_isSo_504 8 rfl ?_
  refine x_if_eq (tgt := 728) M hx10 dL_isSo_506 (by decide) (fun hc => ?_) (fun hc => ?_)
  · have hf := ift hf hc
    refine x_iconst M dL_isSo_728 ?_
    exact x_zret M hr hf hS0 (Or.inl rfl) dL_isSo_729
  · have hf := iff_ hf hc
    refine x_aload_n M hl0 dL_isSo_509 0 rfl ?_
    refine x_iconst M dL_isSo_510 ?_
    obtain ⟨r8, w9, hc10, hf⟩ := bdt hf
    refine x_callVi (c0 := 10) (t0 := 0) (As := [iV 0]) (rest := []) M hl0 hS0 (c_X7_count l  ⟨by decide, by decide⟩ hc10) (cwV 1 M.2.2.2.2.1 gL_isSo_X7_count rfl rfl rfl (by decide +kernel) ⟨Nat.le_of_ble_eq_true rfl, Nat.le_of_ble_eq_true rfl⟩) (by decide) (sE_10 G _ _) rfl rfl (Nat.le_of_ble_eq_true rfl) dL_isSo_511 rfl ⟨Nat.zero_le _, Nat.zero_le _⟩ (fun H locs hi11 hS12 => ?_)
    refine x_aload_n M hl0 dL_isSo_514 1 rfl ?_
    refine x_iconst M dL_isSo_515 ?_
    refine x_iald (c0 := 30) (t0 := 0) M hS12 (by decide) (hs_30 G _) rfl ⟨by decide, by decide⟩ (by decide) dL_isSo_516 ?_
    refine x_icmp_ne (tgt := 728) M hi11 (hS12.inr _ _ _) dL_isSo_517 (by decide) (fun hc => ?_) (fun hc => ?_)
    · have hf := iff_ hf hc
      refine x_iconst M dL_isSo_728 ?_
      exact x_zret M hr hf hS12 (Or.inl rfl) dL_isSo_729
    · have hf := ift hf (Decidable.of_not_not hc)
      refine x_aload_n M hl0 dL_isSo_520 0 rfl ?_
      refine x_iconst M dL_isSo_521 ?_
      obtain ⟨r13, w14, hc15, hf⟩ := bdt hf
      refine x_callVi (c0 := 10) (t0 := 0) (As := [iV 1]) (rest := []) M hl0 hS12 (c_X7_count l  ⟨by decide, by decide⟩ hc15) (cwV 1 M.2.2.2.2.1 gL_isSo_X7_count rfl rfl rfl (by decide +kernel) ⟨Nat.le_of_ble_eq_true rfl, Nat.le_of_ble_eq_true rfl⟩) (by decide) (sE_10 G _ _) rfl rfl (Nat.le_of_ble_eq_true rfl) dL_isSo_522 rfl ⟨Nat.zero_le _, Nat.zero_le _⟩ (fun H locs hi16 hS17 => ?_)
      refine x_iload M hl0 dL_isSo_525 5 rfl ?_
      refine x_icmp_ne (tgt := 728) M hi16 hx7 dL_isSo_527 (by decide) (fun hc => ?_) (fun hc => ?_)
      · have hf := iff_ hf hc
        refine x_iconst M dL_isSo_728 ?_
        exact x_zret M hr hf hS17 (Or.inl rfl) dL_isSo_729
      · have hf := ift hf (Decidable.of_not_not hc)
        refine x_aload_n M hl0 dL_isSo_530 0 rfl ?_
        refine x_iconst M dL_isSo_531 ?_
        obtain ⟨r18, w19, hc20, hf⟩ := bdt hf
        refine x_callVi (c0 := 10) (t0 := 0) (As := [iV 2]) (rest := []) M hl0 hS17 (c_X7_count l  ⟨by decide, by decide⟩ hc20) (cwV 1 M.2.2.2.2.1 gL_isSo_X7_count rfl rfl rfl (by decide +kernel) ⟨Nat.le_of_ble_eq_true rfl, Nat.le_of_ble_eq_true rfl⟩) (by decide) (sE_10 G _ _) rfl rfl (Nat.le_of_ble_eq_true rfl) dL_isSo_532 rfl ⟨Nat.zero_le _, Nat.zero_le _⟩ (fun H locs hi21 hS22 => ?_)
        refine x_aload_n M hl0 dL_isSo_535 1 rfl ?_
        refine x_iconst M dL_isSo_536 ?_
        refine x_iald (c0 := 30) (t0 := 0) M hS22 (by decide) (hs_30 G _) rfl ⟨by decide, by decide⟩ (by decide) dL_isSo_537 ?_
        refine x_icmp_ne (tgt := 728) M hi21 (hS22.inr _ _ _) dL_isSo_538 (by decide) (fun hc => ?_) (fun hc => ?_)
        · have hf := iff_ hf hc
          refine x_iconst M dL_isSo_728 ?_
          exact x_zret M hr hf hS22 (Or.inl rfl) dL_isSo_729
        · have hf := ift hf (Decidable.of_not_not hc)
          refine x_aload_n M hl0 dL_isSo_541 0 rfl ?_
          refine x_iconst M dL_isSo_542 ?_
          obtain ⟨r23, w24, hc25, hf⟩ := bdt hf
          refine x_callVi (c0 := 10) (t0 := 0) (As := [iV 3]) (rest := []) M hl0 hS22 (c_X7_count l  ⟨by decide, by decide⟩ hc25) (cwV 1 M.2.2.2.2.1 gL_isSo_X7_count rfl rfl rfl (by decide +kernel) ⟨Nat.le_of_ble_eq_true rfl, Nat.le_of_ble_eq_true rfl⟩) (by decide) (sE_10 G _ _) rfl rfl (Nat.le_of_ble_eq_true rfl) dL_isSo_543 rfl ⟨Nat.zero_le _, Nat.zero_le _⟩ (fun H locs hi26 hS27 => ?_)
          refine x_aload_n M hl0 dL_isSo_546 1 rfl ?_
          refine x_iconst M dL_isSo_547 ?_
          refine x_iald (c0 := 30) (t0 := 0) M hS27 (by decide) (hs_30 G _) rfl ⟨by decide, by decide⟩ (by decide) dL_isSo_548 ?_
          refine x_icmp_ne (tgt := 728) M hi26 (hS27.inr _ _ _) dL_isSo_549 (by decide) (fun hc => ?_) (fun hc => ?_)
          · have hf := iff_ hf hc
            refine x_iconst M dL_isSo_728 ?_
            exact x_zret M hr hf hS27 (Or.inl rfl) dL_isSo_729
          · have hf := ift hf (Decidable.of_not_not hc)
            refine x_aload_n M hl0 dL_isSo_552 0 rfl ?_
            refine x_iconst M dL_isSo_553 ?_
            obtain ⟨r28, w29, hc30, hf⟩ := bdt hf
            refine x_callVi (c0 := 10) (t0 := 0) (As := [iV 4]) (rest := []) M hl0 hS27 (c_X7_count l  ⟨by decide, by decide⟩ hc30) (cwV 1 M.2.2.2.2.1 gL_isSo_X7_count rfl rfl rfl (by decide +kernel) ⟨Nat.le_of_ble_eq_true rfl, Nat.le_of_ble_eq_true rfl⟩) (by decide) (sE_10 G _ _) rfl rfl (Nat.le_of_ble_eq_true rfl) dL_isSo_554 rfl ⟨Nat.zero_le _, Nat.zero_le _⟩ (fun H locs hi31 hS32 => ?_)
            refine x_bipush M dL_isSo_557 rfl ?_
            refine x_aload_n M hl0 dL_isSo_559 1 rfl ?_
            refine x_iconst M dL_isSo_560 ?_
            refine x_aload_n M hl0 dL_isSo_561 1 rfl ?_
            refine x_iconst M dL_isSo_562 ?_
            refine x_iald (c0 := 30) (t0 := 0) M hS32 (by decide) (hs_30 G _) rfl ⟨by decide, by decide⟩ (by decide) dL_isSo_563 ?_
            obtain ⟨g33, hf⟩ := gdt hf
            refine x_iadd M dL_isSo_564 ?_
            obtain ⟨g34, hf⟩ := gdt hf
            refine x_iald (c0 := 30) (t0 := 0) M hS32 (by decide) (hs_30 G _) rfl g34 (by decide) dL_isSo_565 ?_
            obtain ⟨g35, hf⟩ := gdt hf
            refine x_isub M dL_isSo_566 ?_
            refine x_icmp_ne (tgt := 728) M hi31 g35 dL_isSo_567 (by decide) (fun hc => ?_) (fun hc => ?_)
            · have hf := iff_ hf hc
              refine x_iconst M dL_isSo_728 ?_
              exact x_zret M hr hf hS32 (Or.inl rfl) dL_isSo_729
            · have hf := ift hf (Decidable.of_not_not hc)
              refine x_aload_n M hl0 dL_isSo_570 0 rfl ?_
              refine x_iconst M dL_isSo_571 ?_
              obtain ⟨r36, w37, hc38, hf⟩ := bdt hf
              refine x_callVi (c0 := 10) (t0 := 0) (As := [iV 5]) (rest := []) M hl0 hS32 (c_X7_count l  ⟨by decide, by decide⟩ hc38) (cwV 1 M.2.2.2.2.1 gL_isSo_X7_count rfl rfl rfl (by decide +kernel) ⟨Nat.le_of_ble_eq_true rfl, Nat.le_of_ble_eq_true rfl⟩) (by decide) (sE_10 G _ _) rfl rfl (Nat.le_of_ble_eq_true rfl) dL_isSo_572 rfl ⟨Nat.zero_le _, Nat.zero_le _⟩ (fun H locs hi39 hS40 => ?_)
              refine x_iload M hl0 dL_isSo_575 6 rfl ?_
              refine x_icmp_ne (tgt := 728) M hi39 hx8 dL_isSo_577 (by decide) (fun hc => ?_) (fun hc => ?_)
              · have hf := iff_ hf hc
                refine x_iconst M dL_isSo_728 ?_
                exact x_zret M hr hf hS40 (Or.inl rfl) dL_isSo_729
              · have hf := ift hf (Decidable.of_not_not hc)
                refine x_aload_n M hl0 dL_isSo_580 0 rfl ?_
                refine x_bipush M dL_isSo_581 rfl ?_
                obtain ⟨r41, w42, hc43, hf⟩ := bdt hf
                refine x_callVi (c0 := 10) (t0 := 0) (As := [iV 6]) (rest := []) M hl0 hS40 (c_X7_count l  ⟨by decide, by decide⟩ hc43) (cwV 1 M.2.2.2.2.1 gL_isSo_X7_count rfl rfl rfl (by decide +kernel) ⟨Nat.le_of_ble_eq_true rfl, Nat.le_of_ble_eq_true rfl⟩) (by decide) (sE_10 G _ _) rfl rfl (Nat.le_of_ble_eq_true rfl) dL_isSo_583 rfl ⟨Nat.zero_le _, Nat.zero_le _⟩ (fun H locs hi44 hS45 => ?_)
                refine x_aload_n M hl0 dL_isSo_586 1 rfl ?_
                refine x_bipush M dL_isSo_587 rfl ?_
                refine x_iald (c0 := 30) (t0 := 0) M hS45 (by decide) (hs_30 G _) rfl ⟨by decide, by decide⟩ (by decide) dL_isSo_589 ?_
                refine x_icmp_ne (tgt := 728) M hi44 (hS45.inr _ _ _) dL_isSo_590 (by decide) (fun hc => ?_) (fun hc => ?_)
                · have hf := iff_ hf hc
                  refine x_iconst M dL_isSo_728 ?_
                  exact x_zret M hr hf hS45 (Or.inl rfl) dL_isSo_729
                · have hf := ift hf (Decidable.of_not_not hc)
                  refine x_aload_n M hl0 dL_isSo_593 0 rfl ?_
                  refine x_bipush M dL_isSo_594 rfl ?_
                  obtain ⟨r46, w47, hc48, hf⟩ := bdt hf
                  refine x_callVi (c0 := 10) (t0 := 0) (As := [iV 7]) (rest := []) M hl0 hS45 (c_X7_count l  ⟨by decide, by decide⟩ hc48) (cwV 1 M.2.2.2.2.1 gL_isSo_X7_count rfl rfl rfl (by decide +kernel) ⟨Nat.le_of_ble_eq_true rfl, Nat.le_of_ble_eq_true rfl⟩) (by decide) (sE_10 G _ _) rfl rfl (Nat.le_of_ble_eq_true rfl) dL_isSo_596 rfl ⟨Nat.zero_le _, Nat.zero_le _⟩ (fun H locs hi49 hS50 => ?_)
                  refine x_aload_n M hl0 dL_isSo_599 1 rfl ?_
                  refine x_aload_n M hl0 dL_isSo_600 2 rfl ?_
                  refine x_aload M hl0 dL_isSo_601 3 rfl ?_
                  refine x_aload M hl0 dL_isSo_603 4 rfl ?_
                  obtain ⟨r51, w52, hc53, hf⟩ := bdt hf
                  refine x_callTi (As := [.ref (G.1 30 0), .ref (G.1 32 0), .ref (G.1 34 0), .ref (G.1 35 0)]) (rest := [iV r46]) M hl0 hS50 (c_L_kept l   hc53) (va_cwS 4 M.2.2.2.2.1 gL_isSo_L_kept rfl rfl rfl (by decide +kernel) ⟨Nat.le_of_ble_eq_true rfl, Nat.le_of_ble_eq_true rfl⟩) (Nat.le_of_ble_eq_true rfl) rfl (Nat.le_of_ble_eq_true rfl) dL_isSo_605 rfl ⟨Nat.zero_le _, Nat.zero_le _⟩ (fun H locs hi54 hS55 => ?_)
                  refine x_icmp_ne (tgt := 728) M hi49 hi54 dL_isSo_608 (by decide) (fun hc => ?_) (fun hc => ?_)
                  · have hf := iff_ hf hc
                    refine x_iconst M dL_isSo_728 ?_
                    exact x_zret M hr hf hS55 (Or.inl rfl) dL_isSo_729
                  · have hf := ift hf (Decidable.of_not_not hc)
                    refine x_aload_n M hl0 dL_isSo_611 0 rfl ?_
                    refine x_bipush M dL_isSo_612 rfl ?_
                    obtain ⟨r56, w57, hc58, hf⟩ := bdt hf
                    refine x_callVi (c0 := 10) (t0 := 0) (As := [iV 8]) (rest := []) M hl0 hS55 (c_X7_count l  ⟨by decide, by decide⟩ hc58) (cwV 1 M.2.2.2.2.1 gL_isSo_X7_count rfl rfl rfl (by decide +kernel) ⟨Nat.le_of_ble_eq_true rfl, Nat.le_of_ble_eq_true rfl⟩) (by decide) (sE_10 G _ _) rfl rfl (Nat.le_of_ble_eq_true rfl) dL_isSo_614 rfl ⟨Nat.zero_le _, Nat.zero_le _⟩ (fun H locs hi59 hS60 => ?_)
                    refine x_aload_n M hl0 dL_isSo_617 1 rfl ?_
                    refine x_bipush M dL_isSo_618 rfl ?_
                    refine x_iald (c0 := 30) (t0 := 0) M hS60 (by decide) (hs_30 G _) rfl ⟨by decide, by decide⟩ (by decide) dL_isSo_620 ?_
                    refine x_icmp_ne (tgt := 728) M hi59 (hS60.inr _ _ _) dL_isSo_621 (by decide) (fun hc => ?_) (fun hc => ?_)
                    · have hf := iff_ hf hc
                      refine x_iconst M dL_isSo_728 ?_
                      exact x_zret M hr hf hS60 (Or.inl rfl) dL_isSo_729
                    · have hf := ift hf (Decidable.of_not_not hc)
                      refine x_aload_n M hl0 dL_isSo_624 0 rfl ?_
                      refine x_bipush M dL_isSo_625 rfl ?_
                      obtain ⟨r61, w62, hc63, hf⟩ := bdt hf
                      refine x_callVi (c0 := 10) (t0 := 0) (As := [iV 9]) (rest := []) M hl0 hS60 (c_X7_count l  ⟨by decide, by decide⟩ hc63) (cwV 1 M.2.2.2.2.1 gL_isSo_X7_count rfl rfl rfl (by decide +kernel) ⟨Nat.le_of_ble_eq_true rfl, Nat.le_of_ble_eq_true rfl⟩) (by decide) (sE_10 G _ _) rfl rfl (Nat.le_of_ble_eq_true rfl) dL_isSo_627 rfl ⟨Nat.zero_le _, Nat.zero_le _⟩ (fun H locs hi64 hS65 => ?_)
                      refine x_aload_n M hl0 dL_isSo_630 1 rfl ?_
                      refine x_bipush M dL_isSo_631 rfl ?_
                      refine x_iald (c0 := 30) (t0 := 0) M hS65 (by decide) (hs_30 G _) rfl ⟨by decide, by decide⟩ (by decide) dL_isSo_633 ?_
                      refine x_icmp_ne (tgt := 728) M hi64 (hS65.inr _ _ _) dL_isSo_634 (by decide) (fun hc => ?_) (fun hc => ?_)
                      · have hf := iff_ hf hc
                        refine x_iconst M dL_isSo_728 ?_
                        exact x_zret M hr hf hS65 (Or.inl rfl) dL_isSo_729
                      · have hf := ift hf (Decidable.of_not_not hc)
                        refine x_aload_n M hl0 dL_isSo_637 0 rfl ?_
                        refine x_bipush M dL_isSo_638 rfl ?_
                        obtain ⟨r66, w67, hc68, hf⟩ := bdt hf
                        refine x_callVi (c0 := 10) (t0 := 0) (As := [iV 10]) (rest := []) M hl0 hS65 (c_X7_count l  ⟨by decide, by decide⟩ hc68) (cwV 1 M.2.2.2.2.1 gL_isSo_X7_count rfl rfl rfl (by decide +kernel) ⟨Nat.le_of_ble_eq_true rfl, Nat.le_of_ble_eq_true rfl⟩) (by decide) (sE_10 G _ _) rfl rfl (Nat.le_of_ble_eq_true rfl) dL_isSo_640 rfl ⟨Nat.zero_le _, Nat.zero_le _⟩ (fun H locs hi69 hS70 => ?_)
                        refine x_iload M hl0 dL_isSo_643 7 rfl ?_
                        refine x_icmp_ne (tgt := 728) M hi69 hx9 dL_isSo_645 (by decide) (fun hc => ?_) (fun hc => ?_)
                        · have hf := iff_ hf hc
                          refine x_iconst M dL_isSo_728 ?_
                          exact x_zret M hr hf hS70 (Or.inl rfl) dL_isSo_729
                        · have hf := ift hf (Decidable.of_not_not hc)
                          refine x_aload_n M hl0 dL_isSo_648 0 rfl ?_
                          refine x_bipush M dL_isSo_649 rfl ?_
                          obtain ⟨r71, w72, hc73, hf⟩ := bdt hf
                          refine x_callVi (c0 := 10) (t0 := 0) (As := [iV 11]) (rest := []) M hl0 hS70 (c_X7_count l  ⟨by decide, by decide⟩ hc73) (cwV 1 M.2.2.2.2.1 gL_isSo_X7_count rfl rfl rfl (by decide +kernel) ⟨Nat.le_of_ble_eq_true rfl, Nat.le_of_ble_eq_true rfl⟩) (by decide) (sE_10 G _ _) rfl rfl (Nat.le_of_ble_eq_true rfl) dL_isSo_651 rfl ⟨Nat.zero_le _, Nat.zero_le _⟩ (fun H locs hi74 hS75 => ?_)
                          refine x_aload_n M hl0 dL_isSo_654 1 rfl ?_
                          refine x_iconst M dL_isSo_655 ?_
                          refine x_iald (c0 := 30) (t0 := 0) M hS75 (by decide) (hs_30 G _) rfl ⟨by decide, by decide⟩ (by decide) dL_isSo_656 ?_
                          refine x_icmp_ne (tgt := 728) M hi74 (hS75.inr _ _ _) dL_isSo_657 (by decide) (fun hc => ?_) (fun hc => ?_)
                          · have hf := iff_ hf hc
                            refine x_iconst M dL_isSo_728 ?_
                            exact x_zret M hr hf hS75 (Or.inl rfl) dL_isSo_729
                          · have hf := ift hf (Decidable.of_not_not hc)
                            refine x_aload_n M hl0 dL_isSo_660 0 rfl ?_
                            refine x_bipush M dL_isSo_661 rfl ?_
                            obtain ⟨r76, w77, hc78, hf⟩ := bdt hf
                            refine x_callVi (c0 := 10) (t0 := 0) (As := [iV 13]) (rest := []) M hl0 hS75 (c_X7_count l  ⟨by decide, by decide⟩ hc78) (cwV 1 M.2.2.2.2.1 gL_isSo_X7_count rfl rfl rfl (by decide +kernel) ⟨Nat.le_of_ble_eq_true rfl, Nat.le_of_ble_eq_true rfl⟩) (by decide) (sE_10 G _ _) rfl rfl (Nat.le_of_ble_eq_true rfl) dL_isSo_663 rfl ⟨Nat.zero_le _, Nat.zero_le _⟩ (fun H locs hi79 hS80 => ?_)
                            refine x_if_ne (tgt := 728) M hi79 dL_isSo_666 (by decide) (fun hc => ?_) (fun hc => ?_)
                            · have hf := iff_ hf hc
                              refine x_iconst M dL_isSo_728 ?_
                              exact x_zret M hr hf hS80 (Or.inl rfl) dL_isSo_729
                            · have hf := ift hf (Decidable.of_not_not hc)
                              refine x_aload_n M hl0 dL_isSo_669 0 rfl ?_
                              refine x_aload_n M hl0 dL_isSo_670 1 rfl ?_
                              refine x_iconst M dL_isSo_671 ?_
                              refine x_iald (c0 := 30) (t0 := 0) M hS80 (by decide) (hs_30 G _) rfl ⟨by decide, by decide⟩ (by decide) dL_isSo_672 ?_
                              refine x_iconst M dL_isSo_673 ?_
                              obtain ⟨r81, w82, hc83, hf⟩ := bdt hf
                              refine x_callVi (c0 := 10) (t0 := 0) (As := [iV (w77 30 0 0), iV 0]) (rest := []) M hl0 hS80 (c_X7_where l  (hS80.inr _ _ _) ⟨by decide, by decide⟩ hc83) (cwV 2 M.2.2.2.2.1 gL_isSo_X7_where rfl rfl rfl (by decide +kernel) ⟨Nat.le_of_ble_eq_true rfl, Nat.le_of_ble_eq_true rfl⟩) (by decide) (sE_10 G _ _) rfl rfl (Nat.le_of_ble_eq_true rfl) dL_isSo_674 rfl ⟨Nat.zero_le _, Nat.zero_le _⟩ (fun H locs hi84 hS85 => ?_)
                              refine x_iconst M dL_isSo_677 ?_
                              refine x_icmp_ne (tgt := 728) M hi84 ⟨by decide, by decide⟩ dL_isSo_678 (by decide) (fun hc => ?_) (fun hc => ?_)
                              · have hf := iff_ hf hc
                                refine x_iconst M dL_isSo_728 ?_
                                exact x_zret M hr hf hS85 (Or.inl rfl) dL_isSo_729
                              · have hf := ift hf (Decidable.of_not_not hc)
                                refine x_aload_n M hl0 dL_isSo_681 0 rfl ?_
                                refine x_iconst M dL_isSo_682 ?_
                                refine x_iconst M dL_isSo_683 ?_
                                obtain ⟨r86, w87, hc88, hf⟩ := bdt hf
                                refine x_callVi (c0 := 10) (t0 := 0) (As := [iV 0, iV ((-1))]) (rest := []) M hl0 hS85 (c_X7_where l  ⟨by decide, by decide⟩ ⟨by decide, by decide⟩ hc88) (cwV 2 M.2.2.2.2.1 gL_isSo_X7_where rfl rfl rfl (by decide +kernel) ⟨Nat.le_of_ble_eq_true rfl, Nat.le_of_ble_eq_true rfl⟩) (by decide) (sE_10 G _ _) rfl rfl (Nat.le_of_ble_eq_true rfl) dL_isSo_684 rfl ⟨Nat.zero_le _, Nat.zero_le _⟩ (fun H locs hi89 hS90 => ?_)
                                refine x_iconst M dL_isSo_687 ?_
                                refine x_icmp_ne (tgt := 728) M hi89 ⟨by decide, by decide⟩ dL_isSo_688 (by decide) (fun hc => ?_) (fun hc => ?_)
                                · have hf := iff_ hf hc
                                  refine x_iconst M dL_isSo_728 ?_
                                  exact x_zret M hr hf hS90 (Or.inl rfl) dL_isSo_729
                                · have hf := ift hf (Decidable.of_not_not hc)
                                  refine x_aload_n M hl0 dL_isSo_691 0 rfl ?_
                                  refine x_bipush M dL_isSo_692 rfl ?_
                                  refine x_iconst M dL_isSo_694 ?_
                                  obtain ⟨r91, w92, hc93, hf⟩ := bdt hf
                                  refine x_callVi (c0 := 10) (t0 := 0) (As := [iV 64, iV 0]) (rest := []) M hl0 hS90 (c_X7_copy l  ⟨by decide, by decide⟩ ⟨by decide, by decide⟩ hc93) (cwV 2 M.2.2.2.2.1 gL_isSo_X7_copy rfl rfl rfl (by decide +kernel) ⟨Nat.le_of_ble_eq_true rfl, Nat.le_of_ble_eq_true rfl⟩) (by decide) (sE_10 G _ _) rfl rfl (Nat.le_of_ble_eq_true rfl) dL_isSo_695 rfl ⟨Nat.zero_le _, Nat.zero_le _⟩ (fun H locs hi94 hS95 => ?_)
                                  refine x_iconst M dL_isSo_698 ?_
                                  refine x_icmp_ne (tgt := 728) M hi94 ⟨by decide, by decide⟩ dL_isSo_699 (by decide) (fun hc => ?_) (fun hc => ?_)
                                  · have hf := iff_ hf hc
                                    refine x_iconst M dL_isSo_728 ?_
                                    exact x_zret M hr hf hS95 (Or.inl rfl) dL_isSo_729
                                  · have hf := ift hf (Decidable.of_not_not hc)
                                    refine x_aload_n M hl0 dL_isSo_702 0 rfl ?_
                                    refine x_sipush M dL_isSo_703 rfl ?_
                                    refine x_iconst M dL_isSo_706 ?_
                                    obtain ⟨r96, w97, hc98, hf⟩ := bdt hf
                                    refine x_callVi (c0 := 10) (t0 := 0) (As := [iV 260, iV 0]) (rest := []) M hl0 hS95 (c_X7_copy l  ⟨by decide, by decide⟩ ⟨by decide, by decide⟩ hc98) (cwV 2 M.2.2.2.2.1 gL_isSo_X7_copy rfl rfl rfl (by decide +kernel) ⟨Nat.le_of_ble_eq_true rfl, Nat.le_of_ble_eq_true rfl⟩) (by decide) (sE_10 G _ _) rfl rfl (Nat.le_of_ble_eq_true rfl) dL_isSo_707 rfl ⟨Nat.zero_le _, Nat.zero_le _⟩ (fun H locs hi99 hS100 => ?_)
                                    refine x_iconst M dL_isSo_710 ?_
                                    refine x_icmp_ne (tgt := 728) M hi99 ⟨by decide, by decide⟩ dL_isSo_711 (by decide) (fun hc => ?_) (fun hc => ?_)
                                    · have hf := iff_ hf hc
                                      refine x_iconst M dL_isSo_728 ?_
                                      exact x_zret M hr hf hS100 (Or.inl rfl) dL_isSo_729
                                    · have hf := ift hf (Decidable.of_not_not hc)
                                      refine x_aload_n M hl0 dL_isSo_714 0 rfl ?_
                                      refine x_iconst M dL_isSo_715 ?_
                                      refine x_iconst M dL_isSo_716 ?_
                                      obtain ⟨r101, w102, hc103, hf⟩ := bdt hf
                                      refine x_callVi (c0 := 10) (t0 := 0) (As := [iV ((-1)), iV 0]) (rest := []) M hl0 hS100 (c_X7_copy l  ⟨by decide, by decide⟩ ⟨by decide, by decide⟩ hc103) (cwV 2 M.2.2.2.2.1 gL_isSo_X7_copy rfl rfl rfl (by decide +kernel) ⟨Nat.le_of_ble_eq_true rfl, Nat.le_of_ble_eq_true rfl⟩) (by decide) (sE_10 G _ _) rfl rfl (Nat.le_of_ble_eq_true rfl) dL_isSo_717 rfl ⟨Nat.zero_le _, Nat.zero_le _⟩ (fun H locs hi104 hS105 => ?_)
                                      refine x_iconst M dL_isSo_720 ?_
                                      refine x_icmp_ne (tgt := 728) M hi104 ⟨by decide, by decide⟩ dL_isSo_721 (by decide) (fun hc => ?_) (fun hc => ?_)
                                      · have hf := iff_ hf hc
                                        refine x_iconst M dL_isSo_728 ?_
                                        exact x_zret M hr hf hS105 (Or.inl rfl) dL_isSo_729
                                      · have hf := ift hf (Decidable.of_not_not hc)
                                        refine x_iconst M dL_isSo_724 ?_
                                        refine x_goto (tgt := 729) M dL_isSo_725 (by decide) ?_
                                        exact x_zret M hr hf hS105 (Or.inr rfl) dL_isSo_729

set_option maxHeartbeats 4000000 in
set_option maxRecDepth 100000 in
theorem L_isSo_b470_ok (M : MC p s m args meth c cL_isSo 15 RL wsL_isSo G) (hr : meth.sig.returnType = (some .boolean)) {K338 : Int → Int → Int → Int → Int → Wd → Option (Int × Wd)} (hK338 : ∀ x7 : Int, ∀ x8 : Int, ∀ x9 : Int, ∀ x10 : Int, ∀ x11 : Int, ∀ w : Wd, InR x7 → InR x8 → InR x9 → InR x10 → InR x11 → ∀ (H : Heap) (locs : List Loc), ST G s w H locs → ∀ ls : Array Slot, lv_has ls 15 [(0, .ref (G.1 10 0)), (1, .ref (G.1 30 0)), (3, .ref (G.1 32 0)), (4, .ref (G.1 34 0)), (5, .ref (G.1 35 0)), (6, .ref (G.1 36 0)), (7, iV x7), (8, iV x8), (9, iV x9), (10, iV x10), (11, iV x11)] → ∀ (r : Int) (w' : Wd), K338 x7 x8 x9 x10 x11 w = some (r, w') → W p l e (rmL 6 181) s m args below meth c H locs 0 0 (MQ below (QiG G r w') args s 0 0 (GA G)) (F0 m 338 ls [])) : ∀ x7 : Int, ∀ x8 : Int, ∀ x10 : Int, ∀ x11 : Int, ∀ x12 : Int, ∀ s0 : Int, ∀ s1 : Int, ∀ w : Wd, InR x7 → InR x8 → InR x10 → InR x11 → InR x12 → InR s0 → InR s1 → ∀ (H : Heap) (locs : List Loc), ST G s w H locs → ∀ ls : Array Slot, lv_has ls 15 [(0, .ref (G.1 10 0)), (1, .ref (G.1 30 0)), (3, .ref (G.1 32 0)), (4, .ref (G.1 34 0)), (5, .ref (G.1 35 0)), (6, .ref (G.1 36 0)), (7, iV x7), (8, iV x8), (10, iV x10), (11, iV x11), (12, iV x12)] → ∀ (r : Int) (w' : Wd), L_isSo_b470 K338 x7 x8 x10 x11 x12 s0 s1 w = some (r, w') → W p l e (rmL 6 181) s m args below meth c H locs 0 0 (MQ below (QiG G r w') args s 0 0 (GA G)) (F0 m 470 ls [iV s0, iV s1]) := by
  intro x7 x8 x10 x11 x12 s0 s1 w hx7 hx8 hx10 hx11 hx12 hs0 hs1 H locs hS0 ls hl0 r w' hf
  unfold L_isSo_b470 at hf
  obtain ⟨g109, hf⟩ := gdt hf
  refine x_iadd M dL_isSo_470 ?_
  refine x_istore M hl0 dL_isSo_471 (by decide) [(9, iV (s1 + s0)), (0, .ref (G.1 10 0)), (1, .ref (G.1 30 0)), (3, .ref (G.1 32 0)), (4, .ref (G.1 34 0)), (5, .ref (G.1 35 0)), (6, .ref (G.1 36 0)), (7, iV x7), (8, iV x8), (10, iV x10), (11, iV x11), (12, iV x12)] rfl (fun ls hl110 => ?_)
  refine x_iload M hl110 dL_isSo_473 9 rfl ?_
  refine x_if_eq (tgt := 495) M hx10 dL_isSo_475 (by decide) (fun hc => ?_) (fun hc => ?_)
  · have hf := ift hf hc
    refine x_iconst M dL_isSo_495 ?_
    refine x_istore M hl110 dL_isSo_496 (by decide) [(10, iV 0), (9, iV (s1 + s0)), (0, .ref (G.1 10 0)), (1, .ref (G.1 30 0)), (3, .ref (G.1 32 0)), (4, .ref (G.1 34 0)), (5, .ref (G.1 35 0)), (6, .ref (G.1 36 0)), (7, iV x7), (8, iV x8), (11, iV x11), (12, iV x12)] rfl (fun ls hl111 => ?_)
    obtain ⟨g112, hf⟩ := gdt hf
    refine x_iinc M hl111 dL_isSo_498 10 rfl (by decide) [(11, iV (x11 + 1)), (10, iV 0), (9, iV (s1 + s0)), (0, .ref (G.1 10 0)), (1, .ref (G.1 30 0)), (3, .ref (G.1 32 0)), (4, .ref (G.1 34 0)), (5, .ref (G.1 35 0)), (6, .ref (G.1 36 0)), (7, iV x7), (8, iV x8), (12, iV x12)] rfl (fun ls hl113 => ?_)
    refine x_goto (tgt := 338) M dL_isSo_501 (by decide) ?_
    exact hK338 x7 x8 (s1 + s0) 0 (x11 + 1) w hx7 hx8 g109 ⟨by decide, by decide⟩ g112 _ _ hS0 _ (lv_sub hl113 [3, 4, 5, 6, 7, 8, 9, 10, 2, 1, 0] rfl) _ _ hf
  · have hf := iff_ hf hc
    refine x_aload_n M hl110 dL_isSo_478 1 rfl ?_
    refine x_iload M hl110 dL_isSo_479 10 rfl ?_
    refine x_iload M hl110 dL_isSo_481 11 rfl ?_
    obtain ⟨r114, w115, hc116, hf⟩ := bdt hf
    refine x_callVi (c0 := 10) (t0 := 0) (As := [iV x11, iV x12]) (rest := []) M hl110 hS0 (c_X7_where l  hx11 hx12 hc116) (cwV 2 M.2.2.2.2.1 gL_isSo_X7_where rfl rfl rfl (by decide +kernel) ⟨Nat.le_of_ble_eq_true rfl, Nat.le_of_ble_eq_true rfl⟩) (by decide) (sE_10 G _ _) rfl rfl (Nat.le_of_ble_eq_true rfl) dL_isSo_483 rfl ⟨Nat.zero_le _, Nat.zero_le _⟩ (fun H locs hi117 hS118 => ?_)
    refine x_bipush M dL_isSo_486 rfl ?_
    refine x_icmp_ne (tgt := 495) M hi117 ⟨by decide, by decide⟩ dL_isSo_488 (by decide) (fun hc => ?_) (fun hc => ?_)
    · have hf := iff_ hf hc
      refine x_iconst M dL_isSo_495 ?_
      refine x_istore M hl110 dL_isSo_496 (by decide) [(10, iV 0), (9, iV (s1 + s0)), (0, .ref (G.1 10 0)), (1, .ref (G.1 30 0)), (3, .ref (G.1 32 0)), (4, .ref (G.1 34 0)), (5, .ref (G.1 35 0)), (6, .ref (G.1 36 0)), (7, iV x7), (8, iV x8), (11, iV x11), (12, iV x12)] rfl (fun ls hl119 => ?_)
      obtain ⟨g120, hf⟩ := gdt hf
      refine x_iinc M hl119 dL_isSo_498 10 rfl (by decide) [(11, iV (x11 + 1)), (10, iV 0), (9, iV (s1 + s0)), (0, .ref (G.1 10 0)), (1, .ref (G.1 30 0)), (3, .ref (G.1 32 0)), (4, .ref (G.1 34 0)), (5, .ref (G.1 35 0)), (6, .ref (G.1 36 0)), (7, iV x7), (8, iV x8), (12, iV x12)] rfl (fun ls hl121 => ?_)
      refine x_goto (tgt := 338) M dL_isSo_501 (by decide) ?_
      exact hK338 x7 x8 (s1 + s0) 0 (x11 + 1) w115 hx7 hx8 g109 ⟨by decide, by decide⟩ g120 _ _ hS118 _ (lv_sub hl121 [3, 4, 5, 6, 7, 8, 9, 10, 2, 1, 0] rfl) _ _ hf
    · have hf := ift hf (Decidable.of_not_not hc)
      refine x_iconst M dL_isSo_491 ?_
      refine x_goto (tgt := 496) M dL_isSo_492 (by decide) ?_
      refine x_istore M hl110 dL_isSo_496 (by decide) [(10, iV 1), (9, iV (s1 + s0)), (0, .ref (G.1 10 0)), (1, .ref (G.1 30 0)), (3, .ref (G.1 32 0)), (4, .ref (G.1 34 0)), (5, .ref (G.1 35 0)), (6, .ref (G.1 36 0)), (7, iV x7), (8, iV x8), (11, iV x11), (12, iV x12)] rfl (fun ls hl122 => ?_)
      obtain ⟨g123, hf⟩ := gdt hf
      refine x_iinc M hl122 dL_isSo_498 10 rfl (by decide) [(11, iV (x11 + 1)), (10, iV 1), (9, iV (s1 + s0)), (0, .ref (G.1 10 0)), (1, .ref (G.1 30 0)), (3, .ref (G.1 32 0)), (4, .ref (G.1 34 0)), (5, .ref (G.1 35 0)), (6, .ref (G.1 36 0)), (7, iV x7), (8, iV x8), (12, iV x12)] rfl (fun ls hl124 => ?_)
      refine x_goto (tgt := 338) M dL_isSo_501 (by decide) ?_
      exact hK338 x7 x8 (s1 + s0) 1 (x11 + 1) w115 hx7 hx8 g109 ⟨by decide, by decide⟩ g123 _ _ hS118 _ (lv_sub hl124 [3, 4, 5, 6, 7, 8, 9, 10, 2, 1, 0] rfl) _ _ hf

set_option maxHeartbeats 4000000 in
set_option maxRecDepth 100000 in
theorem L_isSo_b416_ok (M : MC p s m args meth c cL_isSo 15 RL wsL_isSo G) (hr : meth.sig.returnType = (some .boolean)) {K338 : Int → Int → Int → Int → Int → Wd → Option (Int × Wd)} {K360 : Int → Int → Int → Int → Int → Int → Int → Int → Wd → Option (Int × Wd)} (hK338 : ∀ x7 : Int, ∀ x8 : Int, ∀ x9 : Int, ∀ x10 : Int, ∀ x11 : Int, ∀ w : Wd, InR x7 → InR x8 → InR x9 → InR x10 → InR x11 → ∀ (H : Heap) (locs : List Loc), ST G s w H locs → ∀ ls : Array Slot, lv_has ls 15 [(0, .ref (G.1 10 0)), (1, .ref (G.1 30 0)), (3, .ref (G.1 32 0)), (4, .ref (G.1 34 0)), (5, .ref (G.1 35 0)), (6, .ref (G.1 36 0)), (7, iV x7), (8, iV x8), (9, iV x9), (10, iV x10), (11, iV x11)] → ∀ (r : Int) (w' : Wd), K338 x7 x8 x9 x10 x11 w = some (r, w') → W p l e (rmL 6 181) s m args below meth c H locs 0 0 (MQ below (QiG G r w') args s 0 0 (GA G)) (F0 m 338 ls [])) (hK360 : ∀ x7 : Int, ∀ x8 : Int, ∀ x9 : Int, ∀ x10 : Int, ∀ x11 : Int, ∀ x12 : Int, ∀ x13 : Int, ∀ x14 : Int, ∀ w : Wd, InR x7 → InR x8 → InR x9 → InR x10 → InR x11 → InR x12 → InR x13 → InR x14 → ∀ (H : Heap) (locs : List Loc), ST G s w H locs → ∀ ls : Array Slot, lv_has ls 15 [(0, .ref (G.1 10 0)), (1, .ref (G.1 30 0)), (3, .ref (G.1 32 0)), (4, .ref (G.1 34 0)), (5, .ref (G.1 35 0)), (6, .ref (G.1 36 0)), (7, iV x7), (8, iV x8), (9, iV x9), (10, iV x10), (11, iV x11), (12, iV x12), (13, iV x13), (14, iV x14)] → ∀ (r : Int) (w' : Wd), K360 x7 x8 x9 x10 x11 x12 x13 x14 w = some (r, w') → W p l e (rmL 6 181) s m args below meth c H locs 0 0 (MQ below (QiG G r w') args s 0 0 (GA G)) (F0 m 360 ls [])) : ∀ x7 : Int, ∀ x8 : Int, ∀ x9 : Int, ∀ x11 : Int, ∀ x12 : Int, ∀ x13 : Int, ∀ x14 : Int, ∀ s0 : Int, ∀ w : Wd, InR x7 → InR x8 → InR x9 → InR x11 → InR x12 → InR x13 → InR x14 → InR s0 → ∀ (H : Heap) (locs : List Loc), ST G s w H locs → ∀ ls : Array Slot, lv_has ls 15 [(0, .ref (G.1 10 0)), (1, .ref (G.1 30 0)), (3, .ref (G.1 32 0)), (4, .ref (G.1 34 0)), (5, .ref (G.1 35 0)), (6, .ref (G.1 36 0)), (7, iV x7), (8, iV x8), (9, iV x9), (11, iV x11), (12, iV x12), (13, iV x13), (14, iV x14)] → ∀ (r : Int) (w' : Wd), L_isSo_b416 K338 K360 x7 x8 x9 x11 x12 x13 x14 s0 w = some (r, w') → W p l e (rmL 6 181) s m args below meth c H locs 0 0 (MQ below (QiG G r w') args s 0 0 (GA G)) (F0 m 416 ls [iV s0]) := by
  intro x7 x8 x9 x11 x12 x13 x14 s0 w hx7 hx8 hx9 hx11 hx12 hx13 hx14 hs0 H locs hS0 ls hl0 r w' hf
  unfold L_isSo_b416 at hf
  refine x_istore M hl0 dL_isSo_416 (by decide) [(10, iV s0), (0, .ref (G.1 10 0)), (1, .ref (G.1 30 0)), (3, .ref (G.1 32 0)), (4, .ref (G.1 34 0)), (5, .ref (G.1 35 0)), (6, .ref (G.1 36 0)), (7, iV x7), (8, iV x8), (9, iV x9), (11, iV x11), (12, iV x12), (13, iV x13), (14, iV x14)] rfl (fun ls hl152 => ?_)
  obtain ⟨g153, hf⟩ := gdt hf
  refine x_iinc M hl152 dL_isSo_418 11 rfl (by decide) [(12, iV (x12 + 1)), (10, iV s0), (0, .ref (G.1 10 0)), (1, .ref (G.1 30 0)), (3, .ref (G.1 32 0)), (4, .ref (G.1 34 0)), (5, .ref (G.1 35 0)), (6, .ref (G.1 36 0)), (7, iV x7), (8, iV x8), (9, iV x9), (11, iV x11), (13, iV x13), (14, iV x14)] rfl (fun ls hl154 => ?_)
  refine x_iload M hl154 dL_isSo_421 12 rfl ?_
  refine x_aload_n M hl154 dL_isSo_423 3 rfl ?_
  refine x_iconst M dL_isSo_424 ?_
  refine x_iald (c0 := 30) (t0 := 0) M hS0 (by decide) (hs_30 G _) rfl ⟨by decide, by decide⟩ (by decide) dL_isSo_425 ?_
  refine x_iconst M dL_isSo_426 ?_
  refine x_icmp_ne (tgt := 447) M (hS0.inr _ _ _) ⟨by decide, by decide⟩ dL_isSo_427 (by decide) (fun hc => ?_) (fun hc => ?_)
  · have hf := iff_ hf hc
    refine x_iconst M dL_isSo_447 ?_
    obtain ⟨g155, hf⟩ := gdt hf
    refine x_iadd M dL_isSo_448 ?_
    refine x_istore M hl154 dL_isSo_449 (by decide) [(13, iV (x13 + 1)), (12, iV (x12 + 1)), (10, iV s0), (0, .ref (G.1 10 0)), (1, .ref (G.1 30 0)), (3, .ref (G.1 32 0)), (4, .ref (G.1 34 0)), (5, .ref (G.1 35 0)), (6, .ref (G.1 36 0)), (7, iV x7), (8, iV x8), (9, iV x9), (11, iV x11), (14, iV x14)] rfl (fun ls hl156 => ?_)
    obtain ⟨g157, hf⟩ := gdt hf
    refine x_iinc M hl156 dL_isSo_451 13 rfl (by decide) [(14, iV (x14 + 1)), (13, iV (x13 + 1)), (12, iV (x12 + 1)), (10, iV s0), (0, .ref (G.1 10 0)), (1, .ref (G.1 30 0)), (3, .ref (G.1 32 0)), (4, .ref (G.1 34 0)), (5, .ref (G.1 35 0)), (6, .ref (G.1 36 0)), (7, iV x7), (8, iV x8), (9, iV x9), (11, iV x11)] rfl (fun ls hl158 => ?_)
    refine x_goto (tgt := 360) M dL_isSo_454 (by decide) ?_
    exact hK360 x7 x8 x9 s0 x11 (x12 + 1) (x13 + 1) (x14 + 1) w hx7 hx8 hx9 hs0 hx11 g153 g155 g157 _ _ hS0 _ (lv_sub hl158 [4, 5, 6, 7, 8, 9, 10, 11, 12, 3, 13, 2, 1, 0] rfl) _ _ hf
  · have hf := ift hf (Decidable.of_not_not hc)
    refine x_iload M hl154 dL_isSo_430 13 rfl ?_
    refine x_bipush M dL_isSo_432 rfl ?_
    obtain ⟨g159, hf⟩ := gdt hf
    refine x_idiv M hx14 ⟨by decide, by decide⟩ ⟨g159, by decide⟩ dL_isSo_434 ?_
    refine x_iconst M dL_isSo_435 ?_
    refine x_aload_n M hl154 dL_isSo_436 3 rfl ?_
    refine x_iconst M dL_isSo_437 ?_
    refine x_iald (c0 := 30) (t0 := 0) M hS0 (by decide) (hs_30 G _) rfl ⟨by decide, by decide⟩ (by decide) dL_isSo_438 ?_
    obtain ⟨g160, hf⟩ := gdt hf
    refine x_isub M dL_isSo_439 ?_
    refine x_icmp_ne (tgt := 447) M (o_inr_div hx14 ⟨g159, by decide⟩) g160 dL_isSo_440 (by decide) (fun hc => ?_) (fun hc => ?_)
    · have hf := iff_ hf hc
      refine x_iconst M dL_isSo_447 ?_
      obtain ⟨g161, hf⟩ := gdt hf
      refine x_iadd M dL_isSo_448 ?_
      refine x_istore M hl154 dL_isSo_449 (by decide) [(13, iV (x13 + 1)), (12, iV (x12 + 1)), (10, iV s0), (0, .ref (G.1 10 0)), (1, .ref (G.1 30 0)), (3, .ref (G.1 32 0)), (4, .ref (G.1 34 0)), (5, .ref (G.1 35 0)), (6, .ref (G.1 36 0)), (7, iV x7), (8, iV x8), (9, iV x9), (11, iV x11), (14, iV x14)] rfl (fun ls hl162 => ?_)
      obtain ⟨g163, hf⟩ := gdt hf
      refine x_iinc M hl162 dL_isSo_451 13 rfl (by decide) [(14, iV (x14 + 1)), (13, iV (x13 + 1)), (12, iV (x12 + 1)), (10, iV s0), (0, .ref (G.1 10 0)), (1, .ref (G.1 30 0)), (3, .ref (G.1 32 0)), (4, .ref (G.1 34 0)), (5, .ref (G.1 35 0)), (6, .ref (G.1 36 0)), (7, iV x7), (8, iV x8), (9, iV x9), (11, iV x11)] rfl (fun ls hl164 => ?_)
      refine x_goto (tgt := 360) M dL_isSo_454 (by decide) ?_
      exact hK360 x7 x8 x9 s0 x11 (x12 + 1) (x13 + 1) (x14 + 1) w hx7 hx8 hx9 hs0 hx11 g153 g161 g163 _ _ hS0 _ (lv_sub hl164 [4, 5, 6, 7, 8, 9, 10, 11, 12, 3, 13, 2, 1, 0] rfl) _ _ hf
    · have hf := ift hf (Decidable.of_not_not hc)
      refine x_iconst M dL_isSo_443 ?_
      refine x_goto (tgt := 448) M dL_isSo_444 (by decide) ?_
      obtain ⟨g165, hf⟩ := gdt hf
      refine x_iadd M dL_isSo_448 ?_
      refine x_istore M hl154 dL_isSo_449 (by decide) [(13, iV (x13 + 0)), (12, iV (x12 + 1)), (10, iV s0), (0, .ref (G.1 10 0)), (1, .ref (G.1 30 0)), (3, .ref (G.1 32 0)), (4, .ref (G.1 34 0)), (5, .ref (G.1 35 0)), (6, .ref (G.1 36 0)), (7, iV x7), (8, iV x8), (9, iV x9), (11, iV x11), (14, iV x14)] rfl (fun ls hl166 => ?_)
      obtain ⟨g167, hf⟩ := gdt hf
      refine x_iinc M hl166 dL_isSo_451 13 rfl (by decide) [(14, iV (x14 + 1)), (13, iV (x13 + 0)), (12, iV (x12 + 1)), (10, iV s0), (0, .ref (G.1 10 0)), (1, .ref (G.1 30 0)), (3, .ref (G.1 32 0)), (4, .ref (G.1 34 0)), (5, .ref (G.1 35 0)), (6, .ref (G.1 36 0)), (7, iV x7), (8, iV x8), (9, iV x9), (11, iV x11)] rfl (fun ls hl168 => ?_)
      refine x_goto (tgt := 360) M dL_isSo_454 (by decide) ?_
      exact hK360 x7 x8 x9 s0 x11 (x12 + 1) (x13 + 0) (x14 + 1) w hx7 hx8 hx9 hs0 hx11 g153 g165 g167 _ _ hS0 _ (lv_sub hl168 [4, 5, 6, 7, 8, 9, 10, 11, 12, 3, 13, 2, 1, 0] rfl) _ _ hf

set_option maxHeartbeats 4000000 in
set_option maxRecDepth 100000 in
theorem L_isSo_b360_ok (M : MC p s m args meth c cL_isSo 15 RL wsL_isSo G) (hr : meth.sig.returnType = (some .boolean)) {K338 : Int → Int → Int → Int → Int → Wd → Option (Int × Wd)} (hK338 : ∀ x7 : Int, ∀ x8 : Int, ∀ x9 : Int, ∀ x10 : Int, ∀ x11 : Int, ∀ w : Wd, InR x7 → InR x8 → InR x9 → InR x10 → InR x11 → ∀ (H : Heap) (locs : List Loc), ST G s w H locs → ∀ ls : Array Slot, lv_has ls 15 [(0, .ref (G.1 10 0)), (1, .ref (G.1 30 0)), (3, .ref (G.1 32 0)), (4, .ref (G.1 34 0)), (5, .ref (G.1 35 0)), (6, .ref (G.1 36 0)), (7, iV x7), (8, iV x8), (9, iV x9), (10, iV x10), (11, iV x11)] → ∀ (r : Int) (w' : Wd), K338 x7 x8 x9 x10 x11 w = some (r, w') → W p l e (rmL 6 181) s m args below meth c H locs 0 0 (MQ below (QiG G r w') args s 0 0 (GA G)) (F0 m 338 ls [])) : ∀ n : Nat, ∀ x7 : Int, ∀ x8 : Int, ∀ x9 : Int, ∀ x10 : Int, ∀ x11 : Int, ∀ x12 : Int, ∀ x13 : Int, ∀ x14 : Int, ∀ w : Wd, InR x7 → InR x8 → InR x9 → InR x10 → InR x11 → InR x12 → InR x13 → InR x14 → ∀ (H : Heap) (locs : List Loc), ST G s w H locs → ∀ ls : Array Slot, lv_has ls 15 [(0, .ref (G.1 10 0)), (1, .ref (G.1 30 0)), (3, .ref (G.1 32 0)), (4, .ref (G.1 34 0)), (5, .ref (G.1 35 0)), (6, .ref (G.1 36 0)), (7, iV x7), (8, iV x8), (9, iV x9), (10, iV x10), (11, iV x11), (12, iV x12), (13, iV x13), (14, iV x14)] → ∀ (r : Int) (w' : Wd), L_isSo_b360 K338 n x7 x8 x9 x10 x11 x12 x13 x14 w = some (r, w') → W p l e (rmL 6 181) s m args below meth c H locs 0 0 (MQ below (QiG G r w') args s 0 0 (GA G)) (F0 m 360 ls []) := by
  intro n
  induction n with
  | zero =>
    intro x7 x8 x9 x10 x11 x12 x13 x14 w hx7 hx8 hx9 hx10 hx11 hx12 hx13 hx14 H locs hS0 ls hl0 r w' hf
    cases hf
  | succ n ih =>
    intro x7 x8 x9 x10 x11 x12 x13 x14 w hx7 hx8 hx9 hx10 hx11 hx12 hx13 hx14 H locs hS0 ls hl0 r w' hf
    rw [L_isSo_b360_s] at hf
    refine x_iload M hl0 dL_isSo_360 13 rfl ?_
    refine x_sipush M dL_isSo_362 rfl ?_
    refine x_icmp_ge (tgt := 457) M hx14 ⟨by decide, by decide⟩ dL_isSo_365 (by decide) (fun hc => ?_) (fun hc => ?_)
    · have hf := iff_ hf (Int.not_lt.mpr hc)
      refine x_iload M hl0 dL_isSo_457 8 rfl ?_
      refine x_iload M hl0 dL_isSo_459 12 rfl ?_
      refine x_iconst M dL_isSo_461 ?_
      refine x_icmp_le (tgt := 469) M hx13 ⟨by decide, by decide⟩ dL_isSo_462 (by decide) (fun hc => ?_) (fun hc => ?_)
      · have hf := iff_ hf (Int.not_lt.mpr hc)
        refine x_iconst M dL_isSo_469 ?_
        exact L_isSo_b470_ok M hr hK338 x7 x8 x10 x11 x12 0 x9 w hx7 hx8 hx10 hx11 hx12 ⟨by decide, by decide⟩ hx9 _ _ hS0 _ (lv_sub hl0 [0, 1, 2, 3, 4, 5, 6, 7, 9, 10, 11] rfl) _ _ hf
      · have hf := ift hf (Int.not_le.mp hc)
        refine x_iconst M dL_isSo_465 ?_
        refine x_goto (tgt := 470) M dL_isSo_466 (by decide) ?_
        exact L_isSo_b470_ok M hr hK338 x7 x8 x10 x11 x12 1 x9 w hx7 hx8 hx10 hx11 hx12 ⟨by decide, by decide⟩ hx9 _ _ hS0 _ (lv_sub hl0 [0, 1, 2, 3, 4, 5, 6, 7, 9, 10, 11] rfl) _ _ hf
    · have hf := ift hf (Int.not_le.mp hc)
      refine x_iload M hl0 dL_isSo_368 9 rfl ?_
      refine x_if_eq (tgt := 457) M hx10 dL_isSo_370 (by decide) (fun hc => ?_) (fun hc => ?_)
      · have hf := ift hf hc
        refine x_iload M hl0 dL_isSo_457 8 rfl ?_
        refine x_iload M hl0 dL_isSo_459 12 rfl ?_
        refine x_iconst M dL_isSo_461 ?_
        refine x_icmp_le (tgt := 469) M hx13 ⟨by decide, by decide⟩ dL_isSo_462 (by decide) (fun hc => ?_) (fun hc => ?_)
        · have hf := iff_ hf (Int.not_lt.mpr hc)
          refine x_iconst M dL_isSo_469 ?_
          exact L_isSo_b470_ok M hr hK338 x7 x8 x10 x11 x12 0 x9 w hx7 hx8 hx10 hx11 hx12 ⟨by decide, by decide⟩ hx9 _ _ hS0 _ (lv_sub hl0 [0, 1, 2, 3, 4, 5, 6, 7, 9, 10, 11] rfl) _ _ hf
        · have hf := ift hf (Int.not_le.mp hc)
          refine x_iconst M dL_isSo_465 ?_
          refine x_goto (tgt := 470) M dL_isSo_466 (by decide) ?_
          exact L_isSo_b470_ok M hr hK338 x7 x8 x10 x11 x12 1 x9 w hx7 hx8 hx10 hx11 hx12 ⟨by decide, by decide⟩ hx9 _ _ hS0 _ (lv_sub hl0 [0, 1, 2, 3, 4, 5, 6, 7, 9, 10, 11] rfl) _ _ hf
      · have hf := iff_ hf hc
        refine x_aload M hl0 dL_isSo_373 3 rfl ?_
        refine x_aload M hl0 dL_isSo_375 4 rfl ?_
        refine x_aload M hl0 dL_isSo_377 5 rfl ?_
        refine x_iload M hl0 dL_isSo_379 13 rfl ?_
        obtain ⟨r125, w126, hc127, hf⟩ := bdt hf
        refine x_callTi (As := [iV x14]) (rest := [.ref (G.1 36 0), .ref (G.1 35 0), .ref (G.1 34 0)]) M hl0 hS0 (c_L_address l  hx14 hc127) (va_cwS 1 M.2.2.2.2.1 gL_isSo_L_address rfl rfl rfl (by decide +kernel) ⟨Nat.le_of_ble_eq_true rfl, Nat.le_of_ble_eq_true rfl⟩) (Nat.le_of_ble_eq_true rfl) rfl (Nat.le_of_ble_eq_true rfl) dL_isSo_381 rfl ⟨Nat.zero_le _, Nat.zero_le _⟩ (fun H locs hi128 hS129 => ?_)
        obtain ⟨r130, w131, hc132, hf⟩ := bdt hf
        refine x_callTl (As := [.ref (G.1 34 0), .ref (G.1 35 0), .ref (G.1 36 0), iV r125]) (rest := []) M hl0 hS129 (c_L_at l  hi128 hc132) (va_cwS 4 M.2.2.2.2.1 gL_isSo_L_at rfl rfl rfl (by decide +kernel) ⟨Nat.le_of_ble_eq_true rfl, Nat.le_of_ble_eq_true rfl⟩) (Nat.le_of_ble_eq_true rfl) rfl (Nat.le_of_ble_eq_true rfl) dL_isSo_384 rfl ⟨Nat.zero_le _, Nat.zero_le _⟩ (fun H locs hi133 hS134 => ?_)
        obtain ⟨r135, w136, hc137, hf⟩ := bdt hf
        refine x_callTi (As := [lV r130]) (rest := []) M hl0 hS134 (c_L_thing l  hi133 hc137) (va_cwS 1 M.2.2.2.2.1 gL_isSo_L_thing rfl rfl rfl (by decide +kernel) ⟨Nat.le_of_ble_eq_true rfl, Nat.le_of_ble_eq_true rfl⟩) (Nat.le_of_ble_eq_true rfl) rfl (Nat.le_of_ble_eq_true rfl) dL_isSo_387 rfl ⟨Nat.zero_le _, Nat.zero_le _⟩ (fun H locs hi138 hS139 => ?_)
        refine x_iload M hl0 dL_isSo_390 10 rfl ?_
        refine x_icmp_ne (tgt := 451) M hi138 hx11 dL_isSo_392 (by decide) (fun hc => ?_) (fun hc => ?_)
        · have hf := iff_ hf hc
          obtain ⟨g140, hf⟩ := gdt hf
          refine x_iinc M hl0 dL_isSo_451 13 rfl (by decide) [(14, iV (x14 + 1)), (0, .ref (G.1 10 0)), (1, .ref (G.1 30 0)), (3, .ref (G.1 32 0)), (4, .ref (G.1 34 0)), (5, .ref (G.1 35 0)), (6, .ref (G.1 36 0)), (7, iV x7), (8, iV x8), (9, iV x9), (10, iV x10), (11, iV x11), (12, iV x12), (13, iV x13)] rfl (fun ls hl141 => ?_)
          refine x_goto (tgt := 360) M dL_isSo_454 (by decide) ?_
          exact ih x7 x8 x9 x10 x11 x12 x13 (x14 + 1) w136 hx7 hx8 hx9 hx10 hx11 hx12 hx13 g140 _ _ hS139 _ (lv_sub hl141 [1, 2, 3, 4, 5, 6, 7, 8, 9, 10, 11, 12, 13, 0] rfl) _ _ hf
        · have hf := ift hf (Decidable.of_not_not hc)
          refine x_aload_n M hl0 dL_isSo_395 0 rfl ?_
          refine x_iload M hl0 dL_isSo_396 10 rfl ?_
          refine x_iload M hl0 dL_isSo_398 11 rfl ?_
          obtain ⟨r142, w143, hc144, hf⟩ := bdt hf
          refine x_callVi (c0 := 10) (t0 := 0) (As := [iV x11, iV x12]) (rest := []) M hl0 hS139 (c_X7_where l  hx11 hx12 hc144) (cwV 2 M.2.2.2.2.1 gL_isSo_X7_where rfl rfl rfl (by decide +kernel) ⟨Nat.le_of_ble_eq_true rfl, Nat.le_of_ble_eq_true rfl⟩) (by decide) (sE_10 G _ _) rfl rfl (Nat.le_of_ble_eq_true rfl) dL_isSo_400 rfl ⟨Nat.zero_le _, Nat.zero_le _⟩ (fun H locs hi145 hS146 => ?_)
          refine x_iload M hl0 dL_isSo_403 13 rfl ?_
          obtain ⟨r147, w148, hc149, hf⟩ := bdt hf
          refine x_callTi (As := [iV x14]) (rest := [iV r142]) M hl0 hS146 (c_L_address l  hx14 hc149) (va_cwS 1 M.2.2.2.2.1 gL_isSo_L_address rfl rfl rfl (by decide +kernel) ⟨Nat.le_of_ble_eq_true rfl, Nat.le_of_ble_eq_true rfl⟩) (Nat.le_of_ble_eq_true rfl) rfl (Nat.le_of_ble_eq_true rfl) dL_isSo_405 rfl ⟨Nat.zero_le _, Nat.zero_le _⟩ (fun H locs hi150 hS151 => ?_)
          refine x_icmp_ne (tgt := 415) M hi145 hi150 dL_isSo_408 (by decide) (fun hc => ?_) (fun hc => ?_)
          · have hf := iff_ hf hc
            refine x_iconst M dL_isSo_415 ?_
            exact L_isSo_b416_ok M hr hK338 ih x7 x8 x9 x11 x12 x13 x14 0 w148 hx7 hx8 hx9 hx11 hx12 hx13 hx14 ⟨by decide, by decide⟩ _ _ hS151 _ (lv_sub hl0 [0, 1, 2, 3, 4, 5, 6, 7, 8, 10, 11, 12, 13] rfl) _ _ hf
          · have hf := ift hf (Decidable.of_not_not hc)
            refine x_iconst M dL_isSo_411 ?_
            refine x_goto (tgt := 416) M dL_isSo_412 (by decide) ?_
            exact L_isSo_b416_ok M hr hK338 ih x7 x8 x9 x11 x12 x13 x14 1 w148 hx7 hx8 hx9 hx11 hx12 hx13 hx14 ⟨by decide, by decide⟩ _ _ hS151 _ (lv_sub hl0 [0, 1, 2, 3, 4, 5, 6, 7, 8, 10, 11, 12, 13] rfl) _ _ hf

set_option maxHeartbeats 4000000 in
set_option maxRecDepth 100000 in
theorem L_isSo_b338_ok (M : MC p s m args meth c cL_isSo 15 RL wsL_isSo G) (hr : meth.sig.returnType = (some .boolean)) : ∀ n : Nat, ∀ x7 : Int, ∀ x8 : Int, ∀ x9 : Int, ∀ x10 : Int, ∀ x11 : Int, ∀ w : Wd, InR x7 → InR x8 → InR x9 → InR x10 → InR x11 → ∀ (H : Heap) (locs : List Loc), ST G s w H locs → ∀ ls : Array Slot, lv_has ls 15 [(0, .ref (G.1 10 0)), (1, .ref (G.1 30 0)), (3, .ref (G.1 32 0)), (4, .ref (G.1 34 0)), (5, .ref (G.1 35 0)), (6, .ref (G.1 36 0)), (7, iV x7), (8, iV x8), (9, iV x9), (10, iV x10), (11, iV x11)] → ∀ (r : Int) (w' : Wd), L_isSo_b338 n x7 x8 x9 x10 x11 w = some (r, w') → W p l e (rmL 6 181) s m args below meth c H locs 0 0 (MQ below (QiG G r w') args s 0 0 (GA G)) (F0 m 338 ls []) := by
  intro n
  induction n with
  | zero =>
    intro x7 x8 x9 x10 x11 w hx7 hx8 hx9 hx10 hx11 H locs hS0 ls hl0 r w' hf
    cases hf
  | succ n ih =>
    intro x7 x8 x9 x10 x11 w hx7 hx8 hx9 hx10 hx11 H locs hS0 ls hl0 r w' hf
    rw [L_isSo_b338_s] at hf
    refine x_iload M hl0 dL_isSo_338 10 rfl ?_
    refine x_aload_n M hl0 dL_isSo_340 1 rfl ?_
    refine x_iconst M dL_isSo_341 ?_
    refine x_iald (c0 := 30) (t0 := 0) M hS0 (by decide) (hs_30 G _) rfl ⟨by decide, by decide⟩ (by decide) dL_isSo_342 ?_
    refine x_icmp_ge (tgt := 504) M hx11 (hS0.inr _ _ _) dL_isSo_343 (by decide) (fun hc => ?_) (fun hc => ?_)
    · have hf := iff_ hf (Int.not_lt.mpr hc)
      exact L_isSo_b504_ok M hr x7 x8 x9 x10 w hx7 hx8 hx9 hx10 _ _ hS0 _ (lv_sub hl0 [0, 1, 2, 3, 4, 6, 7, 8, 9] rfl) _ _ hf
    · have hf := ift hf (Int.not_le.mp hc)
      refine x_iload M hl0 dL_isSo_346 9 rfl ?_
      refine x_if_eq (tgt := 504) M hx10 dL_isSo_348 (by decide) (fun hc => ?_) (fun hc => ?_)
      · have hf := ift hf hc
        exact L_isSo_b504_ok M hr x7 x8 x9 x10 w hx7 hx8 hx9 hx10 _ _ hS0 _ (lv_sub hl0 [0, 1, 2, 3, 4, 6, 7, 8, 9] rfl) _ _ hf
      · have hf := iff_ hf hc
        refine x_iconst M dL_isSo_351 ?_
        refine x_istore M hl0 dL_isSo_352 (by decide) [(12, iV 0), (0, .ref (G.1 10 0)), (1, .ref (G.1 30 0)), (3, .ref (G.1 32 0)), (4, .ref (G.1 34 0)), (5, .ref (G.1 35 0)), (6, .ref (G.1 36 0)), (7, iV x7), (8, iV x8), (9, iV x9), (10, iV x10), (11, iV x11)] rfl (fun ls hl106 => ?_)
        refine x_iconst M dL_isSo_354 ?_
        refine x_istore M hl106 dL_isSo_355 (by decide) [(13, iV 0), (12, iV 0), (0, .ref (G.1 10 0)), (1, .ref (G.1 30 0)), (3, .ref (G.1 32 0)), (4, .ref (G.1 34 0)), (5, .ref (G.1 35 0)), (6, .ref (G.1 36 0)), (7, iV x7), (8, iV x8), (9, iV x9), (10, iV x10), (11, iV x11)] rfl (fun ls hl107 => ?_)
        refine x_iconst M dL_isSo_357 ?_
        refine x_istore M hl107 dL_isSo_358 (by decide) [(14, iV 0), (13, iV 0), (12, iV 0), (0, .ref (G.1 10 0)), (1, .ref (G.1 30 0)), (3, .ref (G.1 32 0)), (4, .ref (G.1 34 0)), (5, .ref (G.1 35 0)), (6, .ref (G.1 36 0)), (7, iV x7), (8, iV x8), (9, iV x9), (10, iV x10), (11, iV x11)] rfl (fun ls hl108 => ?_)
        exact L_isSo_b360_ok M hr ih LF x7 x8 x9 x10 x11 0 0 0 w hx7 hx8 hx9 hx10 hx11 ⟨by decide, by decide⟩ ⟨by decide, by decide⟩ ⟨by decide, by decide⟩ _ _ hS0 _ (lv_sub hl108 [3, 4, 5, 6, 7, 8, 9, 10, 11, 12, 13, 2, 1, 0] rfl) _ _ hf

set_option maxHeartbeats 4000000 in
set_option maxRecDepth 100000 in
theorem L_isSo_b293_ok (M : MC p s m args meth c cL_isSo 15 RL wsL_isSo G) (hr : meth.sig.returnType = (some .boolean)) {K57 : Int → Int → Int → Int → Int → Wd → Option (Int × Wd)} (hK57 : ∀ x7 : Int, ∀ x8 : Int, ∀ x9 : Int, ∀ x10 : Int, ∀ x11 : Int, ∀ w : Wd, InR x7 → InR x8 → InR x9 → InR x10 → InR x11 → ∀ (H : Heap) (locs : List Loc), ST G s w H locs → ∀ ls : Array Slot, lv_has ls 15 [(0, .ref (G.1 10 0)), (1, .ref (G.1 30 0)), (3, .ref (G.1 32 0)), (4, .ref (G.1 34 0)), (5, .ref (G.1 35 0)), (6, .ref (G.1 36 0)), (7, iV x7), (8, iV x8), (9, iV x9), (10, iV x10), (11, iV x11)] → ∀ (r : Int) (w' : Wd), K57 x7 x8 x9 x10 x11 w = some (r, w') → W p l e (rmL 6 181) s m args below meth c H locs 0 0 (MQ below (QiG G r w') args s 0 0 (GA G)) (F0 m 57 ls [])) : ∀ x7 : Int, ∀ x8 : Int, ∀ x9 : Int, ∀ x11 : Int, ∀ x13 : Int, ∀ w : Wd, InR x7 → InR x8 → InR x9 → InR x11 → InL x13 → ∀ (H : Heap) (locs : List Loc), ST G s w H locs → ∀ ls : Array Slot, lv_has ls 15 [(0, .ref (G.1 10 0)), (1, .ref (G.1 30 0)), (3, .ref (G.1 32 0)), (4, .ref (G.1 34 0)), (5, .ref (G.1 35 0)), (6, .ref (G.1 36 0)), (7, iV x7), (8, iV x8), (9, iV x9), (11, iV x11), (13, lV x13)] → ∀ (r : Int) (w' : Wd), L_isSo_b293 K57 x7 x8 x9 x11 x13 w = some (r, w') → W p l e (rmL 6 181) s m args below meth c H locs 0 0 (MQ below (QiG G r w') args s 0 0 (GA G)) (F0 m 293 ls []) := by
  intro x7 x8 x9 x11 x13 w hx7 hx8 hx9 hx11 hx13 H locs hS0 ls hl0 r w' hf
  unfold L_isSo_b293 at hf
  refine x_lload M hl0 dL_isSo_293 10 rfl ?_
  refine x_iconst M dL_isSo_295 ?_
  obtain ⟨r211, w212, hc213, hf⟩ := bdt hf
  refine x_callTi (As := [lV x13, iV 1]) (rest := []) M hl0 hS0 (c_L_name l  hx13 ⟨by decide, by decide⟩ hc213) (va_cwS 2 M.2.2.2.2.1 gL_isSo_L_name rfl rfl rfl (by decide +kernel) ⟨Nat.le_of_ble_eq_true rfl, Nat.le_of_ble_eq_true rfl⟩) (Nat.le_of_ble_eq_true rfl) rfl (Nat.le_of_ble_eq_true rfl) dL_isSo_296 rfl ⟨Nat.zero_le _, Nat.zero_le _⟩ (fun H locs hi214 hS215 => ?_)
  refine x_if_lt (tgt := 322) M hi214 dL_isSo_299 (by decide) (fun hc => ?_) (fun hc => ?_)
  · have hf := ift hf hc
    refine x_iconst M dL_isSo_322 ?_
    refine x_goto (tgt := 327) M dL_isSo_323 (by decide) ?_
    refine x_istore M hl0 dL_isSo_327 (by decide) [(10, iV 1), (0, .ref (G.1 10 0)), (1, .ref (G.1 30 0)), (3, .ref (G.1 32 0)), (4, .ref (G.1 34 0)), (5, .ref (G.1 35 0)), (6, .ref (G.1 36 0)), (7, iV x7), (8, iV x8), (9, iV x9), (11, iV x11), (13, lV x13)] rfl (fun ls hl216 => ?_)
    obtain ⟨g217, hf⟩ := gdt hf
    refine x_iinc M hl216 dL_isSo_329 10 rfl (by decide) [(11, iV (x11 + 1)), (10, iV 1), (0, .ref (G.1 10 0)), (1, .ref (G.1 30 0)), (3, .ref (G.1 32 0)), (4, .ref (G.1 34 0)), (5, .ref (G.1 35 0)), (6, .ref (G.1 36 0)), (7, iV x7), (8, iV x8), (9, iV x9), (13, lV x13)] rfl (fun ls hl218 => ?_)
    refine x_goto (tgt := 57) M dL_isSo_332 (by decide) ?_
    exact hK57 x7 x8 x9 1 (x11 + 1) w212 hx7 hx8 hx9 ⟨by decide, by decide⟩ g217 _ _ hS215 _ (lv_sub hl218 [2, 3, 4, 5, 6, 7, 8, 9, 10, 1, 0] rfl) _ _ hf
  · have hf := iff_ hf hc
    refine x_aload M hl0 dL_isSo_302 3 rfl ?_
    refine x_aload M hl0 dL_isSo_304 4 rfl ?_
    refine x_aload M hl0 dL_isSo_306 5 rfl ?_
    refine x_lload M hl0 dL_isSo_308 10 rfl ?_
    refine x_iconst M dL_isSo_310 ?_
    obtain ⟨r219, w220, hc221, hf⟩ := bdt hf
    refine x_callTi (As := [lV x13, iV 1]) (rest := [.ref (G.1 36 0), .ref (G.1 35 0), .ref (G.1 34 0)]) M hl0 hS215 (c_L_name l  hx13 ⟨by decide, by decide⟩ hc221) (va_cwS 2 M.2.2.2.2.1 gL_isSo_L_name rfl rfl rfl (by decide +kernel) ⟨Nat.le_of_ble_eq_true rfl, Nat.le_of_ble_eq_true rfl⟩) (Nat.le_of_ble_eq_true rfl) rfl (Nat.le_of_ble_eq_true rfl) dL_isSo_311 rfl ⟨Nat.zero_le _, Nat.zero_le _⟩ (fun H locs hi222 hS223 => ?_)
    obtain ⟨r224, w225, hc226, hf⟩ := bdt hf
    refine x_callTl (As := [.ref (G.1 34 0), .ref (G.1 35 0), .ref (G.1 36 0), iV r219]) (rest := []) M hl0 hS223 (c_L_at l  hi222 hc226) (va_cwS 4 M.2.2.2.2.1 gL_isSo_L_at rfl rfl rfl (by decide +kernel) ⟨Nat.le_of_ble_eq_true rfl, Nat.le_of_ble_eq_true rfl⟩) (Nat.le_of_ble_eq_true rfl) rfl (Nat.le_of_ble_eq_true rfl) dL_isSo_314 rfl ⟨Nat.zero_le _, Nat.zero_le _⟩ (fun H locs hi227 hS228 => ?_)
    refine x_lconst (z := 0) M dL_isSo_317 rfl ?_
    refine x_lcmp M dL_isSo_318 ?_
    refine x_if_eq (tgt := 326) M (o_inr _) dL_isSo_319 (by decide) (fun hc => ?_) (fun hc => ?_)
    · have hf := ift hf hc
      refine x_iconst M dL_isSo_326 ?_
      refine x_istore M hl0 dL_isSo_327 (by decide) [(10, iV 0), (0, .ref (G.1 10 0)), (1, .ref (G.1 30 0)), (3, .ref (G.1 32 0)), (4, .ref (G.1 34 0)), (5, .ref (G.1 35 0)), (6, .ref (G.1 36 0)), (7, iV x7), (8, iV x8), (9, iV x9), (11, iV x11), (13, lV x13)] rfl (fun ls hl229 => ?_)
      obtain ⟨g230, hf⟩ := gdt hf
      refine x_iinc M hl229 dL_isSo_329 10 rfl (by decide) [(11, iV (x11 + 1)), (10, iV 0), (0, .ref (G.1 10 0)), (1, .ref (G.1 30 0)), (3, .ref (G.1 32 0)), (4, .ref (G.1 34 0)), (5, .ref (G.1 35 0)), (6, .ref (G.1 36 0)), (7, iV x7), (8, iV x8), (9, iV x9), (13, lV x13)] rfl (fun ls hl231 => ?_)
      refine x_goto (tgt := 57) M dL_isSo_332 (by decide) ?_
      exact hK57 x7 x8 x9 0 (x11 + 1) w225 hx7 hx8 hx9 ⟨by decide, by decide⟩ g230 _ _ hS228 _ (lv_sub hl231 [2, 3, 4, 5, 6, 7, 8, 9, 10, 1, 0] rfl) _ _ hf
    · have hf := iff_ hf hc
      refine x_iconst M dL_isSo_322 ?_
      refine x_goto (tgt := 327) M dL_isSo_323 (by decide) ?_
      refine x_istore M hl0 dL_isSo_327 (by decide) [(10, iV 1), (0, .ref (G.1 10 0)), (1, .ref (G.1 30 0)), (3, .ref (G.1 32 0)), (4, .ref (G.1 34 0)), (5, .ref (G.1 35 0)), (6, .ref (G.1 36 0)), (7, iV x7), (8, iV x8), (9, iV x9), (11, iV x11), (13, lV x13)] rfl (fun ls hl232 => ?_)
      obtain ⟨g233, hf⟩ := gdt hf
      refine x_iinc M hl232 dL_isSo_329 10 rfl (by decide) [(11, iV (x11 + 1)), (10, iV 1), (0, .ref (G.1 10 0)), (1, .ref (G.1 30 0)), (3, .ref (G.1 32 0)), (4, .ref (G.1 34 0)), (5, .ref (G.1 35 0)), (6, .ref (G.1 36 0)), (7, iV x7), (8, iV x8), (9, iV x9), (13, lV x13)] rfl (fun ls hl234 => ?_)
      refine x_goto (tgt := 57) M dL_isSo_332 (by decide) ?_
      exact hK57 x7 x8 x9 1 (x11 + 1) w225 hx7 hx8 hx9 ⟨by decide, by decide⟩ g233 _ _ hS228 _ (lv_sub hl234 [2, 3, 4, 5, 6, 7, 8, 9, 10, 1, 0] rfl) _ _ hf

set_option maxHeartbeats 4000000 in
set_option maxRecDepth 100000 in
theorem L_isSo_b257_ok (M : MC p s m args meth c cL_isSo 15 RL wsL_isSo G) (hr : meth.sig.returnType = (some .boolean)) {K57 : Int → Int → Int → Int → Int → Wd → Option (Int × Wd)} (hK57 : ∀ x7 : Int, ∀ x8 : Int, ∀ x9 : Int, ∀ x10 : Int, ∀ x11 : Int, ∀ w : Wd, InR x7 → InR x8 → InR x9 → InR x10 → InR x11 → ∀ (H : Heap) (locs : List Loc), ST G s w H locs → ∀ ls : Array Slot, lv_has ls 15 [(0, .ref (G.1 10 0)), (1, .ref (G.1 30 0)), (3, .ref (G.1 32 0)), (4, .ref (G.1 34 0)), (5, .ref (G.1 35 0)), (6, .ref (G.1 36 0)), (7, iV x7), (8, iV x8), (9, iV x9), (10, iV x10), (11, iV x11)] → ∀ (r : Int) (w' : Wd), K57 x7 x8 x9 x10 x11 w = some (r, w') → W p l e (rmL 6 181) s m args below meth c H locs 0 0 (MQ below (QiG G r w') args s 0 0 (GA G)) (F0 m 57 ls [])) : ∀ x7 : Int, ∀ x8 : Int, ∀ x9 : Int, ∀ x11 : Int, ∀ x13 : Int, ∀ s0 : Int, ∀ w : Wd, InR x7 → InR x8 → InR x9 → InR x11 → InL x13 → InR s0 → ∀ (H : Heap) (locs : List Loc), ST G s w H locs → ∀ ls : Array Slot, lv_has ls 15 [(0, .ref (G.1 10 0)), (1, .ref (G.1 30 0)), (3, .ref (G.1 32 0)), (4, .ref (G.1 34 0)), (5, .ref (G.1 35 0)), (6, .ref (G.1 36 0)), (7, iV x7), (8, iV x8), (9, iV x9), (11, iV x11), (13, lV x13)] → ∀ (r : Int) (w' : Wd), L_isSo_b257 K57 x7 x8 x9 x11 x13 s0 w = some (r, w') → W p l e (rmL 6 181) s m args below meth c H locs 0 0 (MQ below (QiG G r w') args s 0 0 (GA G)) (F0 m 257 ls [iV s0]) := by
  intro x7 x8 x9 x11 x13 s0 w hx7 hx8 hx9 hx11 hx13 hs0 H locs hS0 ls hl0 r w' hf
  unfold L_isSo_b257 at hf
  refine x_istore M hl0 dL_isSo_257 (by decide) [(10, iV s0), (0, .ref (G.1 10 0)), (1, .ref (G.1 30 0)), (3, .ref (G.1 32 0)), (4, .ref (G.1 34 0)), (5, .ref (G.1 35 0)), (6, .ref (G.1 36 0)), (7, iV x7), (8, iV x8), (9, iV x9), (11, iV x11), (13, lV x13)] rfl (fun ls hl202 => ?_)
  refine x_iload M hl202 dL_isSo_259 0 rfl ?_
  refine x_if_eq (tgt := 326) M hs0 dL_isSo_261 (by decide) (fun hc => ?_) (fun hc => ?_)
  · have hf := ift hf hc
    refine x_iconst M dL_isSo_326 ?_
    refine x_istore M hl202 dL_isSo_327 (by decide) [(10, iV 0), (0, .ref (G.1 10 0)), (1, .ref (G.1 30 0)), (3, .ref (G.1 32 0)), (4, .ref (G.1 34 0)), (5, .ref (G.1 35 0)), (6, .ref (G.1 36 0)), (7, iV x7), (8, iV x8), (9, iV x9), (11, iV x11), (13, lV x13)] rfl (fun ls hl203 => ?_)
    obtain ⟨g204, hf⟩ := gdt hf
    refine x_iinc M hl203 dL_isSo_329 10 rfl (by decide) [(11, iV (x11 + 1)), (10, iV 0), (0, .ref (G.1 10 0)), (1, .ref (G.1 30 0)), (3, .ref (G.1 32 0)), (4, .ref (G.1 34 0)), (5, .ref (G.1 35 0)), (6, .ref (G.1 36 0)), (7, iV x7), (8, iV x8), (9, iV x9), (13, lV x13)] rfl (fun ls hl205 => ?_)
    refine x_goto (tgt := 57) M dL_isSo_332 (by decide) ?_
    exact hK57 x7 x8 x9 0 (x11 + 1) w hx7 hx8 hx9 ⟨by decide, by decide⟩ g204 _ _ hS0 _ (lv_sub hl205 [2, 3, 4, 5, 6, 7, 8, 9, 10, 1, 0] rfl) _ _ hf
  · have hf := iff_ hf hc
    refine x_lload M hl202 dL_isSo_264 11 rfl ?_
    refine x_iconst M dL_isSo_266 ?_
    obtain ⟨r206, w207, hc208, hf⟩ := bdt hf
    refine x_callTi (As := [lV x13, iV 0]) (rest := []) M hl202 hS0 (c_L_name l  hx13 ⟨by decide, by decide⟩ hc208) (va_cwS 2 M.2.2.2.2.1 gL_isSo_L_name rfl rfl rfl (by decide +kernel) ⟨Nat.le_of_ble_eq_true rfl, Nat.le_of_ble_eq_true rfl⟩) (Nat.le_of_ble_eq_true rfl) rfl (Nat.le_of_ble_eq_true rfl) dL_isSo_267 rfl ⟨Nat.zero_le _, Nat.zero_le _⟩ (fun H locs hi209 hS210 => ?_)
    refine x_if_lt (tgt := 293) M hi209 dL_isSo_270 (by decide) (fun hc => ?_) (fun hc => ?_)
    · have hf := ift hf hc
      exact L_isSo_b293_ok M hr hK57 x7 x8 x9 x11 x13 w207 hx7 hx8 hx9 hx11 hx13 _ _ hS210 _ (lv_sub hl202 [1, 2, 3, 4, 5, 6, 7, 8, 9, 10, 11] rfl) _ _ hf
    · have hf := iff_ hf hc
      refine x_aload M hl202 dL_isSo_273 4 rfl ?_
      refine x_aload M hl202 dL_isSo_275 5 rfl ?_
      refine x_aload M hl202 dL_isSo_277 6 rfl ?_
      refine x_lload M hl202 dL_isSo_279 11 rfl ?_
      refine x_iconst M dL_isSo_281 ?_
      obtain ⟨r235, w236, hc237, hf⟩ := bdt hf
      refine x_callTi (As := [lV x13, iV 0]) (rest := [.ref (G.1 36 0), .ref (G.1 35 0), .ref (G.1 34 0)]) M hl202 hS210 (c_L_name l  hx13 ⟨by decide, by decide⟩ hc237) (va_cwS 2 M.2.2.2.2.1 gL_isSo_L_name rfl rfl rfl (by decide +kernel) ⟨Nat.le_of_ble_eq_true rfl, Nat.le_of_ble_eq_true rfl⟩) (Nat.le_of_ble_eq_true rfl) rfl (Nat.le_of_ble_eq_true rfl) dL_isSo_282 rfl ⟨Nat.zero_le _, Nat.zero_le _⟩ (fun H locs hi238 hS239 => ?_)
      obtain ⟨r240, w241, hc242, hf⟩ := bdt hf
      refine x_callTl (As := [.ref (G.1 34 0), .ref (G.1 35 0), .ref (G.1 36 0), iV r235]) (rest := []) M hl202 hS239 (c_L_at l  hi238 hc242) (va_cwS 4 M.2.2.2.2.1 gL_isSo_L_at rfl rfl rfl (by decide +kernel) ⟨Nat.le_of_ble_eq_true rfl, Nat.le_of_ble_eq_true rfl⟩) (Nat.le_of_ble_eq_true rfl) rfl (Nat.le_of_ble_eq_true rfl) dL_isSo_285 rfl ⟨Nat.zero_le _, Nat.zero_le _⟩ (fun H locs hi243 hS244 => ?_)
      refine x_lconst (z := 0) M dL_isSo_288 rfl ?_
      refine x_lcmp M dL_isSo_289 ?_
      refine x_if_eq (tgt := 326) M (o_inr _) dL_isSo_290 (by decide) (fun hc => ?_) (fun hc => ?_)
      · have hf := ift hf hc
        refine x_iconst M dL_isSo_326 ?_
        refine x_istore M hl202 dL_isSo_327 (by decide) [(10, iV 0), (0, .ref (G.1 10 0)), (1, .ref (G.1 30 0)), (3, .ref (G.1 32 0)), (4, .ref (G.1 34 0)), (5, .ref (G.1 35 0)), (6, .ref (G.1 36 0)), (7, iV x7), (8, iV x8), (9, iV x9), (11, iV x11), (13, lV x13)] rfl (fun ls hl245 => ?_)
        obtain ⟨g246, hf⟩ := gdt hf
        refine x_iinc M hl245 dL_isSo_329 10 rfl (by decide) [(11, iV (x11 + 1)), (10, iV 0), (0, .ref (G.1 10 0)), (1, .ref (G.1 30 0)), (3, .ref (G.1 32 0)), (4, .ref (G.1 34 0)), (5, .ref (G.1 35 0)), (6, .ref (G.1 36 0)), (7, iV x7), (8, iV x8), (9, iV x9), (13, lV x13)] rfl (fun ls hl247 => ?_)
        refine x_goto (tgt := 57) M dL_isSo_332 (by decide) ?_
        exact hK57 x7 x8 x9 0 (x11 + 1) w241 hx7 hx8 hx9 ⟨by decide, by decide⟩ g246 _ _ hS244 _ (lv_sub hl247 [2, 3, 4, 5, 6, 7, 8, 9, 10, 1, 0] rfl) _ _ hf
      · have hf := iff_ hf hc
        exact L_isSo_b293_ok M hr hK57 x7 x8 x9 x11 x13 w241 hx7 hx8 hx9 hx11 hx13 _ _ hS244 _ (lv_sub hl202 [1, 2, 3, 4, 5, 6, 7, 8, 9, 10, 11] rfl) _ _ hf

set_option maxHeartbeats 4000000 in
set_option maxRecDepth 100000 in
theorem L_isSo_b142_ok (M : MC p s m args meth c cL_isSo 15 RL wsL_isSo G) (hr : meth.sig.returnType = (some .boolean)) {K57 : Int → Int → Int → Int → Int → Wd → Option (Int × Wd)} (hK57 : ∀ x7 : Int, ∀ x8 : Int, ∀ x9 : Int, ∀ x10 : Int, ∀ x11 : Int, ∀ w : Wd, InR x7 → InR x8 → InR x9 → InR x10 → InR x11 → ∀ (H : Heap) (locs : List Loc), ST G s w H locs → ∀ ls : Array Slot, lv_has ls 15 [(0, .ref (G.1 10 0)), (1, .ref (G.1 30 0)), (3, .ref (G.1 32 0)), (4, .ref (G.1 34 0)), (5, .ref (G.1 35 0)), (6, .ref (G.1 36 0)), (7, iV x7), (8, iV x8), (9, iV x9), (10, iV x10), (11, iV x11)] → ∀ (r : Int) (w' : Wd), K57 x7 x8 x9 x10 x11 w = some (r, w') → W p l e (rmL 6 181) s m args below meth c H locs 0 0 (MQ below (QiG G r w') args s 0 0 (GA G)) (F0 m 57 ls [])) : ∀ x7 : Int, ∀ x9 : Int, ∀ x11 : Int, ∀ x12 : Int, ∀ x13 : Int, ∀ s0 : Int, ∀ s1 : Int, ∀ w : Wd, InR x7 → InR x9 → InR x11 → InR x12 → InL x13 → InR s0 → InR s1 → ∀ (H : Heap) (locs : List Loc), ST G s w H locs → ∀ ls : Array Slot, lv_has ls 15 [(0, .ref (G.1 10 0)), (1, .ref (G.1 30 0)), (3, .ref (G.1 32 0)), (4, .ref (G.1 34 0)), (5, .ref (G.1 35 0)), (6, .ref (G.1 36 0)), (7, iV x7), (9, iV x9), (11, iV x11), (12, iV x12), (13, lV x13)] → ∀ (r : Int) (w' : Wd), L_isSo_b142 K57 x7 x9 x11 x12 x13 s0 s1 w = some (r, w') → W p l e (rmL 6 181) s m args below meth c H locs 0 0 (MQ below (QiG G r w') args s 0 0 (GA G)) (F0 m 142 ls [iV s0, iV s1]) := by
  intro x7 x9 x11 x12 x13 s0 s1 w hx7 hx9 hx11 hx12 hx13 hs0 hs1 H locs hS0 ls hl0 r w' hf
  unfold L_isSo_b142 at hf
  obtain ⟨g190, hf⟩ := gdt hf
  refine x_isub M dL_isSo_142 ?_
  refine x_istore M hl0 dL_isSo_143 (by decide) [(8, iV (s1 - s0)), (0, .ref (G.1 10 0)), (1, .ref (G.1 30 0)), (3, .ref (G.1 32 0)), (4, .ref (G.1 34 0)), (5, .ref (G.1 35 0)), (6, .ref (G.1 36 0)), (7, iV x7), (9, iV x9), (11, iV x11), (12, iV x12), (13, lV x13)] rfl (fun ls hl191 => ?_)
  refine x_aload_n M hl191 dL_isSo_145 1 rfl ?_
  refine x_iload M hl191 dL_isSo_146 10 rfl ?_
  refine x_iconst M dL_isSo_148 ?_
  obtain ⟨r192, w193, hc194, hf⟩ := bdt hf
  refine x_callVi (c0 := 10) (t0 := 0) (As := [iV x12, iV 0]) (rest := []) M hl191 hS0 (c_X7_copy l  hx12 ⟨by decide, by decide⟩ hc194) (cwV 2 M.2.2.2.2.1 gL_isSo_X7_copy rfl rfl rfl (by decide +kernel) ⟨Nat.le_of_ble_eq_true rfl, Nat.le_of_ble_eq_true rfl⟩) (by decide) (sE_10 G _ _) rfl rfl (Nat.le_of_ble_eq_true rfl) dL_isSo_149 rfl ⟨Nat.zero_le _, Nat.zero_le _⟩ (fun H locs hi195 hS196 => ?_)
  refine x_lload M hl191 dL_isSo_152 11 rfl ?_
  obtain ⟨r197, w198, hc199, hf⟩ := bdt hf
  refine x_callTi (As := [lV x13]) (rest := [iV r192]) M hl191 hS196 (c_L_thing l  hx13 hc199) (va_cwS 1 M.2.2.2.2.1 gL_isSo_L_thing rfl rfl rfl (by decide +kernel) ⟨Nat.le_of_ble_eq_true rfl, Nat.le_of_ble_eq_true rfl⟩) (Nat.le_of_ble_eq_true rfl) rfl (Nat.le_of_ble_eq_true rfl) dL_isSo_154 rfl ⟨Nat.zero_le _, Nat.zero_le _⟩ (fun H locs hi200 hS201 => ?_)
  refine x_icmp_ne (tgt := 256) M hi195 hi200 dL_isSo_157 (by decide) (fun hc => ?_) (fun hc => ?_)
  · have hf := iff_ hf hc
    refine x_iconst M dL_isSo_256 ?_
    exact L_isSo_b257_ok M hr hK57 x7 (s1 - s0) x9 x11 x13 0 w198 hx7 g190 hx9 hx11 hx13 ⟨by decide, by decide⟩ _ _ hS201 _ (lv_sub hl191 [1, 2, 3, 4, 5, 6, 7, 0, 8, 9, 11] rfl) _ _ hf
  · have hf := ift hf (Decidable.of_not_not hc)
    refine x_aload_n M hl191 dL_isSo_160 1 rfl ?_
    refine x_iload M hl191 dL_isSo_161 10 rfl ?_
    refine x_iconst M dL_isSo_163 ?_
    obtain ⟨r248, w249, hc250, hf⟩ := bdt hf
    refine x_callVi (c0 := 10) (t0 := 0) (As := [iV x12, iV 1]) (rest := []) M hl191 hS201 (c_X7_copy l  hx12 ⟨by decide, by decide⟩ hc250) (cwV 2 M.2.2.2.2.1 gL_isSo_X7_copy rfl rfl rfl (by decide +kernel) ⟨Nat.le_of_ble_eq_true rfl, Nat.le_of_ble_eq_true rfl⟩) (by decide) (sE_10 G _ _) rfl rfl (Nat.le_of_ble_eq_true rfl) dL_isSo_164 rfl ⟨Nat.zero_le _, Nat.zero_le _⟩ (fun H locs hi251 hS252 => ?_)
    refine x_aload_n M hl191 dL_isSo_167 3 rfl ?_
    refine x_lload M hl191 dL_isSo_168 11 rfl ?_
    obtain ⟨r253, w254, hc255, hf⟩ := bdt hf
    refine x_callTi (As := [lV x13]) (rest := [.ref (G.1 32 0), iV r248]) M hl191 hS252 (c_L_thing l  hx13 hc255) (va_cwS 1 M.2.2.2.2.1 gL_isSo_L_thing rfl rfl rfl (by decide +kernel) ⟨Nat.le_of_ble_eq_true rfl, Nat.le_of_ble_eq_true rfl⟩) (Nat.le_of_ble_eq_true rfl) rfl (Nat.le_of_ble_eq_true rfl) dL_isSo_170 rfl ⟨Nat.zero_le _, Nat.zero_le _⟩ (fun H locs hi256 hS257 => ?_)
    obtain ⟨g258, hf⟩ := gdt hf
    refine x_iald (c0 := 32) (t0 := 0) M hS257 (by decide) (hs_32 G _) rfl g258 (by decide) dL_isSo_173 ?_
    refine x_icmp_ne (tgt := 256) M hi251 (hS257.inr _ _ _) dL_isSo_174 (by decide) (fun hc => ?_) (fun hc => ?_)
    · have hf := iff_ hf hc
      refine x_iconst M dL_isSo_256 ?_
      exact L_isSo_b257_ok M hr hK57 x7 (s1 - s0) x9 x11 x13 0 w254 hx7 g190 hx9 hx11 hx13 ⟨by decide, by decide⟩ _ _ hS257 _ (lv_sub hl191 [1, 2, 3, 4, 5, 6, 7, 0, 8, 9, 11] rfl) _ _ hf
    · have hf := ift hf (Decidable.of_not_not hc)
      refine x_aload_n M hl191 dL_isSo_177 1 rfl ?_
      refine x_iload M hl191 dL_isSo_178 10 rfl ?_
      refine x_iconst M dL_isSo_180 ?_
      obtain ⟨r259, w260, hc261, hf⟩ := bdt hf
      refine x_callVi (c0 := 10) (t0 := 0) (As := [iV x12, iV 2]) (rest := []) M hl191 hS257 (c_X7_copy l  hx12 ⟨by decide, by decide⟩ hc261) (cwV 2 M.2.2.2.2.1 gL_isSo_X7_copy rfl rfl rfl (by decide +kernel) ⟨Nat.le_of_ble_eq_true rfl, Nat.le_of_ble_eq_true rfl⟩) (by decide) (sE_10 G _ _) rfl rfl (Nat.le_of_ble_eq_true rfl) dL_isSo_181 rfl ⟨Nat.zero_le _, Nat.zero_le _⟩ (fun H locs hi262 hS263 => ?_)
      refine x_lload M hl191 dL_isSo_184 11 rfl ?_
      refine x_iconst M dL_isSo_186 ?_
      obtain ⟨r264, w265, hc266, hf⟩ := bdt hf
      refine x_callTi (As := [lV x13, iV 2]) (rest := [iV r259]) M hl191 hS263 (c_L_name l  hx13 ⟨by decide, by decide⟩ hc266) (va_cwS 2 M.2.2.2.2.1 gL_isSo_L_name rfl rfl rfl (by decide +kernel) ⟨Nat.le_of_ble_eq_true rfl, Nat.le_of_ble_eq_true rfl⟩) (Nat.le_of_ble_eq_true rfl) rfl (Nat.le_of_ble_eq_true rfl) dL_isSo_187 rfl ⟨Nat.zero_le _, Nat.zero_le _⟩ (fun H locs hi267 hS268 => ?_)
      refine x_icmp_ne (tgt := 256) M hi262 hi267 dL_isSo_190 (by decide) (fun hc => ?_) (fun hc => ?_)
      · have hf := iff_ hf hc
        refine x_iconst M dL_isSo_256 ?_
        exact L_isSo_b257_ok M hr hK57 x7 (s1 - s0) x9 x11 x13 0 w265 hx7 g190 hx9 hx11 hx13 ⟨by decide, by decide⟩ _ _ hS268 _ (lv_sub hl191 [1, 2, 3, 4, 5, 6, 7, 0, 8, 9, 11] rfl) _ _ hf
      · have hf := ift hf (Decidable.of_not_not hc)
        refine x_aload_n M hl191 dL_isSo_193 1 rfl ?_
        refine x_iload M hl191 dL_isSo_194 10 rfl ?_
        refine x_iconst M dL_isSo_196 ?_
        obtain ⟨r269, w270, hc271, hf⟩ := bdt hf
        refine x_callVi (c0 := 10) (t0 := 0) (As := [iV x12, iV 3]) (rest := []) M hl191 hS268 (c_X7_copy l  hx12 ⟨by decide, by decide⟩ hc271) (cwV 2 M.2.2.2.2.1 gL_isSo_X7_copy rfl rfl rfl (by decide +kernel) ⟨Nat.le_of_ble_eq_true rfl, Nat.le_of_ble_eq_true rfl⟩) (by decide) (sE_10 G _ _) rfl rfl (Nat.le_of_ble_eq_true rfl) dL_isSo_197 rfl ⟨Nat.zero_le _, Nat.zero_le _⟩ (fun H locs hi272 hS273 => ?_)
        refine x_lload M hl191 dL_isSo_200 11 rfl ?_
        obtain ⟨r274, w275, hc276, hf⟩ := bdt hf
        refine x_callTi (As := [lV x13]) (rest := [iV r269]) M hl191 hS273 (c_L_mark l  hx13 hc276) (va_cwS 1 M.2.2.2.2.1 gL_isSo_L_mark rfl rfl rfl (by decide +kernel) ⟨Nat.le_of_ble_eq_true rfl, Nat.le_of_ble_eq_true rfl⟩) (Nat.le_of_ble_eq_true rfl) rfl (Nat.le_of_ble_eq_true rfl) dL_isSo_202 rfl ⟨Nat.zero_le _, Nat.zero_le _⟩ (fun H locs hi277 hS278 => ?_)
        refine x_icmp_ne (tgt := 256) M hi272 hi277 dL_isSo_205 (by decide) (fun hc => ?_) (fun hc => ?_)
        · have hf := iff_ hf hc
          refine x_iconst M dL_isSo_256 ?_
          exact L_isSo_b257_ok M hr hK57 x7 (s1 - s0) x9 x11 x13 0 w275 hx7 g190 hx9 hx11 hx13 ⟨by decide, by decide⟩ _ _ hS278 _ (lv_sub hl191 [1, 2, 3, 4, 5, 6, 7, 0, 8, 9, 11] rfl) _ _ hf
        · have hf := ift hf (Decidable.of_not_not hc)
          refine x_aload_n M hl191 dL_isSo_208 1 rfl ?_
          refine x_iload M hl191 dL_isSo_209 10 rfl ?_
          refine x_iconst M dL_isSo_211 ?_
          obtain ⟨r279, w280, hc281, hf⟩ := bdt hf
          refine x_callVi (c0 := 10) (t0 := 0) (As := [iV x12, iV 4]) (rest := []) M hl191 hS278 (c_X7_copy l  hx12 ⟨by decide, by decide⟩ hc281) (cwV 2 M.2.2.2.2.1 gL_isSo_X7_copy rfl rfl rfl (by decide +kernel) ⟨Nat.le_of_ble_eq_true rfl, Nat.le_of_ble_eq_true rfl⟩) (by decide) (sE_10 G _ _) rfl rfl (Nat.le_of_ble_eq_true rfl) dL_isSo_212 rfl ⟨Nat.zero_le _, Nat.zero_le _⟩ (fun H locs hi282 hS283 => ?_)
          refine x_lload M hl191 dL_isSo_215 11 rfl ?_
          refine x_iconst M dL_isSo_217 ?_
          obtain ⟨r284, w285, hc286, hf⟩ := bdt hf
          refine x_callTi (As := [lV x13, iV 0]) (rest := [iV r279]) M hl191 hS283 (c_L_name l  hx13 ⟨by decide, by decide⟩ hc286) (va_cwS 2 M.2.2.2.2.1 gL_isSo_L_name rfl rfl rfl (by decide +kernel) ⟨Nat.le_of_ble_eq_true rfl, Nat.le_of_ble_eq_true rfl⟩) (Nat.le_of_ble_eq_true rfl) rfl (Nat.le_of_ble_eq_true rfl) dL_isSo_218 rfl ⟨Nat.zero_le _, Nat.zero_le _⟩ (fun H locs hi287 hS288 => ?_)
          refine x_icmp_ne (tgt := 256) M hi282 hi287 dL_isSo_221 (by decide) (fun hc => ?_) (fun hc => ?_)
          · have hf := iff_ hf hc
            refine x_iconst M dL_isSo_256 ?_
            exact L_isSo_b257_ok M hr hK57 x7 (s1 - s0) x9 x11 x13 0 w285 hx7 g190 hx9 hx11 hx13 ⟨by decide, by decide⟩ _ _ hS288 _ (lv_sub hl191 [1, 2, 3, 4, 5, 6, 7, 0, 8, 9, 11] rfl) _ _ hf
          · have hf := ift hf (Decidable.of_not_not hc)
            refine x_aload_n M hl191 dL_isSo_224 1 rfl ?_
            refine x_iload M hl191 dL_isSo_225 10 rfl ?_
            refine x_iconst M dL_isSo_227 ?_
            obtain ⟨r289, w290, hc291, hf⟩ := bdt hf
            refine x_callVi (c0 := 10) (t0 := 0) (As := [iV x12, iV 5]) (rest := []) M hl191 hS288 (c_X7_copy l  hx12 ⟨by decide, by decide⟩ hc291) (cwV 2 M.2.2.2.2.1 gL_isSo_X7_copy rfl rfl rfl (by decide +kernel) ⟨Nat.le_of_ble_eq_true rfl, Nat.le_of_ble_eq_true rfl⟩) (by decide) (sE_10 G _ _) rfl rfl (Nat.le_of_ble_eq_true rfl) dL_isSo_228 rfl ⟨Nat.zero_le _, Nat.zero_le _⟩ (fun H locs hi292 hS293 => ?_)
            refine x_lload M hl191 dL_isSo_231 11 rfl ?_
            refine x_iconst M dL_isSo_233 ?_
            obtain ⟨r294, w295, hc296, hf⟩ := bdt hf
            refine x_callTi (As := [lV x13, iV 1]) (rest := [iV r289]) M hl191 hS293 (c_L_name l  hx13 ⟨by decide, by decide⟩ hc296) (va_cwS 2 M.2.2.2.2.1 gL_isSo_L_name rfl rfl rfl (by decide +kernel) ⟨Nat.le_of_ble_eq_true rfl, Nat.le_of_ble_eq_true rfl⟩) (Nat.le_of_ble_eq_true rfl) rfl (Nat.le_of_ble_eq_true rfl) dL_isSo_234 rfl ⟨Nat.zero_le _, Nat.zero_le _⟩ (fun H locs hi297 hS298 => ?_)
            refine x_icmp_ne (tgt := 256) M hi292 hi297 dL_isSo_237 (by decide) (fun hc => ?_) (fun hc => ?_)
            · have hf := iff_ hf hc
              refine x_iconst M dL_isSo_256 ?_
              exact L_isSo_b257_ok M hr hK57 x7 (s1 - s0) x9 x11 x13 0 w295 hx7 g190 hx9 hx11 hx13 ⟨by decide, by decide⟩ _ _ hS298 _ (lv_sub hl191 [1, 2, 3, 4, 5, 6, 7, 0, 8, 9, 11] rfl) _ _ hf
            · have hf := ift hf (Decidable.of_not_not hc)
              refine x_aload_n M hl191 dL_isSo_240 1 rfl ?_
              refine x_iload M hl191 dL_isSo_241 10 rfl ?_
              refine x_bipush M dL_isSo_243 rfl ?_
              obtain ⟨r299, w300, hc301, hf⟩ := bdt hf
              refine x_callVi (c0 := 10) (t0 := 0) (As := [iV x12, iV 6]) (rest := []) M hl191 hS298 (c_X7_copy l  hx12 ⟨by decide, by decide⟩ hc301) (cwV 2 M.2.2.2.2.1 gL_isSo_X7_copy rfl rfl rfl (by decide +kernel) ⟨Nat.le_of_ble_eq_true rfl, Nat.le_of_ble_eq_true rfl⟩) (by decide) (sE_10 G _ _) rfl rfl (Nat.le_of_ble_eq_true rfl) dL_isSo_245 rfl ⟨Nat.zero_le _, Nat.zero_le _⟩ (fun H locs hi302 hS303 => ?_)
              refine x_iconst M dL_isSo_248 ?_
              refine x_icmp_ne (tgt := 256) M hi302 ⟨by decide, by decide⟩ dL_isSo_249 (by decide) (fun hc => ?_) (fun hc => ?_)
              · have hf := iff_ hf hc
                refine x_iconst M dL_isSo_256 ?_
                exact L_isSo_b257_ok M hr hK57 x7 (s1 - s0) x9 x11 x13 0 w300 hx7 g190 hx9 hx11 hx13 ⟨by decide, by decide⟩ _ _ hS303 _ (lv_sub hl191 [1, 2, 3, 4, 5, 6, 7, 0, 8, 9, 11] rfl) _ _ hf
              · have hf := ift hf (Decidable.of_not_not hc)
                refine x_iconst M dL_isSo_252 ?_
                refine x_goto (tgt := 257) M dL_isSo_253 (by decide) ?_
                exact L_isSo_b257_ok M hr hK57 x7 (s1 - s0) x9 x11 x13 1 w300 hx7 g190 hx9 hx11 hx13 ⟨by decide, by decide⟩ _ _ hS303 _ (lv_sub hl191 [1, 2, 3, 4, 5, 6, 7, 0, 8, 9, 11] rfl) _ _ hf

set_option maxHeartbeats 4000000 in
set_option maxRecDepth 100000 in
theorem L_isSo_b57_ok (M : MC p s m args meth c cL_isSo 15 RL wsL_isSo G) (hr : meth.sig.returnType = (some .boolean)) : ∀ n : Nat, ∀ x7 : Int, ∀ x8 : Int, ∀ x9 : Int, ∀ x10 : Int, ∀ x11 : Int, ∀ w : Wd, InR x7 → InR x8 → InR x9 → InR x10 → InR x11 → ∀ (H : Heap) (locs : List Loc), ST G s w H locs → ∀ ls : Array Slot, lv_has ls 15 [(0, .ref (G.1 10 0)), (1, .ref (G.1 30 0)), (3, .ref (G.1 32 0)), (4, .ref (G.1 34 0)), (5, .ref (G.1 35 0)), (6, .ref (G.1 36 0)), (7, iV x7), (8, iV x8), (9, iV x9), (10, iV x10), (11, iV x11)] → ∀ (r : Int) (w' : Wd), L_isSo_b57 n x7 x8 x9 x10 x11 w = some (r, w') → W p l e (rmL 6 181) s m args below meth c H locs 0 0 (MQ below (QiG G r w') args s 0 0 (GA G)) (F0 m 57 ls []) := by
  intro n
  induction n with
  | zero =>
    intro x7 x8 x9 x10 x11 w hx7 hx8 hx9 hx10 hx11 H locs hS0 ls hl0 r w' hf
    cases hf
  | succ n ih =>
    intro x7 x8 x9 x10 x11 w hx7 hx8 hx9 hx10 hx11 H locs hS0 ls hl0 r w' hf
    rw [L_isSo_b57_s] at hf
    refine x_iload M hl0 dL_isSo_57 10 rfl ?_
    refine x_sipush M dL_isSo_59 rfl ?_
    refine x_icmp_ge (tgt := 335) M hx11 ⟨by decide, by decide⟩ dL_isSo_62 (by decide) (fun hc => ?_) (fun hc => ?_)
    · have hf := iff_ hf (Int.not_lt.mpr hc)
      refine x_iconst M dL_isSo_335 ?_
      refine x_istore M hl0 dL_isSo_336 (by decide) [(11, iV 0), (0, .ref (G.1 10 0)), (1, .ref (G.1 30 0)), (3, .ref (G.1 32 0)), (4, .ref (G.1 34 0)), (5, .ref (G.1 35 0)), (6, .ref (G.1 36 0)), (7, iV x7), (8, iV x8), (9, iV x9), (10, iV x10)] rfl (fun ls hl7 => ?_)
      exact L_isSo_b338_ok M hr LF x7 x8 x9 x10 0 w hx7 hx8 hx9 hx10 ⟨by decide, by decide⟩ _ _ hS0 _ (lv_sub hl7 [1, 2, 3, 4, 5, 6, 7, 8, 9, 10, 0] rfl) _ _ hf
    · have hf := ift hf (Int.not_le.mp hc)
      refine x_iload M hl0 dL_isSo_65 9 rfl ?_
      refine x_if_eq (tgt := 335) M hx10 dL_isSo_67 (by decide) (fun hc => ?_) (fun hc => ?_)
      · have hf := ift hf hc
        refine x_iconst M dL_isSo_335 ?_
        refine x_istore M hl0 dL_isSo_336 (by decide) [(11, iV 0), (0, .ref (G.1 10 0)), (1, .ref (G.1 30 0)), (3, .ref (G.1 32 0)), (4, .ref (G.1 34 0)), (5, .ref (G.1 35 0)), (6, .ref (G.1 36 0)), (7, iV x7), (8, iV x8), (9, iV x9), (10, iV x10)] rfl (fun ls hl169 => ?_)
        exact L_isSo_b338_ok M hr LF x7 x8 x9 x10 0 w hx7 hx8 hx9 hx10 ⟨by decide, by decide⟩ _ _ hS0 _ (lv_sub hl169 [1, 2, 3, 4, 5, 6, 7, 8, 9, 10, 0] rfl) _ _ hf
      · have hf := iff_ hf hc
        refine x_iload M hl0 dL_isSo_70 10 rfl ?_
        obtain ⟨r170, w171, hc172, hf⟩ := bdt hf
        refine x_callTi (As := [iV x11]) (rest := []) M hl0 hS0 (c_L_address l  hx11 hc172) (va_cwS 1 M.2.2.2.2.1 gL_isSo_L_address rfl rfl rfl (by decide +kernel) ⟨Nat.le_of_ble_eq_true rfl, Nat.le_of_ble_eq_true rfl⟩) (Nat.le_of_ble_eq_true rfl) rfl (Nat.le_of_ble_eq_true rfl) dL_isSo_72 rfl ⟨Nat.zero_le _, Nat.zero_le _⟩ (fun H locs hi173 hS174 => ?_)
        refine x_istore M hl0 dL_isSo_75 (by decide) [(12, iV r170), (0, .ref (G.1 10 0)), (1, .ref (G.1 30 0)), (3, .ref (G.1 32 0)), (4, .ref (G.1 34 0)), (5, .ref (G.1 35 0)), (6, .ref (G.1 36 0)), (7, iV x7), (8, iV x8), (9, iV x9), (10, iV x10), (11, iV x11)] rfl (fun ls hl175 => ?_)
        refine x_aload M hl175 dL_isSo_77 4 rfl ?_
        refine x_aload M hl175 dL_isSo_79 5 rfl ?_
        refine x_aload M hl175 dL_isSo_81 6 rfl ?_
        refine x_iload M hl175 dL_isSo_83 0 rfl ?_
        obtain ⟨r176, w177, hc178, hf⟩ := bdt hf
        refine x_callTl (As := [.ref (G.1 34 0), .ref (G.1 35 0), .ref (G.1 36 0), iV r170]) (rest := []) M hl175 hS174 (c_L_at l  hi173 hc178) (va_cwS 4 M.2.2.2.2.1 gL_isSo_L_at rfl rfl rfl (by decide +kernel) ⟨Nat.le_of_ble_eq_true rfl, Nat.le_of_ble_eq_true rfl⟩) (Nat.le_of_ble_eq_true rfl) rfl (Nat.le_of_ble_eq_true rfl) dL_isSo_85 rfl ⟨Nat.zero_le _, Nat.zero_le _⟩ (fun H locs hi179 hS180 => ?_)
        refine x_lstore M hl175 dL_isSo_88 (by decide) [(13, lV r176), (12, iV r170), (0, .ref (G.1 10 0)), (1, .ref (G.1 30 0)), (3, .ref (G.1 32 0)), (4, .ref (G.1 34 0)), (5, .ref (G.1 35 0)), (6, .ref (G.1 36 0)), (7, iV x7), (8, iV x8), (9, iV x9), (10, iV x10), (11, iV x11)] rfl (fun ls hl181 => ?_)
        refine x_lload M hl181 dL_isSo_90 0 rfl ?_
        refine x_lconst (z := 0) M dL_isSo_92 rfl ?_
        refine x_lcmp M dL_isSo_93 ?_
        refine x_if_ne (tgt := 118) M (o_inr _) dL_isSo_94 (by decide) (fun hc => ?_) (fun hc => ?_)
        · have hf := iff_ hf hc
          obtain ⟨g182, hf⟩ := gdt hf
          refine x_iinc M hl181 dL_isSo_118 8 rfl (by decide) [(7, iV (x7 + 1)), (13, lV r176), (12, iV r170), (0, .ref (G.1 10 0)), (1, .ref (G.1 30 0)), (3, .ref (G.1 32 0)), (4, .ref (G.1 34 0)), (5, .ref (G.1 35 0)), (6, .ref (G.1 36 0)), (8, iV x8), (9, iV x9), (10, iV x10), (11, iV x11)] rfl (fun ls hl183 => ?_)
          refine x_iload M hl183 dL_isSo_121 9 rfl ?_
          refine x_iload M hl183 dL_isSo_123 2 rfl ?_
          refine x_sipush M dL_isSo_125 rfl ?_
          refine x_icmp_ge (tgt := 135) M hi173 ⟨by decide, by decide⟩ dL_isSo_128 (by decide) (fun hc => ?_) (fun hc => ?_)
          · have hf := iff_ hf (Int.not_lt.mpr hc)
            refine x_aload_n M hl183 dL_isSo_135 5 rfl ?_
            refine x_lload M hl183 dL_isSo_136 1 rfl ?_
            obtain ⟨r184, w185, hc186, hf⟩ := bdt hf
            refine x_callTi (As := [lV r176]) (rest := [.ref (G.1 32 0), iV x8]) M hl183 hS180 (c_L_thing l  hi179 hc186) (va_cwS 1 M.2.2.2.2.1 gL_isSo_L_thing rfl rfl rfl (by decide +kernel) ⟨Nat.le_of_ble_eq_true rfl, Nat.le_of_ble_eq_true rfl⟩) (Nat.le_of_ble_eq_true rfl) rfl (Nat.le_of_ble_eq_true rfl) dL_isSo_138 rfl ⟨Nat.zero_le _, Nat.zero_le _⟩ (fun H locs hi187 hS188 => ?_)
            obtain ⟨g189, hf⟩ := gdt hf
            refine x_iald (c0 := 32) (t0 := 0) M hS188 (by decide) (hs_32 G _) rfl g189 (by decide) dL_isSo_141 ?_
            exact L_isSo_b142_ok M hr ih (x7 + 1) x9 x11 r170 r176 (w185 32 0 r184.toNat) x8 w185 g182 hx9 hx11 hi173 hi179 (hS188.inr _ _ _) hx8 _ _ hS188 _ (lv_sub hl183 [3, 4, 5, 6, 7, 8, 0, 10, 12, 2, 1] rfl) _ _ hf
          · have hf := ift hf (Int.not_le.mp hc)
            refine x_iconst M dL_isSo_131 ?_
            refine x_goto (tgt := 142) M dL_isSo_132 (by decide) ?_
            exact L_isSo_b142_ok M hr ih (x7 + 1) x9 x11 r170 r176 0 x8 w177 g182 hx9 hx11 hi173 hi179 ⟨by decide, by decide⟩ hx8 _ _ hS180 _ (lv_sub hl183 [3, 4, 5, 6, 7, 8, 0, 10, 12, 2, 1] rfl) _ _ hf
        · have hf := ift hf (Decidable.of_not_not hc)
          refine x_aload_n M hl181 dL_isSo_97 2 rfl ?_
          refine x_iload M hl181 dL_isSo_98 1 rfl ?_
          refine x_iconst M dL_isSo_100 ?_
          obtain ⟨r304, w305, hc306, hf⟩ := bdt hf
          refine x_callVi (c0 := 10) (t0 := 0) (As := [iV r170, iV 0]) (rest := []) M hl181 hS180 (c_X7_copy l  hi173 ⟨by decide, by decide⟩ hc306) (cwV 2 M.2.2.2.2.1 gL_isSo_X7_copy rfl rfl rfl (by decide +kernel) ⟨Nat.le_of_ble_eq_true rfl, Nat.le_of_ble_eq_true rfl⟩) (by decide) (sE_10 G _ _) rfl rfl (Nat.le_of_ble_eq_true rfl) dL_isSo_101 rfl ⟨Nat.zero_le _, Nat.zero_le _⟩ (fun H locs hi307 hS308 => ?_)
          refine x_iconst M dL_isSo_104 ?_
          refine x_icmp_ne (tgt := 112) M hi307 ⟨by decide, by decide⟩ dL_isSo_105 (by decide) (fun hc => ?_) (fun hc => ?_)
          · have hf := iff_ hf hc
            refine x_iconst M dL_isSo_112 ?_
            refine x_istore M hl181 dL_isSo_113 (by decide) [(10, iV 0), (13, lV r176), (12, iV r170), (0, .ref (G.1 10 0)), (1, .ref (G.1 30 0)), (3, .ref (G.1 32 0)), (4, .ref (G.1 34 0)), (5, .ref (G.1 35 0)), (6, .ref (G.1 36 0)), (7, iV x7), (8, iV x8), (9, iV x9), (11, iV x11)] rfl (fun ls hl309 => ?_)
            refine x_goto (tgt := 329) M dL_isSo_115 (by decide) ?_
            obtain ⟨g310, hf⟩ := gdt hf
            refine x_iinc M hl309 dL_isSo_329 12 rfl (by decide) [(11, iV (x11 + 1)), (10, iV 0), (13, lV r176), (12, iV r170), (0, .ref (G.1 10 0)), (1, .ref (G.1 30 0)), (3, .ref (G.1 32 0)), (4, .ref (G.1 34 0)), (5, .ref (G.1 35 0)), (6, .ref (G.1 36 0)), (7, iV x7), (8, iV x8), (9, iV x9)] rfl (fun ls hl311 => ?_)
            refine x_goto (tgt := 57) M dL_isSo_332 (by decide) ?_
            exact ih x7 x8 x9 0 (x11 + 1) w305 hx7 hx8 hx9 ⟨by decide, by decide⟩ g310 _ _ hS308 _ (lv_sub hl311 [4, 5, 6, 7, 8, 9, 10, 11, 12, 1, 0] rfl) _ _ hf
          · have hf := ift hf (Decidable.of_not_not hc)
            refine x_iconst M dL_isSo_108 ?_
            refine x_goto (tgt := 113) M dL_isSo_109 (by decide) ?_
            refine x_istore M hl181 dL_isSo_113 (by decide) [(10, iV 1), (13, lV r176), (12, iV r170), (0, .ref (G.1 10 0)), (1, .ref (G.1 30 0)), (3, .ref (G.1 32 0)), (4, .ref (G.1 34 0)), (5, .ref (G.1 35 0)), (6, .ref (G.1 36 0)), (7, iV x7), (8, iV x8), (9, iV x9), (11, iV x11)] rfl (fun ls hl312 => ?_)
            refine x_goto (tgt := 329) M dL_isSo_115 (by decide) ?_
            obtain ⟨g313, hf⟩ := gdt hf
            refine x_iinc M hl312 dL_isSo_329 12 rfl (by decide) [(11, iV (x11 + 1)), (10, iV 1), (13, lV r176), (12, iV r170), (0, .ref (G.1 10 0)), (1, .ref (G.1 30 0)), (3, .ref (G.1 32 0)), (4, .ref (G.1 34 0)), (5, .ref (G.1 35 0)), (6, .ref (G.1 36 0)), (7, iV x7), (8, iV x8), (9, iV x9)] rfl (fun ls hl314 => ?_)
            refine x_goto (tgt := 57) M dL_isSo_332 (by decide) ?_
            exact ih x7 x8 x9 1 (x11 + 1) w305 hx7 hx8 hx9 ⟨by decide, by decide⟩ g313 _ _ hS308 _ (lv_sub hl314 [4, 5, 6, 7, 8, 9, 10, 11, 12, 1, 0] rfl) _ _ hf

set_option maxHeartbeats 4000000 in
set_option maxRecDepth 100000 in
theorem L_isSo_b16_ok (M : MC p s m args meth c cL_isSo 15 RL wsL_isSo G) (hr : meth.sig.returnType = (some .boolean)) : ∀ n : Nat, ∀ x7 : Int, ∀ x8 : Int, ∀ x9 : Int, ∀ x10 : Int, ∀ x11 : Int, ∀ w : Wd, InR x7 → InR x8 → InR x9 → InR x10 → InR x11 → ∀ (H : Heap) (locs : List Loc), ST G s w H locs → ∀ ls : Array Slot, lv_has ls 15 [(0, .ref (G.1 10 0)), (1, .ref (G.1 30 0)), (2, .ref (G.1 31 0)), (3, .ref (G.1 32 0)), (4, .ref (G.1 34 0)), (5, .ref (G.1 35 0)), (6, .ref (G.1 36 0)), (7, iV x7), (8, iV x8), (9, iV x9), (10, iV x10), (11, iV x11)] → ∀ (r : Int) (w' : Wd), L_isSo_b16 n x7 x8 x9 x10 x11 w = some (r, w') → W p l e (rmL 6 181) s m args below meth c H locs 0 0 (MQ below (QiG G r w') args s 0 0 (GA G)) (F0 m 16 ls []) := by
  intro n
  induction n with
  | zero =>
    intro x7 x8 x9 x10 x11 w hx7 hx8 hx9 hx10 hx11 H locs hS0 ls hl0 r w' hf
    cases hf
  | succ n ih =>
    intro x7 x8 x9 x10 x11 w hx7 hx8 hx9 hx10 hx11 H locs hS0 ls hl0 r w' hf
    rw [L_isSo_b16_s] at hf
    refine x_iload M hl0 dL_isSo_16 11 rfl ?_
    refine x_bipush M dL_isSo_18 rfl ?_
    refine x_icmp_ge (tgt := 54) M hx11 ⟨by decide, by decide⟩ dL_isSo_20 (by decide) (fun hc => ?_) (fun hc => ?_)
    · have hf := iff_ hf (Int.not_lt.mpr hc)
      refine x_iconst M dL_isSo_54 ?_
      refine x_istore M hl0 dL_isSo_55 (by decide) [(11, iV 0), (0, .ref (G.1 10 0)), (1, .ref (G.1 30 0)), (2, .ref (G.1 31 0)), (3, .ref (G.1 32 0)), (4, .ref (G.1 34 0)), (5, .ref (G.1 35 0)), (6, .ref (G.1 36 0)), (7, iV x7), (8, iV x8), (9, iV x9), (10, iV x10)] rfl (fun ls hl6 => ?_)
      exact L_isSo_b57_ok M hr LF x7 x8 x9 x10 0 w hx7 hx8 hx9 hx10 ⟨by decide, by decide⟩ _ _ hS0 _ (lv_sub hl6 [1, 2, 4, 5, 6, 7, 8, 9, 10, 11, 0] rfl) _ _ hf
    · have hf := ift hf (Int.not_le.mp hc)
      refine x_iload M hl0 dL_isSo_23 10 rfl ?_
      refine x_if_eq (tgt := 45) M hx10 dL_isSo_25 (by decide) (fun hc => ?_) (fun hc => ?_)
      · have hf := ift hf hc
        refine x_iconst M dL_isSo_45 ?_
        refine x_istore M hl0 dL_isSo_46 (by decide) [(10, iV 0), (0, .ref (G.1 10 0)), (1, .ref (G.1 30 0)), (2, .ref (G.1 31 0)), (3, .ref (G.1 32 0)), (4, .ref (G.1 34 0)), (5, .ref (G.1 35 0)), (6, .ref (G.1 36 0)), (7, iV x7), (8, iV x8), (9, iV x9), (11, iV x11)] rfl (fun ls hl315 => ?_)
        obtain ⟨g316, hf⟩ := gdt hf
        refine x_iinc M hl315 dL_isSo_48 11 rfl (by decide) [(11, iV (x11 + 1)), (10, iV 0), (0, .ref (G.1 10 0)), (1, .ref (G.1 30 0)), (2, .ref (G.1 31 0)), (3, .ref (G.1 32 0)), (4, .ref (G.1 34 0)), (5, .ref (G.1 35 0)), (6, .ref (G.1 36 0)), (7, iV x7), (8, iV x8), (9, iV x9)] rfl (fun ls hl317 => ?_)
        refine x_goto (tgt := 16) M dL_isSo_51 (by decide) ?_
        exact ih x7 x8 x9 0 (x11 + 1) w hx7 hx8 hx9 ⟨by decide, by decide⟩ g316 _ _ hS0 _ (lv_sub hl317 [2, 3, 4, 5, 6, 7, 8, 9, 10, 11, 1, 0] rfl) _ _ hf
      · have hf := iff_ hf hc
        refine x_aload_n M hl0 dL_isSo_28 0 rfl ?_
        refine x_iload M hl0 dL_isSo_29 11 rfl ?_
        obtain ⟨r318, w319, hc320, hf⟩ := bdt hf
        refine x_callVi (c0 := 10) (t0 := 0) (As := [iV x11]) (rest := []) M hl0 hS0 (c_X7_hook l  hx11 hc320) (cwV 1 M.2.2.2.2.1 gL_isSo_X7_hook rfl rfl rfl (by decide +kernel) ⟨Nat.le_of_ble_eq_true rfl, Nat.le_of_ble_eq_true rfl⟩) (by decide) (sE_10 G _ _) rfl rfl (Nat.le_of_ble_eq_true rfl) dL_isSo_31 rfl ⟨Nat.zero_le _, Nat.zero_le _⟩ (fun H locs hi321 hS322 => ?_)
        refine x_aload_n M hl0 dL_isSo_34 2 rfl ?_
        refine x_iload M hl0 dL_isSo_35 11 rfl ?_
        obtain ⟨g323, hf⟩ := gdt hf
        refine x_iald (c0 := 31) (t0 := 0) M hS322 (by decide) (hs_31 G _) rfl g323 (by decide) dL_isSo_37 ?_
        refine x_icmp_ne (tgt := 45) M hi321 (hS322.inr _ _ _) dL_isSo_38 (by decide) (fun hc => ?_) (fun hc => ?_)
        · have hf := iff_ hf hc
          refine x_iconst M dL_isSo_45 ?_
          refine x_istore M hl0 dL_isSo_46 (by decide) [(10, iV 0), (0, .ref (G.1 10 0)), (1, .ref (G.1 30 0)), (2, .ref (G.1 31 0)), (3, .ref (G.1 32 0)), (4, .ref (G.1 34 0)), (5, .ref (G.1 35 0)), (6, .ref (G.1 36 0)), (7, iV x7), (8, iV x8), (9, iV x9), (11, iV x11)] rfl (fun ls hl324 => ?_)
          obtain ⟨g325, hf⟩ := gdt hf
          refine x_iinc M hl324 dL_isSo_48 11 rfl (by decide) [(11, iV (x11 + 1)), (10, iV 0), (0, .ref (G.1 10 0)), (1, .ref (G.1 30 0)), (2, .ref (G.1 31 0)), (3, .ref (G.1 32 0)), (4, .ref (G.1 34 0)), (5, .ref (G.1 35 0)), (6, .ref (G.1 36 0)), (7, iV x7), (8, iV x8), (9, iV x9)] rfl (fun ls hl326 => ?_)
          refine x_goto (tgt := 16) M dL_isSo_51 (by decide) ?_
          exact ih x7 x8 x9 0 (x11 + 1) w319 hx7 hx8 hx9 ⟨by decide, by decide⟩ g325 _ _ hS322 _ (lv_sub hl326 [2, 3, 4, 5, 6, 7, 8, 9, 10, 11, 1, 0] rfl) _ _ hf
        · have hf := ift hf (Decidable.of_not_not hc)
          refine x_iconst M dL_isSo_41 ?_
          refine x_goto (tgt := 46) M dL_isSo_42 (by decide) ?_
          refine x_istore M hl0 dL_isSo_46 (by decide) [(10, iV 1), (0, .ref (G.1 10 0)), (1, .ref (G.1 30 0)), (2, .ref (G.1 31 0)), (3, .ref (G.1 32 0)), (4, .ref (G.1 34 0)), (5, .ref (G.1 35 0)), (6, .ref (G.1 36 0)), (7, iV x7), (8, iV x8), (9, iV x9), (11, iV x11)] rfl (fun ls hl327 => ?_)
          obtain ⟨g328, hf⟩ := gdt hf
          refine x_iinc M hl327 dL_isSo_48 11 rfl (by decide) [(11, iV (x11 + 1)), (10, iV 1), (0, .ref (G.1 10 0)), (1, .ref (G.1 30 0)), (2, .ref (G.1 31 0)), (3, .ref (G.1 32 0)), (4, .ref (G.1 34 0)), (5, .ref (G.1 35 0)), (6, .ref (G.1 36 0)), (7, iV x7), (8, iV x8), (9, iV x9)] rfl (fun ls hl329 => ?_)
          refine x_goto (tgt := 16) M dL_isSo_51 (by decide) ?_
          exact ih x7 x8 x9 1 (x11 + 1) w319 hx7 hx8 hx9 ⟨by decide, by decide⟩ g328 _ _ hS322 _ (lv_sub hl329 [2, 3, 4, 5, 6, 7, 8, 9, 10, 11, 1, 0] rfl) _ _ hf

set_option maxHeartbeats 4000000 in
set_option maxRecDepth 100000 in
theorem c_L_isSo (l : Launch) {G : GG} {w : Wd} {r : Int} {w' : Wd} (hf : L_isSo w = some (r, w')) : Met l yL_isSo wsL_isSo (rmL 6 181) (PcG G w [.ref (G.1 10 0), .ref (G.1 30 0), .ref (G.1 31 0), .ref (G.1 32 0), .ref (G.1 34 0), .ref (G.1 35 0), .ref (G.1 36 0)]) (QiG G r w') 0 0 (GA G) := by
  refine met_of (own := RL) (by decide) rfl (Nat.le_of_ble_eq_true rfl) rfl ?_
  intro p e s m args below meth c M hr ls hl0 hS0
  have hl0 : lv_has ls 15 [(0, .ref (G.1 10 0)), (1, .ref (G.1 30 0)), (2, .ref (G.1 31 0)), (3, .ref (G.1 32 0)), (4, .ref (G.1 34 0)), (5, .ref (G.1 35 0)), (6, .ref (G.1 36 0))] := hl0
  unfold L_isSo at hf
  refine x_iconst M dL_isSo_0 ?_
  refine x_istore M hl0 dL_isSo_1 (by decide) [(7, iV 0), (0, .ref (G.1 10 0)), (1, .ref (G.1 30 0)), (2, .ref (G.1 31 0)), (3, .ref (G.1 32 0)), (4, .ref (G.1 34 0)), (5, .ref (G.1 35 0)), (6, .ref (G.1 36 0))] rfl (fun ls hl1 => ?_)
  refine x_bipush M dL_isSo_3 rfl ?_
  refine x_istore M hl1 dL_isSo_5 (by decide) [(8, iV 60), (7, iV 0), (0, .ref (G.1 10 0)), (1, .ref (G.1 30 0)), (2, .ref (G.1 31 0)), (3, .ref (G.1 32 0)), (4, .ref (G.1 34 0)), (5, .ref (G.1 35 0)), (6, .ref (G.1 36 0))] rfl (fun ls hl2 => ?_)
  refine x_iconst M dL_isSo_7 ?_
  refine x_istore M hl2 dL_isSo_8 (by decide) [(9, iV 0), (8, iV 60), (7, iV 0), (0, .ref (G.1 10 0)), (1, .ref (G.1 30 0)), (2, .ref (G.1 31 0)), (3, .ref (G.1 32 0)), (4, .ref (G.1 34 0)), (5, .ref (G.1 35 0)), (6, .ref (G.1 36 0))] rfl (fun ls hl3 => ?_)
  refine x_iconst M dL_isSo_10 ?_
  refine x_istore M hl3 dL_isSo_11 (by decide) [(10, iV 1), (9, iV 0), (8, iV 60), (7, iV 0), (0, .ref (G.1 10 0)), (1, .ref (G.1 30 0)), (2, .ref (G.1 31 0)), (3, .ref (G.1 32 0)), (4, .ref (G.1 34 0)), (5, .ref (G.1 35 0)), (6, .ref (G.1 36 0))] rfl (fun ls hl4 => ?_)
  refine x_iconst M dL_isSo_13 ?_
  refine x_istore M hl4 dL_isSo_14 (by decide) [(11, iV 0), (10, iV 1), (9, iV 0), (8, iV 60), (7, iV 0), (0, .ref (G.1 10 0)), (1, .ref (G.1 30 0)), (2, .ref (G.1 31 0)), (3, .ref (G.1 32 0)), (4, .ref (G.1 34 0)), (5, .ref (G.1 35 0)), (6, .ref (G.1 36 0))] rfl (fun ls hl5 => ?_)
  exact L_isSo_b16_ok M hr LF 0 60 0 1 0 w ⟨by decide, by decide⟩ ⟨by decide, by decide⟩ ⟨by decide, by decide⟩ ⟨by decide, by decide⟩ ⟨by decide, by decide⟩ _ _ hS0 _ (lv_sub hl5 [5, 6, 7, 8, 9, 10, 11, 4, 3, 2, 1, 0] rfl) _ _ hf

end
