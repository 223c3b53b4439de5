section
variable {p : Program} {l : Launch} {e : Env} {s : State} {m : MethodId} {args : Array Value} {below : List Frame} {meth : Method} {c : Code} {G : GG}
/-! X1_readFrom -/
theorem flX1_readFrom_15 : Cond.fieldLink RX1 15 "NamedMoves$Errand" "place" "I" ∈ wsX1_readFrom := by decide +kernel
theorem flX1_readFrom_25 : Cond.fieldLink RX1 25 "NamedMoves$Errand" "letter" "I" ∈ wsX1_readFrom := by decide +kernel
theorem flX1_readFrom_9 : Cond.fieldLink RX1 9 "NamedMoves$Errand" "numbers" "[I" ∈ wsX1_readFrom := by decide +kernel
theorem inX1_readFrom_X1 : ∀ w ∈ u_ws RX1 TX1 3, w ∈ wsX1_readFrom := by decide +kernel
set_option maxHeartbeats 4000000 in
set_option maxRecDepth 100000 in
theorem X1_readFrom_b67_ok (M : MC p s m args meth c cX1_readFrom 5 RX1 wsX1_readFrom G) (hr : meth.sig.returnType = (some .boolean)) {K38 : Int → Int → Wd → Option (Int × Wd)} (hK38 : ∀ x3 : Int, ∀ x4 : Int, ∀ w : Wd, InR x3 → InR x4 → ∀ (H : Heap) (locs : List Loc), ST G s w H locs → ∀ ls : Array Slot, lv_has ls 5 [(0, .ref (G.1 19 0)), (1, .ref (G.1 17 0)), (3, iV x3), (4, iV x4)] → ∀ (r : Int) (w' : Wd), K38 x3 x4 w = some (r, w') → W p l e (rmk 3) s m args below meth c H locs 0 0 (MQ below (QiG G r w') args s 0 0 (GA G)) (F0 m 38 ls [])) : ∀ x3 : Int, ∀ x4 : Int, ∀ w : Wd, InR x3 → InR x4 → ∀ (H : Heap) (locs : List Loc), ST G s w H locs → ∀ ls : Array Slot, lv_has ls 5 [(0, .ref (G.1 19 0)), (1, .ref (G.1 17 0)), (3, iV x3), (4, iV x4)] → ∀ (r : Int) (w' : Wd), X1_readFrom_b67 K38 x3 x4 w = some (r, w') → W p l e (rmk 3) s m args below meth c H locs 0 0 (MQ below (QiG G r w') args s 0 0 (GA G)) (F0 m 67 ls []) := by
  intro x3 x4 w hx3 hx4 H locs hS0 ls hl0 r w' hf
  unfold X1_readFrom_b67 at hf
  refine x_aload_n M hl0 dX1_readFrom_67 1 rfl ?_
  refine x_aload_n M hl0 dX1_readFrom_68 0 rfl ?_
  refine x_get (c0 := 19) (t0 := 0) (v := iV (w 19 0 1)) M hS0 (by decide) (ref := "NamedMoves$Errand") inX1_readFrom_X1 (sE_19 G _ _) rfl 2 (by decide) (M.2.2.2.2.1 _ flX1_readFrom_15) rfl rfl dX1_readFrom_69 ?_
  obtain ⟨r29, w30, hc31, hf⟩ := bdt hf
  refine x_callVi (c0 := 17) (t0 := 0) (As := [iV (w 19 0 1)]) (rest := []) M hl0 hS0 (c_X6_hasDigitAt l  (hS0.inr _ _ _) hc31) (cwV 1 M.2.2.2.2.1 gX1_readFrom_X6_hasDigitAt rfl rfl rfl (by decide +kernel) ⟨Nat.le_of_ble_eq_true rfl, Nat.le_of_ble_eq_true rfl⟩) (by decide) (sE_17 G _ _) rfl rfl (Nat.le_of_ble_eq_true rfl) dX1_readFrom_72 rfl ⟨Nat.zero_le _, Nat.zero_le _⟩ (fun H locs hi32 hS33 => ?_)
  refine x_if_ne (tgt := 80) M hi32 dX1_readFrom_75 (by decide) (fun hc => ?_) (fun hc => ?_)
  · have hf := iff_ hf hc
    refine x_aload_n M hl0 dX1_readFrom_80 0 rfl ?_
    refine x_get (c0 := 19) (t0 := 0) (v := .ref (G.1 20 0)) M hS33 (by decide) (ref := "NamedMoves$Errand") inX1_readFrom_X1 (sE_19 G _ _) rfl 0 (by decide) (M.2.2.2.2.1 _ flX1_readFrom_9) rfl rfl dX1_readFrom_81 ?_
    refine x_iload M hl0 dX1_readFrom_84 3 rfl ?_
    refine x_aload_n M hl0 dX1_readFrom_86 0 rfl ?_
    refine x_aload_n M hl0 dX1_readFrom_87 1 rfl ?_
    obtain ⟨r34, w35, hc36, hf⟩ := bdt hf
    refine x_callVi (c0 := 19) (t0 := 0) (As := [.ref (G.1 17 0)]) (rest := [iV x4, .ref (G.1 20 0)]) M hl0 hS33 (c_X1_readNumber l   hc36) (cwV 1 M.2.2.2.2.1 gX1_readFrom_X1_readNumber rfl rfl rfl (by decide +kernel) ⟨Nat.le_of_ble_eq_true rfl, Nat.le_of_ble_eq_true rfl⟩) (by decide) (sE_19 G _ _) rfl rfl (Nat.le_of_ble_eq_true rfl) dX1_readFrom_88 rfl ⟨Nat.zero_le _, Nat.zero_le _⟩ (fun H locs hi37 hS38 => ?_)
    obtain ⟨g39, hf⟩ := gdt hf
    refine x_iast (c0 := 20) (t0 := 0) M hS38 (by decide) (hs_20 G _) rfl g39 (by decide) hi37 dX1_readFrom_91 (fun H locs hS40 => ?_)
    obtain ⟨g41, hf⟩ := gdt hf
    refine x_iinc M hl0 dX1_readFrom_92 3 rfl (by decide) [(4, iV (x4 + 1)), (0, .ref (G.1 19 0)), (1, .ref (G.1 17 0)), (3, iV x3)] rfl (fun ls hl42 => ?_)
    refine x_goto (tgt := 38) M dX1_readFrom_95 (by decide) ?_
    exact hK38 x3 (x4 + 1) (up w35 20 0 x4.toNat r34) hx3 g41 _ _ hS40 _ (lv_sub hl42 [1, 2, 3, 0] rfl) _ _ hf
  · have hf := ift hf (Decidable.of_not_not hc)
    refine x_iconst M dX1_readFrom_78 ?_
    exact x_zret M hr hf hS33 (Or.inl rfl) dX1_readFrom_79

set_option maxHeartbeats 4000000 in
set_option maxRecDepth 100000 in
theorem X1_readFrom_b38_ok (M : MC p s m args meth c cX1_readFrom 5 RX1 wsX1_readFrom G) (hr : meth.sig.returnType = (some .boolean)) : ∀ n : Nat, ∀ x3 : Int, ∀ x4 : Int, ∀ w : Wd, InR x3 → InR x4 → ∀ (H : Heap) (locs : List Loc), ST G s w H locs → ∀ ls : Array Slot, lv_has ls 5 [(0, .ref (G.1 19 0)), (1, .ref (G.1 17 0)), (3, iV x3), (4, iV x4)] → ∀ (r : Int) (w' : Wd), X1_readFrom_b38 n x3 x4 w = some (r, w') → W p l e (rmk 3) s m args below meth c H locs 0 0 (MQ below (QiG G r w') args s 0 0 (GA G)) (F0 m 38 ls []) := by
  intro n
  induction n with
  | zero =>
    intro x3 x4 w hx3 hx4 H locs hS0 ls hl0 r w' hf
    cases hf
  | succ n ih =>
    intro x3 x4 w hx3 hx4 H locs hS0 ls hl0 r w' hf
    rw [X1_readFrom_b38_s] at hf
    refine x_iload M hl0 dX1_readFrom_38 3 rfl ?_
    refine x_iload_n M hl0 dX1_readFrom_40 2 rfl ?_
    refine x_icmp_ge (tgt := 98) M hx4 hx3 dX1_readFrom_41 (by decide) (fun hc => ?_) (fun hc => ?_)
    · have hf := iff_ hf (Int.not_lt.mpr hc)
      refine x_aload_n M hl0 dX1_readFrom_98 0 rfl ?_
      refine x_aload_n M hl0 dX1_readFrom_99 1 rfl ?_
      refine x_bipush M dX1_readFrom_100 rfl ?_
      obtain ⟨r17, w18, hc19, hf⟩ := bdt hf
      refine x_callVi (c0 := 19) (t0 := 0) (As := [.ref (G.1 17 0), iV 59]) (rest := []) M hl0 hS0 (c_X1_passes l  ⟨by decide, by decide⟩ hc19) (cwV 2 M.2.2.2.2.1 gX1_readFrom_X1_passes rfl rfl rfl (by decide +kernel) ⟨Nat.le_of_ble_eq_true rfl, Nat.le_of_ble_eq_true rfl⟩) (by decide) (sE_19 G _ _) rfl rfl (Nat.le_of_ble_eq_true rfl) dX1_readFrom_102 rfl ⟨Nat.zero_le _, Nat.zero_le _⟩ (fun H locs hi20 hS21 => ?_)
      obtain ⟨g22, hf⟩ := gdt hf
      exact x_zret M hr hf hS21 g22 dX1_readFrom_105
    · have hf := ift hf (Int.not_le.mp hc)
      refine x_iload M hl0 dX1_readFrom_44 3 rfl ?_
      refine x_iconst M dX1_readFrom_46 ?_
      refine x_icmp_ge (tgt := 98) M hx4 ⟨by decide, by decide⟩ dX1_readFrom_47 (by decide) (fun hc => ?_) (fun hc => ?_)
      · have hf := iff_ hf (Int.not_lt.mpr hc)
        refine x_aload_n M hl0 dX1_readFrom_98 0 rfl ?_
        refine x_aload_n M hl0 dX1_readFrom_99 1 rfl ?_
        refine x_bipush M dX1_readFrom_100 rfl ?_
        obtain ⟨r23, w24, hc25, hf⟩ := bdt hf
        refine x_callVi (c0 := 19) (t0 := 0) (As := [.ref (G.1 17 0), iV 59]) (rest := []) M hl0 hS0 (c_X1_passes l  ⟨by decide, by decide⟩ hc25) (cwV 2 M.2.2.2.2.1 gX1_readFrom_X1_passes rfl rfl rfl (by decide +kernel) ⟨Nat.le_of_ble_eq_true rfl, Nat.le_of_ble_eq_true rfl⟩) (by decide) (sE_19 G _ _) rfl rfl (Nat.le_of_ble_eq_true rfl) dX1_readFrom_102 rfl ⟨Nat.zero_le _, Nat.zero_le _⟩ (fun H locs hi26 hS27 => ?_)
        obtain ⟨g28, hf⟩ := gdt hf
        exact x_zret M hr hf hS27 g28 dX1_readFrom_105
      · have hf := ift hf (Int.not_le.mp hc)
        refine x_iload M hl0 dX1_readFrom_50 3 rfl ?_
        refine x_if_le (tgt := 67) M hx4 dX1_readFrom_52 (by decide) (fun hc => ?_) (fun hc => ?_)
        · have hf := iff_ hf (Int.not_lt.mpr hc)
          exact X1_readFrom_b67_ok M hr ih x3 x4 w hx3 hx4 _ _ hS0 _ (lv_sub hl0 [0, 1, 2, 3] rfl) _ _ hf
        · have hf := ift hf (Int.not_le.mp hc)
          refine x_aload_n M hl0 dX1_readFrom_55 0 rfl ?_
          refine x_aload_n M hl0 dX1_readFrom_56 1 rfl ?_
          refine x_bipush M dX1_readFrom_57 rfl ?_
          obtain ⟨r43, w44, hc45, hf⟩ := bdt hf
          refine x_callVi (c0 := 19) (t0 := 0) (As := [.ref (G.1 17 0), iV 44]) (rest := []) M hl0 hS0 (c_X1_passes l  ⟨by decide, by decide⟩ hc45) (cwV 2 M.2.2.2.2.1 gX1_readFrom_X1_passes rfl rfl rfl (by decide +kernel) ⟨Nat.le_of_ble_eq_true rfl, Nat.le_of_ble_eq_true rfl⟩) (by decide) (sE_19 G _ _) rfl rfl (Nat.le_of_ble_eq_true rfl) dX1_readFrom_59 rfl ⟨Nat.zero_le _, Nat.zero_le _⟩ (fun H locs hi46 hS47 => ?_)
          refine x_if_ne (tgt := 67) M hi46 dX1_readFrom_62 (by decide) (fun hc => ?_) (fun hc => ?_)
          · have hf := iff_ hf hc
            exact X1_readFrom_b67_ok M hr ih x3 x4 w44 hx3 hx4 _ _ hS47 _ (lv_sub hl0 [0, 1, 2, 3] rfl) _ _ hf
          · have hf := ift hf (Decidable.of_not_not hc)
            refine x_iconst M dX1_readFrom_65 ?_
            exact x_zret M hr hf hS47 (Or.inl rfl) dX1_readFrom_66

set_option maxHeartbeats 4000000 in
set_option maxRecDepth 100000 in
theorem c_X1_readFrom (l : Launch) {G : GG} {x2 : Int} (hx2 : InR x2) {w : Wd} {r : Int} {w' : Wd} (hf : X1_readFrom x2 w = some (r, w')) : Met l yX1_readFrom wsX1_readFrom (rmk 3) (PcG G w [.ref (G.1 19 0), .ref (G.1 17 0), iV x2]) (QiG G r w') 0 0 (GA G) := by
  refine met_of (own := RX1) (by decide) rfl (Nat.le_of_ble_eq_true rfl) rfl ?_
  intro p e s m args below meth c M hr ls hl0 hS0
  have hl0 : lv_has ls 5 [(0, .ref (G.1 19 0)), (1, .ref (G.1 17 0)), (2, iV x2)] := hl0
  unfold X1_readFrom at hf
  refine x_aload_n M hl0 dX1_readFrom_0 0 rfl ?_
  refine x_iload_n M hl0 dX1_readFrom_1 2 rfl ?_
  refine x_put (c0 := 19) (t0 := 0) M hS0 (by decide) (ref := "NamedMoves$Errand") inX1_readFrom_X1 tyX1 tyX1_ok nmX1 (sE_19 G _ _) rfl 2 (by decide) (M.2.2.2.2.1 _ flX1_readFrom_15) rfl rfl (ty := tyX1 2) hx2 (tyX1_ok 2 (by decide)) rfl rfl (by simp) 1 (pset_19_1 G _ _ _) dX1_readFrom_2 (fun H locs hS1 => ?_)
  refine x_aload_n M hl0 dX1_readFrom_5 0 rfl ?_
  refine x_aload_n M hl0 dX1_readFrom_6 1 rfl ?_
  refine x_iload_n M hl0 dX1_readFrom_7 2 rfl ?_
  obtain ⟨r2, w3, hc4, hf⟩ := bdt hf
  refine x_callVi (c0 := 17) (t0 := 0) (As := [iV x2]) (rest := [.ref (G.1 19 0)]) M hl0 hS1 (c_X6_at l  hx2 hc4) (cwV 1 M.2.2.2.2.1 gX1_readFrom_X6_at rfl rfl rfl (by decide +kernel) ⟨Nat.le_of_ble_eq_true rfl, Nat.le_of_ble_eq_true rfl⟩) (by decide) (sE_17 G _ _) rfl rfl (Nat.le_of_ble_eq_true rfl) dX1_readFrom_8 rfl ⟨Nat.zero_le _, Nat.zero_le _⟩ (fun H locs hi5 hS6 => ?_)
  refine x_put (c0 := 19) (t0 := 0) M hS6 (by decide) (ref := "NamedMoves$Errand") inX1_readFrom_X1 tyX1 tyX1_ok nmX1 (sE_19 G _ _) rfl 1 (by decide) (M.2.2.2.2.1 _ flX1_readFrom_25) rfl rfl (ty := tyX1 1) hi5 (tyX1_ok 1 (by decide)) rfl rfl (by simp) 0 (pset_19_0 G _ _ _) dX1_readFrom_11 (fun H locs hS7 => ?_)
  refine x_aload_n M hl0 dX1_readFrom_14 0 rfl ?_
  obtain ⟨r8, w9, hc10, hf⟩ := bdt hf
  refine x_callVi (c0 := 19) (t0 := 0) (As := []) (rest := []) M hl0 hS7 (c_X1_numbersDue l   hc10) (cwV 0 M.2.2.2.2.1 gX1_readFrom_X1_numbersDue rfl rfl rfl (by decide +kernel) ⟨Nat.le_of_ble_eq_true rfl, Nat.le_of_ble_eq_true rfl⟩) (by decide) (sE_19 G _ _) rfl rfl (Nat.le_of_ble_eq_true rfl) dX1_readFrom_15 rfl ⟨Nat.zero_le _, Nat.zero_le _⟩ (fun H locs hi11 hS12 => ?_)
  refine x_istore_n M hl0 dX1_readFrom_18 (by decide) [(3, iV r8), (0, .ref (G.1 19 0)), (1, .ref (G.1 17 0)), (2, iV x2)] rfl (fun ls hl13 => ?_)
  refine x_iload_n M hl13 dX1_readFrom_19 0 rfl ?_
  refine x_if_ge (tgt := 25) M hi11 dX1_readFrom_20 (by decide) (fun hc => ?_) (fun hc => ?_)
  · have hf := iff_ hf (Int.not_lt.mpr hc)
    refine x_aload_n M hl13 dX1_readFrom_25 1 rfl ?_
    refine x_dup M dX1_readFrom_26 rfl ?_
    refine x_get (c0 := 19) (t0 := 0) (v := iV (w9 19 0 1)) M hS12 (by decide) (ref := "NamedMoves$Errand") inX1_readFrom_X1 (sE_19 G _ _) rfl 2 (by decide) (M.2.2.2.2.1 _ flX1_readFrom_15) rfl rfl dX1_readFrom_27 ?_
    refine x_iconst M dX1_readFrom_30 ?_
    obtain ⟨g14, hf⟩ := gdt hf
    refine x_iadd M dX1_readFrom_31 ?_
    refine x_put (c0 := 19) (t0 := 0) M hS12 (by decide) (ref := "NamedMoves$Errand") inX1_readFrom_X1 tyX1 tyX1_ok nmX1 (sE_19 G _ _) rfl 2 (by decide) (M.2.2.2.2.1 _ flX1_readFrom_15) rfl rfl (ty := tyX1 2) g14 (tyX1_ok 2 (by decide)) rfl rfl (by simp) 1 (pset_19_1 G _ _ _) dX1_readFrom_32 (fun H locs hS15 => ?_)
    refine x_iconst M dX1_readFrom_35 ?_
    refine x_istore M hl13 dX1_readFrom_36 (by decide) [(4, iV 0), (3, iV r8), (0, .ref (G.1 19 0)), (1, .ref (G.1 17 0)), (2, iV x2)] rfl (fun ls hl16 => ?_)
    exact X1_readFrom_b38_ok M hr LF r8 0 (up w9 19 0 1 ((w9 19 0 1) + 1)) hi11 ⟨by decide, by decide⟩ _ _ hS15 _ (lv_sub hl16 [2, 3, 1, 0] rfl) _ _ hf
  · have hf := ift hf (Int.not_le.mp hc)
    refine x_iconst M dX1_readFrom_23 ?_
    exact x_zret M hr hf hS12 (Or.inl rfl) dX1_readFrom_24

/-! X1_end -/
theorem flX1_end_15 : Cond.fieldLink RX1 15 "NamedMoves$Errand" "place" "I" ∈ wsX1_end := by decide +kernel
theorem inX1_end_X1 : ∀ w ∈ u_ws RX1 TX1 3, w ∈ wsX1_end := by decide +kernel
set_option maxHeartbeats 4000000 in
set_option maxRecDepth 100000 in
theorem c_X1_end (l : Launch) {G : GG} {w : Wd} {r : Int} {w' : Wd} (hf : X1_end w = some (r, w')) : Met l yX1_end wsX1_end (rmk 0) (PcG G w [.ref (G.1 19 0)]) (QiG G r w') 0 0 (GA G) := by
  refine met_of (own := RX1) (by decide) rfl (Nat.le_of_ble_eq_true rfl) rfl ?_
  intro p e s m args below meth c M hr ls hl0 hS0
  have hl0 : lv_has ls 1 [(0, .ref (G.1 19 0))] := hl0
  unfold X1_end at hf
  refine x_aload_n M hl0 dX1_end_0 0 rfl ?_
  refine x_get (c0 := 19) (t0 := 0) (v := iV (w 19 0 1)) M hS0 (by decide) (ref := "NamedMoves$Errand") inX1_end_X1 (sE_19 G _ _) rfl 2 (by decide) (M.2.2.2.2.1 _ flX1_end_15) rfl rfl dX1_end_1 ?_
  exact x_iret M hr hf hS0 (hS0.inr _ _ _) dX1_end_4

/-! X7_textFailed -/
theorem flX7_textFailed_12 : Cond.fieldLink RX7 12 "NamedMoves" "store" "LNamedMoves$Store;" ∈ wsX7_textFailed := by decide +kernel
theorem flX7_textFailed_22 : Cond.fieldLink RX7 22 "NamedMoves" "history" "LNamedMoves$History;" ∈ wsX7_textFailed := by decide +kernel
theorem inX7_textFailed_X7 : ∀ w ∈ u_ws RX7 TX7 6, w ∈ wsX7_textFailed := by decide +kernel
set_option maxHeartbeats 4000000 in
set_option maxRecDepth 100000 in
theorem c_X7_textFailed (l : Launch) {G : GG} {x1 : Int} (hx1 : InR x1) {w : Wd} {r : Int} {w' : Wd} (hf : X7_textFailed x1 w = some (r, w')) : Met l yX7_textFailed wsX7_textFailed (rmk 4) (PcG G w [.ref (G.1 10 0), iV x1]) (QiG G r w') 0 0 (GA G) := by
  refine met_of (own := RX7) (by decide) rfl (Nat.le_of_ble_eq_true rfl) rfl ?_
  intro p e s m args below meth c M hr ls hl0 hS0
  have hl0 : lv_has ls 2 [(0, .ref (G.1 10 0)), (1, iV x1)] := hl0
  unfold X7_textFailed at hf
  refine x_aload_n M hl0 dX7_textFailed_0 0 rfl ?_
  refine x_get (c0 := 10) (t0 := 0) (v := .ref (G.1 11 0)) M hS0 (by decide) (ref := "NamedMoves") inX7_textFailed_X7 (sE_10 G _ _) rfl 2 (by decide) (M.2.2.2.2.1 _ flX7_textFailed_22) rfl rfl dX7_textFailed_1 ?_
  refine x_aload_n M hl0 dX7_textFailed_4 0 rfl ?_
  refine x_get (c0 := 10) (t0 := 0) (v := .ref (G.1 0 0)) M hS0 (by decide) (ref := "NamedMoves") inX7_textFailed_X7 (sE_10 G _ _) rfl 0 (by decide) (M.2.2.2.2.1 _ flX7_textFailed_12) rfl rfl dX7_textFailed_5 ?_
  obtain ⟨r1, w2, hc3, hf⟩ := bdt hf
  refine x_callVv (c0 := 11) (t0 := 0) (As := [.ref (G.1 0 0)]) (rest := []) M hl0 hS0 (c_X2_restoreDraft l (by decide)  hc3) (cwV 1 M.2.2.2.2.1 gX7_textFailed_X2_restoreDraft rfl rfl rfl (by decide +kernel) ⟨Nat.le_of_ble_eq_true rfl, Nat.le_of_ble_eq_true rfl⟩) (by decide) (sE_11 G _ _) rfl rfl (Nat.le_of_ble_eq_true rfl) dX7_textFailed_8 rfl ⟨Nat.zero_le _, Nat.zero_le _⟩ (fun H locs hS5 => ?_)
  refine x_sipush M dX7_textFailed_11 rfl ?_
  refine x_iload_n M hl0 dX7_textFailed_14 1 rfl ?_
  obtain ⟨g6, hf⟩ := gdt hf
  refine x_isub M dX7_textFailed_15 ?_
  exact x_iret M hr hf hS5 g6 dX7_textFailed_16

/-! X1_callOn -/
theorem flX1_callOn_25 : Cond.fieldLink RX1 25 "NamedMoves$Errand" "letter" "I" ∈ wsX1_callOn := by decide +kernel
theorem flX1_callOn_9 : Cond.fieldLink RX1 9 "NamedMoves$Errand" "numbers" "[I" ∈ wsX1_callOn := by decide +kernel
theorem inX1_callOn_X1 : ∀ w ∈ u_ws RX1 TX1 3, w ∈ wsX1_callOn := by decide +kernel
set_option maxHeartbeats 4000000 in
set_option maxRecDepth 100000 in
theorem c_X1_callOn (l : Launch) {G : GG} {t1 : Nat} (ht1 : t1 < 8) {w : Wd} {r : Int} {w' : Wd} (hf : X1_callOn t1 w = some (r, w')) : Met l yX1_callOn wsX1_callOn (rmk 5) (PcG G w [.ref (G.1 19 0), .ref (G.1 0 t1)]) (QiG G r w') 0 0 (GA G) := by
  refine met_of (own := RX1) (by decide) rfl (Nat.le_of_ble_eq_true rfl) rfl ?_
  intro p e s m args below meth c M hr ls hl0 hS0
  have hl0 : lv_has ls 2 [(0, .ref (G.1 19 0)), (1, .ref (G.1 0 t1))] := hl0
  unfold X1_callOn at hf
  refine x_aload_n M hl0 dX1_callOn_0 0 rfl ?_
  refine x_get (c0 := 19) (t0 := 0) (v := iV (w 19 0 0)) M hS0 (by decide) (ref := "NamedMoves$Errand") inX1_callOn_X1 (sE_19 G _ _) rfl 1 (by decide) (M.2.2.2.2.1 _ flX1_callOn_25) rfl rfl dX1_callOn_1 ?_
  by_cases hq98 : w 19 0 0 = 98
  · have hf := ift hf hq98
    refine x_table (tgt := 166) M (hS0.inr _ _ _) dX1_callOn_4 (by decide) (by rw [hq98]; decide) ?_
    refine x_aload_n M hl0 dX1_callOn_166 1 rfl ?_
    obtain ⟨r1, w2, hc3, hf⟩ := bdt hf
    refine x_callVi (c0 := 0) (t0 := t1) (As := []) (rest := []) M hl0 hS0 (c_X5_beginMove l ht1  hc3) (cwV 0 M.2.2.2.2.1 gX1_callOn_X5_beginMove rfl rfl rfl (by decide +kernel) ⟨Nat.le_of_ble_eq_true rfl, Nat.le_of_ble_eq_true rfl⟩) (Or.inl ⟨by decide, ht1⟩) (sE_0 G _ _) rfl rfl (Nat.le_of_ble_eq_true rfl) dX1_callOn_167 rfl ⟨Nat.zero_le _, Nat.zero_le _⟩ (fun H locs hi4 hS5 => ?_)
    exact x_iret M hr hf hS5 hi4 dX1_callOn_170
  have hf := iff_ hf hq98
  by_cases hq100 : w 19 0 0 = 100
  · have hf := ift hf hq100
    refine x_table (tgt := 155) M (hS0.inr _ _ _) dX1_callOn_4 (by decide) (by rw [hq100]; decide) ?_
    refine x_aload_n M hl0 dX1_callOn_155 1 rfl ?_
    refine x_aload_n M hl0 dX1_callOn_156 0 rfl ?_
    refine x_get (c0 := 19) (t0 := 0) (v := .ref (G.1 20 0)) M hS0 (by decide) (ref := "NamedMoves$Errand") inX1_callOn_X1 (sE_19 G _ _) rfl 0 (by decide) (M.2.2.2.2.1 _ flX1_callOn_9) rfl rfl dX1_callOn_157 ?_
    refine x_iconst M dX1_callOn_160 ?_
    refine x_iald (c0 := 20) (t0 := 0) M hS0 (by decide) (hs_20 G _) rfl ⟨by decide, by decide⟩ (by decide) dX1_callOn_161 ?_
    obtain ⟨r6, w7, hc8, hf⟩ := bdt hf
    refine x_callVi (c0 := 0) (t0 := t1) (As := [iV (w 20 0 0)]) (rest := []) M hl0 hS0 (c_X5_dropHook l ht1 (hS0.inr _ _ _) hc8) (cwV 1 M.2.2.2.2.1 gX1_callOn_X5_dropHook rfl rfl rfl (by decide +kernel) ⟨Nat.le_of_ble_eq_true rfl, Nat.le_of_ble_eq_true rfl⟩) (Or.inl ⟨by decide, ht1⟩) (sE_0 G _ _) rfl rfl (Nat.le_of_ble_eq_true rfl) dX1_callOn_162 rfl ⟨Nat.zero_le _, Nat.zero_le _⟩ (fun H locs hi9 hS10 => ?_)
    exact x_iret M hr hf hS10 hi9 dX1_callOn_165
  have hf := iff_ hf hq100
  by_cases hq102 : w 19 0 0 = 102
  · have hf := ift hf hq102
    refine x_table (tgt := 132) M (hS0.inr _ _ _) dX1_callOn_4 (by decide) (by rw [hq102]; decide) ?_
    refine x_aload_n M hl0 dX1_callOn_132 1 rfl ?_
    refine x_aload_n M hl0 dX1_callOn_133 0 rfl ?_
    refine x_get (c0 := 19) (t0 := 0) (v := .ref (G.1 20 0)) M hS0 (by decide) (ref := "NamedMoves$Errand") inX1_callOn_X1 (sE_19 G _ _) rfl 0 (by decide) (M.2.2.2.2.1 _ flX1_callOn_9) rfl rfl dX1_callOn_134 ?_
    refine x_iconst M dX1_callOn_137 ?_
    refine x_iald (c0 := 20) (t0 := 0) M hS0 (by decide) (hs_20 G _) rfl ⟨by decide, by decide⟩ (by decide) dX1_callOn_138 ?_
    refine x_aload_n M hl0 dX1_callOn_139 0 rfl ?_
    refine x_get (c0 := 19) (t0 := 0) (v := .ref (G.1 20 0)) M hS0 (by decide) (ref := "NamedMoves$Errand") inX1_callOn_X1 (sE_19 G _ _) rfl 0 (by decide) (M.2.2.2.2.1 _ flX1_callOn_9) rfl rfl dX1_callOn_140 ?_
    refine x_iconst M dX1_callOn_143 ?_
    refine x_iald (c0 := 20) (t0 := 0) M hS0 (by decide) (hs_20 G _) rfl ⟨by decide, by decide⟩ (by decide) dX1_callOn_144 ?_
    refine x_aload_n M hl0 dX1_callOn_145 0 rfl ?_
    refine x_get (c0 := 19) (t0 := 0) (v := .ref (G.1 20 0)) M hS0 (by decide) (ref := "NamedMoves$Errand") inX1_callOn_X1 (sE_19 G _ _) rfl 0 (by decide) (M.2.2.2.2.1 _ flX1_callOn_9) rfl rfl dX1_callOn_146 ?_
    refine x_iconst M dX1_callOn_149 ?_
    refine x_iald (c0 := 20) (t0 := 0) M hS0 (by decide) (hs_20 G _) rfl ⟨by decide, by decide⟩ (by decide) dX1_callOn_150 ?_
    obtain ⟨r11, w12, hc13, hf⟩ := bdt hf
    refine x_callVi (c0 := 0) (t0 := t1) (As := [iV (w 20 0 0), iV (w 20 0 1), iV (w 20 0 2)]) (rest := []) M hl0 hS0 (c_X5_followName l ht1 (hS0.inr _ _ _) (hS0.inr _ _ _) (hS0.inr _ _ _) hc13) (cwV 3 M.2.2.2.2.1 gX1_callOn_X5_followName rfl rfl rfl (by decide +kernel) ⟨Nat.le_of_ble_eq_true rfl, Nat.le_of_ble_eq_true rfl⟩) (Or.inl ⟨by decide, ht1⟩) (sE_0 G _ _) rfl rfl (Nat.le_of_ble_eq_true rfl) dX1_callOn_151 rfl ⟨Nat.zero_le _, Nat.zero_le _⟩ (fun H locs hi14 hS15 => ?_)
    exact x_iret M hr hf hS15 hi14 dX1_callOn_154
  have hf := iff_ hf hq102
  by_cases hq108 : w 19 0 0 = 108
  · have hf := ift hf hq108
    refine x_table (tgt := 109) M (hS0.inr _ _ _) dX1_callOn_4 (by decide) (by rw [hq108]; decide) ?_
    refine x_aload_n M hl0 dX1_callOn_109 1 rfl ?_
    refine x_aload_n M hl0 dX1_callOn_110 0 rfl ?_
    refine x_get (c0 := 19) (t0 := 0) (v := .ref (G.1 20 0)) M hS0 (by decide) (ref := "NamedMoves$Errand") inX1_callOn_X1 (sE_19 G _ _) rfl 0 (by decide) (M.2.2.2.2.1 _ flX1_callOn_9) rfl rfl dX1_callOn_111 ?_
    refine x_iconst M dX1_callOn_114 ?_
    refine x_iald (c0 := 20) (t0 := 0) M hS0 (by decide) (hs_20 G _) rfl ⟨by decide, by decide⟩ (by decide) dX1_callOn_115 ?_
    refine x_aload_n M hl0 dX1_callOn_116 0 rfl ?_
    refine x_get (c0 := 19) (t0 := 0) (v := .ref (G.1 20 0)) M hS0 (by decide) (ref := "NamedMoves$Errand") inX1_callOn_X1 (sE_19 G _ _) rfl 0 (by decide) (M.2.2.2.2.1 _ flX1_callOn_9) rfl rfl dX1_callOn_117 ?_
    refine x_iconst M dX1_callOn_120 ?_
    refine x_iald (c0 := 20) (t0 := 0) M hS0 (by decide) (hs_20 G _) rfl ⟨by decide, by decide⟩ (by decide) dX1_callOn_121 ?_
    refine x_aload_n M hl0 dX1_callOn_122 0 rfl ?_
    refine x_get (c0 := 19) (t0 := 0) (v := .ref (G.1 20 0)) M hS0 (by decide) (ref := "NamedMoves$Errand") inX1_callOn_X1 (sE_19 G _ _) rfl 0 (by decide) (M.2.2.2.2.1 _ flX1_callOn_9) rfl rfl dX1_callOn_123 ?_
    refine x_iconst M dX1_callOn_126 ?_
    refine x_iald (c0 := 20) (t0 := 0) M hS0 (by decide) (hs_20 G _) rfl ⟨by decide, by decide⟩ (by decide) dX1_callOn_127 ?_
    obtain ⟨r16, w17, hc18, hf⟩ := bdt hf
    refine x_callVi (c0 := 0) (t0 := t1) (As := [iV (w 20 0 0), iV (w 20 0 1), iV (w 20 0 2)]) (rest := []) M hl0 hS0 (c_X5_linkHooks l ht1 (hS0.inr _ _ _) (hS0.inr _ _ _) (hS0.inr _ _ _) hc18) (cwV 3 M.2.2.2.2.1 gX1_callOn_X5_linkHooks rfl rfl rfl (by decide +kernel) ⟨Nat.le_of_ble_eq_true rfl, Nat.le_of_ble_eq_true rfl⟩) (Or.inl ⟨by decide, ht1⟩) (sE_0 G _ _) rfl rfl (Nat.le_of_ble_eq_true rfl) dX1_callOn_128 rfl ⟨Nat.zero_le _, Nat.zero_le _⟩ (fun H locs hi19 hS20 => ?_)
    exact x_iret M hr hf hS20 hi19 dX1_callOn_131
  have hf := iff_ hf hq108
  by_cases hq109 : w 19 0 0 = 109
  · have hf := ift hf hq109
    refine x_table (tgt := 92) M (hS0.inr _ _ _) dX1_callOn_4 (by decide) (by rw [hq109]; decide) ?_
    refine x_aload_n M hl0 dX1_callOn_92 1 rfl ?_
    refine x_aload_n M hl0 dX1_callOn_93 0 rfl ?_
    refine x_get (c0 := 19) (t0 := 0) (v := .ref (G.1 20 0)) M hS0 (by decide) (ref := "NamedMoves$Errand") inX1_callOn_X1 (sE_19 G _ _) rfl 0 (by decide) (M.2.2.2.2.1 _ flX1_callOn_9) rfl rfl dX1_callOn_94 ?_
    refine x_iconst M dX1_callOn_97 ?_
    refine x_iald (c0 := 20) (t0 := 0) M hS0 (by decide) (hs_20 G _) rfl ⟨by decide, by decide⟩ (by decide) dX1_callOn_98 ?_
    refine x_aload_n M hl0 dX1_callOn_99 0 rfl ?_
    refine x_get (c0 := 19) (t0 := 0) (v := .ref (G.1 20 0)) M hS0 (by decide) (ref := "NamedMoves$Errand") inX1_callOn_X1 (sE_19 G _ _) rfl 0 (by decide) (M.2.2.2.2.1 _ flX1_callOn_9) rfl rfl dX1_callOn_100 ?_
    refine x_iconst M dX1_callOn_103 ?_
    refine x_iald (c0 := 20) (t0 := 0) M hS0 (by decide) (hs_20 G _) rfl ⟨by decide, by decide⟩ (by decide) dX1_callOn_104 ?_
    obtain ⟨r21, w22, hc23, hf⟩ := bdt hf
    refine x_callVi (c0 := 0) (t0 := t1) (As := [iV (w 20 0 0), iV (w 20 0 1)]) (rest := []) M hl0 hS0 (c_X5_makeThing l ht1 (hS0.inr _ _ _) (hS0.inr _ _ _) hc23) (cwV 2 M.2.2.2.2.1 gX1_callOn_X5_makeThing rfl rfl rfl (by decide +kernel) ⟨Nat.le_of_ble_eq_true rfl, Nat.le_of_ble_eq_true rfl⟩) (Or.inl ⟨by decide, ht1⟩) (sE_0 G _ _) rfl rfl (Nat.le_of_ble_eq_true rfl) dX1_callOn_105 rfl ⟨Nat.zero_le _, Nat.zero_le _⟩ (fun H locs hi24 hS25 => ?_)
    exact x_iret M hr hf hS25 hi24 dX1_callOn_108
  have hf := iff_ hf hq109
  by_cases hq115 : w 19 0 0 = 115
  · have hf := ift hf hq115
    refine x_table (tgt := 171) M (hS0.inr _ _ _) dX1_callOn_4 (by decide) (by rw [hq115]; decide) ?_
    refine x_aload_n M hl0 dX1_callOn_171 1 rfl ?_
    refine x_aload_n M hl0 dX1_callOn_172 0 rfl ?_
    refine x_get (c0 := 19) (t0 := 0) (v := .ref (G.1 20 0)) M hS0 (by decide) (ref := "NamedMoves$Errand") inX1_callOn_X1 (sE_19 G _ _) rfl 0 (by decide) (M.2.2.2.2.1 _ flX1_callOn_9) rfl rfl dX1_callOn_173 ?_
    refine x_iconst M dX1_callOn_176 ?_
    refine x_iald (c0 := 20) (t0 := 0) M hS0 (by decide) (hs_20 G _) rfl ⟨by decide, by decide⟩ (by decide) dX1_callOn_177 ?_
    obtain ⟨r26, w27, hc28, hf⟩ := bdt hf
    refine x_callVi (c0 := 0) (t0 := t1) (As := [iV (w 20 0 0)]) (rest := []) M hl0 hS0 (c_X5_carrySteps l ht1 (hS0.inr _ _ _) hc28) (cwV 1 M.2.2.2.2.1 gX1_callOn_X5_carrySteps rfl rfl rfl (by decide +kernel) ⟨Nat.le_of_ble_eq_true rfl, Nat.le_of_ble_eq_true rfl⟩) (Or.inl ⟨by decide, ht1⟩) (sE_0 G _ _) rfl rfl (Nat.le_of_ble_eq_true rfl) dX1_callOn_178 rfl ⟨Nat.zero_le _, Nat.zero_le _⟩ (fun H locs hi29 hS30 => ?_)
    exact x_iret M hr hf hS30 hi29 dX1_callOn_181
  have hf := iff_ hf hq115
  have hz : w 19 0 0 < 98 ∨ 115 < w 19 0 0 ∨ w 19 0 0 = 99 ∨ w 19 0 0 = 101 ∨ w 19 0 0 = 103 ∨ w 19 0 0 = 104 ∨ w 19 0 0 = 105 ∨ w 19 0 0 = 106 ∨ w 19 0 0 = 107 ∨ w 19 0 0 = 110 ∨ w 19 0 0 = 111 ∨ w 19 0 0 = 112 ∨ w 19 0 0 = 113 ∨ w 19 0 0 = 114 := by omega
  refine x_table (tgt := 182) M (hS0.inr _ _ _) dX1_callOn_4 (by decide) (by rcases hz with hz | hz | hz | hz | hz | hz | hz | hz | hz | hz | hz | hz | hz | hz <;> first | (rw [hz]; decide) | (unfold tsel; rw [if_pos (by omega)]; decide)) ?_
  refine x_iconst M dX1_callOn_182 ?_
  exact x_iret M hr hf hS0 ⟨by decide, by decide⟩ dX1_callOn_183

/-! X7_run -/
theorem flX7_run_12 : Cond.fieldLink RX7 12 "NamedMoves" "store" "LNamedMoves$Store;" ∈ wsX7_run := by decide +kernel
theorem flX7_run_22 : Cond.fieldLink RX7 22 "NamedMoves" "history" "LNamedMoves$History;" ∈ wsX7_run := by decide +kernel
theorem flX7_run_36 : Cond.fieldLink RX7 36 "NamedMoves" "text" "LNamedMoves$Text;" ∈ wsX7_run := by decide +kernel
theorem flX7_run_43 : Cond.fieldLink RX7 43 "NamedMoves" "errand" "LNamedMoves$Errand;" ∈ wsX7_run := by decide +kernel
theorem inX7_run_X7 : ∀ w ∈ u_ws RX7 TX7 6, w ∈ wsX7_run := by decide +kernel
set_option maxHeartbeats 4000000 in
set_option maxRecDepth 100000 in
theorem X7_run_b93_ok (M : MC p s m args meth c cX7_run 3 RX7 wsX7_run G) (hr : meth.sig.returnType = (some .int)) : ∀ x1 : Int, ∀ w : Wd, InR x1 → ∀ (H : Heap) (locs : List Loc), ST G s w H locs → ∀ ls : Array Slot, lv_has ls 3 [(0, .ref (G.1 10 0)), (1, iV x1)] → ∀ (r : Int) (w' : Wd), X7_run_b93 x1 w = some (r, w') → W p l e (rmk 6) s m args below meth c H locs 0 0 (MQ below (QiG G r w') args s 0 0 (GA G)) (F0 m 93 ls []) := by
  intro x1 w hx1 H locs hS0 ls hl0 r w' hf
  unfold X7_run_b93 at hf
  refine x_aload_n M hl0 dX7_run_93 0 rfl ?_
  refine x_get (c0 := 10) (t0 := 0) (v := .ref (G.1 17 0)) M hS0 (by decide) (ref := "NamedMoves") inX7_run_X7 (sE_10 G _ _) rfl 4 (by decide) (M.2.2.2.2.1 _ flX7_run_36) rfl rfl dX7_run_94 ?_
  obtain ⟨r13, w14, hc15, hf⟩ := bdt hf
  refine x_callVv (c0 := 17) (t0 := 0) (As := []) (rest := []) M hl0 hS0 (c_X6_empty l   hc15) (cwV 0 M.2.2.2.2.1 gX7_run_X6_empty rfl rfl rfl (by decide +kernel) ⟨Nat.le_of_ble_eq_true rfl, Nat.le_of_ble_eq_true rfl⟩) (by decide) (sE_17 G _ _) rfl rfl (Nat.le_of_ble_eq_true rfl) dX7_run_97 rfl ⟨Nat.zero_le _, Nat.zero_le _⟩ (fun H locs hS17 => ?_)
  refine x_aload_n M hl0 dX7_run_100 0 rfl ?_
  refine x_iload_n M hl0 dX7_run_101 1 rfl ?_
  obtain ⟨r18, w19, hc20, hf⟩ := bdt hf
  refine x_callVi (c0 := 10) (t0 := 0) (As := [iV x1]) (rest := []) M hl0 hS17 (c_X7_recorded l  hx1 hc20) (cwV 1 M.2.2.2.2.1 gX7_run_X7_recorded rfl rfl rfl (by decide +kernel) ⟨Nat.le_of_ble_eq_true rfl, Nat.le_of_ble_eq_true rfl⟩) (by decide) (sE_10 G _ _) rfl rfl (Nat.le_of_ble_eq_true rfl) dX7_run_102 rfl ⟨Nat.zero_le _, Nat.zero_le _⟩ (fun H locs hi21 hS22 => ?_)
  exact x_iret M hr hf hS22 hi21 dX7_run_105

set_option maxHeartbeats 4000000 in
set_option maxRecDepth 100000 in
theorem X7_run_b15_ok (M : MC p s m args meth c cX7_run 3 RX7 wsX7_run G) (hr : meth.sig.returnType = (some .int)) : ∀ n : Nat, ∀ x1 : Int, ∀ x2 : Int, ∀ w : Wd, InR x1 → InR x2 → ∀ (H : Heap) (locs : List Loc), ST G s w H locs → ∀ ls : Array Slot, lv_has ls 3 [(0, .ref (G.1 10 0)), (1, iV x1), (2, iV x2)] → ∀ (r : Int) (w' : Wd), X7_run_b15 n x1 x2 w = some (r, w') → W p l e (rmk 6) s m args below meth c H locs 0 0 (MQ below (QiG G r w') args s 0 0 (GA G)) (F0 m 15 ls []) := by
  intro n
  induction n with
  | zero =>
    intro x1 x2 w hx1 hx2 H locs hS0 ls hl0 r w' hf
    cases hf
  | succ n ih =>
    intro x1 x2 w hx1 hx2 H locs hS0 ls hl0 r w' hf
    rw [X7_run_b15_s] at hf
    refine x_iload_n M hl0 dX7_run_15 2 rfl ?_
    refine x_aload_n M hl0 dX7_run_16 0 rfl ?_
    refine x_get (c0 := 10) (t0 := 0) (v := .ref (G.1 17 0)) M hS0 (by decide) (ref := "NamedMoves") inX7_run_X7 (sE_10 G _ _) rfl 4 (by decide) (M.2.2.2.2.1 _ flX7_run_36) rfl rfl dX7_run_17 ?_
    obtain ⟨r8, w9, hc10, hf⟩ := bdt hf
    refine x_callVi (c0 := 17) (t0 := 0) (As := []) (rest := [iV x2]) M hl0 hS0 (c_X6_size l   hc10) (cwV 0 M.2.2.2.2.1 gX7_run_X6_size rfl rfl rfl (by decide +kernel) ⟨Nat.le_of_ble_eq_true rfl, Nat.le_of_ble_eq_true rfl⟩) (by decide) (sE_17 G _ _) rfl rfl (Nat.le_of_ble_eq_true rfl) dX7_run_20 rfl ⟨Nat.zero_le _, Nat.zero_le _⟩ (fun H locs hi11 hS12 => ?_)
    refine x_icmp_ge (tgt := 93) M hx2 hi11 dX7_run_23 (by decide) (fun hc => ?_) (fun hc => ?_)
    · have hf := iff_ hf (Int.not_lt.mpr hc)
      exact X7_run_b93_ok M hr x1 w9 hx1 _ _ hS12 _ (lv_sub hl0 [0, 1] rfl) _ _ hf
    · have hf := ift hf (Int.not_le.mp hc)
      refine x_iload_n M hl0 dX7_run_26 1 rfl ?_
      refine x_bipush M dX7_run_27 rfl ?_
      refine x_icmp_ge (tgt := 93) M hx1 ⟨by decide, by decide⟩ dX7_run_29 (by decide) (fun hc => ?_) (fun hc => ?_)
      · have hf := iff_ hf (Int.not_lt.mpr hc)
        exact X7_run_b93_ok M hr x1 w9 hx1 _ _ hS12 _ (lv_sub hl0 [0, 1] rfl) _ _ hf
      · have hf := ift hf (Int.not_le.mp hc)
        refine x_aload_n M hl0 dX7_run_32 0 rfl ?_
        refine x_get (c0 := 10) (t0 := 0) (v := .ref (G.1 19 0)) M hS12 (by decide) (ref := "NamedMoves") inX7_run_X7 (sE_10 G _ _) rfl 5 (by decide) (M.2.2.2.2.1 _ flX7_run_43) rfl rfl dX7_run_33 ?_
        refine x_aload_n M hl0 dX7_run_36 0 rfl ?_
        refine x_get (c0 := 10) (t0 := 0) (v := .ref (G.1 17 0)) M hS12 (by decide) (ref := "NamedMoves") inX7_run_X7 (sE_10 G _ _) rfl 4 (by decide) (M.2.2.2.2.1 _ flX7_run_36) rfl rfl dX7_run_37 ?_
        refine x_iload_n M hl0 dX7_run_40 2 rfl ?_
        obtain ⟨r23, w24, hc25, hf⟩ := bdt hf
        refine x_callVi (c0 := 19) (t0 := 0) (As := [.ref (G.1 17 0), iV x2]) (rest := []) M hl0 hS12 (c_X1_readFrom l  hx2 hc25) (cwV 2 M.2.2.2.2.1 gX7_run_X1_readFrom rfl rfl rfl (by decide +kernel) ⟨Nat.le_of_ble_eq_true rfl, Nat.le_of_ble_eq_true rfl⟩) (by decide) (sE_19 G _ _) rfl rfl (Nat.le_of_ble_eq_true rfl) dX7_run_41 rfl ⟨Nat.zero_le _, Nat.zero_le _⟩ (fun H locs hi26 hS27 => ?_)
        refine x_if_ne (tgt := 59) M hi26 dX7_run_44 (by decide) (fun hc => ?_) (fun hc => ?_)
        · have hf := iff_ hf hc
          refine x_aload_n M hl0 dX7_run_59 0 rfl ?_
          refine x_get (c0 := 10) (t0 := 0) (v := .ref (G.1 19 0)) M hS27 (by decide) (ref := "NamedMoves") inX7_run_X7 (sE_10 G _ _) rfl 5 (by decide) (M.2.2.2.2.1 _ flX7_run_43) rfl rfl dX7_run_60 ?_
          refine x_aload_n M hl0 dX7_run_63 0 rfl ?_
          refine x_get (c0 := 10) (t0 := 0) (v := .ref (G.1 0 0)) M hS27 (by decide) (ref := "NamedMoves") inX7_run_X7 (sE_10 G _ _) rfl 0 (by decide) (M.2.2.2.2.1 _ flX7_run_12) rfl rfl dX7_run_64 ?_
          obtain ⟨r28, w29, hc30, hf⟩ := bdt hf
          refine x_callVi (c0 := 19) (t0 := 0) (As := [.ref (G.1 0 0)]) (rest := []) M hl0 hS27 (c_X1_callOn l (by decide)  hc30) (cwV 1 M.2.2.2.2.1 gX7_run_X1_callOn rfl rfl rfl (by decide +kernel) ⟨Nat.le_of_ble_eq_true rfl, Nat.le_of_ble_eq_true rfl⟩) (by decide) (sE_19 G _ _) rfl rfl (Nat.le_of_ble_eq_true rfl) dX7_run_67 rfl ⟨Nat.zero_le _, Nat.zero_le _⟩ (fun H locs hi31 hS32 => ?_)
          refine x_if_ge (tgt := 79) M hi31 dX7_run_70 (by decide) (fun hc => ?_) (fun hc => ?_)
          · have hf := iff_ hf (Int.not_lt.mpr hc)
            refine x_aload_n M hl0 dX7_run_79 0 rfl ?_
            refine x_get (c0 := 10) (t0 := 0) (v := .ref (G.1 19 0)) M hS32 (by decide) (ref := "NamedMoves") inX7_run_X7 (sE_10 G _ _) rfl 5 (by decide) (M.2.2.2.2.1 _ flX7_run_43) rfl rfl dX7_run_80 ?_
            obtain ⟨r33, w34, hc35, hf⟩ := bdt hf
            refine x_callVi (c0 := 19) (t0 := 0) (As := []) (rest := []) M hl0 hS32 (c_X1_end l   hc35) (cwV 0 M.2.2.2.2.1 gX7_run_X1_end rfl rfl rfl (by decide +kernel) ⟨Nat.le_of_ble_eq_true rfl, Nat.le_of_ble_eq_true rfl⟩) (by decide) (sE_19 G _ _) rfl rfl (Nat.le_of_ble_eq_true rfl) dX7_run_83 rfl ⟨Nat.zero_le _, Nat.zero_le _⟩ (fun H locs hi36 hS37 => ?_)
            refine x_istore_n M hl0 dX7_run_86 (by decide) [(2, iV r33), (0, .ref (G.1 10 0)), (1, iV x1)] rfl (fun ls hl38 => ?_)
            obtain ⟨g39, hf⟩ := gdt hf
            refine x_iinc M hl38 dX7_run_87 2 rfl (by decide) [(1, iV (x1 + 1)), (2, iV r33), (0, .ref (G.1 10 0))] rfl (fun ls hl40 => ?_)
            refine x_goto (tgt := 15) M dX7_run_90 (by decide) ?_
            exact ih (x1 + 1) r33 w34 g39 hi36 _ _ hS37 _ (lv_sub hl40 [2, 0, 1] rfl) _ _ hf
          · have hf := ift hf (Int.not_le.mp hc)
            refine x_aload_n M hl0 dX7_run_73 0 rfl ?_
            refine x_iload_n M hl0 dX7_run_74 2 rfl ?_
            obtain ⟨r41, w42, hc43, hf⟩ := bdt hf
            refine x_callVi (c0 := 10) (t0 := 0) (As := [iV x2]) (rest := []) M hl0 hS32 (c_X7_textFailed l  hx2 hc43) (cwV 1 M.2.2.2.2.1 gX7_run_X7_textFailed rfl rfl rfl (by decide +kernel) ⟨Nat.le_of_ble_eq_true rfl, Nat.le_of_ble_eq_true rfl⟩) (by decide) (sE_10 G _ _) rfl rfl (Nat.le_of_ble_eq_true rfl) dX7_run_75 rfl ⟨Nat.zero_le _, Nat.zero_le _⟩ (fun H locs hi44 hS45 => ?_)
            exact x_iret M hr hf hS45 hi44 dX7_run_78
        · have hf := ift hf (Decidable.of_not_not hc)
          refine x_aload_n M hl0 dX7_run_47 0 rfl ?_
          refine x_aload_n M hl0 dX7_run_48 0 rfl ?_
          refine x_get (c0 := 10) (t0 := 0) (v := .ref (G.1 19 0)) M hS27 (by decide) (ref := "NamedMoves") inX7_run_X7 (sE_10 G _ _) rfl 5 (by decide) (M.2.2.2.2.1 _ flX7_run_43) rfl rfl dX7_run_49 ?_
          obtain ⟨r46, w47, hc48, hf⟩ := bdt hf
          refine x_callVi (c0 := 19) (t0 := 0) (As := []) (rest := [.ref (G.1 10 0)]) M hl0 hS27 (c_X1_end l   hc48) (cwV 0 M.2.2.2.2.1 gX7_run_X1_end rfl rfl rfl (by decide +kernel) ⟨Nat.le_of_ble_eq_true rfl, Nat.le_of_ble_eq_true rfl⟩) (by decide) (sE_19 G _ _) rfl rfl (Nat.le_of_ble_eq_true rfl) dX7_run_52 rfl ⟨Nat.zero_le _, Nat.zero_le _⟩ (fun H locs hi49 hS50 => ?_)
          obtain ⟨r51, w52, hc53, hf⟩ := bdt hf
          refine x_callVi (c0 := 10) (t0 := 0) (As := [iV r46]) (rest := []) M hl0 hS50 (c_X7_textFailed l  hi49 hc53) (cwV 1 M.2.2.2.2.1 gX7_run_X7_textFailed rfl rfl rfl (by decide +kernel) ⟨Nat.le_of_ble_eq_true rfl, Nat.le_of_ble_eq_true rfl⟩) (by decide) (sE_10 G _ _) rfl rfl (Nat.le_of_ble_eq_true rfl) dX7_run_55 rfl ⟨Nat.zero_le _, Nat.zero_le _⟩ (fun H locs hi54 hS55 => ?_)
          exact x_iret M hr hf hS55 hi54 dX7_run_58

set_option maxHeartbeats 4000000 in
set_option maxRecDepth 100000 in
theorem c_X7_run (l : Launch) {G : GG} {w : Wd} {r : Int} {w' : Wd} (hf : X7_run w = some (r, w')) : Met l yX7_run wsX7_run (rmk 6) (PcG G w [.ref (G.1 10 0)]) (QiG G r w') 0 0 (GA G) := by
  refine met_of (own := RX7) (by decide) rfl (Nat.le_of_ble_eq_true rfl) rfl ?_
  intro p e s m args below meth c M hr ls hl0 hS0
  have hl0 : lv_has ls 3 [(0, .ref (G.1 10 0))] := hl0
  unfold X7_run at hf
  refine x_aload_n M hl0 dX7_run_0 0 rfl ?_
  refine x_get (c0 := 10) (t0 := 0) (v := .ref (G.1 11 0)) M hS0 (by decide) (ref := "NamedMoves") inX7_run_X7 (sE_10 G _ _) rfl 2 (by decide) (M.2.2.2.2.1 _ flX7_run_22) rfl rfl dX7_run_1 ?_
  refine x_aload_n M hl0 dX7_run_4 0 rfl ?_
  refine x_get (c0 := 10) (t0 := 0) (v := .ref (G.1 0 0)) M hS0 (by decide) (ref := "NamedMoves") inX7_run_X7 (sE_10 G _ _) rfl 0 (by decide) (M.2.2.2.2.1 _ flX7_run_12) rfl rfl dX7_run_5 ?_
  obtain ⟨r1, w2, hc3, hf⟩ := bdt hf
  refine x_callVv (c0 := 11) (t0 := 0) (As := [.ref (G.1 0 0)]) (rest := []) M hl0 hS0 (c_X2_draft l (by decide)  hc3) (cwV 1 M.2.2.2.2.1 gX7_run_X2_draft rfl rfl rfl (by decide +kernel) ⟨Nat.le_of_ble_eq_true rfl, Nat.le_of_ble_eq_true rfl⟩) (by decide) (sE_11 G _ _) rfl rfl (Nat.le_of_ble_eq_true rfl) dX7_run_8 rfl ⟨Nat.zero_le _, Nat.zero_le _⟩ (fun H locs hS5 => ?_)
  refine x_iconst M dX7_run_11 ?_
  refine x_istore_n M hl0 dX7_run_12 (by decide) [(1, iV 0), (0, .ref (G.1 10 0))] rfl (fun ls hl6 => ?_)
  refine x_iconst M dX7_run_13 ?_
  refine x_istore_n M hl6 dX7_run_14 (by decide) [(2, iV 0), (1, iV 0), (0, .ref (G.1 10 0))] rfl (fun ls hl7 => ?_)
  exact X7_run_b15_ok M hr LF 0 0 w2 ⟨by decide, by decide⟩ ⟨by decide, by decide⟩ _ _ hS5 _ (lv_sub hl7 [2, 1, 0] rfl) _ _ hf

/-! X0_number -/
set_option maxHeartbeats 4000000 in
set_option maxRecDepth 100000 in
theorem X0_number_b4_ok (M : MC p s m args meth c cX0_number 3 RX0 wsX0_number G) (hr : meth.sig.returnType = (some .int)) {t : Nat} (ht : t < 8) : ∀ n : Nat, ∀ x1 : Int, ∀ x2 : Int, ∀ w : Wd, InR x1 → InR x2 → ∀ (H : Heap) (locs : List Loc), ST G s w H locs → ∀ ls : Array Slot, lv_has ls 3 [(0, .ref (G.1 2 t)), (1, iV x1), (2, iV x2)] → ∀ (r : Int) (w' : Wd), X0_number_b4 t n x1 x2 w = some (r, w') → W p l e (rmk 1) s m args below meth c H locs 0 0 (MQ below (QiG G r w') args s 0 0 (GA G)) (F0 m 4 ls []) := by
  intro n
  induction n with
  | zero =>
    intro x1 x2 w hx1 hx2 H locs hS0 ls hl0 r w' hf
    cases hf
  | succ n ih =>
    intro x1 x2 w hx1 hx2 H locs hS0 ls hl0 r w' hf
    rw [X0_number_b4_s] at hf
    refine x_iload_n M hl0 dX0_number_4 2 rfl ?_
    refine x_sipush M dX0_number_5 rfl ?_
    refine x_icmp_ge (tgt := 28) M hx2 ⟨by decide, by decide⟩ dX0_number_8 (by decide) (fun hc => ?_) (fun hc => ?_)
    · have hf := iff_ hf (Int.not_lt.mpr hc)
      refine x_iload_n M hl0 dX0_number_28 1 rfl ?_
      exact x_iret M hr hf hS0 hx1 dX0_number_29
    · have hf := ift hf (Int.not_le.mp hc)
      refine x_aload_n M hl0 dX0_number_11 0 rfl ?_
      refine x_iload_n M hl0 dX0_number_12 2 rfl ?_
      obtain ⟨r3, w4, hc5, hf⟩ := bdt hf
      refine x_callVi (c0 := 2) (t0 := t) (As := [iV x2]) (rest := []) M hl0 hS0 (c_X0_isAt l ht hx2 hc5) (cwV 1 M.2.2.2.2.1 gX0_number_X0_isAt rfl rfl rfl (by decide +kernel) ⟨Nat.le_of_ble_eq_true rfl, Nat.le_of_ble_eq_true rfl⟩) (Or.inl ⟨by decide, ht⟩) (sE_2 G _ _) rfl rfl (Nat.le_of_ble_eq_true rfl) dX0_number_13 rfl ⟨Nat.zero_le _, Nat.zero_le _⟩ (fun H locs hi6 hS7 => ?_)
      refine x_if_eq (tgt := 22) M hi6 dX0_number_16 (by decide) (fun hc => ?_) (fun hc => ?_)
      · have hf := ift hf hc
        obtain ⟨g8, hf⟩ := gdt hf
        refine x_iinc M hl0 dX0_number_22 2 rfl (by decide) [(2, iV (x2 + 1)), (0, .ref (G.1 2 t)), (1, iV x1)] rfl (fun ls hl9 => ?_)
        refine x_goto (tgt := 4) M dX0_number_25 (by decide) ?_
        exact ih x1 (x2 + 1) w4 hx1 g8 _ _ hS7 _ (lv_sub hl9 [1, 2, 0] rfl) _ _ hf
      · have hf := iff_ hf hc
        obtain ⟨g10, hf⟩ := gdt hf
        refine x_iinc M hl0 dX0_number_19 1 rfl (by decide) [(1, iV (x1 + 1)), (0, .ref (G.1 2 t)), (2, iV x2)] rfl (fun ls hl11 => ?_)
        obtain ⟨g12, hf⟩ := gdt hf
        refine x_iinc M hl11 dX0_number_22 2 rfl (by decide) [(2, iV (x2 + 1)), (1, iV (x1 + 1)), (0, .ref (G.1 2 t))] rfl (fun ls hl13 => ?_)
        refine x_goto (tgt := 4) M dX0_number_25 (by decide) ?_
        exact ih (x1 + 1) (x2 + 1) w4 g10 g12 _ _ hS7 _ (lv_sub hl13 [2, 1, 0] rfl) _ _ hf

set_option maxHeartbeats 4000000 in
set_option maxRecDepth 100000 in
theorem c_X0_number (l : Launch) {G : GG} {t : Nat} (ht : t < 8) {w : Wd} {r : Int} {w' : Wd} (hf : X0_number t w = some (r, w')) : Met l yX0_number wsX0_number (rmk 1) (PcG G w [.ref (G.1 2 t)]) (QiG G r w') 0 0 (GA G) := by
  refine met_of (own := RX0) (by decide) rfl (Nat.le_of_ble_eq_true rfl) rfl ?_
  intro p e s m args below meth c M hr ls hl0 hS0
  have hl0 : lv_has ls 3 [(0, .ref (G.1 2 t))] := hl0
  unfold X0_number at hf
  refine x_iconst M dX0_number_0 ?_
  refine x_istore_n M hl0 dX0_number_1 (by decide) [(1, iV 0), (0, .ref (G.1 2 t))] rfl (fun ls hl1 => ?_)
  refine x_iconst M dX0_number_2 ?_
  refine x_istore_n M hl1 dX0_number_3 (by decide) [(2, iV 0), (1, iV 0), (0, .ref (G.1 2 t))] rfl (fun ls hl2 => ?_)
  exact X0_number_b4_ok M hr ht LF 0 0 w ⟨by decide, by decide⟩ ⟨by decide, by decide⟩ _ _ hS0 _ (lv_sub hl2 [2, 1, 0] rfl) _ _ hf

/-! X0_floorTaken -/
set_option maxHeartbeats 4000000 in
set_option maxRecDepth 100000 in
theorem X0_floorTaken_b4_ok (M : MC p s m args meth c cX0_floorTaken 3 RX0 wsX0_floorTaken G) (hr : meth.sig.returnType = (some .int)) {t : Nat} (ht : t < 8) : ∀ n : Nat, ∀ x1 : Int, ∀ x2 : Int, ∀ w : Wd, InR x1 → InR x2 → ∀ (H : Heap) (locs : List Loc), ST G s w H locs → ∀ ls : Array Slot, lv_has ls 3 [(0, .ref (G.1 2 t)), (1, iV x1), (2, iV x2)] → ∀ (r : Int) (w' : Wd), X0_floorTaken_b4 t n x1 x2 w = some (r, w') → W p l e (rmk 2) s m args below meth c H locs 0 0 (MQ below (QiG G r w') args s 0 0 (GA G)) (F0 m 4 ls []) := by
  intro n
  induction n with
  | zero =>
    intro x1 x2 w hx1 hx2 H locs hS0 ls hl0 r w' hf
    cases hf
  | succ n ih =>
    intro x1 x2 w hx1 hx2 H locs hS0 ls hl0 r w' hf
    rw [X0_floorTaken_b4_s] at hf
    refine x_iload_n M hl0 dX0_floorTaken_4 2 rfl ?_
    refine x_bipush M dX0_floorTaken_5 rfl ?_
    refine x_icmp_ge (tgt := 28) M hx2 ⟨by decide, by decide⟩ dX0_floorTaken_7 (by decide) (fun hc => ?_) (fun hc => ?_)
    · have hf := iff_ hf (Int.not_lt.mpr hc)
      refine x_iload_n M hl0 dX0_floorTaken_28 1 rfl ?_
      exact x_iret M hr hf hS0 hx1 dX0_floorTaken_29
    · have hf := ift hf (Int.not_le.mp hc)
      refine x_iload_n M hl0 dX0_floorTaken_10 1 rfl ?_
      refine x_aload_n M hl0 dX0_floorTaken_11 0 rfl ?_
      refine x_sipush M dX0_floorTaken_12 rfl ?_
      refine x_iload_n M hl0 dX0_floorTaken_15 2 rfl ?_
      obtain ⟨g3, hf⟩ := gdt hf
      refine x_iadd M dX0_floorTaken_16 ?_
      obtain ⟨r4, w5, hc6, hf⟩ := bdt hf
      refine x_callVi (c0 := 2) (t0 := t) (As := [iV (200 + x2)]) (rest := [iV x1]) M hl0 hS0 (c_X0_sizeAt l ht g3 hc6) (cwV 1 M.2.2.2.2.1 gX0_floorTaken_X0_sizeAt rfl rfl rfl (by decide +kernel) ⟨Nat.le_of_ble_eq_true rfl, Nat.le_of_ble_eq_true rfl⟩) (Or.inl ⟨by decide, ht⟩) (sE_2 G _ _) rfl rfl (Nat.le_of_ble_eq_true rfl) dX0_floorTaken_17 rfl ⟨Nat.zero_le _, Nat.zero_le _⟩ (fun H locs hi7 hS8 => ?_)
      obtain ⟨g9, hf⟩ := gdt hf
      refine x_iadd M dX0_floorTaken_20 ?_
      refine x_istore_n M hl0 dX0_floorTaken_21 (by decide) [(1, iV (x1 + r4)), (0, .ref (G.1 2 t)), (2, iV x2)] rfl (fun ls hl10 => ?_)
      obtain ⟨g11, hf⟩ := gdt hf
      refine x_iinc M hl10 dX0_floorTaken_22 2 rfl (by decide) [(2, iV (x2 + 1)), (1, iV (x1 + r4)), (0, .ref (G.1 2 t))] rfl (fun ls hl12 => ?_)
      refine x_goto (tgt := 4) M dX0_floorTaken_25 (by decide) ?_
      exact ih (x1 + r4) (x2 + 1) w5 g9 g11 _ _ hS8 _ (lv_sub hl12 [2, 1, 0] rfl) _ _ hf

set_option maxHeartbeats 4000000 in
set_option maxRecDepth 100000 in
theorem c_X0_floorTaken (l : Launch) {G : GG} {t : Nat} (ht : t < 8) {w : Wd} {r : Int} {w' : Wd} (hf : X0_floorTaken t w = some (r, w')) : Met l yX0_floorTaken wsX0_floorTaken (rmk 2) (PcG G w [.ref (G.1 2 t)]) (QiG G r w') 0 0 (GA G) := by
  refine met_of (own := RX0) (by decide) rfl (Nat.le_of_ble_eq_true rfl) rfl ?_
  intro p e s m args below meth c M hr ls hl0 hS0
  have hl0 : lv_has ls 3 [(0, .ref (G.1 2 t))] := hl0
  unfold X0_floorTaken at hf
  refine x_iconst M dX0_floorTaken_0 ?_
  refine x_istore_n M hl0 dX0_floorTaken_1 (by decide) [(1, iV 0), (0, .ref (G.1 2 t))] rfl (fun ls hl1 => ?_)
  refine x_iconst M dX0_floorTaken_2 ?_
  refine x_istore_n M hl1 dX0_floorTaken_3 (by decide) [(2, iV 0), (1, iV 0), (0, .ref (G.1 2 t))] rfl (fun ls hl2 => ?_)
  exact X0_floorTaken_b4_ok M hr ht LF 0 0 w ⟨by decide, by decide⟩ ⟨by decide, by decide⟩ _ _ hS0 _ (lv_sub hl2 [2, 1, 0] rfl) _ _ hf

/-! X5_thingsWithTwins -/
theorem flX5_thingsWithTwins_52 : Cond.fieldLink RX5 52 "NamedMoves$Store" "made" "I" ∈ wsX5_thingsWithTwins := by decide +kernel
theorem inX5_thingsWithTwins_X5 : ∀ w ∈ u_ws RX5 TX5 10, w ∈ wsX5_thingsWithTwins := by decide +kernel
set_option maxHeartbeats 4000000 in
set_option maxRecDepth 100000 in
theorem X5_thingsWithTwins_b4_ok (M : MC p s m args meth c cX5_thingsWithTwins 3 RX5 wsX5_thingsWithTwins G) (hr : meth.sig.returnType = (some .int)) {t : Nat} (ht : t < 8) : ∀ n : Nat, ∀ x1 : Int, ∀ x2 : Int, ∀ w : Wd, InR x1 → InR x2 → ∀ (H : Heap) (locs : List Loc), ST G s w H locs → ∀ ls : Array Slot, lv_has ls 3 [(0, .ref (G.1 0 t)), (1, iV x1), (2, iV x2)] → ∀ (r : Int) (w' : Wd), X5_thingsWithTwins_b4 t n x1 x2 w = some (r, w') → W p l e (rmk 3) s m args below meth c H locs 0 0 (MQ below (QiG G r w') args s 0 0 (GA G)) (F0 m 4 ls []) := by
  intro n
  induction n with
  | zero =>
    intro x1 x2 w hx1 hx2 H locs hS0 ls hl0 r w' hf
    cases hf
  | succ n ih =>
    intro x1 x2 w hx1 hx2 H locs hS0 ls hl0 r w' hf
    rw [X5_thingsWithTwins_b4_s] at hf
    refine x_iload_n M hl0 dX5_thingsWithTwins_4 2 rfl ?_
    refine x_aload_n M hl0 dX5_thingsWithTwins_5 0 rfl ?_
    refine x_get (c0 := 0) (t0 := t) (v := iV (w 0 t 1)) M hS0 (Or.inl ⟨by decide, ht⟩) (ref := "NamedMoves$Store") inX5_thingsWithTwins_X5 (sE_0 G _ _) rfl 4 (by decide) (M.2.2.2.2.1 _ flX5_thingsWithTwins_52) rfl rfl dX5_thingsWithTwins_6 ?_
    refine x_icmp_ge (tgt := 29) M hx2 (hS0.inr _ _ _) dX5_thingsWithTwins_9 (by decide) (fun hc => ?_) (fun hc => ?_)
    · have hf := iff_ hf (Int.not_lt.mpr hc)
      refine x_iload_n M hl0 dX5_thingsWithTwins_29 1 rfl ?_
      exact x_iret M hr hf hS0 hx1 dX5_thingsWithTwins_30
    · have hf := ift hf (Int.not_le.mp hc)
      refine x_aload_n M hl0 dX5_thingsWithTwins_12 0 rfl ?_
      refine x_iload_n M hl0 dX5_thingsWithTwins_13 2 rfl ?_
      obtain ⟨r3, w4, hc5, hf⟩ := bdt hf
      refine x_callVi (c0 := 0) (t0 := t) (As := [iV x2]) (rest := []) M hl0 hS0 (c_X5_hasTwins l ht hx2 hc5) (cwV 1 M.2.2.2.2.1 gX5_thingsWithTwins_X5_hasTwins rfl rfl rfl (by decide +kernel) ⟨Nat.le_of_ble_eq_true rfl, Nat.le_of_ble_eq_true rfl⟩) (Or.inl ⟨by decide, ht⟩) (sE_0 G _ _) rfl rfl (Nat.le_of_ble_eq_true rfl) dX5_thingsWithTwins_14 rfl ⟨Nat.zero_le _, Nat.zero_le _⟩ (fun H locs hi6 hS7 => ?_)
      refine x_if_eq (tgt := 23) M hi6 dX5_thingsWithTwins_17 (by decide) (fun hc => ?_) (fun hc => ?_)
      · have hf := ift hf hc
        obtain ⟨g8, hf⟩ := gdt hf
        refine x_iinc M hl0 dX5_thingsWithTwins_23 2 rfl (by decide) [(2, iV (x2 + 1)), (0, .ref (G.1 0 t)), (1, iV x1)] rfl (fun ls hl9 => ?_)
        refine x_goto (tgt := 4) M dX5_thingsWithTwins_26 (by decide) ?_
        exact ih x1 (x2 + 1) w4 hx1 g8 _ _ hS7 _ (lv_sub hl9 [1, 2, 0] rfl) _ _ hf
      · have hf := iff_ hf hc
        obtain ⟨g10, hf⟩ := gdt hf
        refine x_iinc M hl0 dX5_thingsWithTwins_20 1 rfl (by decide) [(1, iV (x1 + 1)), (0, .ref (G.1 0 t)), (2, iV x2)] rfl (fun ls hl11 => ?_)
        obtain ⟨g12, hf⟩ := gdt hf
        refine x_iinc M hl11 dX5_thingsWithTwins_23 2 rfl (by decide) [(2, iV (x2 + 1)), (1, iV (x1 + 1)), (0, .ref (G.1 0 t))] rfl (fun ls hl13 => ?_)
        refine x_goto (tgt := 4) M dX5_thingsWithTwins_26 (by decide) ?_
        exact ih (x1 + 1) (x2 + 1) w4 g10 g12 _ _ hS7 _ (lv_sub hl13 [2, 1, 0] rfl) _ _ hf

set_option maxHeartbeats 4000000 in
set_option maxRecDepth 100000 in
theorem c_X5_thingsWithTwins (l : Launch) {G : GG} {t : Nat} (ht : t < 8) {w : Wd} {r : Int} {w' : Wd} (hf : X5_thingsWithTwins t w = some (r, w')) : Met l yX5_thingsWithTwins wsX5_thingsWithTwins (rmk 3) (PcG G w [.ref (G.1 0 t)]) (QiG G r w') 0 0 (GA G) := by
  refine met_of (own := RX5) (by decide) rfl (Nat.le_of_ble_eq_true rfl) rfl ?_
  intro p e s m args below meth c M hr ls hl0 hS0
  have hl0 : lv_has ls 3 [(0, .ref (G.1 0 t))] := hl0
  unfold X5_thingsWithTwins at hf
  refine x_iconst M dX5_thingsWithTwins_0 ?_
  refine x_istore_n M hl0 dX5_thingsWithTwins_1 (by decide) [(1, iV 0), (0, .ref (G.1 0 t))] rfl (fun ls hl1 => ?_)
  refine x_iconst M dX5_thingsWithTwins_2 ?_
  refine x_istore_n M hl1 dX5_thingsWithTwins_3 (by decide) [(2, iV 0), (1, iV 0), (0, .ref (G.1 0 t))] rfl (fun ls hl2 => ?_)
  exact X5_thingsWithTwins_b4_ok M hr ht LF 0 0 w ⟨by decide, by decide⟩ ⟨by decide, by decide⟩ _ _ hS0 _ (lv_sub hl2 [2, 1, 0] rfl) _ _ hf

/-! X5_numberOf -/
theorem flX5_numberOf_18 : Cond.fieldLink RX5 18 "NamedMoves$Store" "copies" "LNamedMoves$Copies;" ∈ wsX5_numberOf := by decide +kernel
theorem flX5_numberOf_25 : Cond.fieldLink RX5 25 "NamedMoves$Store" "queue" "LNamedMoves$Queue;" ∈ wsX5_numberOf := by decide +kernel
theorem flX5_numberOf_29 : Cond.fieldLink RX5 29 "NamedMoves$Store" "heavyBound" "I" ∈ wsX5_numberOf := by decide +kernel
theorem flX5_numberOf_52 : Cond.fieldLink RX5 52 "NamedMoves$Store" "made" "I" ∈ wsX5_numberOf := by decide +kernel
theorem flX5_numberOf_55 : Cond.fieldLink RX5 55 "NamedMoves$Store" "moving" "Z" ∈ wsX5_numberOf := by decide +kernel
theorem flX5_numberOf_59 : Cond.fieldLink RX5 59 "NamedMoves$Store" "half" "I" ∈ wsX5_numberOf := by decide +kernel
theorem flX5_numberOf_65 : Cond.fieldLink RX5 65 "NamedMoves$Store" "notesLost" "I" ∈ wsX5_numberOf := by decide +kernel
theorem flX5_numberOf_68 : Cond.fieldLink RX5 68 "NamedMoves$Store" "movesEnded" "I" ∈ wsX5_numberOf := by decide +kernel
theorem inX5_numberOf_X5 : ∀ w ∈ u_ws RX5 TX5 10, w ∈ wsX5_numberOf := by decide +kernel
set_option maxHeartbeats 4000000 in
set_option maxRecDepth 100000 in
theorem c_X5_numberOf (l : Launch) {G : GG} {t : Nat} (ht : t < 8) {x1 : Int} (hx1 : InR x1) {w : Wd} {r : Int} {w' : Wd} (hf : X5_numberOf t x1 w = some (r, w')) : Met l yX5_numberOf wsX5_numberOf (rmk 4) (PcG G w [.ref (G.1 0 t), iV x1]) (QiG G r w') 0 0 (GA G) := by
  refine met_of (own := RX5) (by decide) rfl (Nat.le_of_ble_eq_true rfl) rfl ?_
  intro p e s m args below meth c M hr ls hl0 hS0
  have hl0 : lv_has ls 2 [(0, .ref (G.1 0 t)), (1, iV x1)] := hl0
  unfold X5_numberOf at hf
  refine x_iload_n M hl0 dX5_numberOf_0 1 rfl ?_
  by_cases hq0 : x1 = 0
  · have hf := ift hf hq0
    refine x_table (tgt := 64) M hx1 dX5_numberOf_1 (by decide) (by rw [hq0]; decide) ?_
    refine x_aload_n M hl0 dX5_numberOf_64 0 rfl ?_
    refine x_get (c0 := 0) (t0 := t) (v := iV (w 0 t 1)) M hS0 (Or.inl ⟨by decide, ht⟩) (ref := "NamedMoves$Store") inX5_numberOf_X5 (sE_0 G _ _) rfl 4 (by decide) (M.2.2.2.2.1 _ flX5_numberOf_52) rfl rfl dX5_numberOf_65 ?_
    exact x_iret M hr hf hS0 (hS0.inr _ _ _) dX5_numberOf_68
  have hf := iff_ hf hq0
  by_cases hq1 : x1 = 1
  · have hf := ift hf hq1
    refine x_table (tgt := 69) M hx1 dX5_numberOf_1 (by decide) (by rw [hq1]; decide) ?_
    refine x_aload_n M hl0 dX5_numberOf_69 0 rfl ?_
    refine x_get (c0 := 0) (t0 := t) (v := .ref (G.1 2 t)) M hS0 (Or.inl ⟨by decide, ht⟩) (ref := "NamedMoves$Store") inX5_numberOf_X5 (sE_0 G _ _) rfl 1 (by decide) (M.2.2.2.2.1 _ flX5_numberOf_18) rfl rfl dX5_numberOf_70 ?_
    obtain ⟨r1, w2, hc3, hf⟩ := bdt hf
    refine x_callVi (c0 := 2) (t0 := t) (As := []) (rest := []) M hl0 hS0 (c_X0_number l ht  hc3) (cwV 0 M.2.2.2.2.1 gX5_numberOf_X0_number rfl rfl rfl (by decide +kernel) ⟨Nat.le_of_ble_eq_true rfl, Nat.le_of_ble_eq_true rfl⟩) (Or.inl ⟨by decide, ht⟩) (sE_2 G _ _) rfl rfl (Nat.le_of_ble_eq_true rfl) dX5_numberOf_73 rfl ⟨Nat.zero_le _, Nat.zero_le _⟩ (fun H locs hi4 hS5 => ?_)
    exact x_iret M hr hf hS5 hi4 dX5_numberOf_76
  have hf := iff_ hf hq1
  by_cases hq2 : x1 = 2
  · have hf := ift hf hq2
    refine x_table (tgt := 77) M hx1 dX5_numberOf_1 (by decide) (by rw [hq2]; decide) ?_
    refine x_aload_n M hl0 dX5_numberOf_77 0 rfl ?_
    refine x_get (c0 := 0) (t0 := t) (v := iV (w 0 t 2)) M hS0 (Or.inl ⟨by decide, ht⟩) (ref := "NamedMoves$Store") inX5_numberOf_X5 (sE_0 G _ _) rfl 5 (by decide) (M.2.2.2.2.1 _ flX5_numberOf_55) rfl rfl dX5_numberOf_78 ?_
    refine x_if_eq (tgt := 88) M (hS0.inr _ _ _) dX5_numberOf_81 (by decide) (fun hc => ?_) (fun hc => ?_)
    · have hf := ift hf hc
      refine x_iconst M dX5_numberOf_88 ?_
      exact x_iret M hr hf hS0 ⟨by decide, by decide⟩ dX5_numberOf_89
    · have hf := iff_ hf hc
      refine x_iconst M dX5_numberOf_84 ?_
      refine x_goto (tgt := 89) M dX5_numberOf_85 (by decide) ?_
      exact x_iret M hr hf hS0 ⟨by decide, by decide⟩ dX5_numberOf_89
  have hf := iff_ hf hq2
  by_cases hq3 : x1 = 3
  · have hf := ift hf hq3
    refine x_table (tgt := 90) M hx1 dX5_numberOf_1 (by decide) (by rw [hq3]; decide) ?_
    refine x_aload_n M hl0 dX5_numberOf_90 0 rfl ?_
    refine x_get (c0 := 0) (t0 := t) (v := iV (w 0 t 3)) M hS0 (Or.inl ⟨by decide, ht⟩) (ref := "NamedMoves$Store") inX5_numberOf_X5 (sE_0 G _ _) rfl 6 (by decide) (M.2.2.2.2.1 _ flX5_numberOf_59) rfl rfl dX5_numberOf_91 ?_
    exact x_iret M hr hf hS0 (hS0.inr _ _ _) dX5_numberOf_94
  have hf := iff_ hf hq3
  by_cases hq4 : x1 = 4
  · have hf := ift hf hq4
    refine x_table (tgt := 95) M hx1 dX5_numberOf_1 (by decide) (by rw [hq4]; decide) ?_
    refine x_aload_n M hl0 dX5_numberOf_95 0 rfl ?_
    obtain ⟨r6, w7, hc8, hf⟩ := bdt hf
    refine x_callVi (c0 := 0) (t0 := t) (As := []) (rest := []) M hl0 hS0 (c_X5_freeInHalf l ht  hc8) (cwV 0 M.2.2.2.2.1 gX5_numberOf_X5_freeInHalf rfl rfl rfl (by decide +kernel) ⟨Nat.le_of_ble_eq_true rfl, Nat.le_of_ble_eq_true rfl⟩) (Or.inl ⟨by decide, ht⟩) (sE_0 G _ _) rfl rfl (Nat.le_of_ble_eq_true rfl) dX5_numberOf_96 rfl ⟨Nat.zero_le _, Nat.zero_le _⟩ (fun H locs hi9 hS10 => ?_)
    exact x_iret M hr hf hS10 hi9 dX5_numberOf_99
  have hf := iff_ hf hq4
  by_cases hq5 : x1 = 5
  · have hf := ift hf hq5
    refine x_table (tgt := 100) M hx1 dX5_numberOf_1 (by decide) (by rw [hq5]; decide) ?_
    refine x_bipush M dX5_numberOf_100 rfl ?_
    refine x_aload_n M hl0 dX5_numberOf_102 0 rfl ?_
    refine x_get (c0 := 0) (t0 := t) (v := .ref (G.1 2 t)) M hS0 (Or.inl ⟨by decide, ht⟩) (ref := "NamedMoves$Store") inX5_numberOf_X5 (sE_0 G _ _) rfl 1 (by decide) (M.2.2.2.2.1 _ flX5_numberOf_18) rfl rfl dX5_numberOf_103 ?_
    obtain ⟨r11, w12, hc13, hf⟩ := bdt hf
    refine x_callVi (c0 := 2) (t0 := t) (As := []) (rest := [iV 60]) M hl0 hS0 (c_X0_floorTaken l ht  hc13) (cwV 0 M.2.2.2.2.1 gX5_numberOf_X0_floorTaken rfl rfl rfl (by decide +kernel) ⟨Nat.le_of_ble_eq_true rfl, Nat.le_of_ble_eq_true rfl⟩) (Or.inl ⟨by decide, ht⟩) (sE_2 G _ _) rfl rfl (Nat.le_of_ble_eq_true rfl) dX5_numberOf_106 rfl ⟨Nat.zero_le _, Nat.zero_le _⟩ (fun H locs hi14 hS15 => ?_)
    obtain ⟨g16, hf⟩ := gdt hf
    refine x_isub M dX5_numberOf_109 ?_
    exact x_iret M hr hf hS15 g16 dX5_numberOf_110
  have hf := iff_ hf hq5
  by_cases hq6 : x1 = 6
  · have hf := ift hf hq6
    refine x_table (tgt := 111) M hx1 dX5_numberOf_1 (by decide) (by rw [hq6]; decide) ?_
    refine x_aload_n M hl0 dX5_numberOf_111 0 rfl ?_
    refine x_get (c0 := 0) (t0 := t) (v := .ref (G.1 8 t)) M hS0 (Or.inl ⟨by decide, ht⟩) (ref := "NamedMoves$Store") inX5_numberOf_X5 (sE_0 G _ _) rfl 2 (by decide) (M.2.2.2.2.1 _ flX5_numberOf_25) rfl rfl dX5_numberOf_112 ?_
    obtain ⟨r17, w18, hc19, hf⟩ := bdt hf
    refine x_callVi (c0 := 8) (t0 := t) (As := []) (rest := []) M hl0 hS0 (c_X3_size l ht  hc19) (cwV 0 M.2.2.2.2.1 gX5_numberOf_X3_size rfl rfl rfl (by decide +kernel) ⟨Nat.le_of_ble_eq_true rfl, Nat.le_of_ble_eq_true rfl⟩) (Or.inl ⟨by decide, ht⟩) (sE_8 G _ _) rfl rfl (Nat.le_of_ble_eq_true rfl) dX5_numberOf_115 rfl ⟨Nat.zero_le _, Nat.zero_le _⟩ (fun H locs hi20 hS21 => ?_)
    exact x_iret M hr hf hS21 hi20 dX5_numberOf_118
  have hf := iff_ hf hq6
  by_cases hq7 : x1 = 7
  · have hf := ift hf hq7
    refine x_table (tgt := 119) M hx1 dX5_numberOf_1 (by decide) (by rw [hq7]; decide) ?_
    refine x_aload_n M hl0 dX5_numberOf_119 0 rfl ?_
    obtain ⟨r22, w23, hc24, hf⟩ := bdt hf
    refine x_callVi (c0 := 0) (t0 := t) (As := []) (rest := []) M hl0 hS0 (c_X5_roomKept l ht  hc24) (cwV 0 M.2.2.2.2.1 gX5_numberOf_X5_roomKept rfl rfl rfl (by decide +kernel) ⟨Nat.le_of_ble_eq_true rfl, Nat.le_of_ble_eq_true rfl⟩) (Or.inl ⟨by decide, ht⟩) (sE_0 G _ _) rfl rfl (Nat.le_of_ble_eq_true rfl) dX5_numberOf_120 rfl ⟨Nat.zero_le _, Nat.zero_le _⟩ (fun H locs hi25 hS26 => ?_)
    exact x_iret M hr hf hS26 hi25 dX5_numberOf_123
  have hf := iff_ hf hq7
  by_cases hq8 : x1 = 8
  · have hf := ift hf hq8
    refine x_table (tgt := 124) M hx1 dX5_numberOf_1 (by decide) (by rw [hq8]; decide) ?_
    refine x_aload_n M hl0 dX5_numberOf_124 0 rfl ?_
    refine x_get (c0 := 0) (t0 := t) (v := iV (w 0 t 5)) M hS0 (Or.inl ⟨by decide, ht⟩) (ref := "NamedMoves$Store") inX5_numberOf_X5 (sE_0 G _ _) rfl 8 (by decide) (M.2.2.2.2.1 _ flX5_numberOf_65) rfl rfl dX5_numberOf_125 ?_
    exact x_iret M hr hf hS0 (hS0.inr _ _ _) dX5_numberOf_128
  have hf := iff_ hf hq8
  by_cases hq9 : x1 = 9
  · have hf := ift hf hq9
    refine x_table (tgt := 129) M hx1 dX5_numberOf_1 (by decide) (by rw [hq9]; decide) ?_
    refine x_aload_n M hl0 dX5_numberOf_129 0 rfl ?_
    refine x_get (c0 := 0) (t0 := t) (v := iV (w 0 t 6)) M hS0 (Or.inl ⟨by decide, ht⟩) (ref := "NamedMoves$Store") inX5_numberOf_X5 (sE_0 G _ _) rfl 9 (by decide) (M.2.2.2.2.1 _ flX5_numberOf_68) rfl rfl dX5_numberOf_130 ?_
    exact x_iret M hr hf hS0 (hS0.inr _ _ _) dX5_numberOf_133
  have hf := iff_ hf hq9
  by_cases hq10 : x1 = 10
  · have hf := ift hf hq10
    refine x_table (tgt := 134) M hx1 dX5_numberOf_1 (by decide) (by rw [hq10]; decide) ?_
    refine x_aload_n M hl0 dX5_numberOf_134 0 rfl ?_
    obtain ⟨r27, w28, hc29, hf⟩ := bdt hf
    refine x_callVi (c0 := 0) (t0 := t) (As := []) (rest := []) M hl0 hS0 (c_X5_thingsWithTwins l ht  hc29) (cwV 0 M.2.2.2.2.1 gX5_numberOf_X5_thingsWithTwins rfl rfl rfl (by decide +kernel) ⟨Nat.le_of_ble_eq_true rfl, Nat.le_of_ble_eq_true rfl⟩) (Or.inl ⟨by decide, ht⟩) (sE_0 G _ _) rfl rfl (Nat.le_of_ble_eq_true rfl) dX5_numberOf_135 rfl ⟨Nat.zero_le _, Nat.zero_le _⟩ (fun H locs hi30 hS31 => ?_)
    exact x_iret M hr hf hS31 hi30 dX5_numberOf_138
  have hf := iff_ hf hq10
  by_cases hq11 : x1 = 11
  · have hf := ift hf hq11
    refine x_table (tgt := 139) M hx1 dX5_numberOf_1 (by decide) (by rw [hq11]; decide) ?_
    refine x_aload_n M hl0 dX5_numberOf_139 0 rfl ?_
    refine x_get (c0 := 0) (t0 := t) (v := iV (w 0 t 0)) M hS0 (Or.inl ⟨by decide, ht⟩) (ref := "NamedMoves$Store") inX5_numberOf_X5 (sE_0 G _ _) rfl 3 (by decide) (M.2.2.2.2.1 _ flX5_numberOf_29) rfl rfl dX5_numberOf_140 ?_
    exact x_iret M hr hf hS0 (hS0.inr _ _ _) dX5_numberOf_143
  have hf := iff_ hf hq11
  have hz : x1 < 0 ∨ 11 < x1 := by omega
  refine x_table (tgt := 144) M hx1 dX5_numberOf_1 (by decide) (by rcases hz with hz | hz <;> first | (rw [hz]; decide) | (unfold tsel; rw [if_pos (by omega)]; decide)) ?_
  refine x_iconst M dX5_numberOf_144 ?_
  exact x_iret M hr hf hS0 ⟨by decide, by decide⟩ dX5_numberOf_145

/-! X7_count -/
theorem flX7_count_12 : Cond.fieldLink RX7 12 "NamedMoves" "store" "LNamedMoves$Store;" ∈ wsX7_count := by decide +kernel
theorem flX7_count_22 : Cond.fieldLink RX7 22 "NamedMoves" "history" "LNamedMoves$History;" ∈ wsX7_count := by decide +kernel
theorem flX7_count_36 : Cond.fieldLink RX7 36 "NamedMoves" "text" "LNamedMoves$Text;" ∈ wsX7_count := by decide +kernel
theorem inX7_count_X7 : ∀ w ∈ u_ws RX7 TX7 6, w ∈ wsX7_count := by decide +kernel
set_option maxHeartbeats 4000000 in
set_option maxRecDepth 100000 in
theorem c_X7_count (l : Launch) {G : GG} {x1 : Int} (hx1 : InR x1) {w : Wd} {r : Int} {w' : Wd} (hf : X7_count x1 w = some (r, w')) : Met l yX7_count wsX7_count (rmk 5) (PcG G w [.ref (G.1 10 0), iV x1]) (QiG G r w') 0 0 (GA G) := by
  refine met_of (own := RX7) (by decide) rfl (Nat.le_of_ble_eq_true rfl) rfl ?_
  intro p e s m args below meth c M hr ls hl0 hS0
  have hl0 : lv_has ls 2 [(0, .ref (G.1 10 0)), (1, iV x1)] := hl0
  unfold X7_count at hf
  refine x_iload_n M hl0 dX7_count_0 1 rfl ?_
  by_cases hq12 : x1 = 12
  · have hf := ift hf hq12
    refine x_lookup (tgt := 28) M hx1 dX7_count_1 (by decide) (by rw [hq12]; decide) ?_
    refine x_aload_n M hl0 dX7_count_28 0 rfl ?_
    refine x_get (c0 := 10) (t0 := 0) (v := .ref (G.1 11 0)) M hS0 (by decide) (ref := "NamedMoves") inX7_count_X7 (sE_10 G _ _) rfl 2 (by decide) (M.2.2.2.2.1 _ flX7_count_22) rfl rfl dX7_count_29 ?_
    obtain ⟨r1, w2, hc3, hf⟩ := bdt hf
    refine x_callVi (c0 := 11) (t0 := 0) (As := []) (rest := []) M hl0 hS0 (c_X2_size l   hc3) (cwV 0 M.2.2.2.2.1 gX7_count_X2_size rfl rfl rfl (by decide +kernel) ⟨Nat.le_of_ble_eq_true rfl, Nat.le_of_ble_eq_true rfl⟩) (by decide) (sE_11 G _ _) rfl rfl (Nat.le_of_ble_eq_true rfl) dX7_count_32 rfl ⟨Nat.zero_le _, Nat.zero_le _⟩ (fun H locs hi4 hS5 => ?_)
    exact x_iret M hr hf hS5 hi4 dX7_count_35
  have hf := iff_ hf hq12
  by_cases hq13 : x1 = 13
  · have hf := ift hf hq13
    refine x_lookup (tgt := 36) M hx1 dX7_count_1 (by decide) (by rw [hq13]; decide) ?_
    refine x_aload_n M hl0 dX7_count_36 0 rfl ?_
    refine x_get (c0 := 10) (t0 := 0) (v := .ref (G.1 17 0)) M hS0 (by decide) (ref := "NamedMoves") inX7_count_X7 (sE_10 G _ _) rfl 4 (by decide) (M.2.2.2.2.1 _ flX7_count_36) rfl rfl dX7_count_37 ?_
    obtain ⟨r6, w7, hc8, hf⟩ := bdt hf
    refine x_callVi (c0 := 17) (t0 := 0) (As := []) (rest := []) M hl0 hS0 (c_X6_size l   hc8) (cwV 0 M.2.2.2.2.1 gX7_count_X6_size rfl rfl rfl (by decide +kernel) ⟨Nat.le_of_ble_eq_true rfl, Nat.le_of_ble_eq_true rfl⟩) (by decide) (sE_17 G _ _) rfl rfl (Nat.le_of_ble_eq_true rfl) dX7_count_40 rfl ⟨Nat.zero_le _, Nat.zero_le _⟩ (fun H locs hi9 hS10 => ?_)
    exact x_iret M hr hf hS10 hi9 dX7_count_43
  have hf := iff_ hf hq13
  have hz12 : ¬ (12 : Int) = x1 := fun q => hq12 q.symm
  have hz13 : ¬ (13 : Int) = x1 := fun q => hq13 q.symm
  refine x_lookup (tgt := 44) M hx1 dX7_count_1 (by decide) (by simp [Op.lookupswitch.offset_cons, Op.lookupswitch.offset_nil, hz12, hz13]) ?_
  refine x_aload_n M hl0 dX7_count_44 0 rfl ?_
  refine x_get (c0 := 10) (t0 := 0) (v := .ref (G.1 0 0)) M hS0 (by decide) (ref := "NamedMoves") inX7_count_X7 (sE_10 G _ _) rfl 0 (by decide) (M.2.2.2.2.1 _ flX7_count_12) rfl rfl dX7_count_45 ?_
  refine x_iload_n M hl0 dX7_count_48 1 rfl ?_
  obtain ⟨r11, w12, hc13, hf⟩ := bdt hf
  refine x_callVi (c0 := 0) (t0 := 0) (As := [iV x1]) (rest := []) M hl0 hS0 (c_X5_numberOf l (by decide) hx1 hc13) (cwV 1 M.2.2.2.2.1 gX7_count_X5_numberOf rfl rfl rfl (by decide +kernel) ⟨Nat.le_of_ble_eq_true rfl, Nat.le_of_ble_eq_true rfl⟩) (by decide) (sE_0 G _ _) rfl rfl (Nat.le_of_ble_eq_true rfl) dX7_count_49 rfl ⟨Nat.zero_le _, Nat.zero_le _⟩ (fun H locs hi14 hS15 => ?_)
  exact x_iret M hr hf hS15 hi14 dX7_count_52

/-! X5_hungOn -/
theorem flX5_hungOn_9 : Cond.fieldLink RX5 9 "NamedMoves$Store" "hooks" "[I" ∈ wsX5_hungOn := by decide +kernel
theorem inX5_hungOn_X5 : ∀ w ∈ u_ws RX5 TX5 10, w ∈ wsX5_hungOn := by decide +kernel
theorem iniX5_hungOn_X7 : Cond.initialized RX7 ∈ wsX5_hungOn := by decide +kernel
theorem stX5_hungOn_X7_isHook : Cond.static yX7_isHook ∈ wsX5_hungOn := by decide +kernel
set_option maxHeartbeats 4000000 in
set_option maxRecDepth 100000 in
theorem c_X5_hungOn (l : Launch) {G : GG} {t : Nat} (ht : t < 8) {x1 : Int} (hx1 : InR x1) {w : Wd} {r : Int} {w' : Wd} (hf : X5_hungOn t x1 w = some (r, w')) : Met l yX5_hungOn wsX5_hungOn (rmk 1) (PcG G w [.ref (G.1 0 t), iV x1]) (QiG G r w') 0 0 (GA G) := by
  refine met_of (own := RX5) (by decide) rfl (Nat.le_of_ble_eq_true rfl) rfl ?_
  intro p e s m args below meth c M hr ls hl0 hS0
  have hl0 : lv_has ls 2 [(0, .ref (G.1 0 t)), (1, iV x1)] := hl0
  unfold X5_hungOn at hf
  refine x_iload_n M hl0 dX5_hungOn_0 1 rfl ?_
  obtain ⟨r1, w2, hc3, hf⟩ := bdt hf
  refine x_callNi (As := [iV x1]) (rest := []) M hl0 hS0 (c_X7_isHook l  hx1 hc3) (va_cnB 1 M.2.2.2.2.1 gX5_hungOn_X7_isHook_n71 rfl rfl rfl M.2.2.2.2.2.2.2.2.2.2.2.2 (M.2.2.2.2.1 _ iniX5_hungOn_X7) (by decide +kernel) ⟨Nat.le_of_ble_eq_true rfl, Nat.le_of_ble_eq_true rfl⟩) (M.2.2.2.2.1 _ stX5_hungOn_X7_isHook) rfl (Nat.le_of_ble_eq_true rfl) dX5_hungOn_1 rfl ⟨Nat.zero_le _, Nat.zero_le _⟩ (fun H locs hi4 hS5 => ?_)
  refine x_if_eq (tgt := 16) M hi4 dX5_hungOn_4 (by decide) (fun hc => ?_) (fun hc => ?_)
  · have hf := ift hf hc
    refine x_sipush M dX5_hungOn_16 rfl ?_
    exact x_iret M hr hf hS5 ⟨by decide, by decide⟩ dX5_hungOn_19
  · have hf := iff_ hf hc
    refine x_aload_n M hl0 dX5_hungOn_7 0 rfl ?_
    refine x_get (c0 := 0) (t0 := t) (v := .ref (G.1 1 t)) M hS5 (Or.inl ⟨by decide, ht⟩) (ref := "NamedMoves$Store") inX5_hungOn_X5 (sE_0 G _ _) rfl 0 (by decide) (M.2.2.2.2.1 _ flX5_hungOn_9) rfl rfl dX5_hungOn_8 ?_
    refine x_iload_n M hl0 dX5_hungOn_11 1 rfl ?_
    obtain ⟨g6, hf⟩ := gdt hf
    refine x_iald (c0 := 1) (t0 := t) M hS5 (Or.inl ⟨by decide, ht⟩) (hs_1 G _) rfl g6 (by decide) dX5_hungOn_12 ?_
    refine x_goto (tgt := 19) M dX5_hungOn_13 (by decide) ?_
    exact x_iret M hr hf hS5 (hS5.inr _ _ _) dX5_hungOn_19

/-! X7_orNone -/
set_option maxHeartbeats 4000000 in
set_option maxRecDepth 100000 in
theorem c_X7_orNone (l : Launch) {G : GG} {x0 : Int} (hx0 : InR x0) {w : Wd} {r : Int} {w' : Wd} (hf : X7_orNone x0 w = some (r, w')) : Met l yX7_orNone wsX7_orNone (rmk 0) (PcG G w [iV x0]) (QiG G r w') 0 0 (GA G) := by
  refine met_of (own := RX7) (by decide) rfl (Nat.le_of_ble_eq_true rfl) rfl ?_
  intro p e s m args below meth c M hr ls hl0 hS0
  have hl0 : lv_has ls 1 [(0, iV x0)] := hl0
  unfold X7_orNone at hf
  refine x_iload_n M hl0 dX7_orNone_0 0 rfl ?_
  refine x_sipush M dX7_orNone_1 rfl ?_
  refine x_icmp_ne (tgt := 12) M hx0 ⟨by decide, by decide⟩ dX7_orNone_4 (by decide) (fun hc => ?_) (fun hc => ?_)
  · have hf := iff_ hf hc
    refine x_iload_n M hl0 dX7_orNone_12 0 rfl ?_
    exact x_iret M hr hf hS0 hx0 dX7_orNone_13
  · have hf := ift hf (Decidable.of_not_not hc)
    refine x_bipush M dX7_orNone_7 rfl ?_
    refine x_goto (tgt := 13) M dX7_orNone_9 (by decide) ?_
    exact x_iret M hr hf hS0 ⟨by decide, by decide⟩ dX7_orNone_13

/-! X7_hook -/
theorem flX7_hook_12 : Cond.fieldLink RX7 12 "NamedMoves" "store" "LNamedMoves$Store;" ∈ wsX7_hook := by decide +kernel
theorem inX7_hook_X7 : ∀ w ∈ u_ws RX7 TX7 6, w ∈ wsX7_hook := by decide +kernel
set_option maxHeartbeats 4000000 in
set_option maxRecDepth 100000 in
theorem c_X7_hook (l : Launch) {G : GG} {x1 : Int} (hx1 : InR x1) {w : Wd} {r : Int} {w' : Wd} (hf : X7_hook x1 w = some (r, w')) : Met l yX7_hook wsX7_hook (rmk 2) (PcG G w [.ref (G.1 10 0), iV x1]) (QiG G r w') 0 0 (GA G) := by
  refine met_of (own := RX7) (by decide) rfl (Nat.le_of_ble_eq_true rfl) rfl ?_
  intro p e s m args below meth c M hr ls hl0 hS0
  have hl0 : lv_has ls 2 [(0, .ref (G.1 10 0)), (1, iV x1)] := hl0
  unfold X7_hook at hf
  refine x_iload_n M hl0 dX7_hook_0 1 rfl ?_
  obtain ⟨r1, w2, hc3, hf⟩ := bdt hf
  refine x_callSi (As := [iV x1]) (rest := []) M hl0 hS0 (c_X7_isHook l  hx1 hc3) (va_cwS 1 M.2.2.2.2.1 gX7_hook_X7_isHook rfl rfl rfl (by decide +kernel) ⟨Nat.le_of_ble_eq_true rfl, Nat.le_of_ble_eq_true rfl⟩) rfl (Nat.le_of_ble_eq_true rfl) dX7_hook_1 rfl ⟨Nat.zero_le _, Nat.zero_le _⟩ (fun H locs hi4 hS5 => ?_)
  refine x_if_ne (tgt := 9) M hi4 dX7_hook_4 (by decide) (fun hc => ?_) (fun hc => ?_)
  · have hf := iff_ hf hc
    refine x_aload_n M hl0 dX7_hook_9 0 rfl ?_
    refine x_get (c0 := 10) (t0 := 0) (v := .ref (G.1 0 0)) M hS5 (by decide) (ref := "NamedMoves") inX7_hook_X7 (sE_10 G _ _) rfl 0 (by decide) (M.2.2.2.2.1 _ flX7_hook_12) rfl rfl dX7_hook_10 ?_
    refine x_iload_n M hl0 dX7_hook_13 1 rfl ?_
    obtain ⟨r6, w7, hc8, hf⟩ := bdt hf
    refine x_callVi (c0 := 0) (t0 := 0) (As := [iV x1]) (rest := []) M hl0 hS5 (c_X5_hungOn l (by decide) hx1 hc8) (cwV 1 M.2.2.2.2.1 gX7_hook_X5_hungOn rfl rfl rfl (by decide +kernel) ⟨Nat.le_of_ble_eq_true rfl, Nat.le_of_ble_eq_true rfl⟩) (by decide) (sE_0 G _ _) rfl rfl (Nat.le_of_ble_eq_true rfl) dX7_hook_14 rfl ⟨Nat.zero_le _, Nat.zero_le _⟩ (fun H locs hi9 hS10 => ?_)
    obtain ⟨r11, w12, hc13, hf⟩ := bdt hf
    refine x_callSi (As := [iV r6]) (rest := []) M hl0 hS10 (c_X7_orNone l  hi9 hc13) (va_cwS 1 M.2.2.2.2.1 gX7_hook_X7_orNone rfl rfl rfl (by decide +kernel) ⟨Nat.le_of_ble_eq_true rfl, Nat.le_of_ble_eq_true rfl⟩) rfl (Nat.le_of_ble_eq_true rfl) dX7_hook_17 rfl ⟨Nat.zero_le _, Nat.zero_le _⟩ (fun H locs hi14 hS15 => ?_)
    exact x_iret M hr hf hS15 hi14 dX7_hook_20
  · have hf := ift hf (Decidable.of_not_not hc)
    refine x_iconst M dX7_hook_7 ?_
    exact x_iret M hr hf hS5 ⟨by decide, by decide⟩ dX7_hook_8

/-! X0_thingAt -/
theorem flX0_thingAt_9 : Cond.fieldLink RX0 9 "NamedMoves$Copies" "things" "[I" ∈ wsX0_thingAt := by decide +kernel
theorem inX0_thingAt_X0 : ∀ w ∈ u_ws RX0 TX0 5, w ∈ wsX0_thingAt := by decide +kernel
set_option maxHeartbeats 4000000 in
set_option maxRecDepth 100000 in
theorem c_X0_thingAt (l : Launch) {G : GG} {t : Nat} (ht : t < 8) {x1 : Int} (hx1 : InR x1) {w : Wd} {r : Int} {w' : Wd} (hf : X0_thingAt t x1 w = some (r, w')) : Met l yX0_thingAt wsX0_thingAt (rmk 1) (PcG G w [.ref (G.1 2 t), iV x1]) (QiG G r w') 0 0 (GA G) := by
  refine met_of (own := RX0) (by decide) rfl (Nat.le_of_ble_eq_true rfl) rfl ?_
  intro p e s m args below meth c M hr ls hl0 hS0
  have hl0 : lv_has ls 2 [(0, .ref (G.1 2 t)), (1, iV x1)] := hl0
  unfold X0_thingAt at hf
  refine x_aload_n M hl0 dX0_thingAt_0 0 rfl ?_
  refine x_iload_n M hl0 dX0_thingAt_1 1 rfl ?_
  obtain ⟨r1, w2, hc3, hf⟩ := bdt hf
  refine x_callVi (c0 := 2) (t0 := t) (As := [iV x1]) (rest := []) M hl0 hS0 (c_X0_isAt l ht hx1 hc3) (cwV 1 M.2.2.2.2.1 gX0_thingAt_X0_isAt rfl rfl rfl (by decide +kernel) ⟨Nat.le_of_ble_eq_true rfl, Nat.le_of_ble_eq_true rfl⟩) (Or.inl ⟨by decide, ht⟩) (sE_2 G _ _) rfl rfl (Nat.le_of_ble_eq_true rfl) dX0_thingAt_2 rfl ⟨Nat.zero_le _, Nat.zero_le _⟩ (fun H locs hi4 hS5 => ?_)
  refine x_if_eq (tgt := 17) M hi4 dX0_thingAt_5 (by decide) (fun hc => ?_) (fun hc => ?_)
  · have hf := ift hf hc
    refine x_bipush M dX0_thingAt_17 rfl ?_
    exact x_iret M hr hf hS5 ⟨by decide, by decide⟩ dX0_thingAt_19
  · have hf := iff_ hf hc
    refine x_aload_n M hl0 dX0_thingAt_8 0 rfl ?_
    refine x_get (c0 := 2) (t0 := t) (v := .ref (G.1 3 t)) M hS5 (Or.inl ⟨by decide, ht⟩) (ref := "NamedMoves$Copies") inX0_thingAt_X0 (sE_2 G _ _) rfl 0 (by decide) (M.2.2.2.2.1 _ flX0_thingAt_9) rfl rfl dX0_thingAt_9 ?_
    refine x_iload_n M hl0 dX0_thingAt_12 1 rfl ?_
    obtain ⟨g6, hf⟩ := gdt hf
    refine x_iald (c0 := 3) (t0 := t) M hS5 (Or.inl ⟨by decide, ht⟩) (hs_3 G _) rfl g6 (by decide) dX0_thingAt_13 ?_
    refine x_goto (tgt := 19) M dX0_thingAt_14 (by decide) ?_
    exact x_iret M hr hf hS5 (hS5.inr _ _ _) dX0_thingAt_19

/-! X0_isMarked -/
theorem flX0_isMarked_21 : Cond.fieldLink RX0 21 "NamedMoves$Copies" "marks" "[I" ∈ wsX0_isMarked := by decide +kernel
theorem inX0_isMarked_X0 : ∀ w ∈ u_ws RX0 TX0 5, w ∈ wsX0_isMarked := by decide +kernel
set_option maxHeartbeats 4000000 in
set_option maxRecDepth 100000 in
theorem c_X0_isMarked (l : Launch) {G : GG} {t : Nat} (ht : t < 8) {x1 : Int} (hx1 : InR x1) {w : Wd} {r : Int} {w' : Wd} (hf : X0_isMarked t x1 w = some (r, w')) : Met l yX0_isMarked wsX0_isMarked (rmk 1) (PcG G w [.ref (G.1 2 t), iV x1]) (QiG G r w') 0 0 (GA G) := by
  refine met_of (own := RX0) (by decide) rfl (Nat.le_of_ble_eq_true rfl) rfl ?_
  intro p e s m args below meth c M hr ls hl0 hS0
  have hl0 : lv_has ls 2 [(0, .ref (G.1 2 t)), (1, iV x1)] := hl0
  unfold X0_isMarked at hf
  refine x_aload_n M hl0 dX0_isMarked_0 0 rfl ?_
  refine x_iload_n M hl0 dX0_isMarked_1 1 rfl ?_
  obtain ⟨r1, w2, hc3, hf⟩ := bdt hf
  refine x_callVi (c0 := 2) (t0 := t) (As := [iV x1]) (rest := []) M hl0 hS0 (c_X0_isAt l ht hx1 hc3) (cwV 1 M.2.2.2.2.1 gX0_isMarked_X0_isAt rfl rfl rfl (by decide +kernel) ⟨Nat.le_of_ble_eq_true rfl, Nat.le_of_ble_eq_true rfl⟩) (Or.inl ⟨by decide, ht⟩) (sE_2 G _ _) rfl rfl (Nat.le_of_ble_eq_true rfl) dX0_isMarked_2 rfl ⟨Nat.zero_le _, Nat.zero_le _⟩ (fun H locs hi4 hS5 => ?_)
  refine x_if_eq (tgt := 22) M hi4 dX0_isMarked_5 (by decide) (fun hc => ?_) (fun hc => ?_)
  · have hf := ift hf hc
    refine x_iconst M dX0_isMarked_22 ?_
    exact x_zret M hr hf hS5 (Or.inl rfl) dX0_isMarked_23
  · have hf := iff_ hf hc
    refine x_aload_n M hl0 dX0_isMarked_8 0 rfl ?_
    refine x_get (c0 := 2) (t0 := t) (v := .ref (G.1 6 t)) M hS5 (Or.inl ⟨by decide, ht⟩) (ref := "NamedMoves$Copies") inX0_isMarked_X0 (sE_2 G _ _) rfl 3 (by decide) (M.2.2.2.2.1 _ flX0_isMarked_21) rfl rfl dX0_isMarked_9 ?_
    refine x_iload_n M hl0 dX0_isMarked_12 1 rfl ?_
    obtain ⟨g6, hf⟩ := gdt hf
    refine x_iald (c0 := 6) (t0 := t) M hS5 (Or.inl ⟨by decide, ht⟩) (hs_6 G _) rfl g6 (by decide) dX0_isMarked_13 ?_
    refine x_iconst M dX0_isMarked_14 ?_
    refine x_icmp_ne (tgt := 22) M (hS5.inr _ _ _) ⟨by decide, by decide⟩ dX0_isMarked_15 (by decide) (fun hc => ?_) (fun hc => ?_)
    · have hf := iff_ hf hc
      refine x_iconst M dX0_isMarked_22 ?_
      exact x_zret M hr hf hS5 (Or.inl rfl) dX0_isMarked_23
    · have hf := ift hf (Decidable.of_not_not hc)
      refine x_iconst M dX0_isMarked_18 ?_
      refine x_goto (tgt := 23) M dX0_isMarked_19 (by decide) ?_
      exact x_zret M hr hf hS5 (Or.inr rfl) dX0_isMarked_23

/-! X0_nameAt -/
theorem flX0_nameAt_24 : Cond.fieldLink RX0 24 "NamedMoves$Copies" "names" "[I" ∈ wsX0_nameAt := by decide +kernel
theorem inX0_nameAt_X0 : ∀ w ∈ u_ws RX0 TX0 5, w ∈ wsX0_nameAt := by decide +kernel
theorem iniX0_nameAt_X7 : Cond.initialized RX7 ∈ wsX0_nameAt := by decide +kernel
theorem stX0_nameAt_X7_isName : Cond.static yX7_isName ∈ wsX0_nameAt := by decide +kernel
set_option maxHeartbeats 4000000 in
set_option maxRecDepth 100000 in
theorem c_X0_nameAt (l : Launch) {G : GG} {t : Nat} (ht : t < 8) {x1 : Int} (hx1 : InR x1) {x2 : Int} (hx2 : InR x2) {w : Wd} {r : Int} {w' : Wd} (hf : X0_nameAt t x1 x2 w = some (r, w')) : Met l yX0_nameAt wsX0_nameAt (rmk 1) (PcG G w [.ref (G.1 2 t), iV x1, iV x2]) (QiG G r w') 0 0 (GA G) := by
  refine met_of (own := RX0) (by decide) rfl (Nat.le_of_ble_eq_true rfl) rfl ?_
  intro p e s m args below meth c M hr ls hl0 hS0
  have hl0 : lv_has ls 3 [(0, .ref (G.1 2 t)), (1, iV x1), (2, iV x2)] := hl0
  unfold X0_nameAt at hf
  refine x_aload_n M hl0 dX0_nameAt_0 0 rfl ?_
  refine x_iload_n M hl0 dX0_nameAt_1 1 rfl ?_
  obtain ⟨r1, w2, hc3, hf⟩ := bdt hf
  refine x_callVi (c0 := 2) (t0 := t) (As := [iV x1]) (rest := []) M hl0 hS0 (c_X0_isAt l ht hx1 hc3) (cwV 1 M.2.2.2.2.1 gX0_nameAt_X0_isAt rfl rfl rfl (by decide +kernel) ⟨Nat.le_of_ble_eq_true rfl, Nat.le_of_ble_eq_true rfl⟩) (Or.inl ⟨by decide, ht⟩) (sE_2 G _ _) rfl rfl (Nat.le_of_ble_eq_true rfl) dX0_nameAt_2 rfl ⟨Nat.zero_le _, Nat.zero_le _⟩ (fun H locs hi4 hS5 => ?_)
  refine x_if_eq (tgt := 28) M hi4 dX0_nameAt_5 (by decide) (fun hc => ?_) (fun hc => ?_)
  · have hf := ift hf hc
    refine x_sipush M dX0_nameAt_28 rfl ?_
    exact x_iret M hr hf hS5 ⟨by decide, by decide⟩ dX0_nameAt_31
  · have hf := iff_ hf hc
    refine x_iload_n M hl0 dX0_nameAt_8 2 rfl ?_
    obtain ⟨r6, w7, hc8, hf⟩ := bdt hf
    refine x_callNi (As := [iV x2]) (rest := []) M hl0 hS5 (c_X7_isName l  hx2 hc8) (va_cnB 1 M.2.2.2.2.1 gX0_nameAt_X7_isName_n43 rfl rfl rfl M.2.2.2.2.2.2.2.2.2.2.1 (M.2.2.2.2.1 _ iniX0_nameAt_X7) (by decide +kernel) ⟨Nat.le_of_ble_eq_true rfl, Nat.le_of_ble_eq_true rfl⟩) (M.2.2.2.2.1 _ stX0_nameAt_X7_isName) rfl (Nat.le_of_ble_eq_true rfl) dX0_nameAt_9 rfl ⟨Nat.zero_le _, Nat.zero_le _⟩ (fun H locs hi9 hS10 => ?_)
    refine x_if_eq (tgt := 28) M hi9 dX0_nameAt_12 (by decide) (fun hc => ?_) (fun hc => ?_)
    · have hf := ift hf hc
      refine x_sipush M dX0_nameAt_28 rfl ?_
      exact x_iret M hr hf hS10 ⟨by decide, by decide⟩ dX0_nameAt_31
    · have hf := iff_ hf hc
      refine x_aload_n M hl0 dX0_nameAt_15 0 rfl ?_
      refine x_get (c0 := 2) (t0 := t) (v := .ref (G.1 7 t)) M hS10 (Or.inl ⟨by decide, ht⟩) (ref := "NamedMoves$Copies") inX0_nameAt_X0 (sE_2 G _ _) rfl 4 (by decide) (M.2.2.2.2.1 _ flX0_nameAt_24) rfl rfl dX0_nameAt_16 ?_
      refine x_iload_n M hl0 dX0_nameAt_19 1 rfl ?_
      refine x_iconst M dX0_nameAt_20 ?_
      obtain ⟨g11, hf⟩ := gdt hf
      refine x_imul M dX0_nameAt_21 ?_
      refine x_iload_n M hl0 dX0_nameAt_22 2 rfl ?_
      obtain ⟨g12, hf⟩ := gdt hf
      refine x_iadd M dX0_nameAt_23 ?_
      obtain ⟨g13, hf⟩ := gdt hf
      refine x_iald (c0 := 7) (t0 := t) M hS10 (Or.inl ⟨by decide, ht⟩) (hs_7 G _) rfl g13 (by decide) dX0_nameAt_24 ?_
      refine x_goto (tgt := 31) M dX0_nameAt_25 (by decide) ?_
      exact x_iret M hr hf hS10 (hS10.inr _ _ _) dX0_nameAt_31

end
