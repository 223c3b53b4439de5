section
variable {p : Program} {l : Launch} {e : Env} {s : State} {m : MethodId} {args : Array Value} {below : List Frame} {meth : Method} {c : Code} {G : GG}
/-! X5_hasTwins -/
theorem flX5_hasTwins_18 : Cond.fieldLink RX5 18 "NamedMoves$Store" "copies" "LNamedMoves$Copies;" ∈ wsX5_hasTwins := by decide +kernel
theorem inX5_hasTwins_X5 : ∀ w ∈ u_ws RX5 TX5 10, w ∈ wsX5_hasTwins := by decide +kernel
set_option maxHeartbeats 4000000 in
set_option maxRecDepth 100000 in
theorem X5_hasTwins_b4_ok (M : MC p s m args meth c cX5_hasTwins 4 RX5 wsX5_hasTwins G) (hr : meth.sig.returnType = (some .boolean)) {t : Nat} (ht : t < 8) : ∀ n : Nat, ∀ x1 : Int, ∀ x2 : Int, ∀ x3 : Int, ∀ w : Wd, InR x1 → InR x2 → InR x3 → ∀ (H : Heap) (locs : List Loc), ST G s w H locs → ∀ ls : Array Slot, lv_has ls 4 [(0, .ref (G.1 0 t)), (1, iV x1), (2, iV x2), (3, iV x3)] → ∀ (r : Int) (w' : Wd), X5_hasTwins_b4 t n x1 x2 x3 w = some (r, w') → W p l e (rmk 2) s m args below meth c H locs 0 0 (MQ below (QiG G r w') args s 0 0 (GA G)) (F0 m 4 ls []) := by
  intro n
  induction n with
  | zero =>
    intro x1 x2 x3 w hx1 hx2 hx3 H locs hS0 ls hl0 r w' hf
    cases hf
  | succ n ih =>
    intro x1 x2 x3 w hx1 hx2 hx3 H locs hS0 ls hl0 r w' hf
    rw [X5_hasTwins_b4_s] at hf
    refine x_iload_n M hl0 dX5_hasTwins_4 3 rfl ?_
    refine x_sipush M dX5_hasTwins_5 rfl ?_
    refine x_icmp_ge (tgt := 40) M hx3 ⟨by decide, by decide⟩ dX5_hasTwins_8 (by decide) (fun hc => ?_) (fun hc => ?_)
    · have hf := iff_ hf (Int.not_lt.mpr hc)
      refine x_iload_n M hl0 dX5_hasTwins_40 2 rfl ?_
      refine x_iconst M dX5_hasTwins_41 ?_
      refine x_icmp_le (tgt := 49) M hx2 ⟨by decide, by decide⟩ dX5_hasTwins_42 (by decide) (fun hc => ?_) (fun hc => ?_)
      · have hf := iff_ hf (Int.not_lt.mpr hc)
        refine x_iconst M dX5_hasTwins_49 ?_
        exact x_zret M hr hf hS0 (Or.inl rfl) dX5_hasTwins_50
      · have hf := ift hf (Int.not_le.mp hc)
        refine x_iconst M dX5_hasTwins_45 ?_
        refine x_goto (tgt := 50) M dX5_hasTwins_46 (by decide) ?_
        exact x_zret M hr hf hS0 (Or.inr rfl) dX5_hasTwins_50
    · have hf := ift hf (Int.not_le.mp hc)
      refine x_aload_n M hl0 dX5_hasTwins_11 0 rfl ?_
      refine x_get (c0 := 0) (t0 := t) (v := .ref (G.1 2 t)) M hS0 (Or.inl ⟨by decide, ht⟩) (ref := "NamedMoves$Store") inX5_hasTwins_X5 (sE_0 G _ _) rfl 1 (by decide) (M.2.2.2.2.1 _ flX5_hasTwins_18) rfl rfl dX5_hasTwins_12 ?_
      refine x_iload_n M hl0 dX5_hasTwins_15 1 rfl ?_
      refine x_iload_n M hl0 dX5_hasTwins_16 3 rfl ?_
      obtain ⟨r3, w4, hc5, hf⟩ := bdt hf
      refine x_callVi (c0 := 2) (t0 := t) (As := [iV x1, iV x3]) (rest := []) M hl0 hS0 (c_X0_isOf l ht hx1 hx3 hc5) (cwV 2 M.2.2.2.2.1 gX5_hasTwins_X0_isOf rfl rfl rfl (by decide +kernel) ⟨Nat.le_of_ble_eq_true rfl, Nat.le_of_ble_eq_true rfl⟩) (Or.inl ⟨by decide, ht⟩) (sE_2 G _ _) rfl rfl (Nat.le_of_ble_eq_true rfl) dX5_hasTwins_17 rfl ⟨Nat.zero_le _, Nat.zero_le _⟩ (fun H locs hi6 hS7 => ?_)
      refine x_if_eq (tgt := 34) M hi6 dX5_hasTwins_20 (by decide) (fun hc => ?_) (fun hc => ?_)
      · have hf := ift hf hc
        obtain ⟨g8, hf⟩ := gdt hf
        refine x_iinc M hl0 dX5_hasTwins_34 3 rfl (by decide) [(3, iV (x3 + 1)), (0, .ref (G.1 0 t)), (1, iV x1), (2, iV x2)] rfl (fun ls hl9 => ?_)
        refine x_goto (tgt := 4) M dX5_hasTwins_37 (by decide) ?_
        exact ih x1 x2 (x3 + 1) w4 hx1 hx2 g8 _ _ hS7 _ (lv_sub hl9 [1, 2, 3, 0] rfl) _ _ hf
      · have hf := iff_ hf hc
        refine x_aload_n M hl0 dX5_hasTwins_23 0 rfl ?_
        refine x_iload_n M hl0 dX5_hasTwins_24 3 rfl ?_
        obtain ⟨r10, w11, hc12, hf⟩ := bdt hf
        refine x_callVi (c0 := 0) (t0 := t) (As := [iV x3]) (rest := []) M hl0 hS7 (c_X5_isInOldHalf l ht hx3 hc12) (cwV 1 M.2.2.2.2.1 gX5_hasTwins_X5_isInOldHalf rfl rfl rfl (by decide +kernel) ⟨Nat.le_of_ble_eq_true rfl, Nat.le_of_ble_eq_true rfl⟩) (Or.inl ⟨by decide, ht⟩) (sE_0 G _ _) rfl rfl (Nat.le_of_ble_eq_true rfl) dX5_hasTwins_25 rfl ⟨Nat.zero_le _, Nat.zero_le _⟩ (fun H locs hi13 hS14 => ?_)
        refine x_if_ne (tgt := 34) M hi13 dX5_hasTwins_28 (by decide) (fun hc => ?_) (fun hc => ?_)
        · have hf := iff_ hf hc
          obtain ⟨g15, hf⟩ := gdt hf
          refine x_iinc M hl0 dX5_hasTwins_34 3 rfl (by decide) [(3, iV (x3 + 1)), (0, .ref (G.1 0 t)), (1, iV x1), (2, iV x2)] rfl (fun ls hl16 => ?_)
          refine x_goto (tgt := 4) M dX5_hasTwins_37 (by decide) ?_
          exact ih x1 x2 (x3 + 1) w11 hx1 hx2 g15 _ _ hS14 _ (lv_sub hl16 [1, 2, 3, 0] rfl) _ _ hf
        · have hf := ift hf (Decidable.of_not_not hc)
          obtain ⟨g17, hf⟩ := gdt hf
          refine x_iinc M hl0 dX5_hasTwins_31 2 rfl (by decide) [(2, iV (x2 + 1)), (0, .ref (G.1 0 t)), (1, iV x1), (3, iV x3)] rfl (fun ls hl18 => ?_)
          obtain ⟨g19, hf⟩ := gdt hf
          refine x_iinc M hl18 dX5_hasTwins_34 3 rfl (by decide) [(3, iV (x3 + 1)), (2, iV (x2 + 1)), (0, .ref (G.1 0 t)), (1, iV x1)] rfl (fun ls hl20 => ?_)
          refine x_goto (tgt := 4) M dX5_hasTwins_37 (by decide) ?_
          exact ih x1 (x2 + 1) (x3 + 1) w11 hx1 g17 g19 _ _ hS14 _ (lv_sub hl20 [2, 3, 1, 0] rfl) _ _ hf

set_option maxHeartbeats 4000000 in
set_option maxRecDepth 100000 in
theorem c_X5_hasTwins (l : Launch) {G : GG} {t : Nat} (ht : t < 8) {x1 : Int} (hx1 : InR x1) {w : Wd} {r : Int} {w' : Wd} (hf : X5_hasTwins t x1 w = some (r, w')) : Met l yX5_hasTwins wsX5_hasTwins (rmk 2) (PcG G w [.ref (G.1 0 t), iV x1]) (QiG G r w') 0 0 (GA G) := by
  refine met_of (own := RX5) (by decide) rfl (Nat.le_of_ble_eq_true rfl) rfl ?_
  intro p e s m args below meth c M hr ls hl0 hS0
  have hl0 : lv_has ls 4 [(0, .ref (G.1 0 t)), (1, iV x1)] := hl0
  unfold X5_hasTwins at hf
  refine x_iconst M dX5_hasTwins_0 ?_
  refine x_istore_n M hl0 dX5_hasTwins_1 (by decide) [(2, iV 0), (0, .ref (G.1 0 t)), (1, iV x1)] rfl (fun ls hl1 => ?_)
  refine x_iconst M dX5_hasTwins_2 ?_
  refine x_istore_n M hl1 dX5_hasTwins_3 (by decide) [(3, iV 0), (2, iV 0), (0, .ref (G.1 0 t)), (1, iV x1)] rfl (fun ls hl2 => ?_)
  exact X5_hasTwins_b4_ok M hr ht LF x1 0 0 w hx1 ⟨by decide, by decide⟩ ⟨by decide, by decide⟩ _ _ hS0 _ (lv_sub hl2 [2, 3, 1, 0] rfl) _ _ hf

/-! X0_addressOf -/
set_option maxHeartbeats 4000000 in
set_option maxRecDepth 100000 in
theorem X0_addressOf_b5_ok (M : MC p s m args meth c cX0_addressOf 5 RX0 wsX0_addressOf G) (hr : meth.sig.returnType = (some .int)) {t : Nat} (ht : t < 8) : ∀ n : Nat, ∀ x1 : Int, ∀ x2 : Int, ∀ x3 : Int, ∀ x4 : Int, ∀ w : Wd, InR x1 → InR x2 → InR x3 → InR x4 → ∀ (H : Heap) (locs : List Loc), ST G s w H locs → ∀ ls : Array Slot, lv_has ls 5 [(0, .ref (G.1 2 t)), (1, iV x1), (2, iV x2), (3, iV x3), (4, iV x4)] → ∀ (r : Int) (w' : Wd), X0_addressOf_b5 t n x1 x2 x3 x4 w = some (r, w') → W p l e (rmk 2) s m args below meth c H locs 0 0 (MQ below (QiG G r w') args s 0 0 (GA G)) (F0 m 5 ls []) := by
  intro n
  induction n with
  | zero =>
    intro x1 x2 x3 x4 w hx1 hx2 hx3 hx4 H locs hS0 ls hl0 r w' hf
    cases hf
  | succ n ih =>
    intro x1 x2 x3 x4 w hx1 hx2 hx3 hx4 H locs hS0 ls hl0 r w' hf
    rw [X0_addressOf_b5_s] at hf
    refine x_iload M hl0 dX0_addressOf_5 4 rfl ?_
    refine x_sipush M dX0_addressOf_7 rfl ?_
    refine x_icmp_ge (tgt := 40) M hx4 ⟨by decide, by decide⟩ dX0_addressOf_10 (by decide) (fun hc => ?_) (fun hc => ?_)
    · have hf := iff_ hf (Int.not_lt.mpr hc)
      refine x_sipush M dX0_addressOf_40 rfl ?_
      exact x_iret M hr hf hS0 ⟨by decide, by decide⟩ dX0_addressOf_43
    · have hf := ift hf (Int.not_le.mp hc)
      refine x_aload_n M hl0 dX0_addressOf_13 0 rfl ?_
      refine x_iload_n M hl0 dX0_addressOf_14 1 rfl ?_
      refine x_iload M hl0 dX0_addressOf_15 4 rfl ?_
      obtain ⟨r3, w4, hc5, hf⟩ := bdt hf
      refine x_callVi (c0 := 2) (t0 := t) (As := [iV x1, iV x4]) (rest := []) M hl0 hS0 (c_X0_isOf l ht hx1 hx4 hc5) (cwV 2 M.2.2.2.2.1 gX0_addressOf_X0_isOf rfl rfl rfl (by decide +kernel) ⟨Nat.le_of_ble_eq_true rfl, Nat.le_of_ble_eq_true rfl⟩) (Or.inl ⟨by decide, ht⟩) (sE_2 G _ _) rfl rfl (Nat.le_of_ble_eq_true rfl) dX0_addressOf_17 rfl ⟨Nat.zero_le _, Nat.zero_le _⟩ (fun H locs hi6 hS7 => ?_)
      refine x_if_eq (tgt := 34) M hi6 dX0_addressOf_20 (by decide) (fun hc => ?_) (fun hc => ?_)
      · have hf := ift hf hc
        obtain ⟨g8, hf⟩ := gdt hf
        refine x_iinc M hl0 dX0_addressOf_34 4 rfl (by decide) [(4, iV (x4 + 1)), (0, .ref (G.1 2 t)), (1, iV x1), (2, iV x2), (3, iV x3)] rfl (fun ls hl9 => ?_)
        refine x_goto (tgt := 5) M dX0_addressOf_37 (by decide) ?_
        exact ih x1 x2 x3 (x4 + 1) w4 hx1 hx2 hx3 g8 _ _ hS7 _ (lv_sub hl9 [1, 2, 3, 4, 0] rfl) _ _ hf
      · have hf := iff_ hf hc
        refine x_iload_n M hl0 dX0_addressOf_23 3 rfl ?_
        refine x_iload_n M hl0 dX0_addressOf_24 2 rfl ?_
        refine x_icmp_ne (tgt := 31) M hx3 hx2 dX0_addressOf_25 (by decide) (fun hc => ?_) (fun hc => ?_)
        · have hf := iff_ hf hc
          obtain ⟨g10, hf⟩ := gdt hf
          refine x_iinc M hl0 dX0_addressOf_31 3 rfl (by decide) [(3, iV (x3 + 1)), (0, .ref (G.1 2 t)), (1, iV x1), (2, iV x2), (4, iV x4)] rfl (fun ls hl11 => ?_)
          obtain ⟨g12, hf⟩ := gdt hf
          refine x_iinc M hl11 dX0_addressOf_34 4 rfl (by decide) [(4, iV (x4 + 1)), (3, iV (x3 + 1)), (0, .ref (G.1 2 t)), (1, iV x1), (2, iV x2)] rfl (fun ls hl13 => ?_)
          refine x_goto (tgt := 5) M dX0_addressOf_37 (by decide) ?_
          exact ih x1 x2 (x3 + 1) (x4 + 1) w4 hx1 hx2 g10 g12 _ _ hS7 _ (lv_sub hl13 [2, 3, 4, 1, 0] rfl) _ _ hf
        · have hf := ift hf (Decidable.of_not_not hc)
          refine x_iload M hl0 dX0_addressOf_28 4 rfl ?_
          exact x_iret M hr hf hS7 hx4 dX0_addressOf_30

set_option maxHeartbeats 4000000 in
set_option maxRecDepth 100000 in
theorem c_X0_addressOf (l : Launch) {G : GG} {t : Nat} (ht : t < 8) {x1 : Int} (hx1 : InR x1) {x2 : Int} (hx2 : InR x2) {w : Wd} {r : Int} {w' : Wd} (hf : X0_addressOf t x1 x2 w = some (r, w')) : Met l yX0_addressOf wsX0_addressOf (rmk 2) (PcG G w [.ref (G.1 2 t), iV x1, iV x2]) (QiG G r w') 0 0 (GA G) := by
  refine met_of (own := RX0) (by decide) rfl (Nat.le_of_ble_eq_true rfl) rfl ?_
  intro p e s m args below meth c M hr ls hl0 hS0
  have hl0 : lv_has ls 5 [(0, .ref (G.1 2 t)), (1, iV x1), (2, iV x2)] := hl0
  unfold X0_addressOf at hf
  refine x_iconst M dX0_addressOf_0 ?_
  refine x_istore_n M hl0 dX0_addressOf_1 (by decide) [(3, iV 0), (0, .ref (G.1 2 t)), (1, iV x1), (2, iV x2)] rfl (fun ls hl1 => ?_)
  refine x_iconst M dX0_addressOf_2 ?_
  refine x_istore M hl1 dX0_addressOf_3 (by decide) [(4, iV 0), (3, iV 0), (0, .ref (G.1 2 t)), (1, iV x1), (2, iV x2)] rfl (fun ls hl2 => ?_)
  exact X0_addressOf_b5_ok M hr ht LF x1 x2 0 0 w hx1 hx2 ⟨by decide, by decide⟩ ⟨by decide, by decide⟩ _ _ hS0 _ (lv_sub hl2 [2, 3, 4, 1, 0] rfl) _ _ hf

/-! X0_replaceNames -/
theorem flX0_replaceNames_24 : Cond.fieldLink RX0 24 "NamedMoves$Copies" "names" "[I" ∈ wsX0_replaceNames := by decide +kernel
theorem inX0_replaceNames_X0 : ∀ w ∈ u_ws RX0 TX0 5, w ∈ wsX0_replaceNames := by decide +kernel
set_option maxHeartbeats 4000000 in
set_option maxRecDepth 100000 in
theorem X0_replaceNames_b2_ok (M : MC p s m args meth c cX0_replaceNames 4 RX0 wsX0_replaceNames G) (hr : meth.sig.returnType = none) {t : Nat} (ht : t < 8) : ∀ n : Nat, ∀ x1 : Int, ∀ x2 : Int, ∀ x3 : Int, ∀ w : Wd, InR x1 → InR x2 → InR x3 → ∀ (H : Heap) (locs : List Loc), ST G s w H locs → ∀ ls : Array Slot, lv_has ls 4 [(0, .ref (G.1 2 t)), (1, iV x1), (2, iV x2), (3, iV x3)] → ∀ (r : Int) (w' : Wd), X0_replaceNames_b2 t n x1 x2 x3 w = some (r, w') → W p l e (rmk 0) s m args below meth c H locs 0 0 (MQ below (QvG G w') args s 0 0 (GA G)) (F0 m 2 ls []) := by
  intro n
  induction n with
  | zero =>
    intro x1 x2 x3 w hx1 hx2 hx3 H locs hS0 ls hl0 r w' hf
    cases hf
  | succ n ih =>
    intro x1 x2 x3 w hx1 hx2 hx3 H locs hS0 ls hl0 r w' hf
    rw [X0_replaceNames_b2_s] at hf
    refine x_iload_n M hl0 dX0_replaceNames_2 3 rfl ?_
    refine x_sipush M dX0_replaceNames_3 rfl ?_
    refine x_icmp_ge (tgt := 32) M hx3 ⟨by decide, by decide⟩ dX0_replaceNames_6 (by decide) (fun hc => ?_) (fun hc => ?_)
    · have hf := iff_ hf (Int.not_lt.mpr hc)
      exact x_vret M hr hf hS0 dX0_replaceNames_32
    · have hf := ift hf (Int.not_le.mp hc)
      refine x_aload_n M hl0 dX0_replaceNames_9 0 rfl ?_
      refine x_get (c0 := 2) (t0 := t) (v := .ref (G.1 7 t)) M hS0 (Or.inl ⟨by decide, ht⟩) (ref := "NamedMoves$Copies") inX0_replaceNames_X0 (sE_2 G _ _) rfl 4 (by decide) (M.2.2.2.2.1 _ flX0_replaceNames_24) rfl rfl dX0_replaceNames_10 ?_
      refine x_iload_n M hl0 dX0_replaceNames_13 3 rfl ?_
      obtain ⟨g2, hf⟩ := gdt hf
      refine x_iald (c0 := 7) (t0 := t) M hS0 (Or.inl ⟨by decide, ht⟩) (hs_7 G _) rfl g2 (by decide) dX0_replaceNames_14 ?_
      refine x_iload_n M hl0 dX0_replaceNames_15 1 rfl ?_
      refine x_icmp_ne (tgt := 26) M (hS0.inr _ _ _) hx1 dX0_replaceNames_16 (by decide) (fun hc => ?_) (fun hc => ?_)
      · have hf := iff_ hf hc
        obtain ⟨g3, hf⟩ := gdt hf
        refine x_iinc M hl0 dX0_replaceNames_26 3 rfl (by decide) [(3, iV (x3 + 1)), (0, .ref (G.1 2 t)), (1, iV x1), (2, iV x2)] rfl (fun ls hl4 => ?_)
        refine x_goto (tgt := 2) M dX0_replaceNames_29 (by decide) ?_
        exact ih x1 x2 (x3 + 1) w hx1 hx2 g3 _ _ hS0 _ (lv_sub hl4 [1, 2, 3, 0] rfl) _ _ hf
      · have hf := ift hf (Decidable.of_not_not hc)
        refine x_aload_n M hl0 dX0_replaceNames_19 0 rfl ?_
        refine x_get (c0 := 2) (t0 := t) (v := .ref (G.1 7 t)) M hS0 (Or.inl ⟨by decide, ht⟩) (ref := "NamedMoves$Copies") inX0_replaceNames_X0 (sE_2 G _ _) rfl 4 (by decide) (M.2.2.2.2.1 _ flX0_replaceNames_24) rfl rfl dX0_replaceNames_20 ?_
        refine x_iload_n M hl0 dX0_replaceNames_23 3 rfl ?_
        refine x_iload_n M hl0 dX0_replaceNames_24 2 rfl ?_
        refine x_iast (c0 := 7) (t0 := t) M hS0 (Or.inl ⟨by decide, ht⟩) (hs_7 G _) rfl g2 (by decide) hx2 dX0_replaceNames_25 (fun H locs hS5 => ?_)
        obtain ⟨g6, hf⟩ := gdt hf
        refine x_iinc M hl0 dX0_replaceNames_26 3 rfl (by decide) [(3, iV (x3 + 1)), (0, .ref (G.1 2 t)), (1, iV x1), (2, iV x2)] rfl (fun ls hl7 => ?_)
        refine x_goto (tgt := 2) M dX0_replaceNames_29 (by decide) ?_
        exact ih x1 x2 (x3 + 1) (up w 7 t x3.toNat x2) hx1 hx2 g6 _ _ hS5 _ (lv_sub hl7 [1, 2, 3, 0] rfl) _ _ hf

set_option maxHeartbeats 4000000 in
set_option maxRecDepth 100000 in
theorem c_X0_replaceNames (l : Launch) {G : GG} {t : Nat} (ht : t < 8) {x1 : Int} (hx1 : InR x1) {x2 : Int} (hx2 : InR x2) {w : Wd} {r : Int} {w' : Wd} (hf : X0_replaceNames t x1 x2 w = some (r, w')) : Met l yX0_replaceNames wsX0_replaceNames (rmk 0) (PcG G w [.ref (G.1 2 t), iV x1, iV x2]) (QvG G w') 0 0 (GA G) := by
  refine met_of (own := RX0) (by decide) rfl (Nat.le_of_ble_eq_true rfl) rfl ?_
  intro p e s m args below meth c M hr ls hl0 hS0
  have hl0 : lv_has ls 4 [(0, .ref (G.1 2 t)), (1, iV x1), (2, iV x2)] := hl0
  unfold X0_replaceNames at hf
  refine x_iconst M dX0_replaceNames_0 ?_
  refine x_istore_n M hl0 dX0_replaceNames_1 (by decide) [(3, iV 0), (0, .ref (G.1 2 t)), (1, iV x1), (2, iV x2)] rfl (fun ls hl1 => ?_)
  exact X0_replaceNames_b2_ok M hr ht LF x1 x2 0 w hx1 hx2 ⟨by decide, by decide⟩ _ _ hS0 _ (lv_sub hl1 [1, 2, 3, 0] rfl) _ _ hf

/-! X5_replaceHooks -/
theorem flX5_replaceHooks_9 : Cond.fieldLink RX5 9 "NamedMoves$Store" "hooks" "[I" ∈ wsX5_replaceHooks := by decide +kernel
theorem inX5_replaceHooks_X5 : ∀ w ∈ u_ws RX5 TX5 10, w ∈ wsX5_replaceHooks := by decide +kernel
set_option maxHeartbeats 4000000 in
set_option maxRecDepth 100000 in
theorem X5_replaceHooks_b2_ok (M : MC p s m args meth c cX5_replaceHooks 4 RX5 wsX5_replaceHooks G) (hr : meth.sig.returnType = none) {t : Nat} (ht : t < 8) : ∀ n : Nat, ∀ x1 : Int, ∀ x2 : Int, ∀ x3 : Int, ∀ w : Wd, InR x1 → InR x2 → InR x3 → ∀ (H : Heap) (locs : List Loc), ST G s w H locs → ∀ ls : Array Slot, lv_has ls 4 [(0, .ref (G.1 0 t)), (1, iV x1), (2, iV x2), (3, iV x3)] → ∀ (r : Int) (w' : Wd), X5_replaceHooks_b2 t n x1 x2 x3 w = some (r, w') → W p l e (rmk 0) s m args below meth c H locs 0 0 (MQ below (QvG G w') args s 0 0 (GA G)) (F0 m 2 ls []) := by
  intro n
  induction n with
  | zero =>
    intro x1 x2 x3 w hx1 hx2 hx3 H locs hS0 ls hl0 r w' hf
    cases hf
  | succ n ih =>
    intro x1 x2 x3 w hx1 hx2 hx3 H locs hS0 ls hl0 r w' hf
    rw [X5_replaceHooks_b2_s] at hf
    refine x_iload_n M hl0 dX5_replaceHooks_2 3 rfl ?_
    refine x_bipush M dX5_replaceHooks_3 rfl ?_
    refine x_icmp_ge (tgt := 31) M hx3 ⟨by decide, by decide⟩ dX5_replaceHooks_5 (by decide) (fun hc => ?_) (fun hc => ?_)
    · have hf := iff_ hf (Int.not_lt.mpr hc)
      exact x_vret M hr hf hS0 dX5_replaceHooks_31
    · have hf := ift hf (Int.not_le.mp hc)
      refine x_aload_n M hl0 dX5_replaceHooks_8 0 rfl ?_
      refine x_get (c0 := 0) (t0 := t) (v := .ref (G.1 1 t)) M hS0 (Or.inl ⟨by decide, ht⟩) (ref := "NamedMoves$Store") inX5_replaceHooks_X5 (sE_0 G _ _) rfl 0 (by decide) (M.2.2.2.2.1 _ flX5_replaceHooks_9) rfl rfl dX5_replaceHooks_9 ?_
      refine x_iload_n M hl0 dX5_replaceHooks_12 3 rfl ?_
      obtain ⟨g2, hf⟩ := gdt hf
      refine x_iald (c0 := 1) (t0 := t) M hS0 (Or.inl ⟨by decide, ht⟩) (hs_1 G _) rfl g2 (by decide) dX5_replaceHooks_13 ?_
      refine x_iload_n M hl0 dX5_replaceHooks_14 1 rfl ?_
      refine x_icmp_ne (tgt := 25) M (hS0.inr _ _ _) hx1 dX5_replaceHooks_15 (by decide) (fun hc => ?_) (fun hc => ?_)
      · have hf := iff_ hf hc
        obtain ⟨g3, hf⟩ := gdt hf
        refine x_iinc M hl0 dX5_replaceHooks_25 3 rfl (by decide) [(3, iV (x3 + 1)), (0, .ref (G.1 0 t)), (1, iV x1), (2, iV x2)] rfl (fun ls hl4 => ?_)
        refine x_goto (tgt := 2) M dX5_replaceHooks_28 (by decide) ?_
        exact ih x1 x2 (x3 + 1) w hx1 hx2 g3 _ _ hS0 _ (lv_sub hl4 [1, 2, 3, 0] rfl) _ _ hf
      · have hf := ift hf (Decidable.of_not_not hc)
        refine x_aload_n M hl0 dX5_replaceHooks_18 0 rfl ?_
        refine x_get (c0 := 0) (t0 := t) (v := .ref (G.1 1 t)) M hS0 (Or.inl ⟨by decide, ht⟩) (ref := "NamedMoves$Store") inX5_replaceHooks_X5 (sE_0 G _ _) rfl 0 (by decide) (M.2.2.2.2.1 _ flX5_replaceHooks_9) rfl rfl dX5_replaceHooks_19 ?_
        refine x_iload_n M hl0 dX5_replaceHooks_22 3 rfl ?_
        refine x_iload_n M hl0 dX5_replaceHooks_23 2 rfl ?_
        refine x_iast (c0 := 1) (t0 := t) M hS0 (Or.inl ⟨by decide, ht⟩) (hs_1 G _) rfl g2 (by decide) hx2 dX5_replaceHooks_24 (fun H locs hS5 => ?_)
        obtain ⟨g6, hf⟩ := gdt hf
        refine x_iinc M hl0 dX5_replaceHooks_25 3 rfl (by decide) [(3, iV (x3 + 1)), (0, .ref (G.1 0 t)), (1, iV x1), (2, iV x2)] rfl (fun ls hl7 => ?_)
        refine x_goto (tgt := 2) M dX5_replaceHooks_28 (by decide) ?_
        exact ih x1 x2 (x3 + 1) (up w 1 t x3.toNat x2) hx1 hx2 g6 _ _ hS5 _ (lv_sub hl7 [1, 2, 3, 0] rfl) _ _ hf

set_option maxHeartbeats 4000000 in
set_option maxRecDepth 100000 in
theorem c_X5_replaceHooks (l : Launch) {G : GG} {t : Nat} (ht : t < 8) {x1 : Int} (hx1 : InR x1) {x2 : Int} (hx2 : InR x2) {w : Wd} {r : Int} {w' : Wd} (hf : X5_replaceHooks t x1 x2 w = some (r, w')) : Met l yX5_replaceHooks wsX5_replaceHooks (rmk 0) (PcG G w [.ref (G.1 0 t), iV x1, iV x2]) (QvG G w') 0 0 (GA G) := by
  refine met_of (own := RX5) (by decide) rfl (Nat.le_of_ble_eq_true rfl) rfl ?_
  intro p e s m args below meth c M hr ls hl0 hS0
  have hl0 : lv_has ls 4 [(0, .ref (G.1 0 t)), (1, iV x1), (2, iV x2)] := hl0
  unfold X5_replaceHooks at hf
  refine x_iconst M dX5_replaceHooks_0 ?_
  refine x_istore_n M hl0 dX5_replaceHooks_1 (by decide) [(3, iV 0), (0, .ref (G.1 0 t)), (1, iV x1), (2, iV x2)] rfl (fun ls hl1 => ?_)
  exact X5_replaceHooks_b2_ok M hr ht LF x1 x2 0 w hx1 hx2 ⟨by decide, by decide⟩ _ _ hS0 _ (lv_sub hl1 [1, 2, 3, 0] rfl) _ _ hf

/-! X5_mendTwins -/
theorem flX5_mendTwins_18 : Cond.fieldLink RX5 18 "NamedMoves$Store" "copies" "LNamedMoves$Copies;" ∈ wsX5_mendTwins := by decide +kernel
theorem flX5_mendTwins_55 : Cond.fieldLink RX5 55 "NamedMoves$Store" "moving" "Z" ∈ wsX5_mendTwins := by decide +kernel
theorem inX5_mendTwins_X5 : ∀ w ∈ u_ws RX5 TX5 10, w ∈ wsX5_mendTwins := by decide +kernel
set_option maxHeartbeats 4000000 in
set_option maxRecDepth 100000 in
theorem X5_mendTwins_b45_ok (M : MC p s m args meth c cX5_mendTwins 5 RX5 wsX5_mendTwins G) (hr : meth.sig.returnType = (some .int)) {t : Nat} (ht : t < 8) : ∀ n : Nat, ∀ x1 : Int, ∀ x2 : Int, ∀ x3 : Int, ∀ x4 : Int, ∀ w : Wd, InR x1 → InR x2 → InR x3 → InR x4 → ∀ (H : Heap) (locs : List Loc), ST G s w H locs → ∀ ls : Array Slot, lv_has ls 5 [(0, .ref (G.1 0 t)), (1, iV x1), (2, iV x2), (3, iV x3), (4, iV x4)] → ∀ (r : Int) (w' : Wd), X5_mendTwins_b45 t n x1 x2 x3 x4 w = some (r, w') → W p l e (rmk 3) s m args below meth c H locs 0 0 (MQ below (QiG G r w') args s 0 0 (GA G)) (F0 m 45 ls []) := by
  intro n
  induction n with
  | zero =>
    intro x1 x2 x3 x4 w hx1 hx2 hx3 hx4 H locs hS0 ls hl0 r w' hf
    cases hf
  | succ n ih =>
    intro x1 x2 x3 x4 w hx1 hx2 hx3 hx4 H locs hS0 ls hl0 r w' hf
    rw [X5_mendTwins_b45_s] at hf
    refine x_iload M hl0 dX5_mendTwins_45 4 rfl ?_
    refine x_sipush M dX5_mendTwins_47 rfl ?_
    refine x_icmp_ge (tgt := 101) M hx4 ⟨by decide, by decide⟩ dX5_mendTwins_50 (by decide) (fun hc => ?_) (fun hc => ?_)
    · have hf := iff_ hf (Int.not_lt.mpr hc)
      refine x_iload_n M hl0 dX5_mendTwins_101 3 rfl ?_
      exact x_iret M hr hf hS0 hx3 dX5_mendTwins_102
    · have hf := ift hf (Int.not_le.mp hc)
      refine x_aload_n M hl0 dX5_mendTwins_53 0 rfl ?_
      refine x_get (c0 := 0) (t0 := t) (v := .ref (G.1 2 t)) M hS0 (Or.inl ⟨by decide, ht⟩) (ref := "NamedMoves$Store") inX5_mendTwins_X5 (sE_0 G _ _) rfl 1 (by decide) (M.2.2.2.2.1 _ flX5_mendTwins_18) rfl rfl dX5_mendTwins_54 ?_
      refine x_iload_n M hl0 dX5_mendTwins_57 1 rfl ?_
      refine x_iload M hl0 dX5_mendTwins_58 4 rfl ?_
      obtain ⟨r20, w21, hc22, hf⟩ := bdt hf
      refine x_callVi (c0 := 2) (t0 := t) (As := [iV x1, iV x4]) (rest := []) M hl0 hS0 (c_X0_isOf l ht hx1 hx4 hc22) (cwV 2 M.2.2.2.2.1 gX5_mendTwins_X0_isOf rfl rfl rfl (by decide +kernel) ⟨Nat.le_of_ble_eq_true rfl, Nat.le_of_ble_eq_true rfl⟩) (Or.inl ⟨by decide, ht⟩) (sE_2 G _ _) rfl rfl (Nat.le_of_ble_eq_true rfl) dX5_mendTwins_60 rfl ⟨Nat.zero_le _, Nat.zero_le _⟩ (fun H locs hi23 hS24 => ?_)
      refine x_if_eq (tgt := 95) M hi23 dX5_mendTwins_63 (by decide) (fun hc => ?_) (fun hc => ?_)
      · have hf := ift hf hc
        obtain ⟨g25, hf⟩ := gdt hf
        refine x_iinc M hl0 dX5_mendTwins_95 4 rfl (by decide) [(4, iV (x4 + 1)), (0, .ref (G.1 0 t)), (1, iV x1), (2, iV x2), (3, iV x3)] rfl (fun ls hl26 => ?_)
        refine x_goto (tgt := 45) M dX5_mendTwins_98 (by decide) ?_
        exact ih x1 x2 x3 (x4 + 1) w21 hx1 hx2 hx3 g25 _ _ hS24 _ (lv_sub hl26 [1, 2, 3, 4, 0] rfl) _ _ hf
      · have hf := iff_ hf hc
        refine x_aload_n M hl0 dX5_mendTwins_66 0 rfl ?_
        refine x_get (c0 := 0) (t0 := t) (v := .ref (G.1 2 t)) M hS24 (Or.inl ⟨by decide, ht⟩) (ref := "NamedMoves$Store") inX5_mendTwins_X5 (sE_0 G _ _) rfl 1 (by decide) (M.2.2.2.2.1 _ flX5_mendTwins_18) rfl rfl dX5_mendTwins_67 ?_
        refine x_iload M hl0 dX5_mendTwins_70 4 rfl ?_
        obtain ⟨r27, w28, hc29, hf⟩ := bdt hf
        refine x_callVv (c0 := 2) (t0 := t) (As := [iV x4]) (rest := []) M hl0 hS24 (c_X0_remove l ht hx4 hc29) (cwV 1 M.2.2.2.2.1 gX5_mendTwins_X0_remove rfl rfl rfl (by decide +kernel) ⟨Nat.le_of_ble_eq_true rfl, Nat.le_of_ble_eq_true rfl⟩) (Or.inl ⟨by decide, ht⟩) (sE_2 G _ _) rfl rfl (Nat.le_of_ble_eq_true rfl) dX5_mendTwins_72 rfl ⟨Nat.zero_le _, Nat.zero_le _⟩ (fun H locs hS31 => ?_)
        refine x_aload_n M hl0 dX5_mendTwins_75 0 rfl ?_
        refine x_get (c0 := 0) (t0 := t) (v := .ref (G.1 2 t)) M hS31 (Or.inl ⟨by decide, ht⟩) (ref := "NamedMoves$Store") inX5_mendTwins_X5 (sE_0 G _ _) rfl 1 (by decide) (M.2.2.2.2.1 _ flX5_mendTwins_18) rfl rfl dX5_mendTwins_76 ?_
        refine x_iload M hl0 dX5_mendTwins_79 4 rfl ?_
        refine x_iload_n M hl0 dX5_mendTwins_81 2 rfl ?_
        obtain ⟨r32, w33, hc34, hf⟩ := bdt hf
        refine x_callVv (c0 := 2) (t0 := t) (As := [iV x4, iV x2]) (rest := []) M hl0 hS31 (c_X0_replaceNames l ht hx4 hx2 hc34) (cwV 2 M.2.2.2.2.1 gX5_mendTwins_X0_replaceNames rfl rfl rfl (by decide +kernel) ⟨Nat.le_of_ble_eq_true rfl, Nat.le_of_ble_eq_true rfl⟩) (Or.inl ⟨by decide, ht⟩) (sE_2 G _ _) rfl rfl (Nat.le_of_ble_eq_true rfl) dX5_mendTwins_82 rfl ⟨Nat.zero_le _, Nat.zero_le _⟩ (fun H locs hS36 => ?_)
        refine x_aload_n M hl0 dX5_mendTwins_85 0 rfl ?_
        refine x_iload M hl0 dX5_mendTwins_86 4 rfl ?_
        refine x_iload_n M hl0 dX5_mendTwins_88 2 rfl ?_
        obtain ⟨r37, w38, hc39, hf⟩ := bdt hf
        refine x_callVv (c0 := 0) (t0 := t) (As := [iV x4, iV x2]) (rest := []) M hl0 hS36 (c_X5_replaceHooks l ht hx4 hx2 hc39) (cwV 2 M.2.2.2.2.1 gX5_mendTwins_X5_replaceHooks rfl rfl rfl (by decide +kernel) ⟨Nat.le_of_ble_eq_true rfl, Nat.le_of_ble_eq_true rfl⟩) (Or.inl ⟨by decide, ht⟩) (sE_0 G _ _) rfl rfl (Nat.le_of_ble_eq_true rfl) dX5_mendTwins_89 rfl ⟨Nat.zero_le _, Nat.zero_le _⟩ (fun H locs hS41 => ?_)
        obtain ⟨g42, hf⟩ := gdt hf
        refine x_iinc M hl0 dX5_mendTwins_92 3 rfl (by decide) [(3, iV (x3 + 1)), (0, .ref (G.1 0 t)), (1, iV x1), (2, iV x2), (4, iV x4)] rfl (fun ls hl43 => ?_)
        obtain ⟨g44, hf⟩ := gdt hf
        refine x_iinc M hl43 dX5_mendTwins_95 4 rfl (by decide) [(4, iV (x4 + 1)), (3, iV (x3 + 1)), (0, .ref (G.1 0 t)), (1, iV x1), (2, iV x2)] rfl (fun ls hl45 => ?_)
        refine x_goto (tgt := 45) M dX5_mendTwins_98 (by decide) ?_
        exact ih x1 x2 (x3 + 1) (x4 + 1) w38 hx1 hx2 g42 g44 _ _ hS41 _ (lv_sub hl45 [2, 3, 4, 1, 0] rfl) _ _ hf

set_option maxHeartbeats 4000000 in
set_option maxRecDepth 100000 in
theorem c_X5_mendTwins (l : Launch) {G : GG} {t : Nat} (ht : t < 8) {x1 : Int} (hx1 : InR x1) {w : Wd} {r : Int} {w' : Wd} (hf : X5_mendTwins t x1 w = some (r, w')) : Met l yX5_mendTwins wsX5_mendTwins (rmk 3) (PcG G w [.ref (G.1 0 t), iV x1]) (QiG G r w') 0 0 (GA G) := by
  refine met_of (own := RX5) (by decide) rfl (Nat.le_of_ble_eq_true rfl) rfl ?_
  intro p e s m args below meth c M hr ls hl0 hS0
  have hl0 : lv_has ls 5 [(0, .ref (G.1 0 t)), (1, iV x1)] := hl0
  unfold X5_mendTwins at hf
  refine x_aload_n M hl0 dX5_mendTwins_0 0 rfl ?_
  refine x_iload_n M hl0 dX5_mendTwins_1 1 rfl ?_
  obtain ⟨r1, w2, hc3, hf⟩ := bdt hf
  refine x_callVi (c0 := 0) (t0 := t) (As := [iV x1]) (rest := []) M hl0 hS0 (c_X5_isThing l ht hx1 hc3) (cwV 1 M.2.2.2.2.1 gX5_mendTwins_X5_isThing rfl rfl rfl (by decide +kernel) ⟨Nat.le_of_ble_eq_true rfl, Nat.le_of_ble_eq_true rfl⟩) (Or.inl ⟨by decide, ht⟩) (sE_0 G _ _) rfl rfl (Nat.le_of_ble_eq_true rfl) dX5_mendTwins_2 rfl ⟨Nat.zero_le _, Nat.zero_le _⟩ (fun H locs hi4 hS5 => ?_)
  refine x_if_ne (tgt := 10) M hi4 dX5_mendTwins_5 (by decide) (fun hc => ?_) (fun hc => ?_)
  · have hf := iff_ hf hc
    refine x_aload_n M hl0 dX5_mendTwins_10 0 rfl ?_
    refine x_get (c0 := 0) (t0 := t) (v := iV (w2 0 t 2)) M hS5 (Or.inl ⟨by decide, ht⟩) (ref := "NamedMoves$Store") inX5_mendTwins_X5 (sE_0 G _ _) rfl 5 (by decide) (M.2.2.2.2.1 _ flX5_mendTwins_55) rfl rfl dX5_mendTwins_11 ?_
    refine x_if_ne (tgt := 25) M (hS5.inr _ _ _) dX5_mendTwins_14 (by decide) (fun hc => ?_) (fun hc => ?_)
    · have hf := iff_ hf hc
      refine x_bipush M dX5_mendTwins_25 rfl ?_
      exact x_iret M hr hf hS5 ⟨by decide, by decide⟩ dX5_mendTwins_27
    · have hf := ift hf (Decidable.of_not_not hc)
      refine x_aload_n M hl0 dX5_mendTwins_17 0 rfl ?_
      refine x_iload_n M hl0 dX5_mendTwins_18 1 rfl ?_
      obtain ⟨r6, w7, hc8, hf⟩ := bdt hf
      refine x_callVi (c0 := 0) (t0 := t) (As := [iV x1]) (rest := []) M hl0 hS5 (c_X5_hasTwins l ht hx1 hc8) (cwV 1 M.2.2.2.2.1 gX5_mendTwins_X5_hasTwins rfl rfl rfl (by decide +kernel) ⟨Nat.le_of_ble_eq_true rfl, Nat.le_of_ble_eq_true rfl⟩) (Or.inl ⟨by decide, ht⟩) (sE_0 G _ _) rfl rfl (Nat.le_of_ble_eq_true rfl) dX5_mendTwins_19 rfl ⟨Nat.zero_le _, Nat.zero_le _⟩ (fun H locs hi9 hS10 => ?_)
      refine x_if_ne (tgt := 28) M hi9 dX5_mendTwins_22 (by decide) (fun hc => ?_) (fun hc => ?_)
      · have hf := iff_ hf hc
        refine x_aload_n M hl0 dX5_mendTwins_28 0 rfl ?_
        refine x_get (c0 := 0) (t0 := t) (v := .ref (G.1 2 t)) M hS10 (Or.inl ⟨by decide, ht⟩) (ref := "NamedMoves$Store") inX5_mendTwins_X5 (sE_0 G _ _) rfl 1 (by decide) (M.2.2.2.2.1 _ flX5_mendTwins_18) rfl rfl dX5_mendTwins_29 ?_
        refine x_iload_n M hl0 dX5_mendTwins_32 1 rfl ?_
        refine x_iconst M dX5_mendTwins_33 ?_
        obtain ⟨r11, w12, hc13, hf⟩ := bdt hf
        refine x_callVi (c0 := 2) (t0 := t) (As := [iV x1, iV 0]) (rest := []) M hl0 hS10 (c_X0_addressOf l ht hx1 ⟨by decide, by decide⟩ hc13) (cwV 2 M.2.2.2.2.1 gX5_mendTwins_X0_addressOf rfl rfl rfl (by decide +kernel) ⟨Nat.le_of_ble_eq_true rfl, Nat.le_of_ble_eq_true rfl⟩) (Or.inl ⟨by decide, ht⟩) (sE_2 G _ _) rfl rfl (Nat.le_of_ble_eq_true rfl) dX5_mendTwins_34 rfl ⟨Nat.zero_le _, Nat.zero_le _⟩ (fun H locs hi14 hS15 => ?_)
        refine x_istore_n M hl0 dX5_mendTwins_37 (by decide) [(2, iV r11), (0, .ref (G.1 0 t)), (1, iV x1)] rfl (fun ls hl16 => ?_)
        refine x_iconst M dX5_mendTwins_38 ?_
        refine x_istore_n M hl16 dX5_mendTwins_39 (by decide) [(3, iV 0), (2, iV r11), (0, .ref (G.1 0 t)), (1, iV x1)] rfl (fun ls hl17 => ?_)
        refine x_iload_n M hl17 dX5_mendTwins_40 1 rfl ?_
        refine x_iconst M dX5_mendTwins_41 ?_
        obtain ⟨g18, hf⟩ := gdt hf
        refine x_iadd M dX5_mendTwins_42 ?_
        refine x_istore M hl17 dX5_mendTwins_43 (by decide) [(4, iV (r11 + 1)), (3, iV 0), (2, iV r11), (0, .ref (G.1 0 t)), (1, iV x1)] rfl (fun ls hl19 => ?_)
        exact X5_mendTwins_b45_ok M hr ht LF x1 r11 0 (r11 + 1) w12 hx1 hi14 ⟨by decide, by decide⟩ g18 _ _ hS15 _ (lv_sub hl19 [3, 4, 2, 1, 0] rfl) _ _ hf
      · have hf := ift hf (Decidable.of_not_not hc)
        refine x_bipush M dX5_mendTwins_25 rfl ?_
        exact x_iret M hr hf hS10 ⟨by decide, by decide⟩ dX5_mendTwins_27
  · have hf := ift hf (Decidable.of_not_not hc)
    refine x_iconst M dX5_mendTwins_8 ?_
    exact x_iret M hr hf hS5 ⟨by decide, by decide⟩ dX5_mendTwins_9

/-! X7_mend -/
theorem flX7_mend_12 : Cond.fieldLink RX7 12 "NamedMoves" "store" "LNamedMoves$Store;" ∈ wsX7_mend := by decide +kernel
theorem flX7_mend_22 : Cond.fieldLink RX7 22 "NamedMoves" "history" "LNamedMoves$History;" ∈ wsX7_mend := by decide +kernel
theorem inX7_mend_X7 : ∀ w ∈ u_ws RX7 TX7 6, w ∈ wsX7_mend := by decide +kernel
set_option maxHeartbeats 4000000 in
set_option maxRecDepth 100000 in
theorem c_X7_mend (l : Launch) {G : GG} {x1 : Int} (hx1 : InR x1) {w : Wd} {r : Int} {w' : Wd} (hf : X7_mend x1 w = some (r, w')) : Met l yX7_mend wsX7_mend (rmk 4) (PcG G w [.ref (G.1 10 0), iV x1]) (QiG G r w') 0 0 (GA G) := by
  refine met_of (own := RX7) (by decide) rfl (Nat.le_of_ble_eq_true rfl) rfl ?_
  intro p e s m args below meth c M hr ls hl0 hS0
  have hl0 : lv_has ls 2 [(0, .ref (G.1 10 0)), (1, iV x1)] := hl0
  unfold X7_mend at hf
  refine x_aload_n M hl0 dX7_mend_0 0 rfl ?_
  refine x_get (c0 := 10) (t0 := 0) (v := .ref (G.1 11 0)) M hS0 (by decide) (ref := "NamedMoves") inX7_mend_X7 (sE_10 G _ _) rfl 2 (by decide) (M.2.2.2.2.1 _ flX7_mend_22) rfl rfl dX7_mend_1 ?_
  refine x_aload_n M hl0 dX7_mend_4 0 rfl ?_
  refine x_get (c0 := 10) (t0 := 0) (v := .ref (G.1 0 0)) M hS0 (by decide) (ref := "NamedMoves") inX7_mend_X7 (sE_10 G _ _) rfl 0 (by decide) (M.2.2.2.2.1 _ flX7_mend_12) rfl rfl dX7_mend_5 ?_
  obtain ⟨r1, w2, hc3, hf⟩ := bdt hf
  refine x_callVv (c0 := 11) (t0 := 0) (As := [.ref (G.1 0 0)]) (rest := []) M hl0 hS0 (c_X2_draft l (by decide)  hc3) (cwV 1 M.2.2.2.2.1 gX7_mend_X2_draft rfl rfl rfl (by decide +kernel) ⟨Nat.le_of_ble_eq_true rfl, Nat.le_of_ble_eq_true rfl⟩) (by decide) (sE_11 G _ _) rfl rfl (Nat.le_of_ble_eq_true rfl) dX7_mend_8 rfl ⟨Nat.zero_le _, Nat.zero_le _⟩ (fun H locs hS5 => ?_)
  refine x_aload_n M hl0 dX7_mend_11 0 rfl ?_
  refine x_aload_n M hl0 dX7_mend_12 0 rfl ?_
  refine x_get (c0 := 10) (t0 := 0) (v := .ref (G.1 0 0)) M hS5 (by decide) (ref := "NamedMoves") inX7_mend_X7 (sE_10 G _ _) rfl 0 (by decide) (M.2.2.2.2.1 _ flX7_mend_12) rfl rfl dX7_mend_13 ?_
  refine x_iload_n M hl0 dX7_mend_16 1 rfl ?_
  obtain ⟨r6, w7, hc8, hf⟩ := bdt hf
  refine x_callVi (c0 := 0) (t0 := 0) (As := [iV x1]) (rest := [.ref (G.1 10 0)]) M hl0 hS5 (c_X5_mendTwins l (by decide) hx1 hc8) (cwV 1 M.2.2.2.2.1 gX7_mend_X5_mendTwins rfl rfl rfl (by decide +kernel) ⟨Nat.le_of_ble_eq_true rfl, Nat.le_of_ble_eq_true rfl⟩) (by decide) (sE_0 G _ _) rfl rfl (Nat.le_of_ble_eq_true rfl) dX7_mend_17 rfl ⟨Nat.zero_le _, Nat.zero_le _⟩ (fun H locs hi9 hS10 => ?_)
  obtain ⟨r11, w12, hc13, hf⟩ := bdt hf
  refine x_callVi (c0 := 10) (t0 := 0) (As := [iV r6]) (rest := []) M hl0 hS10 (c_X7_recorded l  hi9 hc13) (cwV 1 M.2.2.2.2.1 gX7_mend_X7_recorded rfl rfl rfl (by decide +kernel) ⟨Nat.le_of_ble_eq_true rfl, Nat.le_of_ble_eq_true rfl⟩) (by decide) (sE_10 G _ _) rfl rfl (Nat.le_of_ble_eq_true rfl) dX7_mend_20 rfl ⟨Nat.zero_le _, Nat.zero_le _⟩ (fun H locs hi14 hS15 => ?_)
  exact x_iret M hr hf hS15 hi14 dX7_mend_23

/-! X2_size -/
theorem flX2_size_18 : Cond.fieldLink RX2 18 "NamedMoves$History" "held" "I" ∈ wsX2_size := by decide +kernel
theorem inX2_size_X2 : ∀ w ∈ u_ws RX2 TX2 3, w ∈ wsX2_size := by decide +kernel
set_option maxHeartbeats 4000000 in
set_option maxRecDepth 100000 in
theorem c_X2_size (l : Launch) {G : GG} {w : Wd} {r : Int} {w' : Wd} (hf : X2_size w = some (r, w')) : Met l yX2_size wsX2_size (rmk 0) (PcG G w [.ref (G.1 11 0)]) (QiG G r w') 0 0 (GA G) := by
  refine met_of (own := RX2) (by decide) rfl (Nat.le_of_ble_eq_true rfl) rfl ?_
  intro p e s m args below meth c M hr ls hl0 hS0
  have hl0 : lv_has ls 1 [(0, .ref (G.1 11 0))] := hl0
  unfold X2_size at hf
  refine x_aload_n M hl0 dX2_size_0 0 rfl ?_
  refine x_get (c0 := 11) (t0 := 0) (v := iV (w 11 0 1)) M hS0 (by decide) (ref := "NamedMoves$History") inX2_size_X2 (sE_11 G _ _) rfl 2 (by decide) (M.2.2.2.2.1 _ flX2_size_18) rfl rfl dX2_size_1 ?_
  exact x_iret M hr hf hS0 (hS0.inr _ _ _) dX2_size_4

/-! X6_size -/
theorem flX6_size_15 : Cond.fieldLink RX6 15 "NamedMoves$Text" "length" "I" ∈ wsX6_size := by decide +kernel
theorem inX6_size_X6 : ∀ w ∈ u_ws RX6 TX6 2, w ∈ wsX6_size := by decide +kernel
set_option maxHeartbeats 4000000 in
set_option maxRecDepth 100000 in
theorem c_X6_size (l : Launch) {G : GG} {w : Wd} {r : Int} {w' : Wd} (hf : X6_size w = some (r, w')) : Met l yX6_size wsX6_size (rmk 0) (PcG G w [.ref (G.1 17 0)]) (QiG G r w') 0 0 (GA G) := by
  refine met_of (own := RX6) (by decide) rfl (Nat.le_of_ble_eq_true rfl) rfl ?_
  intro p e s m args below meth c M hr ls hl0 hS0
  have hl0 : lv_has ls 1 [(0, .ref (G.1 17 0))] := hl0
  unfold X6_size at hf
  refine x_aload_n M hl0 dX6_size_0 0 rfl ?_
  refine x_get (c0 := 17) (t0 := 0) (v := iV (w 17 0 0)) M hS0 (by decide) (ref := "NamedMoves$Text") inX6_size_X6 (sE_17 G _ _) rfl 1 (by decide) (M.2.2.2.2.1 _ flX6_size_15) rfl rfl dX6_size_1 ?_
  exact x_iret M hr hf hS0 (hS0.inr _ _ _) dX6_size_4

/-! X0_number -/
set_option maxHeartbeats 4000000 in
set_option maxRecDepth 100000 in
theorem X0_number_b4_ok (M : MC p s m args meth c cX0_number 3 RX0 wsX0_number G) (hr : meth.sig.returnType = (some .int)) {t : Nat} (ht : t < 8) : ∀ n : Nat, ∀ x1 : Int, ∀ x2 : Int, ∀ w : Wd, InR x1 → InR x2 → ∀ (H : Heap) (locs : List Loc), ST G s w H locs → ∀ ls : Array Slot, lv_has ls 3 [(0, .ref (G.1 2 t)), (1, iV x1), (2, iV x2)] → ∀ (r : Int) (w' : Wd), X0_number_b4 t n x1 x2 w = some (r, w') → W p l e (rmk 1) s m args below meth c H locs 0 0 (MQ below (QiG G r w') args s 0 0 (GA G)) (F0 m 4 ls []) := by
  intro n
  induction n with
  | zero =>
    intro x1 x2 w hx1 hx2 H locs hS0 ls hl0 r w' hf
    cases hf
  | succ n ih =>
    intro x1 x2 w hx1 hx2 H locs hS0 ls hl0 r w' hf
    rw [X0_number_b4_s] at hf
    refine x_iload_n M hl0 dX0_number_4 2 rfl ?_
    refine x_sipush M dX0_number_5 rfl ?_
    refine x_icmp_ge (tgt := 28) M hx2 ⟨by decide, by decide⟩ dX0_number_8 (by decide) (fun hc => ?_) (fun hc => ?_)
    · have hf := iff_ hf (Int.not_lt.mpr hc)
      refine x_iload_n M hl0 dX0_number_28 1 rfl ?_
      exact x_iret M hr hf hS0 hx1 dX0_number_29
    · have hf := ift hf (Int.not_le.mp hc)
      refine x_aload_n M hl0 dX0_number_11 0 rfl ?_
      refine x_iload_n M hl0 dX0_number_12 2 rfl ?_
      obtain ⟨r3, w4, hc5, hf⟩ := bdt hf
      refine x_callVi (c0 := 2) (t0 := t) (As := [iV x2]) (rest := []) M hl0 hS0 (c_X0_isAt l ht hx2 hc5) (cwV 1 M.2.2.2.2.1 gX0_number_X0_isAt rfl rfl rfl (by decide +kernel) ⟨Nat.le_of_ble_eq_true rfl, Nat.le_of_ble_eq_true rfl⟩) (Or.inl ⟨by decide, ht⟩) (sE_2 G _ _) rfl rfl (Nat.le_of_ble_eq_true rfl) dX0_number_13 rfl ⟨Nat.zero_le _, Nat.zero_le _⟩ (fun H locs hi6 hS7 => ?_)
      refine x_if_eq (tgt := 22) M hi6 dX0_number_16 (by decide) (fun hc => ?_) (fun hc => ?_)
      · have hf := ift hf hc
        obtain ⟨g8, hf⟩ := gdt hf
        refine x_iinc M hl0 dX0_number_22 2 rfl (by decide) [(2, iV (x2 + 1)), (0, .ref (G.1 2 t)), (1, iV x1)] rfl (fun ls hl9 => ?_)
        refine x_goto (tgt := 4) M dX0_number_25 (by decide) ?_
        exact ih x1 (x2 + 1) w4 hx1 g8 _ _ hS7 _ (lv_sub hl9 [1, 2, 0] rfl) _ _ hf
      · have hf := iff_ hf hc
        obtain ⟨g10, hf⟩ := gdt hf
        refine x_iinc M hl0 dX0_number_19 1 rfl (by decide) [(1, iV (x1 + 1)), (0, .ref (G.1 2 t)), (2, iV x2)] rfl (fun ls hl11 => ?_)
        obtain ⟨g12, hf⟩ := gdt hf
        refine x_iinc M hl11 dX0_number_22 2 rfl (by decide) [(2, iV (x2 + 1)), (1, iV (x1 + 1)), (0, .ref (G.1 2 t))] rfl (fun ls hl13 => ?_)
        refine x_goto (tgt := 4) M dX0_number_25 (by decide) ?_
        exact ih (x1 + 1) (x2 + 1) w4 g10 g12 _ _ hS7 _ (lv_sub hl13 [2, 1, 0] rfl) _ _ hf

set_option maxHeartbeats 4000000 in
set_option maxRecDepth 100000 in
theorem c_X0_number (l : Launch) {G : GG} {t : Nat} (ht : t < 8) {w : Wd} {r : Int} {w' : Wd} (hf : X0_number t w = some (r, w')) : Met l yX0_number wsX0_number (rmk 1) (PcG G w [.ref (G.1 2 t)]) (QiG G r w') 0 0 (GA G) := by
  refine met_of (own := RX0) (by decide) rfl (Nat.le_of_ble_eq_true rfl) rfl ?_
  intro p e s m args below meth c M hr ls hl0 hS0
  have hl0 : lv_has ls 3 [(0, .ref (G.1 2 t))] := hl0
  unfold X0_number at hf
  refine x_iconst M dX0_number_0 ?_
  refine x_istore_n M hl0 dX0_number_1 (by decide) [(1, iV 0), (0, .ref (G.1 2 t))] rfl (fun ls hl1 => ?_)
  refine x_iconst M dX0_number_2 ?_
  refine x_istore_n M hl1 dX0_number_3 (by decide) [(2, iV 0), (1, iV 0), (0, .ref (G.1 2 t))] rfl (fun ls hl2 => ?_)
  exact X0_number_b4_ok M hr ht LF 0 0 w ⟨by decide, by decide⟩ ⟨by decide, by decide⟩ _ _ hS0 _ (lv_sub hl2 [2, 1, 0] rfl) _ _ hf

/-! X0_floorTaken -/
set_option maxHeartbeats 4000000 in
set_option maxRecDepth 100000 in
theorem X0_floorTaken_b4_ok (M : MC p s m args meth c cX0_floorTaken 3 RX0 wsX0_floorTaken G) (hr : meth.sig.returnType = (some .int)) {t : Nat} (ht : t < 8) : ∀ n : Nat, ∀ x1 : Int, ∀ x2 : Int, ∀ w : Wd, InR x1 → InR x2 → ∀ (H : Heap) (locs : List Loc), ST G s w H locs → ∀ ls : Array Slot, lv_has ls 3 [(0, .ref (G.1 2 t)), (1, iV x1), (2, iV x2)] → ∀ (r : Int) (w' : Wd), X0_floorTaken_b4 t n x1 x2 w = some (r, w') → W p l e (rmk 2) s m args below meth c H locs 0 0 (MQ below (QiG G r w') args s 0 0 (GA G)) (F0 m 4 ls []) := by
  intro n
  induction n with
  | zero =>
    intro x1 x2 w hx1 hx2 H locs hS0 ls hl0 r w' hf
    cases hf
  | succ n ih =>
    intro x1 x2 w hx1 hx2 H locs hS0 ls hl0 r w' hf
    rw [X0_floorTaken_b4_s] at hf
    refine x_iload_n M hl0 dX0_floorTaken_4 2 rfl ?_
    refine x_bipush M dX0_floorTaken_5 rfl ?_
    refine x_icmp_ge (tgt := 28) M hx2 ⟨by decide, by decide⟩ dX0_floorTaken_7 (by decide) (fun hc => ?_) (fun hc => ?_)
    · have hf := iff_ hf (Int.not_lt.mpr hc)
      refine x_iload_n M hl0 dX0_floorTaken_28 1 rfl ?_
      exact x_iret M hr hf hS0 hx1 dX0_floorTaken_29
    · have hf := ift hf (Int.not_le.mp hc)
      refine x_iload_n M hl0 dX0_floorTaken_10 1 rfl ?_
      refine x_aload_n M hl0 dX0_floorTaken_11 0 rfl ?_
      refine x_sipush M dX0_floorTaken_12 rfl ?_
      refine x_iload_n M hl0 dX0_floorTaken_15 2 rfl ?_
      obtain ⟨g3, hf⟩ := gdt hf
      refine x_iadd M dX0_floorTaken_16 ?_
      obtain ⟨r4, w5, hc6, hf⟩ := bdt hf
      refine x_callVi (c0 := 2) (t0 := t) (As := [iV (200 + x2)]) (rest := [iV x1]) M hl0 hS0 (c_X0_sizeAt l ht g3 hc6) (cwV 1 M.2.2.2.2.1 gX0_floorTaken_X0_sizeAt rfl rfl rfl (by decide +kernel) ⟨Nat.le_of_ble_eq_true rfl, Nat.le_of_ble_eq_true rfl⟩) (Or.inl ⟨by decide, ht⟩) (sE_2 G _ _) rfl rfl (Nat.le_of_ble_eq_true rfl) dX0_floorTaken_17 rfl ⟨Nat.zero_le _, Nat.zero_le _⟩ (fun H locs hi7 hS8 => ?_)
      obtain ⟨g9, hf⟩ := gdt hf
      refine x_iadd M dX0_floorTaken_20 ?_
      refine x_istore_n M hl0 dX0_floorTaken_21 (by decide) [(1, iV (x1 + r4)), (0, .ref (G.1 2 t)), (2, iV x2)] rfl (fun ls hl10 => ?_)
      obtain ⟨g11, hf⟩ := gdt hf
      refine x_iinc M hl10 dX0_floorTaken_22 2 rfl (by decide) [(2, iV (x2 + 1)), (1, iV (x1 + r4)), (0, .ref (G.1 2 t))] rfl (fun ls hl12 => ?_)
      refine x_goto (tgt := 4) M dX0_floorTaken_25 (by decide) ?_
      exact ih (x1 + r4) (x2 + 1) w5 g9 g11 _ _ hS8 _ (lv_sub hl12 [2, 1, 0] rfl) _ _ hf

set_option maxHeartbeats 4000000 in
set_option maxRecDepth 100000 in
theorem c_X0_floorTaken (l : Launch) {G : GG} {t : Nat} (ht : t < 8) {w : Wd} {r : Int} {w' : Wd} (hf : X0_floorTaken t w = some (r, w')) : Met l yX0_floorTaken wsX0_floorTaken (rmk 2) (PcG G w [.ref (G.1 2 t)]) (QiG G r w') 0 0 (GA G) := by
  refine met_of (own := RX0) (by decide) rfl (Nat.le_of_ble_eq_true rfl) rfl ?_
  intro p e s m args below meth c M hr ls hl0 hS0
  have hl0 : lv_has ls 3 [(0, .ref (G.1 2 t))] := hl0
  unfold X0_floorTaken at hf
  refine x_iconst M dX0_floorTaken_0 ?_
  refine x_istore_n M hl0 dX0_floorTaken_1 (by decide) [(1, iV 0), (0, .ref (G.1 2 t))] rfl (fun ls hl1 => ?_)
  refine x_iconst M dX0_floorTaken_2 ?_
  refine x_istore_n M hl1 dX0_floorTaken_3 (by decide) [(2, iV 0), (1, iV 0), (0, .ref (G.1 2 t))] rfl (fun ls hl2 => ?_)
  exact X0_floorTaken_b4_ok M hr ht LF 0 0 w ⟨by decide, by decide⟩ ⟨by decide, by decide⟩ _ _ hS0 _ (lv_sub hl2 [2, 1, 0] rfl) _ _ hf

/-! X5_thingsWithTwins -/
theorem flX5_thingsWithTwins_52 : Cond.fieldLink RX5 52 "NamedMoves$Store" "made" "I" ∈ wsX5_thingsWithTwins := by decide +kernel
theorem inX5_thingsWithTwins_X5 : ∀ w ∈ u_ws RX5 TX5 10, w ∈ wsX5_thingsWithTwins := by decide +kernel
set_option maxHeartbeats 4000000 in
set_option maxRecDepth 100000 in
theorem X5_thingsWithTwins_b4_ok (M : MC p s m args meth c cX5_thingsWithTwins 3 RX5 wsX5_thingsWithTwins G) (hr : meth.sig.returnType = (some .int)) {t : Nat} (ht : t < 8) : ∀ n : Nat, ∀ x1 : Int, ∀ x2 : Int, ∀ w : Wd, InR x1 → InR x2 → ∀ (H : Heap) (locs : List Loc), ST G s w H locs → ∀ ls : Array Slot, lv_has ls 3 [(0, .ref (G.1 0 t)), (1, iV x1), (2, iV x2)] → ∀ (r : Int) (w' : Wd), X5_thingsWithTwins_b4 t n x1 x2 w = some (r, w') → W p l e (rmk 3) s m args below meth c H locs 0 0 (MQ below (QiG G r w') args s 0 0 (GA G)) (F0 m 4 ls []) := by
  intro n
  induction n with
  | zero =>
    intro x1 x2 w hx1 hx2 H locs hS0 ls hl0 r w' hf
    cases hf
  | succ n ih =>
    intro x1 x2 w hx1 hx2 H locs hS0 ls hl0 r w' hf
    rw [X5_thingsWithTwins_b4_s] at hf
    refine x_iload_n M hl0 dX5_thingsWithTwins_4 2 rfl ?_
    refine x_aload_n M hl0 dX5_thingsWithTwins_5 0 rfl ?_
    refine x_get (c0 := 0) (t0 := t) (v := iV (w 0 t 1)) M hS0 (Or.inl ⟨by decide, ht⟩) (ref := "NamedMoves$Store") inX5_thingsWithTwins_X5 (sE_0 G _ _) rfl 4 (by decide) (M.2.2.2.2.1 _ flX5_thingsWithTwins_52) rfl rfl dX5_thingsWithTwins_6 ?_
    refine x_icmp_ge (tgt := 29) M hx2 (hS0.inr _ _ _) dX5_thingsWithTwins_9 (by decide) (fun hc => ?_) (fun hc => ?_)
    · have hf := iff_ hf (Int.not_lt.mpr hc)
      refine x_iload_n M hl0 dX5_thingsWithTwins_29 1 rfl ?_
      exact x_iret M hr hf hS0 hx1 dX5_thingsWithTwins_30
    · have hf := ift hf (Int.not_le.mp hc)
      refine x_aload_n M hl0 dX5_thingsWithTwins_12 0 rfl ?_
      refine x_iload_n M hl0 dX5_thingsWithTwins_13 2 rfl ?_
      obtain ⟨r3, w4, hc5, hf⟩ := bdt hf
      refine x_callVi (c0 := 0) (t0 := t) (As := [iV x2]) (rest := []) M hl0 hS0 (c_X5_hasTwins l ht hx2 hc5) (cwV 1 M.2.2.2.2.1 gX5_thingsWithTwins_X5_hasTwins rfl rfl rfl (by decide +kernel) ⟨Nat.le_of_ble_eq_true rfl, Nat.le_of_ble_eq_true rfl⟩) (Or.inl ⟨by decide, ht⟩) (sE_0 G _ _) rfl rfl (Nat.le_of_ble_eq_true rfl) dX5_thingsWithTwins_14 rfl ⟨Nat.zero_le _, Nat.zero_le _⟩ (fun H locs hi6 hS7 => ?_)
      refine x_if_eq (tgt := 23) M hi6 dX5_thingsWithTwins_17 (by decide) (fun hc => ?_) (fun hc => ?_)
      · have hf := ift hf hc
        obtain ⟨g8, hf⟩ := gdt hf
        refine x_iinc M hl0 dX5_thingsWithTwins_23 2 rfl (by decide) [(2, iV (x2 + 1)), (0, .ref (G.1 0 t)), (1, iV x1)] rfl (fun ls hl9 => ?_)
        refine x_goto (tgt := 4) M dX5_thingsWithTwins_26 (by decide) ?_
        exact ih x1 (x2 + 1) w4 hx1 g8 _ _ hS7 _ (lv_sub hl9 [1, 2, 0] rfl) _ _ hf
      · have hf := iff_ hf hc
        obtain ⟨g10, hf⟩ := gdt hf
        refine x_iinc M hl0 dX5_thingsWithTwins_20 1 rfl (by decide) [(1, iV (x1 + 1)), (0, .ref (G.1 0 t)), (2, iV x2)] rfl (fun ls hl11 => ?_)
        obtain ⟨g12, hf⟩ := gdt hf
        refine x_iinc M hl11 dX5_thingsWithTwins_23 2 rfl (by decide) [(2, iV (x2 + 1)), (1, iV (x1 + 1)), (0, .ref (G.1 0 t))] rfl (fun ls hl13 => ?_)
        refine x_goto (tgt := 4) M dX5_thingsWithTwins_26 (by decide) ?_
        exact ih (x1 + 1) (x2 + 1) w4 g10 g12 _ _ hS7 _ (lv_sub hl13 [2, 1, 0] rfl) _ _ hf

set_option maxHeartbeats 4000000 in
set_option maxRecDepth 100000 in
theorem c_X5_thingsWithTwins (l : Launch) {G : GG} {t : Nat} (ht : t < 8) {w : Wd} {r : Int} {w' : Wd} (hf : X5_thingsWithTwins t w = some (r, w')) : Met l yX5_thingsWithTwins wsX5_thingsWithTwins (rmk 3) (PcG G w [.ref (G.1 0 t)]) (QiG G r w') 0 0 (GA G) := by
  refine met_of (own := RX5) (by decide) rfl (Nat.le_of_ble_eq_true rfl) rfl ?_
  intro p e s m args below meth c M hr ls hl0 hS0
  have hl0 : lv_has ls 3 [(0, .ref (G.1 0 t))] := hl0
  unfold X5_thingsWithTwins at hf
  refine x_iconst M dX5_thingsWithTwins_0 ?_
  refine x_istore_n M hl0 dX5_thingsWithTwins_1 (by decide) [(1, iV 0), (0, .ref (G.1 0 t))] rfl (fun ls hl1 => ?_)
  refine x_iconst M dX5_thingsWithTwins_2 ?_
  refine x_istore_n M hl1 dX5_thingsWithTwins_3 (by decide) [(2, iV 0), (1, iV 0), (0, .ref (G.1 0 t))] rfl (fun ls hl2 => ?_)
  exact X5_thingsWithTwins_b4_ok M hr ht LF 0 0 w ⟨by decide, by decide⟩ ⟨by decide, by decide⟩ _ _ hS0 _ (lv_sub hl2 [2, 1, 0] rfl) _ _ hf

/-! X5_numberOf -/
theorem flX5_numberOf_18 : Cond.fieldLink RX5 18 "NamedMoves$Store" "copies" "LNamedMoves$Copies;" ∈ wsX5_numberOf := by decide +kernel
theorem flX5_numberOf_25 : Cond.fieldLink RX5 25 "NamedMoves$Store" "queue" "LNamedMoves$Queue;" ∈ wsX5_numberOf := by decide +kernel
theorem flX5_numberOf_29 : Cond.fieldLink RX5 29 "NamedMoves$Store" "heavyBound" "I" ∈ wsX5_numberOf := by decide +kernel
theorem flX5_numberOf_52 : Cond.fieldLink RX5 52 "NamedMoves$Store" "made" "I" ∈ wsX5_numberOf := by decide +kernel
theorem flX5_numberOf_55 : Cond.fieldLink RX5 55 "NamedMoves$Store" "moving" "Z" ∈ wsX5_numberOf := by decide +kernel
theorem flX5_numberOf_59 : Cond.fieldLink RX5 59 "NamedMoves$Store" "half" "I" ∈ wsX5_numberOf := by decide +kernel
theorem flX5_numberOf_65 : Cond.fieldLink RX5 65 "NamedMoves$Store" "notesLost" "I" ∈ wsX5_numberOf := by decide +kernel
theorem flX5_numberOf_68 : Cond.fieldLink RX5 68 "NamedMoves$Store" "movesEnded" "I" ∈ wsX5_numberOf := by decide +kernel
theorem inX5_numberOf_X5 : ∀ w ∈ u_ws RX5 TX5 10, w ∈ wsX5_numberOf := by decide +kernel
set_option maxHeartbeats 4000000 in
set_option maxRecDepth 100000 in
theorem c_X5_numberOf (l : Launch) {G : GG} {t : Nat} (ht : t < 8) {x1 : Int} (hx1 : InR x1) {w : Wd} {r : Int} {w' : Wd} (hf : X5_numberOf t x1 w = some (r, w')) : Met l yX5_numberOf wsX5_numberOf (rmk 4) (PcG G w [.ref (G.1 0 t), iV x1]) (QiG G r w') 0 0 (GA G) := by
  refine met_of (own := RX5) (by decide) rfl (Nat.le_of_ble_eq_true rfl) rfl ?_
  intro p e s m args below meth c M hr ls hl0 hS0
  have hl0 : lv_has ls 2 [(0, .ref (G.1 0 t)), (1, iV x1)] := hl0
  unfold X5_numberOf at hf
  refine x_iload_n M hl0 dX5_numberOf_0 1 rfl ?_
  by_cases hq0 : x1 = 0
  · have hf := ift hf hq0
    refine x_table (tgt := 64) M hx1 dX5_numberOf_1 (by decide) (by rw [hq0]; decide) ?_
    refine x_aload_n M hl0 dX5_numberOf_64 0 rfl ?_
    refine x_get (c0 := 0) (t0 := t) (v := iV (w 0 t 1)) M hS0 (Or.inl ⟨by decide, ht⟩) (ref := "NamedMoves$Store") inX5_numberOf_X5 (sE_0 G _ _) rfl 4 (by decide) (M.2.2.2.2.1 _ flX5_numberOf_52) rfl rfl dX5_numberOf_65 ?_
    exact x_iret M hr hf hS0 (hS0.inr _ _ _) dX5_numberOf_68
  have hf := iff_ hf hq0
  by_cases hq1 : x1 = 1
  · have hf := ift hf hq1
    refine x_table (tgt := 69) M hx1 dX5_numberOf_1 (by decide) (by rw [hq1]; decide) ?_
    refine x_aload_n M hl0 dX5_numberOf_69 0 rfl ?_
    refine x_get (c0 := 0) (t0 := t) (v := .ref (G.1 2 t)) M hS0 (Or.inl ⟨by decide, ht⟩) (ref := "NamedMoves$Store") inX5_numberOf_X5 (sE_0 G _ _) rfl 1 (by decide) (M.2.2.2.2.1 _ flX5_numberOf_18) rfl rfl dX5_numberOf_70 ?_
    obtain ⟨r1, w2, hc3, hf⟩ := bdt hf
    refine x_callVi (c0 := 2) (t0 := t) (As := []) (rest := []) M hl0 hS0 (c_X0_number l ht  hc3) (cwV 0 M.2.2.2.2.1 gX5_numberOf_X0_number rfl rfl rfl (by decide +kernel) ⟨Nat.le_of_ble_eq_true rfl, Nat.le_of_ble_eq_true rfl⟩) (Or.inl ⟨by decide, ht⟩) (sE_2 G _ _) rfl rfl (Nat.le_of_ble_eq_true rfl) dX5_numberOf_73 rfl ⟨Nat.zero_le _, Nat.zero_le _⟩ (fun H locs hi4 hS5 => ?_)
    exact x_iret M hr hf hS5 hi4 dX5_numberOf_76
  have hf := iff_ hf hq1
  by_cases hq2 : x1 = 2
  · have hf := ift hf hq2
    refine x_table (tgt := 77) M hx1 dX5_numberOf_1 (by decide) (by rw [hq2]; decide) ?_
    refine x_aload_n M hl0 dX5_numberOf_77 0 rfl ?_
    refine x_get (c0 := 0) (t0 := t) (v := iV (w 0 t 2)) M hS0 (Or.inl ⟨by decide, ht⟩) (ref := "NamedMoves$Store") inX5_numberOf_X5 (sE_0 G _ _) rfl 5 (by decide) (M.2.2.2.2.1 _ flX5_numberOf_55) rfl rfl dX5_numberOf_78 ?_
    refine x_if_eq (tgt := 88) M (hS0.inr _ _ _) dX5_numberOf_81 (by decide) (fun hc => ?_) (fun hc => ?_)
    · have hf := ift hf hc
      refine x_iconst M dX5_numberOf_88 ?_
      exact x_iret M hr hf hS0 ⟨by decide, by decide⟩ dX5_numberOf_89
    · have hf := iff_ hf hc
      refine x_iconst M dX5_numberOf_84 ?_
      refine x_goto (tgt := 89) M dX5_numberOf_85 (by decide) ?_
      exact x_iret M hr hf hS0 ⟨by decide, by decide⟩ dX5_numberOf_89
  have hf := iff_ hf hq2
  by_cases hq3 : x1 = 3
  · have hf := ift hf hq3
    refine x_table (tgt := 90) M hx1 dX5_numberOf_1 (by decide) (by rw [hq3]; decide) ?_
    refine x_aload_n M hl0 dX5_numberOf_90 0 rfl ?_
    refine x_get (c0 := 0) (t0 := t) (v := iV (w 0 t 3)) M hS0 (Or.inl ⟨by decide, ht⟩) (ref := "NamedMoves$Store") inX5_numberOf_X5 (sE_0 G _ _) rfl 6 (by decide) (M.2.2.2.2.1 _ flX5_numberOf_59) rfl rfl dX5_numberOf_91 ?_
    exact x_iret M hr hf hS0 (hS0.inr _ _ _) dX5_numberOf_94
  have hf := iff_ hf hq3
  by_cases hq4 : x1 = 4
  · have hf := ift hf hq4
    refine x_table (tgt := 95) M hx1 dX5_numberOf_1 (by decide) (by rw [hq4]; decide) ?_
    refine x_aload_n M hl0 dX5_numberOf_95 0 rfl ?_
    obtain ⟨r6, w7, hc8, hf⟩ := bdt hf
    refine x_callVi (c0 := 0) (t0 := t) (As := []) (rest := []) M hl0 hS0 (c_X5_freeInHalf l ht  hc8) (cwV 0 M.2.2.2.2.1 gX5_numberOf_X5_freeInHalf rfl rfl rfl (by decide +kernel) ⟨Nat.le_of_ble_eq_true rfl, Nat.le_of_ble_eq_true rfl⟩) (Or.inl ⟨by decide, ht⟩) (sE_0 G _ _) rfl rfl (Nat.le_of_ble_eq_true rfl) dX5_numberOf_96 rfl ⟨Nat.zero_le _, Nat.zero_le _⟩ (fun H locs hi9 hS10 => ?_)
    exact x_iret M hr hf hS10 hi9 dX5_numberOf_99
  have hf := iff_ hf hq4
  by_cases hq5 : x1 = 5
  · have hf := ift hf hq5
    refine x_table (tgt := 100) M hx1 dX5_numberOf_1 (by decide) (by rw [hq5]; decide) ?_
    refine x_bipush M dX5_numberOf_100 rfl ?_
    refine x_aload_n M hl0 dX5_numberOf_102 0 rfl ?_
    refine x_get (c0 := 0) (t0 := t) (v := .ref (G.1 2 t)) M hS0 (Or.inl ⟨by decide, ht⟩) (ref := "NamedMoves$Store") inX5_numberOf_X5 (sE_0 G _ _) rfl 1 (by decide) (M.2.2.2.2.1 _ flX5_numberOf_18) rfl rfl dX5_numberOf_103 ?_
    obtain ⟨r11, w12, hc13, hf⟩ := bdt hf
    refine x_callVi (c0 := 2) (t0 := t) (As := []) (rest := [iV 60]) M hl0 hS0 (c_X0_floorTaken l ht  hc13) (cwV 0 M.2.2.2.2.1 gX5_numberOf_X0_floorTaken rfl rfl rfl (by decide +kernel) ⟨Nat.le_of_ble_eq_true rfl, Nat.le_of_ble_eq_true rfl⟩) (Or.inl ⟨by decide, ht⟩) (sE_2 G _ _) rfl rfl (Nat.le_of_ble_eq_true rfl) dX5_numberOf_106 rfl ⟨Nat.zero_le _, Nat.zero_le _⟩ (fun H locs hi14 hS15 => ?_)
    obtain ⟨g16, hf⟩ := gdt hf
    refine x_isub M dX5_numberOf_109 ?_
    exact x_iret M hr hf hS15 g16 dX5_numberOf_110
  have hf := iff_ hf hq5
  by_cases hq6 : x1 = 6
  · have hf := ift hf hq6
    refine x_table (tgt := 111) M hx1 dX5_numberOf_1 (by decide) (by rw [hq6]; decide) ?_
    refine x_aload_n M hl0 dX5_numberOf_111 0 rfl ?_
    refine x_get (c0 := 0) (t0 := t) (v := .ref (G.1 8 t)) M hS0 (Or.inl ⟨by decide, ht⟩) (ref := "NamedMoves$Store") inX5_numberOf_X5 (sE_0 G _ _) rfl 2 (by decide) (M.2.2.2.2.1 _ flX5_numberOf_25) rfl rfl dX5_numberOf_112 ?_
    obtain ⟨r17, w18, hc19, hf⟩ := bdt hf
    refine x_callVi (c0 := 8) (t0 := t) (As := []) (rest := []) M hl0 hS0 (c_X3_size l ht  hc19) (cwV 0 M.2.2.2.2.1 gX5_numberOf_X3_size rfl rfl rfl (by decide +kernel) ⟨Nat.le_of_ble_eq_true rfl, Nat.le_of_ble_eq_true rfl⟩) (Or.inl ⟨by decide, ht⟩) (sE_8 G _ _) rfl rfl (Nat.le_of_ble_eq_true rfl) dX5_numberOf_115 rfl ⟨Nat.zero_le _, Nat.zero_le _⟩ (fun H locs hi20 hS21 => ?_)
    exact x_iret M hr hf hS21 hi20 dX5_numberOf_118
  have hf := iff_ hf hq6
  by_cases hq7 : x1 = 7
  · have hf := ift hf hq7
    refine x_table (tgt := 119) M hx1 dX5_numberOf_1 (by decide) (by rw [hq7]; decide) ?_
    refine x_aload_n M hl0 dX5_numberOf_119 0 rfl ?_
    obtain ⟨r22, w23, hc24, hf⟩ := bdt hf
    refine x_callVi (c0 := 0) (t0 := t) (As := []) (rest := []) M hl0 hS0 (c_X5_roomKept l ht  hc24) (cwV 0 M.2.2.2.2.1 gX5_numberOf_X5_roomKept rfl rfl rfl (by decide +kernel) ⟨Nat.le_of_ble_eq_true rfl, Nat.le_of_ble_eq_true rfl⟩) (Or.inl ⟨by decide, ht⟩) (sE_0 G _ _) rfl rfl (Nat.le_of_ble_eq_true rfl) dX5_numberOf_120 rfl ⟨Nat.zero_le _, Nat.zero_le _⟩ (fun H locs hi25 hS26 => ?_)
    exact x_iret M hr hf hS26 hi25 dX5_numberOf_123
  have hf := iff_ hf hq7
  by_cases hq8 : x1 = 8
  · have hf := ift hf hq8
    refine x_table (tgt := 124) M hx1 dX5_numberOf_1 (by decide) (by rw [hq8]; decide) ?_
    refine x_aload_n M hl0 dX5_numberOf_124 0 rfl ?_
    refine x_get (c0 := 0) (t0 := t) (v := iV (w 0 t 5)) M hS0 (Or.inl ⟨by decide, ht⟩) (ref := "NamedMoves$Store") inX5_numberOf_X5 (sE_0 G _ _) rfl 8 (by decide) (M.2.2.2.2.1 _ flX5_numberOf_65) rfl rfl dX5_numberOf_125 ?_
    exact x_iret M hr hf hS0 (hS0.inr _ _ _) dX5_numberOf_128
  have hf := iff_ hf hq8
  by_cases hq9 : x1 = 9
  · have hf := ift hf hq9
    refine x_table (tgt := 129) M hx1 dX5_numberOf_1 (by decide) (by rw [hq9]; decide) ?_
    refine x_aload_n M hl0 dX5_numberOf_129 0 rfl ?_
    refine x_get (c0 := 0) (t0 := t) (v := iV (w 0 t 6)) M hS0 (Or.inl ⟨by decide, ht⟩) (ref := "NamedMoves$Store") inX5_numberOf_X5 (sE_0 G _ _) rfl 9 (by decide) (M.2.2.2.2.1 _ flX5_numberOf_68) rfl rfl dX5_numberOf_130 ?_
    exact x_iret M hr hf hS0 (hS0.inr _ _ _) dX5_numberOf_133
  have hf := iff_ hf hq9
  by_cases hq10 : x1 = 10
  · have hf := ift hf hq10
    refine x_table (tgt := 134) M hx1 dX5_numberOf_1 (by decide) (by rw [hq10]; decide) ?_
    refine x_aload_n M hl0 dX5_numberOf_134 0 rfl ?_
    obtain ⟨r27, w28, hc29, hf⟩ := bdt hf
    refine x_callVi (c0 := 0) (t0 := t) (As := []) (rest := []) M hl0 hS0 (c_X5_thingsWithTwins l ht  hc29) (cwV 0 M.2.2.2.2.1 gX5_numberOf_X5_thingsWithTwins rfl rfl rfl (by decide +kernel) ⟨Nat.le_of_ble_eq_true rfl, Nat.le_of_ble_eq_true rfl⟩) (Or.inl ⟨by decide, ht⟩) (sE_0 G _ _) rfl rfl (Nat.le_of_ble_eq_true rfl) dX5_numberOf_135 rfl ⟨Nat.zero_le _, Nat.zero_le _⟩ (fun H locs hi30 hS31 => ?_)
    exact x_iret M hr hf hS31 hi30 dX5_numberOf_138
  have hf := iff_ hf hq10
  by_cases hq11 : x1 = 11
  · have hf := ift hf hq11
    refine x_table (tgt := 139) M hx1 dX5_numberOf_1 (by decide) (by rw [hq11]; decide) ?_
    refine x_aload_n M hl0 dX5_numberOf_139 0 rfl ?_
    refine x_get (c0 := 0) (t0 := t) (v := iV (w 0 t 0)) M hS0 (Or.inl ⟨by decide, ht⟩) (ref := "NamedMoves$Store") inX5_numberOf_X5 (sE_0 G _ _) rfl 3 (by decide) (M.2.2.2.2.1 _ flX5_numberOf_29) rfl rfl dX5_numberOf_140 ?_
    exact x_iret M hr hf hS0 (hS0.inr _ _ _) dX5_numberOf_143
  have hf := iff_ hf hq11
  have hz : x1 < 0 ∨ 11 < x1 := by omega
  refine x_table (tgt := 144) M hx1 dX5_numberOf_1 (by decide) (by rcases hz with hz | hz <;> first | (rw [hz]; decide) | (unfold tsel; rw [if_pos (by omega)]; decide)) ?_
  refine x_iconst M dX5_numberOf_144 ?_
  exact x_iret M hr hf hS0 ⟨by decide, by decide⟩ dX5_numberOf_145

/-! X7_count -/
theorem flX7_count_12 : Cond.fieldLink RX7 12 "NamedMoves" "store" "LNamedMoves$Store;" ∈ wsX7_count := by decide +kernel
theorem flX7_count_22 : Cond.fieldLink RX7 22 "NamedMoves" "history" "LNamedMoves$History;" ∈ wsX7_count := by decide +kernel
theorem flX7_count_36 : Cond.fieldLink RX7 36 "NamedMoves" "text" "LNamedMoves$Text;" ∈ wsX7_count := by decide +kernel
theorem inX7_count_X7 : ∀ w ∈ u_ws RX7 TX7 6, w ∈ wsX7_count := by decide +kernel
set_option maxHeartbeats 4000000 in
set_option maxRecDepth 100000 in
theorem c_X7_count (l : Launch) {G : GG} {x1 : Int} (hx1 : InR x1) {w : Wd} {r : Int} {w' : Wd} (hf : X7_count x1 w = some (r, w')) : Met l yX7_count wsX7_count (rmk 5) (PcG G w [.ref (G.1 10 0), iV x1]) (QiG G r w') 0 0 (GA G) := by
  refine met_of (own := RX7) (by decide) rfl (Nat.le_of_ble_eq_true rfl) rfl ?_
  intro p e s m args below meth c M hr ls hl0 hS0
  have hl0 : lv_has ls 2 [(0, .ref (G.1 10 0)), (1, iV x1)] := hl0
  unfold X7_count at hf
  refine x_iload_n M hl0 dX7_count_0 1 rfl ?_
  by_cases hq12 : x1 = 12
  · have hf := ift hf hq12
    refine x_lookup (tgt := 28) M hx1 dX7_count_1 (by decide) (by rw [hq12]; decide) ?_
    refine x_aload_n M hl0 dX7_count_28 0 rfl ?_
    refine x_get (c0 := 10) (t0 := 0) (v := .ref (G.1 11 0)) M hS0 (by decide) (ref := "NamedMoves") inX7_count_X7 (sE_10 G _ _) rfl 2 (by decide) (M.2.2.2.2.1 _ flX7_count_22) rfl rfl dX7_count_29 ?_
    obtain ⟨r1, w2, hc3, hf⟩ := bdt hf
    refine x_callVi (c0 := 11) (t0 := 0) (As := []) (rest := []) M hl0 hS0 (c_X2_size l   hc3) (cwV 0 M.2.2.2.2.1 gX7_count_X2_size rfl rfl rfl (by decide +kernel) ⟨Nat.le_of_ble_eq_true rfl, Nat.le_of_ble_eq_true rfl⟩) (by decide) (sE_11 G _ _) rfl rfl (Nat.le_of_ble_eq_true rfl) dX7_count_32 rfl ⟨Nat.zero_le _, Nat.zero_le _⟩ (fun H locs hi4 hS5 => ?_)
    exact x_iret M hr hf hS5 hi4 dX7_count_35
  have hf := iff_ hf hq12
  by_cases hq13 : x1 = 13
  · have hf := ift hf hq13
    refine x_lookup (tgt := 36) M hx1 dX7_count_1 (by decide) (by rw [hq13]; decide) ?_
    refine x_aload_n M hl0 dX7_count_36 0 rfl ?_
    refine x_get (c0 := 10) (t0 := 0) (v := .ref (G.1 17 0)) M hS0 (by decide) (ref := "NamedMoves") inX7_count_X7 (sE_10 G _ _) rfl 4 (by decide) (M.2.2.2.2.1 _ flX7_count_36) rfl rfl dX7_count_37 ?_
    obtain ⟨r6, w7, hc8, hf⟩ := bdt hf
    refine x_callVi (c0 := 17) (t0 := 0) (As := []) (rest := []) M hl0 hS0 (c_X6_size l   hc8) (cwV 0 M.2.2.2.2.1 gX7_count_X6_size rfl rfl rfl (by decide +kernel) ⟨Nat.le_of_ble_eq_true rfl, Nat.le_of_ble_eq_true rfl⟩) (by decide) (sE_17 G _ _) rfl rfl (Nat.le_of_ble_eq_true rfl) dX7_count_40 rfl ⟨Nat.zero_le _, Nat.zero_le _⟩ (fun H locs hi9 hS10 => ?_)
    exact x_iret M hr hf hS10 hi9 dX7_count_43
  have hf := iff_ hf hq13
  have hz12 : ¬ (12 : Int) = x1 := fun q => hq12 q.symm
  have hz13 : ¬ (13 : Int) = x1 := fun q => hq13 q.symm
  refine x_lookup (tgt := 44) M hx1 dX7_count_1 (by decide) (by simp [Op.lookupswitch.offset_cons, Op.lookupswitch.offset_nil, hz12, hz13]) ?_
  refine x_aload_n M hl0 dX7_count_44 0 rfl ?_
  refine x_get (c0 := 10) (t0 := 0) (v := .ref (G.1 0 0)) M hS0 (by decide) (ref := "NamedMoves") inX7_count_X7 (sE_10 G _ _) rfl 0 (by decide) (M.2.2.2.2.1 _ flX7_count_12) rfl rfl dX7_count_45 ?_
  refine x_iload_n M hl0 dX7_count_48 1 rfl ?_
  obtain ⟨r11, w12, hc13, hf⟩ := bdt hf
  refine x_callVi (c0 := 0) (t0 := 0) (As := [iV x1]) (rest := []) M hl0 hS0 (c_X5_numberOf l (by decide) hx1 hc13) (cwV 1 M.2.2.2.2.1 gX7_count_X5_numberOf rfl rfl rfl (by decide +kernel) ⟨Nat.le_of_ble_eq_true rfl, Nat.le_of_ble_eq_true rfl⟩) (by decide) (sE_0 G _ _) rfl rfl (Nat.le_of_ble_eq_true rfl) dX7_count_49 rfl ⟨Nat.zero_le _, Nat.zero_le _⟩ (fun H locs hi14 hS15 => ?_)
  exact x_iret M hr hf hS15 hi14 dX7_count_52

/-! X5_hungOn -/
theorem flX5_hungOn_9 : Cond.fieldLink RX5 9 "NamedMoves$Store" "hooks" "[I" ∈ wsX5_hungOn := by decide +kernel
theorem inX5_hungOn_X5 : ∀ w ∈ u_ws RX5 TX5 10, w ∈ wsX5_hungOn := by decide +kernel
theorem iniX5_hungOn_X7 : Cond.initialized RX7 ∈ wsX5_hungOn := by decide +kernel
theorem stX5_hungOn_X7_isHook : Cond.static yX7_isHook ∈ wsX5_hungOn := by decide +kernel
set_option maxHeartbeats 4000000 in
set_option maxRecDepth 100000 in
theorem c_X5_hungOn (l : Launch) {G : GG} {t : Nat} (ht : t < 8) {x1 : Int} (hx1 : InR x1) {w : Wd} {r : Int} {w' : Wd} (hf : X5_hungOn t x1 w = some (r, w')) : Met l yX5_hungOn wsX5_hungOn (rmk 1) (PcG G w [.ref (G.1 0 t), iV x1]) (QiG G r w') 0 0 (GA G) := by
  refine met_of (own := RX5) (by decide) rfl (Nat.le_of_ble_eq_true rfl) rfl ?_
  intro p e s m args below meth c M hr ls hl0 hS0
  have hl0 : lv_has ls 2 [(0, .ref (G.1 0 t)), (1, iV x1)] := hl0
  unfold X5_hungOn at hf
  refine x_iload_n M hl0 dX5_hungOn_0 1 rfl ?_
  obtain ⟨r1, w2, hc3, hf⟩ := bdt hf
  refine x_callNi (As := [iV x1]) (rest := []) M hl0 hS0 (c_X7_isHook l  hx1 hc3) (va_cnB 1 M.2.2.2.2.1 gX5_hungOn_X7_isHook_n71 rfl rfl rfl M.2.2.2.2.2.2.2.2.2.2.2.2 (M.2.2.2.2.1 _ iniX5_hungOn_X7) (by decide +kernel) ⟨Nat.le_of_ble_eq_true rfl, Nat.le_of_ble_eq_true rfl⟩) (M.2.2.2.2.1 _ stX5_hungOn_X7_isHook) rfl (Nat.le_of_ble_eq_true rfl) dX5_hungOn_1 rfl ⟨Nat.zero_le _, Nat.zero_le _⟩ (fun H locs hi4 hS5 => ?_)
  refine x_if_eq (tgt := 16) M hi4 dX5_hungOn_4 (by decide) (fun hc => ?_) (fun hc => ?_)
  · have hf := ift hf hc
    refine x_sipush M dX5_hungOn_16 rfl ?_
    exact x_iret M hr hf hS5 ⟨by decide, by decide⟩ dX5_hungOn_19
  · have hf := iff_ hf hc
    refine x_aload_n M hl0 dX5_hungOn_7 0 rfl ?_
    refine x_get (c0 := 0) (t0 := t) (v := .ref (G.1 1 t)) M hS5 (Or.inl ⟨by decide, ht⟩) (ref := "NamedMoves$Store") inX5_hungOn_X5 (sE_0 G _ _) rfl 0 (by decide) (M.2.2.2.2.1 _ flX5_hungOn_9) rfl rfl dX5_hungOn_8 ?_
    refine x_iload_n M hl0 dX5_hungOn_11 1 rfl ?_
    obtain ⟨g6, hf⟩ := gdt hf
    refine x_iald (c0 := 1) (t0 := t) M hS5 (Or.inl ⟨by decide, ht⟩) (hs_1 G _) rfl g6 (by decide) dX5_hungOn_12 ?_
    refine x_goto (tgt := 19) M dX5_hungOn_13 (by decide) ?_
    exact x_iret M hr hf hS5 (hS5.inr _ _ _) dX5_hungOn_19

/-! X7_orNone -/
set_option maxHeartbeats 4000000 in
set_option maxRecDepth 100000 in
theorem c_X7_orNone (l : Launch) {G : GG} {x0 : Int} (hx0 : InR x0) {w : Wd} {r : Int} {w' : Wd} (hf : X7_orNone x0 w = some (r, w')) : Met l yX7_orNone wsX7_orNone (rmk 0) (PcG G w [iV x0]) (QiG G r w') 0 0 (GA G) := by
  refine met_of (own := RX7) (by decide) rfl (Nat.le_of_ble_eq_true rfl) rfl ?_
  intro p e s m args below meth c M hr ls hl0 hS0
  have hl0 : lv_has ls 1 [(0, iV x0)] := hl0
  unfold X7_orNone at hf
  refine x_iload_n M hl0 dX7_orNone_0 0 rfl ?_
  refine x_sipush M dX7_orNone_1 rfl ?_
  refine x_icmp_ne (tgt := 12) M hx0 ⟨by decide, by decide⟩ dX7_orNone_4 (by decide) (fun hc => ?_) (fun hc => ?_)
  · have hf := iff_ hf hc
    refine x_iload_n M hl0 dX7_orNone_12 0 rfl ?_
    exact x_iret M hr hf hS0 hx0 dX7_orNone_13
  · have hf := ift hf (Decidable.of_not_not hc)
    refine x_bipush M dX7_orNone_7 rfl ?_
    refine x_goto (tgt := 13) M dX7_orNone_9 (by decide) ?_
    exact x_iret M hr hf hS0 ⟨by decide, by decide⟩ dX7_orNone_13

/-! X7_hook -/
theorem flX7_hook_12 : Cond.fieldLink RX7 12 "NamedMoves" "store" "LNamedMoves$Store;" ∈ wsX7_hook := by decide +kernel
theorem inX7_hook_X7 : ∀ w ∈ u_ws RX7 TX7 6, w ∈ wsX7_hook := by decide +kernel
set_option maxHeartbeats 4000000 in
set_option maxRecDepth 100000 in
theorem c_X7_hook (l : Launch) {G : GG} {x1 : Int} (hx1 : InR x1) {w : Wd} {r : Int} {w' : Wd} (hf : X7_hook x1 w = some (r, w')) : Met l yX7_hook wsX7_hook (rmk 2) (PcG G w [.ref (G.1 10 0), iV x1]) (QiG G r w') 0 0 (GA G) := by
  refine met_of (own := RX7) (by decide) rfl (Nat.le_of_ble_eq_true rfl) rfl ?_
  intro p e s m args below meth c M hr ls hl0 hS0
  have hl0 : lv_has ls 2 [(0, .ref (G.1 10 0)), (1, iV x1)] := hl0
  unfold X7_hook at hf
  refine x_iload_n M hl0 dX7_hook_0 1 rfl ?_
  obtain ⟨r1, w2, hc3, hf⟩ := bdt hf
  refine x_callSi (As := [iV x1]) (rest := []) M hl0 hS0 (c_X7_isHook l  hx1 hc3) (va_cwS 1 M.2.2.2.2.1 gX7_hook_X7_isHook rfl rfl rfl (by decide +kernel) ⟨Nat.le_of_ble_eq_true rfl, Nat.le_of_ble_eq_true rfl⟩) rfl (Nat.le_of_ble_eq_true rfl) dX7_hook_1 rfl ⟨Nat.zero_le _, Nat.zero_le _⟩ (fun H locs hi4 hS5 => ?_)
  refine x_if_ne (tgt := 9) M hi4 dX7_hook_4 (by decide) (fun hc => ?_) (fun hc => ?_)
  · have hf := iff_ hf hc
    refine x_aload_n M hl0 dX7_hook_9 0 rfl ?_
    refine x_get (c0 := 10) (t0 := 0) (v := .ref (G.1 0 0)) M hS5 (by decide) (ref := "NamedMoves") inX7_hook_X7 (sE_10 G _ _) rfl 0 (by decide) (M.2.2.2.2.1 _ flX7_hook_12) rfl rfl dX7_hook_10 ?_
    refine x_iload_n M hl0 dX7_hook_13 1 rfl ?_
    obtain ⟨r6, w7, hc8, hf⟩ := bdt hf
    refine x_callVi (c0 := 0) (t0 := 0) (As := [iV x1]) (rest := []) M hl0 hS5 (c_X5_hungOn l (by decide) hx1 hc8) (cwV 1 M.2.2.2.2.1 gX7_hook_X5_hungOn rfl rfl rfl (by decide +kernel) ⟨Nat.le_of_ble_eq_true rfl, Nat.le_of_ble_eq_true rfl⟩) (by decide) (sE_0 G _ _) rfl rfl (Nat.le_of_ble_eq_true rfl) dX7_hook_14 rfl ⟨Nat.zero_le _, Nat.zero_le _⟩ (fun H locs hi9 hS10 => ?_)
    obtain ⟨r11, w12, hc13, hf⟩ := bdt hf
    refine x_callSi (As := [iV r6]) (rest := []) M hl0 hS10 (c_X7_orNone l  hi9 hc13) (va_cwS 1 M.2.2.2.2.1 gX7_hook_X7_orNone rfl rfl rfl (by decide +kernel) ⟨Nat.le_of_ble_eq_true rfl, Nat.le_of_ble_eq_true rfl⟩) rfl (Nat.le_of_ble_eq_true rfl) dX7_hook_17 rfl ⟨Nat.zero_le _, Nat.zero_le _⟩ (fun H locs hi14 hS15 => ?_)
    exact x_iret M hr hf hS15 hi14 dX7_hook_20
  · have hf := ift hf (Decidable.of_not_not hc)
    refine x_iconst M dX7_hook_7 ?_
    exact x_iret M hr hf hS5 ⟨by decide, by decide⟩ dX7_hook_8

/-! X0_thingAt -/
theorem flX0_thingAt_9 : Cond.fieldLink RX0 9 "NamedMoves$Copies" "things" "[I" ∈ wsX0_thingAt := by decide +kernel
theorem inX0_thingAt_X0 : ∀ w ∈ u_ws RX0 TX0 5, w ∈ wsX0_thingAt := by decide +kernel
set_option maxHeartbeats 4000000 in
set_option maxRecDepth 100000 in
theorem c_X0_thingAt (l : Launch) {G : GG} {t : Nat} (ht : t < 8) {x1 : Int} (hx1 : InR x1) {w : Wd} {r : Int} {w' : Wd} (hf : X0_thingAt t x1 w = some (r, w')) : Met l yX0_thingAt wsX0_thingAt (rmk 1) (PcG G w [.ref (G.1 2 t), iV x1]) (QiG G r w') 0 0 (GA G) := by
  refine met_of (own := RX0) (by decide) rfl (Nat.le_of_ble_eq_true rfl) rfl ?_
  intro p e s m args below meth c M hr ls hl0 hS0
  have hl0 : lv_has ls 2 [(0, .ref (G.1 2 t)), (1, iV x1)] := hl0
  unfold X0_thingAt at hf
  refine x_aload_n M hl0 dX0_thingAt_0 0 rfl ?_
  refine x_iload_n M hl0 dX0_thingAt_1 1 rfl ?_
  obtain ⟨r1, w2, hc3, hf⟩ := bdt hf
  refine x_callVi (c0 := 2) (t0 := t) (As := [iV x1]) (rest := []) M hl0 hS0 (c_X0_isAt l ht hx1 hc3) (cwV 1 M.2.2.2.2.1 gX0_thingAt_X0_isAt rfl rfl rfl (by decide +kernel) ⟨Nat.le_of_ble_eq_true rfl, Nat.le_of_ble_eq_true rfl⟩) (Or.inl ⟨by decide, ht⟩) (sE_2 G _ _) rfl rfl (Nat.le_of_ble_eq_true rfl) dX0_thingAt_2 rfl ⟨Nat.zero_le _, Nat.zero_le _⟩ (fun H locs hi4 hS5 => ?_)
  refine x_if_eq (tgt := 17) M hi4 dX0_thingAt_5 (by decide) (fun hc => ?_) (fun hc => ?_)
  · have hf := ift hf hc
    refine x_bipush M dX0_thingAt_17 rfl ?_
    exact x_iret M hr hf hS5 ⟨by decide, by decide⟩ dX0_thingAt_19
  · have hf := iff_ hf hc
    refine x_aload_n M hl0 dX0_thingAt_8 0 rfl ?_
    refine x_get (c0 := 2) (t0 := t) (v := .ref (G.1 3 t)) M hS5 (Or.inl ⟨by decide, ht⟩) (ref := "NamedMoves$Copies") inX0_thingAt_X0 (sE_2 G _ _) rfl 0 (by decide) (M.2.2.2.2.1 _ flX0_thingAt_9) rfl rfl dX0_thingAt_9 ?_
    refine x_iload_n M hl0 dX0_thingAt_12 1 rfl ?_
    obtain ⟨g6, hf⟩ := gdt hf
    refine x_iald (c0 := 3) (t0 := t) M hS5 (Or.inl ⟨by decide, ht⟩) (hs_3 G _) rfl g6 (by decide) dX0_thingAt_13 ?_
    refine x_goto (tgt := 19) M dX0_thingAt_14 (by decide) ?_
    exact x_iret M hr hf hS5 (hS5.inr _ _ _) dX0_thingAt_19

/-! X0_isMarked -/
theorem flX0_isMarked_21 : Cond.fieldLink RX0 21 "NamedMoves$Copies" "marks" "[I" ∈ wsX0_isMarked := by decide +kernel
theorem inX0_isMarked_X0 : ∀ w ∈ u_ws RX0 TX0 5, w ∈ wsX0_isMarked := by decide +kernel
set_option maxHeartbeats 4000000 in
set_option maxRecDepth 100000 in
theorem c_X0_isMarked (l : Launch) {G : GG} {t : Nat} (ht : t < 8) {x1 : Int} (hx1 : InR x1) {w : Wd} {r : Int} {w' : Wd} (hf : X0_isMarked t x1 w = some (r, w')) : Met l yX0_isMarked wsX0_isMarked (rmk 1) (PcG G w [.ref (G.1 2 t), iV x1]) (QiG G r w') 0 0 (GA G) := by
  refine met_of (own := RX0) (by decide) rfl (Nat.le_of_ble_eq_true rfl) rfl ?_
  intro p e s m args below meth c M hr ls hl0 hS0
  have hl0 : lv_has ls 2 [(0, .ref (G.1 2 t)), (1, iV x1)] := hl0
  unfold X0_isMarked at hf
  refine x_aload_n M hl0 dX0_isMarked_0 0 rfl ?_
  refine x_iload_n M hl0 dX0_isMarked_1 1 rfl ?_
  obtain ⟨r1, w2, hc3, hf⟩ := bdt hf
  refine x_callVi (c0 := 2) (t0 := t) (As := [iV x1]) (rest := []) M hl0 hS0 (c_X0_isAt l ht hx1 hc3) (cwV 1 M.2.2.2.2.1 gX0_isMarked_X0_isAt rfl rfl rfl (by decide +kernel) ⟨Nat.le_of_ble_eq_true rfl, Nat.le_of_ble_eq_true rfl⟩) (Or.inl ⟨by decide, ht⟩) (sE_2 G _ _) rfl rfl (Nat.le_of_ble_eq_true rfl) dX0_isMarked_2 rfl ⟨Nat.zero_le _, Nat.zero_le _⟩ (fun H locs hi4 hS5 => ?_)
  refine x_if_eq (tgt := 22) M hi4 dX0_isMarked_5 (by decide) (fun hc => ?_) (fun hc => ?_)
  · have hf := ift hf hc
    refine x_iconst M dX0_isMarked_22 ?_
    exact x_zret M hr hf hS5 (Or.inl rfl) dX0_isMarked_23
  · have hf := iff_ hf hc
    refine x_aload_n M hl0 dX0_isMarked_8 0 rfl ?_
    refine x_get (c0 := 2) (t0 := t) (v := .ref (G.1 6 t)) M hS5 (Or.inl ⟨by decide, ht⟩) (ref := "NamedMoves$Copies") inX0_isMarked_X0 (sE_2 G _ _) rfl 3 (by decide) (M.2.2.2.2.1 _ flX0_isMarked_21) rfl rfl dX0_isMarked_9 ?_
    refine x_iload_n M hl0 dX0_isMarked_12 1 rfl ?_
    obtain ⟨g6, hf⟩ := gdt hf
    refine x_iald (c0 := 6) (t0 := t) M hS5 (Or.inl ⟨by decide, ht⟩) (hs_6 G _) rfl g6 (by decide) dX0_isMarked_13 ?_
    refine x_iconst M dX0_isMarked_14 ?_
    refine x_icmp_ne (tgt := 22) M (hS5.inr _ _ _) ⟨by decide, by decide⟩ dX0_isMarked_15 (by decide) (fun hc => ?_) (fun hc => ?_)
    · have hf := iff_ hf hc
      refine x_iconst M dX0_isMarked_22 ?_
      exact x_zret M hr hf hS5 (Or.inl rfl) dX0_isMarked_23
    · have hf := ift hf (Decidable.of_not_not hc)
      refine x_iconst M dX0_isMarked_18 ?_
      refine x_goto (tgt := 23) M dX0_isMarked_19 (by decide) ?_
      exact x_zret M hr hf hS5 (Or.inr rfl) dX0_isMarked_23

/-! X0_nameAt -/
theorem flX0_nameAt_24 : Cond.fieldLink RX0 24 "NamedMoves$Copies" "names" "[I" ∈ wsX0_nameAt := by decide +kernel
theorem inX0_nameAt_X0 : ∀ w ∈ u_ws RX0 TX0 5, w ∈ wsX0_nameAt := by decide +kernel
theorem iniX0_nameAt_X7 : Cond.initialized RX7 ∈ wsX0_nameAt := by decide +kernel
theorem stX0_nameAt_X7_isName : Cond.static yX7_isName ∈ wsX0_nameAt := by decide +kernel
set_option maxHeartbeats 4000000 in
set_option maxRecDepth 100000 in
theorem c_X0_nameAt (l : Launch) {G : GG} {t : Nat} (ht : t < 8) {x1 : Int} (hx1 : InR x1) {x2 : Int} (hx2 : InR x2) {w : Wd} {r : Int} {w' : Wd} (hf : X0_nameAt t x1 x2 w = some (r, w')) : Met l yX0_nameAt wsX0_nameAt (rmk 1) (PcG G w [.ref (G.1 2 t), iV x1, iV x2]) (QiG G r w') 0 0 (GA G) := by
  refine met_of (own := RX0) (by decide) rfl (Nat.le_of_ble_eq_true rfl) rfl ?_
  intro p e s m args below meth c M hr ls hl0 hS0
  have hl0 : lv_has ls 3 [(0, .ref (G.1 2 t)), (1, iV x1), (2, iV x2)] := hl0
  unfold X0_nameAt at hf
  refine x_aload_n M hl0 dX0_nameAt_0 0 rfl ?_
  refine x_iload_n M hl0 dX0_nameAt_1 1 rfl ?_
  obtain ⟨r1, w2, hc3, hf⟩ := bdt hf
  refine x_callVi (c0 := 2) (t0 := t) (As := [iV x1]) (rest := []) M hl0 hS0 (c_X0_isAt l ht hx1 hc3) (cwV 1 M.2.2.2.2.1 gX0_nameAt_X0_isAt rfl rfl rfl (by decide +kernel) ⟨Nat.le_of_ble_eq_true rfl, Nat.le_of_ble_eq_true rfl⟩) (Or.inl ⟨by decide, ht⟩) (sE_2 G _ _) rfl rfl (Nat.le_of_ble_eq_true rfl) dX0_nameAt_2 rfl ⟨Nat.zero_le _, Nat.zero_le _⟩ (fun H locs hi4 hS5 => ?_)
  refine x_if_eq (tgt := 28) M hi4 dX0_nameAt_5 (by decide) (fun hc => ?_) (fun hc => ?_)
  · have hf := ift hf hc
    refine x_sipush M dX0_nameAt_28 rfl ?_
    exact x_iret M hr hf hS5 ⟨by decide, by decide⟩ dX0_nameAt_31
  · have hf := iff_ hf hc
    refine x_iload_n M hl0 dX0_nameAt_8 2 rfl ?_
    obtain ⟨r6, w7, hc8, hf⟩ := bdt hf
    refine x_callNi (As := [iV x2]) (rest := []) M hl0 hS5 (c_X7_isName l  hx2 hc8) (va_cnB 1 M.2.2.2.2.1 gX0_nameAt_X7_isName_n43 rfl rfl rfl M.2.2.2.2.2.2.2.2.2.2.1 (M.2.2.2.2.1 _ iniX0_nameAt_X7) (by decide +kernel) ⟨Nat.le_of_ble_eq_true rfl, Nat.le_of_ble_eq_true rfl⟩) (M.2.2.2.2.1 _ stX0_nameAt_X7_isName) rfl (Nat.le_of_ble_eq_true rfl) dX0_nameAt_9 rfl ⟨Nat.zero_le _, Nat.zero_le _⟩ (fun H locs hi9 hS10 => ?_)
    refine x_if_eq (tgt := 28) M hi9 dX0_nameAt_12 (by decide) (fun hc => ?_) (fun hc => ?_)
    · have hf := ift hf hc
      refine x_sipush M dX0_nameAt_28 rfl ?_
      exact x_iret M hr hf hS10 ⟨by decide, by decide⟩ dX0_nameAt_31
    · have hf := iff_ hf hc
      refine x_aload_n M hl0 dX0_nameAt_15 0 rfl ?_
      refine x_get (c0 := 2) (t0 := t) (v := .ref (G.1 7 t)) M hS10 (Or.inl ⟨by decide, ht⟩) (ref := "NamedMoves$Copies") inX0_nameAt_X0 (sE_2 G _ _) rfl 4 (by decide) (M.2.2.2.2.1 _ flX0_nameAt_24) rfl rfl dX0_nameAt_16 ?_
      refine x_iload_n M hl0 dX0_nameAt_19 1 rfl ?_
      refine x_iconst M dX0_nameAt_20 ?_
      obtain ⟨g11, hf⟩ := gdt hf
      refine x_imul M dX0_nameAt_21 ?_
      refine x_iload_n M hl0 dX0_nameAt_22 2 rfl ?_
      obtain ⟨g12, hf⟩ := gdt hf
      refine x_iadd M dX0_nameAt_23 ?_
      obtain ⟨g13, hf⟩ := gdt hf
      refine x_iald (c0 := 7) (t0 := t) M hS10 (Or.inl ⟨by decide, ht⟩) (hs_7 G _) rfl g13 (by decide) dX0_nameAt_24 ?_
      refine x_goto (tgt := 31) M dX0_nameAt_25 (by decide) ?_
      exact x_iret M hr hf hS10 (hS10.inr _ _ _) dX0_nameAt_31

end
