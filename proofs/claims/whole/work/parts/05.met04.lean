section
variable {p : Program} {l : Launch} {e : Env} {s : State} {m : MethodId} {args : Array Value} {below : List Frame} {meth : Method} {c : Code} {G : GG}
/-! X5_hasTwins -/
theorem flX5_hasTwins_18 : Cond.fieldLink RX5 18 "NamedMoves$Store" "copies" "LNamedMoves$Copies;" ∈ wsX5_hasTwins := by decide +kernel
theorem inX5_hasTwins_X5 : ∀ w ∈ u_ws RX5 TX5 10, w ∈ wsX5_hasTwins := by decide +kernel
set_option maxHeartbeats 4000000 in
set_option maxRecDepth 100000 in
theorem X5_hasTwins_b4_ok (M : MC p s m args meth c cX5_hasTwins 4 RX5 wsX5_hasTwins G) (hr : meth.sig.returnType = (some .boolean)) {t : Nat} (ht : t < 8) : ∀ n : Nat, ∀ x1 : Int, ∀ x2 : Int, ∀ x3 : Int, ∀ w : Wd, InR x1 → InR x2 → InR x3 → ∀ (H : Heap) (locs : List Loc), ST G s w H locs → ∀ ls : Array Slot, lv_has ls 4 [(0, .ref (G.1 0 t)), (1, iV x1), (2, iV x2), (3, iV x3)] → ∀ (r : Int) (w' : Wd), X5_hasTwins_b4 t n x1 x2 x3 w = some (r, w') → W p l e (rmk 2) s m args below meth c H locs 0 0 (MQ below (QiG G r w') args s 0 0 (GA G)) (F0 m 4 ls []) := by
  intro n
  induction n with
  | zero =>
    intro x1 x2 x3 w hx1 hx2 hx3 H locs hS0 ls hl0 r w' hf
    cases hf
  | succ n ih =>
    intro x1 x2 x3 w hx1 hx2 hx3 H locs hS0 ls hl0 r w' hf
    rw [X5_hasTwins_b4_s] at hf
    refine x_iload_n M hl0 dX5_hasTwins_4 3 rfl ?_
    refine x_sipush M dX5_hasTwins_5 rfl ?_
    refine x_icmp_ge (tgt := 40) M hx3 ⟨by decide, by decide⟩ dX5_hasTwins_8 (by decide) (fun hc => ?_) (fun hc => ?_)
    · have hf := iff_ hf (Int.not_lt.mpr hc)
      refine x_iload_n M hl0 dX5_hasTwins_40 2 rfl ?_
      refine x_iconst M dX5_hasTwins_41 ?_
      refine x_icmp_le (tgt := 49) M hx2 ⟨by decide, by decide⟩ dX5_hasTwins_42 (by decide) (fun hc => ?_) (fun hc => ?_)
      · have hf := iff_ hf (Int.not_lt.mpr hc)
        refine x_iconst M dX5_hasTwins_49 ?_
        exact x_zret M hr hf hS0 (Or.inl rfl) dX5_hasTwins_50
      · have hf := ift hf (Int.not_le.mp hc)
        refine x_iconst M dX5_hasTwins_45 ?_
        refine x_goto (tgt := 50) M dX5_hasTwins_46 (by decide) ?_
        exact x_zret M hr hf hS0 (Or.inr rfl) dX5_hasTwins_50
    · have hf := ift hf (Int.not_le.mp hc)
      refine x_aload_n M hl0 dX5_hasTwins_11 0 rfl ?_
      refine x_get (c0 := 0) (t0 := t) (v := .ref (G.1 2 t)) M hS0 (Or.inl ⟨by decide, ht⟩) (ref := "NamedMoves$Store") inX5_hasTwins_X5 (sE_0 G _ _) rfl 1 (by decide) (M.2.2.2.2.1 _ flX5_hasTwins_18) rfl rfl dX5_hasTwins_12 ?_
      refine x_iload_n M hl0 dX5_hasTwins_15 1 rfl ?_
      refine x_iload_n M hl0 dX5_hasTwins_16 3 rfl ?_
      obtain ⟨r3, w4, hc5, hf⟩ := bdt hf
      refine x_callVi (c0 := 2) (t0 := t) (As := [iV x1, iV x3]) (rest := []) M hl0 hS0 (c_X0_isOf l ht hx1 hx3 hc5) (cwV 2 M.2.2.2.2.1 gX5_hasTwins_X0_isOf rfl rfl rfl (by decide +kernel) ⟨Nat.le_of_ble_eq_true rfl, Nat.le_of_ble_eq_true rfl⟩) (Or.inl ⟨by decide, ht⟩) (sE_2 G _ _) rfl rfl (Nat.le_of_ble_eq_true rfl) dX5_hasTwins_17 rfl ⟨Nat.zero_le _, Nat.zero_le _⟩ (fun H locs hi6 hS7 => ?_)
      refine x_if_eq (tgt := 34) M hi6 dX5_hasTwins_20 (by decide) (fun hc => ?_) (fun hc => ?_)
      · have hf := ift hf hc
        obtain ⟨g8, hf⟩ := gdt hf
        refine x_iinc M hl0 dX5_hasTwins_34 3 rfl (by decide) [(3, iV (x3 + 1)), (0, .ref (G.1 0 t)), (1, iV x1), (2, iV x2)] rfl (fun ls hl9 => ?_)
        refine x_goto (tgt := 4) M dX5_hasTwins_37 (by decide) ?_
        exact ih x1 x2 (x3 + 1) w4 hx1 hx2 g8 _ _ hS7 _ (lv_sub hl9 [1, 2, 3, 0] rfl) _ _ hf
      · have hf := iff_ hf hc
        refine x_aload_n M hl0 dX5_hasTwins_23 0 rfl ?_
        refine x_iload_n M hl0 dX5_hasTwins_24 3 rfl ?_
        obtain ⟨r10, w11, hc12, hf⟩ := bdt hf
        refine x_callVi (c0 := 0) (t0 := t) (As := [iV x3]) (rest := []) M hl0 hS7 (c_X5_isInOldHalf l ht hx3 hc12) (cwV 1 M.2.2.2.2.1 gX5_hasTwins_X5_isInOldHalf rfl rfl rfl (by decide +kernel) ⟨Nat.le_of_ble_eq_true rfl, Nat.le_of_ble_eq_true rfl⟩) (Or.inl ⟨by decide, ht⟩) (sE_0 G _ _) rfl rfl (Nat.le_of_ble_eq_true rfl) dX5_hasTwins_25 rfl ⟨Nat.zero_le _, Nat.zero_le _⟩ (fun H locs hi13 hS14 => ?_)
        refine x_if_ne (tgt := 34) M hi13 dX5_hasTwins_28 (by decide) (fun hc => ?_) (fun hc => ?_)
        · have hf := iff_ hf hc
          obtain ⟨g15, hf⟩ := gdt hf
          refine x_iinc M hl0 dX5_hasTwins_34 3 rfl (by decide) [(3, iV (x3 + 1)), (0, .ref (G.1 0 t)), (1, iV x1), (2, iV x2)] rfl (fun ls hl16 => ?_)
          refine x_goto (tgt := 4) M dX5_hasTwins_37 (by decide) ?_
          exact ih x1 x2 (x3 + 1) w11 hx1 hx2 g15 _ _ hS14 _ (lv_sub hl16 [1, 2, 3, 0] rfl) _ _ hf
        · have hf := ift hf (Decidable.of_not_not hc)
          obtain ⟨g17, hf⟩ := gdt hf
          refine x_iinc M hl0 dX5_hasTwins_31 2 rfl (by decide) [(2, iV (x2 + 1)), (0, .ref (G.1 0 t)), (1, iV x1), (3, iV x3)] rfl (fun ls hl18 => ?_)
          obtain ⟨g19, hf⟩ := gdt hf
          refine x_iinc M hl18 dX5_hasTwins_34 3 rfl (by decide) [(3, iV (x3 + 1)), (2, iV (x2 + 1)), (0, .ref (G.1 0 t)), (1, iV x1)] rfl (fun ls hl20 => ?_)
          refine x_goto (tgt := 4) M dX5_hasTwins_37 (by decide) ?_
          exact ih x1 (x2 + 1) (x3 + 1) w11 hx1 g17 g19 _ _ hS14 _ (lv_sub hl20 [2, 3, 1, 0] rfl) _ _ hf

set_option maxHeartbeats 4000000 in
set_option maxRecDepth 100000 in
theorem c_X5_hasTwins (l : Launch) {G : GG} {t : Nat} (ht : t < 8) {x1 : Int} (hx1 : InR x1) {w : Wd} {r : Int} {w' : Wd} (hf : X5_hasTwins t x1 w = some (r, w')) : Met l yX5_hasTwins wsX5_hasTwins (rmk 2) (PcG G w [.ref (G.1 0 t), iV x1]) (QiG G r w') 0 0 (GA G) := by
  refine met_of (own := RX5) (by decide) rfl (Nat.le_of_ble_eq_true rfl) rfl ?_
  intro p e s m args below meth c M hr ls hl0 hS0
  have hl0 : lv_has ls 4 [(0, .ref (G.1 0 t)), (1, iV x1)] := hl0
  unfold X5_hasTwins at hf
  refine x_iconst M dX5_hasTwins_0 ?_
  refine x_istore_n M hl0 dX5_hasTwins_1 (by decide) [(2, iV 0), (0, .ref (G.1 0 t)), (1, iV x1)] rfl (fun ls hl1 => ?_)
  refine x_iconst M dX5_hasTwins_2 ?_
  refine x_istore_n M hl1 dX5_hasTwins_3 (by decide) [(3, iV 0), (2, iV 0), (0, .ref (G.1 0 t)), (1, iV x1)] rfl (fun ls hl2 => ?_)
  exact X5_hasTwins_b4_ok M hr ht LF x1 0 0 w hx1 ⟨by decide, by decide⟩ ⟨by decide, by decide⟩ _ _ hS0 _ (lv_sub hl2 [2, 3, 1, 0] rfl) _ _ hf

/-! X0_addressOf -/
set_option maxHeartbeats 4000000 in
set_option maxRecDepth 100000 in
theorem X0_addressOf_b5_ok (M : MC p s m args meth c cX0_addressOf 5 RX0 wsX0_addressOf G) (hr : meth.sig.returnType = (some .int)) {t : Nat} (ht : t < 8) : ∀ n : Nat, ∀ x1 : Int, ∀ x2 : Int, ∀ x3 : Int, ∀ x4 : Int, ∀ w : Wd, InR x1 → InR x2 → InR x3 → InR x4 → ∀ (H : Heap) (locs : List Loc), ST G s w H locs → ∀ ls : Array Slot, lv_has ls 5 [(0, .ref (G.1 2 t)), (1, iV x1), (2, iV x2), (3, iV x3), (4, iV x4)] → ∀ (r : Int) (w' : Wd), X0_addressOf_b5 t n x1 x2 x3 x4 w = some (r, w') → W p l e (rmk 2) s m args below meth c H locs 0 0 (MQ below (QiG G r w') args s 0 0 (GA G)) (F0 m 5 ls []) := by
  intro n
  induction n with
  | zero =>
    intro x1 x2 x3 x4 w hx1 hx2 hx3 hx4 H locs hS0 ls hl0 r w' hf
    cases hf
  | succ n ih =>
    intro x1 x2 x3 x4 w hx1 hx2 hx3 hx4 H locs hS0 ls hl0 r w' hf
    rw [X0_addressOf_b5_s] at hf
    refine x_iload M hl0 dX0_addressOf_5 4 rfl ?_
    refine x_sipush M dX0_addressOf_7 rfl ?_
    refine x_icmp_ge (tgt := 40) M hx4 ⟨by decide, by decide⟩ dX0_addressOf_10 (by decide) (fun hc => ?_) (fun hc => ?_)
    · have hf := iff_ hf (Int.not_lt.mpr hc)
      refine x_sipush M dX0_addressOf_40 rfl ?_
      exact x_iret M hr hf hS0 ⟨by decide, by decide⟩ dX0_addressOf_43
    · have hf := ift hf (Int.not_le.mp hc)
      refine x_aload_n M hl0 dX0_addressOf_13 0 rfl ?_
      refine x_iload_n M hl0 dX0_addressOf_14 1 rfl ?_
      refine x_iload M hl0 dX0_addressOf_15 4 rfl ?_
      obtain ⟨r3, w4, hc5, hf⟩ := bdt hf
      refine x_callVi (c0 := 2) (t0 := t) (As := [iV x1, iV x4]) (rest := []) M hl0 hS0 (c_X0_isOf l ht hx1 hx4 hc5) (cwV 2 M.2.2.2.2.1 gX0_addressOf_X0_isOf rfl rfl rfl (by decide +kernel) ⟨Nat.le_of_ble_eq_true rfl, Nat.le_of_ble_eq_true rfl⟩) (Or.inl ⟨by decide, ht⟩) (sE_2 G _ _) rfl rfl (Nat.le_of_ble_eq_true rfl) dX0_addressOf_17 rfl ⟨Nat.zero_le _, Nat.zero_le _⟩ (fun H locs hi6 hS7 => ?_)
      refine x_if_eq (tgt := 34) M hi6 dX0_addressOf_20 (by decide) (fun hc => ?_) (fun hc => ?_)
      · have hf := ift hf hc
        obtain ⟨g8, hf⟩ := gdt hf
        refine x_iinc M hl0 dX0_addressOf_34 4 rfl (by decide) [(4, iV (x4 + 1)), (0, .ref (G.1 2 t)), (1, iV x1), (2, iV x2), (3, iV x3)] rfl (fun ls hl9 => ?_)
        refine x_goto (tgt := 5) M dX0_addressOf_37 (by decide) ?_
        exact ih x1 x2 x3 (x4 + 1) w4 hx1 hx2 hx3 g8 _ _ hS7 _ (lv_sub hl9 [1, 2, 3, 4, 0] rfl) _ _ hf
      · have hf := iff_ hf hc
        refine x_iload_n M hl0 dX0_addressOf_23 3 rfl ?_
        refine x_iload_n M hl0 dX0_addressOf_24 2 rfl ?_
        refine x_icmp_ne (tgt := 31) M hx3 hx2 dX0_addressOf_25 (by decide) (fun hc => ?_) (fun hc => ?_)
        · have hf := iff_ hf hc
          obtain ⟨g10, hf⟩ := gdt hf
          refine x_iinc M hl0 dX0_addressOf_31 3 rfl (by decide) [(3, iV (x3 + 1)), (0, .ref (G.1 2 t)), (1, iV x1), (2, iV x2), (4, iV x4)] rfl (fun ls hl11 => ?_)
          obtain ⟨g12, hf⟩ := gdt hf
          refine x_iinc M hl11 dX0_addressOf_34 4 rfl (by decide) [(4, iV (x4 + 1)), (3, iV (x3 + 1)), (0, .ref (G.1 2 t)), (1, iV x1), (2, iV x2)] rfl (fun ls hl13 => ?_)
          refine x_goto (tgt := 5) M dX0_addressOf_37 (by decide) ?_
          exact ih x1 x2 (x3 + 1) (x4 + 1) w4 hx1 hx2 g10 g12 _ _ hS7 _ (lv_sub hl13 [2, 3, 4, 1, 0] rfl) _ _ hf
        · have hf := ift hf (Decidable.of_not_not hc)
          refine x_iload M hl0 dX0_addressOf_28 4 rfl ?_
          exact x_iret M hr hf hS7 hx4 dX0_addressOf_30

set_option maxHeartbeats 4000000 in
set_option maxRecDepth 100000 in
theorem c_X0_addressOf (l : Launch) {G : GG} {t : Nat} (ht : t < 8) {x1 : Int} (hx1 : InR x1) {x2 : Int} (hx2 : InR x2) {w : Wd} {r : Int} {w' : Wd} (hf : X0_addressOf t x1 x2 w = some (r, w')) : Met l yX0_addressOf wsX0_addressOf (rmk 2) (PcG G w [.ref (G.1 2 t), iV x1, iV x2]) (QiG G r w') 0 0 (GA G) := by
  refine met_of (own := RX0) (by decide) rfl (Nat.le_of_ble_eq_true rfl) rfl ?_
  intro p e s m args below meth c M hr ls hl0 hS0
  have hl0 : lv_has ls 5 [(0, .ref (G.1 2 t)), (1, iV x1), (2, iV x2)] := hl0
  unfold X0_addressOf at hf
  refine x_iconst M dX0_addressOf_0 ?_
  refine x_istore_n M hl0 dX0_addressOf_1 (by decide) [(3, iV 0), (0, .ref (G.1 2 t)), (1, iV x1), (2, iV x2)] rfl (fun ls hl1 => ?_)
  refine x_iconst M dX0_addressOf_2 ?_
  refine x_istore M hl1 dX0_addressOf_3 (by decide) [(4, iV 0), (3, iV 0), (0, .ref (G.1 2 t)), (1, iV x1), (2, iV x2)] rfl (fun ls hl2 => ?_)
  exact X0_addressOf_b5_ok M hr ht LF x1 x2 0 0 w hx1 hx2 ⟨by decide, by decide⟩ ⟨by decide, by decide⟩ _ _ hS0 _ (lv_sub hl2 [2, 3, 4, 1, 0] rfl) _ _ hf

/-! X0_replaceNames -/
theorem flX0_replaceNames_24 : Cond.fieldLink RX0 24 "NamedMoves$Copies" "names" "[I" ∈ wsX0_replaceNames := by decide +kernel
theorem inX0_replaceNames_X0 : ∀ w ∈ u_ws RX0 TX0 5, w ∈ wsX0_replaceNames := by decide +kernel
set_option maxHeartbeats 4000000 in
set_option maxRecDepth 100000 in
theorem X0_replaceNames_b2_ok (M : MC p s m args meth c cX0_replaceNames 4 RX0 wsX0_replaceNames G) (hr : meth.sig.returnType = none) {t : Nat} (ht : t < 8) : ∀ n : Nat, ∀ x1 : Int, ∀ x2 : Int, ∀ x3 : Int, ∀ w : Wd, InR x1 → InR x2 → InR x3 → ∀ (H : Heap) (locs : List Loc), ST G s w H locs → ∀ ls : Array Slot, lv_has ls 4 [(0, .ref (G.1 2 t)), (1, iV x1), (2, iV x2), (3, iV x3)] → ∀ (r : Int) (w' : Wd), X0_replaceNames_b2 t n x1 x2 x3 w = some (r, w') → W p l e (rmk 0) s m args below meth c H locs 0 0 (MQ below (QvG G w') args s 0 0 (GA G)) (F0 m 2 ls []) := by
  intro n
  induction n with
  | zero =>
    intro x1 x2 x3 w hx1 hx2 hx3 H locs hS0 ls hl0 r w' hf
    cases hf
  | succ n ih =>
    intro x1 x2 x3 w hx1 hx2 hx3 H locs hS0 ls hl0 r w' hf
    rw [X0_replaceNames_b2_s] at hf
    refine x_iload_n M hl0 dX0_replaceNames_2 3 rfl ?_
    refine x_sipush M dX0_replaceNames_3 rfl ?_
    refine x_icmp_ge (tgt := 32) M hx3 ⟨by decide, by decide⟩ dX0_replaceNames_6 (by decide) (fun hc => ?_) (fun hc => ?_)
    · have hf := iff_ hf (Int.not_lt.mpr hc)
      exact x_vret M hr hf hS0 dX0_replaceNames_32
    · have hf := ift hf (Int.not_le.mp hc)
      refine x_aload_n M hl0 dX0_replaceNames_9 0 rfl ?_
      refine x_get (c0 := 2) (t0 := t) (v := .ref (G.1 7 t)) M hS0 (Or.inl ⟨by decide, ht⟩) (ref := "NamedMoves$Copies") inX0_replaceNames_X0 (sE_2 G _ _) rfl 4 (by decide) (M.2.2.2.2.1 _ flX0_replaceNames_24) rfl rfl dX0_replaceNames_10 ?_
      refine x_iload_n M hl0 dX0_replaceNames_13 3 rfl ?_
      obtain ⟨g2, hf⟩ := gdt hf
      refine x_iald (c0 := 7) (t0 := t) M hS0 (Or.inl ⟨by decide, ht⟩) (hs_7 G _) rfl g2 (by decide) dX0_replaceNames_14 ?_
      refine x_iload_n M hl0 dX0_replaceNames_15 1 rfl ?_
      refine x_icmp_ne (tgt := 26) M (hS0.inr _ _ _) hx1 dX0_replaceNames_16 (by decide) (fun hc => ?_) (fun hc => ?_)
      · have hf := iff_ hf hc
        obtain ⟨g3, hf⟩ := gdt hf
        refine x_iinc M hl0 dX0_replaceNames_26 3 rfl (by decide) [(3, iV (x3 + 1)), (0, .ref (G.1 2 t)), (1, iV x1), (2, iV x2)] rfl (fun ls hl4 => ?_)
        refine x_goto (tgt := 2) M dX0_replaceNames_29 (by decide) ?_
        exact ih x1 x2 (x3 + 1) w hx1 hx2 g3 _ _ hS0 _ (lv_sub hl4 [1, 2, 3, 0] rfl) _ _ hf
      · have hf := ift hf (Decidable.of_not_not hc)
        refine x_aload_n M hl0 dX0_replaceNames_19 0 rfl ?_
        refine x_get (c0 := 2) (t0 := t) (v := .ref (G.1 7 t)) M hS0 (Or.inl ⟨by decide, ht⟩) (ref := "NamedMoves$Copies") inX0_replaceNames_X0 (sE_2 G _ _) rfl 4 (by decide) (M.2.2.2.2.1 _ flX0_replaceNames_24) rfl rfl dX0_replaceNames_20 ?_
        refine x_iload_n M hl0 dX0_replaceNames_23 3 rfl ?_
        refine x_iload_n M hl0 dX0_replaceNames_24 2 rfl ?_
        refine x_iast (c0 := 7) (t0 := t) M hS0 (Or.inl ⟨by decide, ht⟩) (hs_7 G _) rfl g2 (by decide) hx2 dX0_replaceNames_25 (fun H locs hS5 => ?_)
        obtain ⟨g6, hf⟩ := gdt hf
        refine x_iinc M hl0 dX0_replaceNames_26 3 rfl (by decide) [(3, iV (x3 + 1)), (0, .ref (G.1 2 t)), (1, iV x1), (2, iV x2)] rfl (fun ls hl7 => ?_)
        refine x_goto (tgt := 2) M dX0_replaceNames_29 (by decide) ?_
        exact ih x1 x2 (x3 + 1) (up w 7 t x3.toNat x2) hx1 hx2 g6 _ _ hS5 _ (lv_sub hl7 [1, 2, 3, 0] rfl) _ _ hf

set_option maxHeartbeats 4000000 in
set_option maxRecDepth 100000 in
theorem c_X0_replaceNames (l : Launch) {G : GG} {t : Nat} (ht : t < 8) {x1 : Int} (hx1 : InR x1) {x2 : Int} (hx2 : InR x2) {w : Wd} {r : Int} {w' : Wd} (hf : X0_replaceNames t x1 x2 w = some (r, w')) : Met l yX0_replaceNames wsX0_replaceNames (rmk 0) (PcG G w [.ref (G.1 2 t), iV x1, iV x2]) (QvG G w') 0 0 (GA G) := by
  refine met_of (own := RX0) (by decide) rfl (Nat.le_of_ble_eq_true rfl) rfl ?_
  intro p e s m args below meth c M hr ls hl0 hS0
  have hl0 : lv_has ls 4 [(0, .ref (G.1 2 t)), (1, iV x1), (2, iV x2)] := hl0
  unfold X0_replaceNames at hf
  refine x_iconst M dX0_replaceNames_0 ?_
  refine x_istore_n M hl0 dX0_replaceNames_1 (by decide) [(3, iV 0), (0, .ref (G.1 2 t)), (1, iV x1), (2, iV x2)] rfl (fun ls hl1 => ?_)
  exact X0_replaceNames_b2_ok M hr ht LF x1 x2 0 w hx1 hx2 ⟨by decide, by decide⟩ _ _ hS0 _ (lv_sub hl1 [1, 2, 3, 0] rfl) _ _ hf

/-! X5_replaceHooks -/
theorem flX5_replaceHooks_9 : Cond.fieldLink RX5 9 "NamedMoves$Store" "hooks" "[I" ∈ wsX5_replaceHooks := by decide +kernel
theorem inX5_replaceHooks_X5 : ∀ w ∈ u_ws RX5 TX5 10, w ∈ wsX5_replaceHooks := by decide +kernel
set_option maxHeartbeats 4000000 in
set_option maxRecDepth 100000 in
theorem X5_replaceHooks_b2_ok (M : MC p s m args meth c cX5_replaceHooks 4 RX5 wsX5_replaceHooks G) (hr : meth.sig.returnType = none) {t : Nat} (ht : t < 8) : ∀ n : Nat, ∀ x1 : Int, ∀ x2 : Int, ∀ x3 : Int, ∀ w : Wd, InR x1 → InR x2 → InR x3 → ∀ (H : Heap) (locs : List Loc), ST G s w H locs → ∀ ls : Array Slot, lv_has ls 4 [(0, .ref (G.1 0 t)), (1, iV x1), (2, iV x2), (3, iV x3)] → ∀ (r : Int) (w' : Wd), X5_replaceHooks_b2 t n x1 x2 x3 w = some (r, w') → W p l e (rmk 0) s m args below meth c H locs 0 0 (MQ below (QvG G w') args s 0 0 (GA G)) (F0 m 2 ls []) := by
  intro n
  induction n with
  | zero =>
    intro x1 x2 x3 w hx1 hx2 hx3 H locs hS0 ls hl0 r w' hf
    cases hf
  | succ n ih =>
    intro x1 x2 x3 w hx1 hx2 hx3 H locs hS0 ls hl0 r w' hf
    rw [X5_replaceHooks_b2_s] at hf
    refine x_iload_n M hl0 dX5_replaceHooks_2 3 rfl ?_
    refine x_bipush M dX5_replaceHooks_3 rfl ?_
    refine x_icmp_ge (tgt := 31) M hx3 ⟨by decide, by decide⟩ dX5_replaceHooks_5 (by decide) (fun hc => ?_) (fun hc => ?_)
    · have hf := iff_ hf (Int.not_lt.mpr hc)
      exact x_vret M hr hf hS0 dX5_replaceHooks_31
    · have hf := ift hf (Int.not_le.mp hc)
      refine x_aload_n M hl0 dX5_replaceHooks_8 0 rfl ?_
      refine x_get (c0 := 0) (t0 := t) (v := .ref (G.1 1 t)) M hS0 (Or.inl ⟨by decide, ht⟩) (ref := "NamedMoves$Store") inX5_replaceHooks_X5 (sE_0 G _ _) rfl 0 (by decide) (M.2.2.2.2.1 _ flX5_replaceHooks_9) rfl rfl dX5_replaceHooks_9 ?_
      refine x_iload_n M hl0 dX5_replaceHooks_12 3 rfl ?_
      obtain ⟨g2, hf⟩ := gdt hf
      refine x_iald (c0 := 1) (t0 := t) M hS0 (Or.inl ⟨by decide, ht⟩) (hs_1 G _) rfl g2 (by decide) dX5_replaceHooks_13 ?_
      refine x_iload_n M hl0 dX5_replaceHooks_14 1 rfl ?_
      refine x_icmp_ne (tgt := 25) M (hS0.inr _ _ _) hx1 dX5_replaceHooks_15 (by decide) (fun hc => ?_) (fun hc => ?_)
      · have hf := iff_ hf hc
        obtain ⟨g3, hf⟩ := gdt hf
        refine x_iinc M hl0 dX5_replaceHooks_25 3 rfl (by decide) [(3, iV (x3 + 1)), (0, .ref (G.1 0 t)), (1, iV x1), (2, iV x2)] rfl (fun ls hl4 => ?_)
        refine x_goto (tgt := 2) M dX5_replaceHooks_28 (by decide) ?_
        exact ih x1 x2 (x3 + 1) w hx1 hx2 g3 _ _ hS0 _ (lv_sub hl4 [1, 2, 3, 0] rfl) _ _ hf
      · have hf := ift hf (Decidable.of_not_not hc)
        refine x_aload_n M hl0 dX5_replaceHooks_18 0 rfl ?_
        refine x_get (c0 := 0) (t0 := t) (v := .ref (G.1 1 t)) M hS0 (Or.inl ⟨by decide, ht⟩) (ref := "NamedMoves$Store") inX5_replaceHooks_X5 (sE_0 G _ _) rfl 0 (by decide) (M.2.2.2.2.1 _ flX5_replaceHooks_9) rfl rfl dX5_replaceHooks_19 ?_
        refine x_iload_n M hl0 dX5_replaceHooks_22 3 rfl ?_
        refine x_iload_n M hl0 dX5_replaceHooks_23 2 rfl ?_
        refine x_iast (c0 := 1) (t0 := t) M hS0 (Or.inl ⟨by decide, ht⟩) (hs_1 G _) rfl g2 (by decide) hx2 dX5_replaceHooks_24 (fun H locs hS5 => ?_)
        obtain ⟨g6, hf⟩ := gdt hf
        refine x_iinc M hl0 dX5_replaceHooks_25 3 rfl (by decide) [(3, iV (x3 + 1)), (0, .ref (G.1 0 t)), (1, iV x1), (2, iV x2)] rfl (fun ls hl7 => ?_)
        refine x_goto (tgt := 2) M dX5_replaceHooks_28 (by decide) ?_
        exact ih x1 x2 (x3 + 1) (up w 1 t x3.toNat x2) hx1 hx2 g6 _ _ hS5 _ (lv_sub hl7 [1, 2, 3, 0] rfl) _ _ hf

set_option maxHeartbeats 4000000 in
set_option maxRecDepth 100000 in
theorem c_X5_replaceHooks (l : Launch) {G : GG} {t : Nat} (ht : t < 8) {x1 : Int} (hx1 : InR x1) {x2 : Int} (hx2 : InR x2) {w : Wd} {r : Int} {w' : Wd} (hf : X5_replaceHooks t x1 x2 w = some (r, w')) : Met l yX5_replaceHooks wsX5_replaceHooks (rmk 0) (PcG G w [.ref (G.1 0 t), iV x1, iV x2]) (QvG G w') 0 0 (GA G) := by
  refine met_of (own := RX5) (by decide) rfl (Nat.le_of_ble_eq_true rfl) rfl ?_
  intro p e s m args below meth c M hr ls hl0 hS0
  have hl0 : lv_has ls 4 [(0, .ref (G.1 0 t)), (1, iV x1), (2, iV x2)] := hl0
  unfold X5_replaceHooks at hf
  refine x_iconst M dX5_replaceHooks_0 ?_
  refine x_istore_n M hl0 dX5_replaceHooks_1 (by decide) [(3, iV 0), (0, .ref (G.1 0 t)), (1, iV x1), (2, iV x2)] rfl (fun ls hl1 => ?_)
  exact X5_replaceHooks_b2_ok M hr ht LF x1 x2 0 w hx1 hx2 ⟨by decide, by decide⟩ _ _ hS0 _ (lv_sub hl1 [1, 2, 3, 0] rfl) _ _ hf

/-! X5_mendTwins -/
theorem flX5_mendTwins_18 : Cond.fieldLink RX5 18 "NamedMoves$Store" "copies" "LNamedMoves$Copies;" ∈ wsX5_mendTwins := by decide +kernel
theorem flX5_mendTwins_55 : Cond.fieldLink RX5 55 "NamedMoves$Store" "moving" "Z" ∈ wsX5_mendTwins := by decide +kernel
theorem inX5_mendTwins_X5 : ∀ w ∈ u_ws RX5 TX5 10, w ∈ wsX5_mendTwins := by decide +kernel
set_option maxHeartbeats 4000000 in
set_option maxRecDepth 100000 in
theorem X5_mendTwins_b45_ok (M : MC p s m args meth c cX5_mendTwins 5 RX5 wsX5_mendTwins G) (hr : meth.sig.returnType = (some .int)) {t : Nat} (ht : t < 8) : ∀ n : Nat, ∀ x1 : Int, ∀ x2 : Int, ∀ x3 : Int, ∀ x4 : Int, ∀ w : Wd, InR x1 → InR x2 → InR x3 → InR x4 → ∀ (H : Heap) (locs : List Loc), ST G s w H locs → ∀ ls : Array Slot, lv_has ls 5 [(0, .ref (G.1 0 t)), (1, iV x1), (2, iV x2), (3, iV x3), (4, iV x4)] → ∀ (r : Int) (w' : Wd), X5_mendTwins_b45 t n x1 x2 x3 x4 w = some (r, w') → W p l e (rmk 3) s m args below meth c H locs 0 0 (MQ below (QiG G r w') args s 0 0 (GA G)) (F0 m 45 ls []) := by
  intro n
  induction n with
  | zero =>
    intro x1 x2 x3 x4 w hx1 hx2 hx3 hx4 H locs hS0 ls hl0 r w' hf
    cases hf
  | succ n ih =>
    intro x1 x2 x3 x4 w hx1 hx2 hx3 hx4 H locs hS0 ls hl0 r w' hf
    rw [X5_mendTwins_b45_s] at hf
    refine x_iload M hl0 dX5_mendTwins_45 4 rfl ?_
    refine x_sipush M dX5_mendTwins_47 rfl ?_
    refine x_icmp_ge (tgt := 101) M hx4 ⟨by decide, by decide⟩ dX5_mendTwins_50 (by decide) (fun hc => ?_) (fun hc => ?_)
    · have hf := iff_ hf (Int.not_lt.mpr hc)
      refine x_iload_n M hl0 dX5_mendTwins_101 3 rfl ?_
      exact x_iret M hr hf hS0 hx3 dX5_mendTwins_102
    · have hf := ift hf (Int.not_le.mp hc)
      refine x_aload_n M hl0 dX5_mendTwins_53 0 rfl ?_
      refine x_get (c0 := 0) (t0 := t) (v := .ref (G.1 2 t)) M hS0 (Or.inl ⟨by decide, ht⟩) (ref := "NamedMoves$Store") inX5_mendTwins_X5 (sE_0 G _ _) rfl 1 (by decide) (M.2.2.2.2.1 _ flX5_mendTwins_18) rfl rfl dX5_mendTwins_54 ?_
      refine x_iload_n M hl0 dX5_mendTwins_57 1 rfl ?_
      refine x_iload M hl0 dX5_mendTwins_58 4 rfl ?_
      obtain ⟨r20, w21, hc22, hf⟩ := bdt hf
      refine x_callVi (c0 := 2) (t0 := t) (As := [iV x1, iV x4]) (rest := []) M hl0 hS0 (c_X0_isOf l ht hx1 hx4 hc22) (cwV 2 M.2.2.2.2.1 gX5_mendTwins_X0_isOf rfl rfl rfl (by decide +kernel) ⟨Nat.le_of_ble_eq_true rfl, Nat.le_of_ble_eq_true rfl⟩) (Or.inl ⟨by decide, ht⟩) (sE_2 G _ _) rfl rfl (Nat.le_of_ble_eq_true rfl) dX5_mendTwins_60 rfl ⟨Nat.zero_le _, Nat.zero_le _⟩ (fun H locs hi23 hS24 => ?_)
      refine x_if_eq (tgt := 95) M hi23 dX5_mendTwins_63 (by decide) (fun hc => ?_) (fun hc => ?_)
      · have hf := ift hf hc
        obtain ⟨g25, hf⟩ := gdt hf
        refine x_iinc M hl0 dX5_mendTwins_95 4 rfl (by decide) [(4, iV (x4 + 1)), (0, .ref (G.1 0 t)), (1, iV x1), (2, iV x2), (3, iV x3)] rfl (fun ls hl26 => ?_)
        refine x_goto (tgt := 45) M dX5_mendTwins_98 (by decide) ?_
        exact ih x1 x2 x3 (x4 + 1) w21 hx1 hx2 hx3 g25 _ _ hS24 _ (lv_sub hl26 [1, 2, 3, 4, 0] rfl) _ _ hf
      · have hf := iff_ hf hc
        refine x_aload_n M hl0 dX5_mendTwins_66 0 rfl ?_
        refine x_get (c0 := 0) (t0 := t) (v := .ref (G.1 2 t)) M hS24 (Or.inl ⟨by decide, ht⟩) (ref := "NamedMoves$Store") inX5_mendTwins_X5 (sE_0 G _ _) rfl 1 (by decide) (M.2.2.2.2.1 _ flX5_mendTwins_18) rfl rfl dX5_mendTwins_67 ?_
        refine x_iload M hl0 dX5_mendTwins_70 4 rfl ?_
        obtain ⟨r27, w28, hc29, hf⟩ := bdt hf
        refine x_callVv (c0 := 2) (t0 := t) (As := [iV x4]) (rest := []) M hl0 hS24 (c_X0_remove l ht hx4 hc29) (cwV 1 M.2.2.2.2.1 gX5_mendTwins_X0_remove rfl rfl rfl (by decide +kernel) ⟨Nat.le_of_ble_eq_true rfl, Nat.le_of_ble_eq_true rfl⟩) (Or.inl ⟨by decide, ht⟩) (sE_2 G _ _) rfl rfl (Nat.le_of_ble_eq_true rfl) dX5_mendTwins_72 rfl ⟨Nat.zero_le _, Nat.zero_le _⟩ (fun H locs hS31 => ?_)
        refine x_aload_n M hl0 dX5_mendTwins_75 0 rfl ?_
        refine x_get (c0 := 0) (t0 := t) (v := .ref (G.1 2 t)) M hS31 (Or.inl ⟨by decide, ht⟩) (ref := "NamedMoves$Store") inX5_mendTwins_X5 (sE_0 G _ _) rfl 1 (by decide) (M.2.2.2.2.1 _ flX5_mendTwins_18) rfl rfl dX5_mendTwins_76 ?_
        refine x_iload M hl0 dX5_mendTwins_79 4 rfl ?_
        refine x_iload_n M hl0 dX5_mendTwins_81 2 rfl ?_
        obtain ⟨r32, w33, hc34, hf⟩ := bdt hf
        refine x_callVv (c0 := 2) (t0 := t) (As := [iV x4, iV x2]) (rest := []) M hl0 hS31 (c_X0_replaceNames l ht hx4 hx2 hc34) (cwV 2 M.2.2.2.2.1 gX5_mendTwins_X0_replaceNames rfl rfl rfl (by decide +kernel) ⟨Nat.le_of_ble_eq_true rfl, Nat.le_of_ble_eq_true rfl⟩) (Or.inl ⟨by decide, ht⟩) (sE_2 G _ _) rfl rfl (Nat.le_of_ble_eq_true rfl) dX5_mendTwins_82 rfl ⟨Nat.zero_le _, Nat.zero_le _⟩ (fun H locs hS36 => ?_)
        refine x_aload_n M hl0 dX5_mendTwins_85 0 rfl ?_
        refine x_iload M hl0 dX5_mendTwins_86 4 rfl ?_
        refine x_iload_n M hl0 dX5_mendTwins_88 2 rfl ?_
        obtain ⟨r37, w38, hc39, hf⟩ := bdt hf
        refine x_callVv (c0 := 0) (t0 := t) (As := [iV x4, iV x2]) (rest := []) M hl0 hS36 (c_X5_replaceHooks l ht hx4 hx2 hc39) (cwV 2 M.2.2.2.2.1 gX5_mendTwins_X5_replaceHooks rfl rfl rfl (by decide +kernel) ⟨Nat.le_of_ble_eq_true rfl, Nat.le_of_ble_eq_true rfl⟩) (Or.inl ⟨by decide, ht⟩) (sE_0 G _ _) rfl rfl (Nat.le_of_ble_eq_true rfl) dX5_mendTwins_89 rfl ⟨Nat.zero_le _, Nat.zero_le _⟩ (fun H locs hS41 => ?_)
        obtain ⟨g42, hf⟩ := gdt hf
        refine x_iinc M hl0 dX5_mendTwins_92 3 rfl (by decide) [(3, iV (x3 + 1)), (0, .ref (G.1 0 t)), (1, iV x1), (2, iV x2), (4, iV x4)] rfl (fun ls hl43 => ?_)
        obtain ⟨g44, hf⟩ := gdt hf
        refine x_iinc M hl43 dX5_mendTwins_95 4 rfl (by decide) [(4, iV (x4 + 1)), (3, iV (x3 + 1)), (0, .ref (G.1 0 t)), (1, iV x1), (2, iV x2)] rfl (fun ls hl45 => ?_)
        refine x_goto (tgt := 45) M dX5_mendTwins_98 (by decide) ?_
        exact ih x1 x2 (x3 + 1) (x4 + 1) w38 hx1 hx2 g42 g44 _ _ hS41 _ (lv_sub hl45 [2, 3, 4, 1, 0] rfl) _ _ hf

set_option maxHeartbeats 4000000 in
set_option maxRecDepth 100000 in
theorem c_X5_mendTwins (l : Launch) {G : GG} {t : Nat} (ht : t < 8) {x1 : Int} (hx1 : InR x1) {w : Wd} {r : Int} {w' : Wd} (hf : X5_mendTwins t x1 w = some (r, w')) : Met l yX5_mendTwins wsX5_mendTwins (rmk 3) (PcG G w [.ref (G.1 0 t), iV x1]) (QiG G r w') 0 0 (GA G) := by
  refine met_of (own := RX5) (by decide) rfl (Nat.le_of_ble_eq_true rfl) rfl ?_
  intro p e s m args below meth c M hr ls hl0 hS0
  have hl0 : lv_has ls 5 [(0, .ref (G.1 0 t)), (1, iV x1)] := hl0
  unfold X5_mendTwins at hf
  refine x_aload_n M hl0 dX5_mendTwins_0 0 rfl ?_
  refine x_iload_n M hl0 dX5_mendTwins_1 1 rfl ?_
  obtain ⟨r1, w2, hc3, hf⟩ := bdt hf
  refine x_callVi (c0 := 0) (t0 := t) (As := [iV x1]) (rest := []) M hl0 hS0 (c_X5_isThing l ht hx1 hc3) (cwV 1 M.2.2.2.2.1 gX5_mendTwins_X5_isThing rfl rfl rfl (by decide +kernel) ⟨Nat.le_of_ble_eq_true rfl, Nat.le_of_ble_eq_true rfl⟩) (Or.inl ⟨by decide, ht⟩) (sE_0 G _ _) rfl rfl (Nat.le_of_ble_eq_true rfl) dX5_mendTwins_2 rfl ⟨Nat.zero_le _, Nat.zero_le _⟩ (fun H locs hi4 hS5 => ?_)
  refine x_if_ne (tgt := 10) M hi4 dX5_mendTwins_5 (by decide) (fun hc => ?_) (fun hc => ?_)
  · have hf := iff_ hf hc
    refine x_aload_n M hl0 dX5_mendTwins_10 0 rfl ?_
    refine x_get (c0 := 0) (t0 := t) (v := iV (w2 0 t 2)) M hS5 (Or.inl ⟨by decide, ht⟩) (ref := "NamedMoves$Store") inX5_mendTwins_X5 (sE_0 G _ _) rfl 5 (by decide) (M.2.2.2.2.1 _ flX5_mendTwins_55) rfl rfl dX5_mendTwins_11 ?_
    refine x_if_ne (tgt := 25) M (hS5.inr _ _ _) dX5_mendTwins_14 (by decide) (fun hc => ?_) (fun hc => ?_)
    · have hf := iff_ hf hc
      refine x_bipush M dX5_mendTwins_25 rfl ?_
      exact x_iret M hr hf hS5 ⟨by decide, by decide⟩ dX5_mendTwins_27
    · have hf := ift hf (Decidable.of_not_not hc)
      refine x_aload_n M hl0 dX5_mendTwins_17 0 rfl ?_
      refine x_iload_n M hl0 dX5_mendTwins_18 1 rfl ?_
      obtain ⟨r6, w7, hc8, hf⟩ := bdt hf
      refine x_callVi (c0 := 0) (t0 := t) (As := [iV x1]) (rest := []) M hl0 hS5 (c_X5_hasTwins l ht hx1 hc8) (cwV 1 M.2.2.2.2.1 gX5_mendTwins_X5_hasTwins rfl rfl rfl (by decide +kernel) ⟨Nat.le_of_ble_eq_true rfl, Nat.le_of_ble_eq_true rfl⟩) (Or.inl ⟨by decide, ht⟩) (sE_0 G _ _) rfl rfl (Nat.le_of_ble_eq_true rfl) dX5_mendTwins_19 rfl ⟨Nat.zero_le _, Nat.zero_le _⟩ (fun H locs hi9 hS10 => ?_)
      refine x_if_ne (tgt := 28) M hi9 dX5_mendTwins_22 (by decide) (fun hc => ?_) (fun hc => ?_)
      · have hf := iff_ hf hc
        refine x_aload_n M hl0 dX5_mendTwins_28 0 rfl ?_
        refine x_get (c0 := 0) (t0 := t) (v := .ref (G.1 2 t)) M hS10 (Or.inl ⟨by decide, ht⟩) (ref := "NamedMoves$Store") inX5_mendTwins_X5 (sE_0 G _ _) rfl 1 (by decide) (M.2.2.2.2.1 _ flX5_mendTwins_18) rfl rfl dX5_mendTwins_29 ?_
        refine x_iload_n M hl0 dX5_mendTwins_32 1 rfl ?_
        refine x_iconst M dX5_mendTwins_33 ?_
        obtain ⟨r11, w12, hc13, hf⟩ := bdt hf
        refine x_callVi (c0 := 2) (t0 := t) (As := [iV x1, iV 0]) (rest := []) M hl0 hS10 (c_X0_addressOf l ht hx1 ⟨by decide, by decide⟩ hc13) (cwV 2 M.2.2.2.2.1 gX5_mendTwins_X0_addressOf rfl rfl rfl (by decide +kernel) ⟨Nat.le_of_ble_eq_true rfl, Nat.le_of_ble_eq_true rfl⟩) (Or.inl ⟨by decide, ht⟩) (sE_2 G _ _) rfl rfl (Nat.le_of_ble_eq_true rfl) dX5_mendTwins_34 rfl ⟨Nat.zero_le _, Nat.zero_le _⟩ (fun H locs hi14 hS15 => ?_)
        refine x_istore_n M hl0 dX5_mendTwins_37 (by decide) [(2, iV r11), (0, .ref (G.1 0 t)), (1, iV x1)] rfl (fun ls hl16 => ?_)
        refine x_iconst M dX5_mendTwins_38 ?_
        refine x_istore_n M hl16 dX5_mendTwins_39 (by decide) [(3, iV 0), (2, iV r11), (0, .ref (G.1 0 t)), (1, iV x1)] rfl (fun ls hl17 => ?_)
        refine x_iload_n M hl17 dX5_mendTwins_40 1 rfl ?_
        refine x_iconst M dX5_mendTwins_41 ?_
        obtain ⟨g18, hf⟩ := gdt hf
        refine x_iadd M dX5_mendTwins_42 ?_
        refine x_istore M hl17 dX5_mendTwins_43 (by decide) [(4, iV (r11 + 1)), (3, iV 0), (2, iV r11), (0, .ref (G.1 0 t)), (1, iV x1)] rfl (fun ls hl19 => ?_)
        exact X5_mendTwins_b45_ok M hr ht LF x1 r11 0 (r11 + 1) w12 hx1 hi14 ⟨by decide, by decide⟩ g18 _ _ hS15 _ (lv_sub hl19 [3, 4, 2, 1, 0] rfl) _ _ hf
      · have hf := ift hf (Decidable.of_not_not hc)
        refine x_bipush M dX5_mendTwins_25 rfl ?_
        exact x_iret M hr hf hS10 ⟨by decide, by decide⟩ dX5_mendTwins_27
  · have hf := ift hf (Decidable.of_not_not hc)
    refine x_iconst M dX5_mendTwins_8 ?_
    exact x_iret M hr hf hS5 ⟨by decide, by decide⟩ dX5_mendTwins_9

/-! X7_mend -/
theorem flX7_mend_12 : Cond.fieldLink RX7 12 "NamedMoves" "store" "LNamedMoves$Store;" ∈ wsX7_mend := by decide +kernel
theorem flX7_mend_22 : Cond.fieldLink RX7 22 "NamedMoves" "history" "LNamedMoves$History;" ∈ wsX7_mend := by decide +kernel
theorem inX7_mend_X7 : ∀ w ∈ u_ws RX7 TX7 6, w ∈ wsX7_mend := by decide +kernel
set_option maxHeartbeats 4000000 in
set_option maxRecDepth 100000 in
theorem c_X7_mend (l : Launch) {G : GG} {x1 : Int} (hx1 : InR x1) {w : Wd} {r : Int} {w' : Wd} (hf : X7_mend x1 w = some (r, w')) : Met l yX7_mend wsX7_mend (rmk 4) (PcG G w [.ref (G.1 10 0), iV x1]) (QiG G r w') 0 0 (GA G) := by
  refine met_of (own := RX7) (by decide) rfl (Nat.le_of_ble_eq_true rfl) rfl ?_
  intro p e s m args below meth c M hr ls hl0 hS0
  have hl0 : lv_has ls 2 [(0, .ref (G.1 10 0)), (1, iV x1)] := hl0
  unfold X7_mend at hf
  refine x_aload_n M hl0 dX7_mend_0 0 rfl ?_
  refine x_get (c0 := 10) (t0 := 0) (v := .ref (G.1 11 0)) M hS0 (by decide) (ref := "NamedMoves") inX7_mend_X7 (sE_10 G _ _) rfl 2 (by decide) (M.2.2.2.2.1 _ flX7_mend_22) rfl rfl dX7_mend_1 ?_
  refine x_aload_n M hl0 dX7_mend_4 0 rfl ?_
  refine x_get (c0 := 10) (t0 := 0) (v := .ref (G.1 0 0)) M hS0 (by decide) (ref := "NamedMoves") inX7_mend_X7 (sE_10 G _ _) rfl 0 (by decide) (M.2.2.2.2.1 _ flX7_mend_12) rfl rfl dX7_mend_5 ?_
  obtain ⟨r1, w2, hc3, hf⟩ := bdt hf
  refine x_callVv (c0 := 11) (t0 := 0) (As := [.ref (G.1 0 0)]) (rest := []) M hl0 hS0 (c_X2_draft l (by decide)  hc3) (cwV 1 M.2.2.2.2.1 gX7_mend_X2_draft rfl rfl rfl (by decide +kernel) ⟨Nat.le_of_ble_eq_true rfl, Nat.le_of_ble_eq_true rfl⟩) (by decide) (sE_11 G _ _) rfl rfl (Nat.le_of_ble_eq_true rfl) dX7_mend_8 rfl ⟨Nat.zero_le _, Nat.zero_le _⟩ (fun H locs hS5 => ?_)
  refine x_aload_n M hl0 dX7_mend_11 0 rfl ?_
  refine x_aload_n M hl0 dX7_mend_12 0 rfl ?_
  refine x_get (c0 := 10) (t0 := 0) (v := .ref (G.1 0 0)) M hS5 (by decide) (ref := "NamedMoves") inX7_mend_X7 (sE_10 G _ _) rfl 0 (by decide) (M.2.2.2.2.1 _ flX7_mend_12) rfl rfl dX7_mend_13 ?_
  refine x_iload_n M hl0 dX7_mend_16 1 rfl ?_
  obtain ⟨r6, w7, hc8, hf⟩ := bdt hf
  refine x_callVi (c0 := 0) (t0 := 0) (As := [iV x1]) (rest := [.ref (G.1 10 0)]) M hl0 hS5 (c_X5_mendTwins l (by decide) hx1 hc8) (cwV 1 M.2.2.2.2.1 gX7_mend_X5_mendTwins rfl rfl rfl (by decide +kernel) ⟨Nat.le_of_ble_eq_true rfl, Nat.le_of_ble_eq_true rfl⟩) (by decide) (sE_0 G _ _) rfl rfl (Nat.le_of_ble_eq_true rfl) dX7_mend_17 rfl ⟨Nat.zero_le _, Nat.zero_le _⟩ (fun H locs hi9 hS10 => ?_)
  obtain ⟨r11, w12, hc13, hf⟩ := bdt hf
  refine x_callVi (c0 := 10) (t0 := 0) (As := [iV r6]) (rest := []) M hl0 hS10 (c_X7_recorded l  hi9 hc13) (cwV 1 M.2.2.2.2.1 gX7_mend_X7_recorded rfl rfl rfl (by decide +kernel) ⟨Nat.le_of_ble_eq_true rfl, Nat.le_of_ble_eq_true rfl⟩) (by decide) (sE_10 G _ _) rfl rfl (Nat.le_of_ble_eq_true rfl) dX7_mend_20 rfl ⟨Nat.zero_le _, Nat.zero_le _⟩ (fun H locs hi14 hS15 => ?_)
  exact x_iret M hr hf hS15 hi14 dX7_mend_23

/-! X2_size -/
theorem flX2_size_18 : Cond.fieldLink RX2 18 "NamedMoves$History" "held" "I" ∈ wsX2_size := by decide +kernel
theorem inX2_size_X2 : ∀ w ∈ u_ws RX2 TX2 3, w ∈ wsX2_size := by decide +kernel
set_option maxHeartbeats 4000000 in
set_option maxRecDepth 100000 in
theorem c_X2_size (l : Launch) {G : GG} {w : Wd} {r : Int} {w' : Wd} (hf : X2_size w = some (r, w')) : Met l yX2_size wsX2_size (rmk 0) (PcG G w [.ref (G.1 11 0)]) (QiG G r w') 0 0 (GA G) := by
  refine met_of (own := RX2) (by decide) rfl (Nat.le_of_ble_eq_true rfl) rfl ?_
  intro p e s m args below meth c M hr ls hl0 hS0
  have hl0 : lv_has ls 1 [(0, .ref (G.1 11 0))] := hl0
  unfold X2_size at hf
  refine x_aload_n M hl0 dX2_size_0 0 rfl ?_
  refine x_get (c0 := 11) (t0 := 0) (v := iV (w 11 0 1)) M hS0 (by decide) (ref := "NamedMoves$History") inX2_size_X2 (sE_11 G _ _) rfl 2 (by decide) (M.2.2.2.2.1 _ flX2_size_18) rfl rfl dX2_size_1 ?_
  exact x_iret M hr hf hS0 (hS0.inr _ _ _) dX2_size_4

/-! X2_restoreDraft -/
theorem flX2_restoreDraft_11 : Cond.fieldLink RX2 11 "NamedMoves$History" "states" "[LNamedMoves$Store;" ∈ wsX2_restoreDraft := by decide +kernel
theorem inX2_restoreDraft_X2 : ∀ w ∈ u_ws RX2 TX2 3, w ∈ wsX2_restoreDraft := by decide +kernel
set_option maxHeartbeats 4000000 in
set_option maxRecDepth 100000 in
theorem c_X2_restoreDraft (l : Launch) {G : GG} {t1 : Nat} (ht1 : t1 < 8) {w : Wd} {r : Int} {w' : Wd} (hf : X2_restoreDraft t1 w = some (r, w')) : Met l yX2_restoreDraft wsX2_restoreDraft (rmk 3) (PcG G w [.ref (G.1 11 0), .ref (G.1 0 t1)]) (QvG G w') 0 0 (GA G) := by
  refine met_of (own := RX2) (by decide) rfl (Nat.le_of_ble_eq_true rfl) rfl ?_
  intro p e s m args below meth c M hr ls hl0 hS0
  have hl0 : lv_has ls 3 [(0, .ref (G.1 11 0)), (1, .ref (G.1 0 t1))] := hl0
  unfold X2_restoreDraft at hf
  refine x_aload_n M hl0 dX2_restoreDraft_0 0 rfl ?_
  refine x_get (c0 := 11) (t0 := 0) (v := .ref (G.1 12 0)) M hS0 (by decide) (ref := "NamedMoves$History") inX2_restoreDraft_X2 (sE_11 G _ _) rfl 0 (by decide) (M.2.2.2.2.1 _ flX2_restoreDraft_11) rfl rfl dX2_restoreDraft_1 ?_
  refine x_aload_n M hl0 dX2_restoreDraft_4 0 rfl ?_
  obtain ⟨r1, w2, hc3, hf⟩ := bdt hf
  refine x_callVi (c0 := 11) (t0 := 0) (As := []) (rest := [.ref (G.1 12 0)]) M hl0 hS0 (c_X2_slotOfDraft l   hc3) (cwV 0 M.2.2.2.2.1 gX2_restoreDraft_X2_slotOfDraft rfl rfl rfl (by decide +kernel) ⟨Nat.le_of_ble_eq_true rfl, Nat.le_of_ble_eq_true rfl⟩) (by decide) (sE_11 G _ _) rfl rfl (Nat.le_of_ble_eq_true rfl) dX2_restoreDraft_5 rfl ⟨Nat.zero_le _, Nat.zero_le _⟩ (fun H locs hi4 hS5 => ?_)
  obtain ⟨g6, hf⟩ := gdt hf
  have ht7 : r1.toNat + 2 < 8 := by omega
  refine x_aald M hS5 g6 dX2_restoreDraft_8 ?_
  refine x_astore_n M hl0 dX2_restoreDraft_9 (by decide) [(2, .ref (G.1 0 (r1.toNat + 2))), (0, .ref (G.1 11 0)), (1, .ref (G.1 0 t1))] rfl (fun ls hl8 => ?_)
  refine x_aload_n M hl8 dX2_restoreDraft_10 0 rfl ?_
  refine x_ifnull M dX2_restoreDraft_11 ?_
  refine x_aload_n M hl8 dX2_restoreDraft_14 2 rfl ?_
  refine x_aload_n M hl8 dX2_restoreDraft_15 0 rfl ?_
  obtain ⟨r9, w10, hc11, hf⟩ := bdt hf
  refine x_callVv (c0 := 0) (t0 := t1) (As := [.ref (G.1 0 (r1.toNat + 2))]) (rest := []) M hl8 hS5 (c_X5_become l ht1 ht7  hc11) (cwV 1 M.2.2.2.2.1 gX2_restoreDraft_X5_become rfl rfl rfl (by decide +kernel) ⟨Nat.le_of_ble_eq_true rfl, Nat.le_of_ble_eq_true rfl⟩) (Or.inl ⟨by decide, ht1⟩) (sE_0 G _ _) rfl rfl (Nat.le_of_ble_eq_true rfl) dX2_restoreDraft_16 rfl ⟨Nat.zero_le _, Nat.zero_le _⟩ (fun H locs hS13 => ?_)
  exact x_vret M hr hf hS13 dX2_restoreDraft_19

/-! X2_restoreLatest -/
theorem flX2_restoreLatest_18 : Cond.fieldLink RX2 18 "NamedMoves$History" "held" "I" ∈ wsX2_restoreLatest := by decide +kernel
theorem inX2_restoreLatest_X2 : ∀ w ∈ u_ws RX2 TX2 3, w ∈ wsX2_restoreLatest := by decide +kernel
set_option maxHeartbeats 4000000 in
set_option maxRecDepth 100000 in
theorem c_X2_restoreLatest (l : Launch) {G : GG} {t1 : Nat} (ht1 : t1 < 8) {w : Wd} {r : Int} {w' : Wd} (hf : X2_restoreLatest t1 w = some (r, w')) : Met l yX2_restoreLatest wsX2_restoreLatest (rmk 4) (PcG G w [.ref (G.1 11 0), .ref (G.1 0 t1)]) (QvG G w') 0 0 (GA G) := by
  refine met_of (own := RX2) (by decide) rfl (Nat.le_of_ble_eq_true rfl) rfl ?_
  intro p e s m args below meth c M hr ls hl0 hS0
  have hl0 : lv_has ls 2 [(0, .ref (G.1 11 0)), (1, .ref (G.1 0 t1))] := hl0
  unfold X2_restoreLatest at hf
  refine x_aload_n M hl0 dX2_restoreLatest_0 0 rfl ?_
  refine x_get (c0 := 11) (t0 := 0) (v := iV (w 11 0 1)) M hS0 (by decide) (ref := "NamedMoves$History") inX2_restoreLatest_X2 (sE_11 G _ _) rfl 2 (by decide) (M.2.2.2.2.1 _ flX2_restoreLatest_18) rfl rfl dX2_restoreLatest_1 ?_
  refine x_if_le (tgt := 22) M (hS0.inr _ _ _) dX2_restoreLatest_4 (by decide) (fun hc => ?_) (fun hc => ?_)
  · have hf := iff_ hf (Int.not_lt.mpr hc)
    exact x_vret M hr hf hS0 dX2_restoreLatest_22
  · have hf := ift hf (Int.not_le.mp hc)
    refine x_aload_n M hl0 dX2_restoreLatest_7 0 rfl ?_
    refine x_dup M dX2_restoreLatest_8 rfl ?_
    refine x_get (c0 := 11) (t0 := 0) (v := iV (w 11 0 1)) M hS0 (by decide) (ref := "NamedMoves$History") inX2_restoreLatest_X2 (sE_11 G _ _) rfl 2 (by decide) (M.2.2.2.2.1 _ flX2_restoreLatest_18) rfl rfl dX2_restoreLatest_9 ?_
    refine x_iconst M dX2_restoreLatest_12 ?_
    obtain ⟨g1, hf⟩ := gdt hf
    refine x_isub M dX2_restoreLatest_13 ?_
    refine x_put (c0 := 11) (t0 := 0) M hS0 (by decide) (ref := "NamedMoves$History") inX2_restoreLatest_X2 tyX2 tyX2_ok nmX2 (sE_11 G _ _) rfl 2 (by decide) (M.2.2.2.2.1 _ flX2_restoreLatest_18) rfl rfl (ty := tyX2 2) g1 (tyX2_ok 2 (by decide)) rfl rfl (by simp) 1 (pset_11_1 G _ _ _) dX2_restoreLatest_14 (fun H locs hS2 => ?_)
    refine x_aload_n M hl0 dX2_restoreLatest_17 0 rfl ?_
    refine x_aload_n M hl0 dX2_restoreLatest_18 1 rfl ?_
    obtain ⟨r3, w4, hc5, hf⟩ := bdt hf
    refine x_callVv (c0 := 11) (t0 := 0) (As := [.ref (G.1 0 t1)]) (rest := []) M hl0 hS2 (c_X2_restoreDraft l ht1  hc5) (cwV 1 M.2.2.2.2.1 gX2_restoreLatest_X2_restoreDraft rfl rfl rfl (by decide +kernel) ⟨Nat.le_of_ble_eq_true rfl, Nat.le_of_ble_eq_true rfl⟩) (by decide) (sE_11 G _ _) rfl rfl (Nat.le_of_ble_eq_true rfl) dX2_restoreLatest_19 rfl ⟨Nat.zero_le _, Nat.zero_le _⟩ (fun H locs hS7 => ?_)
    exact x_vret M hr hf hS7 dX2_restoreLatest_22

/-! X7_undo -/
theorem flX7_undo_12 : Cond.fieldLink RX7 12 "NamedMoves" "store" "LNamedMoves$Store;" ∈ wsX7_undo := by decide +kernel
theorem flX7_undo_22 : Cond.fieldLink RX7 22 "NamedMoves" "history" "LNamedMoves$History;" ∈ wsX7_undo := by decide +kernel
theorem inX7_undo_X7 : ∀ w ∈ u_ws RX7 TX7 6, w ∈ wsX7_undo := by decide +kernel
set_option maxHeartbeats 4000000 in
set_option maxRecDepth 100000 in
theorem c_X7_undo (l : Launch) {G : GG} {w : Wd} {r : Int} {w' : Wd} (hf : X7_undo w = some (r, w')) : Met l yX7_undo wsX7_undo (rmk 5) (PcG G w [.ref (G.1 10 0)]) (QiG G r w') 0 0 (GA G) := by
  refine met_of (own := RX7) (by decide) rfl (Nat.le_of_ble_eq_true rfl) rfl ?_
  intro p e s m args below meth c M hr ls hl0 hS0
  have hl0 : lv_has ls 1 [(0, .ref (G.1 10 0))] := hl0
  unfold X7_undo at hf
  refine x_aload_n M hl0 dX7_undo_0 0 rfl ?_
  refine x_get (c0 := 10) (t0 := 0) (v := .ref (G.1 11 0)) M hS0 (by decide) (ref := "NamedMoves") inX7_undo_X7 (sE_10 G _ _) rfl 2 (by decide) (M.2.2.2.2.1 _ flX7_undo_22) rfl rfl dX7_undo_1 ?_
  obtain ⟨r1, w2, hc3, hf⟩ := bdt hf
  refine x_callVi (c0 := 11) (t0 := 0) (As := []) (rest := []) M hl0 hS0 (c_X2_size l   hc3) (cwV 0 M.2.2.2.2.1 gX7_undo_X2_size rfl rfl rfl (by decide +kernel) ⟨Nat.le_of_ble_eq_true rfl, Nat.le_of_ble_eq_true rfl⟩) (by decide) (sE_11 G _ _) rfl rfl (Nat.le_of_ble_eq_true rfl) dX7_undo_4 rfl ⟨Nat.zero_le _, Nat.zero_le _⟩ (fun H locs hi4 hS5 => ?_)
  refine x_if_ne (tgt := 13) M hi4 dX7_undo_7 (by decide) (fun hc => ?_) (fun hc => ?_)
  · have hf := iff_ hf hc
    refine x_aload_n M hl0 dX7_undo_13 0 rfl ?_
    refine x_get (c0 := 10) (t0 := 0) (v := .ref (G.1 11 0)) M hS5 (by decide) (ref := "NamedMoves") inX7_undo_X7 (sE_10 G _ _) rfl 2 (by decide) (M.2.2.2.2.1 _ flX7_undo_22) rfl rfl dX7_undo_14 ?_
    refine x_aload_n M hl0 dX7_undo_17 0 rfl ?_
    refine x_get (c0 := 10) (t0 := 0) (v := .ref (G.1 0 0)) M hS5 (by decide) (ref := "NamedMoves") inX7_undo_X7 (sE_10 G _ _) rfl 0 (by decide) (M.2.2.2.2.1 _ flX7_undo_12) rfl rfl dX7_undo_18 ?_
    obtain ⟨r6, w7, hc8, hf⟩ := bdt hf
    refine x_callVv (c0 := 11) (t0 := 0) (As := [.ref (G.1 0 0)]) (rest := []) M hl0 hS5 (c_X2_restoreLatest l (by decide)  hc8) (cwV 1 M.2.2.2.2.1 gX7_undo_X2_restoreLatest rfl rfl rfl (by decide +kernel) ⟨Nat.le_of_ble_eq_true rfl, Nat.le_of_ble_eq_true rfl⟩) (by decide) (sE_11 G _ _) rfl rfl (Nat.le_of_ble_eq_true rfl) dX7_undo_21 rfl ⟨Nat.zero_le _, Nat.zero_le _⟩ (fun H locs hS10 => ?_)
    refine x_aload_n M hl0 dX7_undo_24 0 rfl ?_
    refine x_get (c0 := 10) (t0 := 0) (v := .ref (G.1 11 0)) M hS10 (by decide) (ref := "NamedMoves") inX7_undo_X7 (sE_10 G _ _) rfl 2 (by decide) (M.2.2.2.2.1 _ flX7_undo_22) rfl rfl dX7_undo_25 ?_
    obtain ⟨r11, w12, hc13, hf⟩ := bdt hf
    refine x_callVi (c0 := 11) (t0 := 0) (As := []) (rest := []) M hl0 hS10 (c_X2_size l   hc13) (cwV 0 M.2.2.2.2.1 gX7_undo_X2_size rfl rfl rfl (by decide +kernel) ⟨Nat.le_of_ble_eq_true rfl, Nat.le_of_ble_eq_true rfl⟩) (by decide) (sE_11 G _ _) rfl rfl (Nat.le_of_ble_eq_true rfl) dX7_undo_28 rfl ⟨Nat.zero_le _, Nat.zero_le _⟩ (fun H locs hi14 hS15 => ?_)
    exact x_iret M hr hf hS15 hi14 dX7_undo_31
  · have hf := ift hf (Decidable.of_not_not hc)
    refine x_bipush M dX7_undo_10 rfl ?_
    exact x_iret M hr hf hS5 ⟨by decide, by decide⟩ dX7_undo_12

/-! X6_addCharacter -/
theorem flX6_addCharacter_15 : Cond.fieldLink RX6 15 "NamedMoves$Text" "length" "I" ∈ wsX6_addCharacter := by decide +kernel
theorem flX6_addCharacter_9 : Cond.fieldLink RX6 9 "NamedMoves$Text" "characters" "[I" ∈ wsX6_addCharacter := by decide +kernel
theorem inX6_addCharacter_X6 : ∀ w ∈ u_ws RX6 TX6 2, w ∈ wsX6_addCharacter := by decide +kernel
set_option maxHeartbeats 4000000 in
set_option maxRecDepth 100000 in
theorem c_X6_addCharacter (l : Launch) {G : GG} {x1 : Int} (hx1 : InR x1) {w : Wd} {r : Int} {w' : Wd} (hf : X6_addCharacter x1 w = some (r, w')) : Met l yX6_addCharacter wsX6_addCharacter (rmk 0) (PcG G w [.ref (G.1 17 0), iV x1]) (QiG G r w') 0 0 (GA G) := by
  refine met_of (own := RX6) (by decide) rfl (Nat.le_of_ble_eq_true rfl) rfl ?_
  intro p e s m args below meth c M hr ls hl0 hS0
  have hl0 : lv_has ls 2 [(0, .ref (G.1 17 0)), (1, iV x1)] := hl0
  unfold X6_addCharacter at hf
  refine x_iload_n M hl0 dX6_addCharacter_0 1 rfl ?_
  refine x_iconst M dX6_addCharacter_1 ?_
  refine x_icmp_lt (tgt := 12) M hx1 ⟨by decide, by decide⟩ dX6_addCharacter_2 (by decide) (fun hc => ?_) (fun hc => ?_)
  · have hf := ift hf hc
    refine x_iconst M dX6_addCharacter_12 ?_
    exact x_iret M hr hf hS0 ⟨by decide, by decide⟩ dX6_addCharacter_13
  · have hf := iff_ hf hc
    refine x_iload_n M hl0 dX6_addCharacter_5 1 rfl ?_
    refine x_sipush M dX6_addCharacter_6 rfl ?_
    refine x_icmp_le (tgt := 14) M hx1 ⟨by decide, by decide⟩ dX6_addCharacter_9 (by decide) (fun hc => ?_) (fun hc => ?_)
    · have hf := iff_ hf (Int.not_lt.mpr hc)
      refine x_aload_n M hl0 dX6_addCharacter_14 0 rfl ?_
      refine x_get (c0 := 17) (t0 := 0) (v := iV (w 17 0 0)) M hS0 (by decide) (ref := "NamedMoves$Text") inX6_addCharacter_X6 (sE_17 G _ _) rfl 1 (by decide) (M.2.2.2.2.1 _ flX6_addCharacter_15) rfl rfl dX6_addCharacter_15 ?_
      refine x_if_lt (tgt := 30) M (hS0.inr _ _ _) dX6_addCharacter_18 (by decide) (fun hc => ?_) (fun hc => ?_)
      · have hf := ift hf hc
        refine x_bipush M dX6_addCharacter_30 rfl ?_
        exact x_iret M hr hf hS0 ⟨by decide, by decide⟩ dX6_addCharacter_32
      · have hf := iff_ hf hc
        refine x_aload_n M hl0 dX6_addCharacter_21 0 rfl ?_
        refine x_get (c0 := 17) (t0 := 0) (v := iV (w 17 0 0)) M hS0 (by decide) (ref := "NamedMoves$Text") inX6_addCharacter_X6 (sE_17 G _ _) rfl 1 (by decide) (M.2.2.2.2.1 _ flX6_addCharacter_15) rfl rfl dX6_addCharacter_22 ?_
        refine x_bipush M dX6_addCharacter_25 rfl ?_
        refine x_icmp_lt (tgt := 33) M (hS0.inr _ _ _) ⟨by decide, by decide⟩ dX6_addCharacter_27 (by decide) (fun hc => ?_) (fun hc => ?_)
        · have hf := ift hf hc
          refine x_aload_n M hl0 dX6_addCharacter_33 0 rfl ?_
          refine x_get (c0 := 17) (t0 := 0) (v := .ref (G.1 18 0)) M hS0 (by decide) (ref := "NamedMoves$Text") inX6_addCharacter_X6 (sE_17 G _ _) rfl 0 (by decide) (M.2.2.2.2.1 _ flX6_addCharacter_9) rfl rfl dX6_addCharacter_34 ?_
          refine x_aload_n M hl0 dX6_addCharacter_37 0 rfl ?_
          refine x_get (c0 := 17) (t0 := 0) (v := iV (w 17 0 0)) M hS0 (by decide) (ref := "NamedMoves$Text") inX6_addCharacter_X6 (sE_17 G _ _) rfl 1 (by decide) (M.2.2.2.2.1 _ flX6_addCharacter_15) rfl rfl dX6_addCharacter_38 ?_
          refine x_iload_n M hl0 dX6_addCharacter_41 1 rfl ?_
          obtain ⟨g1, hf⟩ := gdt hf
          refine x_iast (c0 := 18) (t0 := 0) M hS0 (by decide) (hs_18 G _) rfl g1 (by decide) hx1 dX6_addCharacter_42 (fun H locs hS2 => ?_)
          refine x_aload_n M hl0 dX6_addCharacter_43 0 rfl ?_
          refine x_dup M dX6_addCharacter_44 rfl ?_
          refine x_get (c0 := 17) (t0 := 0) (v := iV ((up w 18 0 (w 17 0 0).toNat x1) 17 0 0)) M hS2 (by decide) (ref := "NamedMoves$Text") inX6_addCharacter_X6 (sE_17 G _ _) rfl 1 (by decide) (M.2.2.2.2.1 _ flX6_addCharacter_15) rfl rfl dX6_addCharacter_45 ?_
          refine x_iconst M dX6_addCharacter_48 ?_
          obtain ⟨g3, hf⟩ := gdt hf
          refine x_iadd M dX6_addCharacter_49 ?_
          refine x_put (c0 := 17) (t0 := 0) M hS2 (by decide) (ref := "NamedMoves$Text") inX6_addCharacter_X6 tyX6 tyX6_ok nmX6 (sE_17 G _ _) rfl 1 (by decide) (M.2.2.2.2.1 _ flX6_addCharacter_15) rfl rfl (ty := tyX6 1) g3 (tyX6_ok 1 (by decide)) rfl rfl (by simp) 0 (pset_17_0 G _ _ _) dX6_addCharacter_50 (fun H locs hS4 => ?_)
          refine x_aload_n M hl0 dX6_addCharacter_53 0 rfl ?_
          refine x_get (c0 := 17) (t0 := 0) (v := iV ((up (up w 18 0 (w 17 0 0).toNat x1) 17 0 0 (((up w 18 0 (w 17 0 0).toNat x1) 17 0 0) + 1)) 17 0 0)) M hS4 (by decide) (ref := "NamedMoves$Text") inX6_addCharacter_X6 (sE_17 G _ _) rfl 1 (by decide) (M.2.2.2.2.1 _ flX6_addCharacter_15) rfl rfl dX6_addCharacter_54 ?_
          exact x_iret M hr hf hS4 (hS4.inr _ _ _) dX6_addCharacter_57
        · have hf := iff_ hf hc
          refine x_bipush M dX6_addCharacter_30 rfl ?_
          exact x_iret M hr hf hS0 ⟨by decide, by decide⟩ dX6_addCharacter_32
    · have hf := ift hf (Int.not_le.mp hc)
      refine x_iconst M dX6_addCharacter_12 ?_
      exact x_iret M hr hf hS0 ⟨by decide, by decide⟩ dX6_addCharacter_13

/-! X7_append -/
theorem flX7_append_36 : Cond.fieldLink RX7 36 "NamedMoves" "text" "LNamedMoves$Text;" ∈ wsX7_append := by decide +kernel
theorem inX7_append_X7 : ∀ w ∈ u_ws RX7 TX7 6, w ∈ wsX7_append := by decide +kernel
set_option maxHeartbeats 4000000 in
set_option maxRecDepth 100000 in
theorem c_X7_append (l : Launch) {G : GG} {x1 : Int} (hx1 : InR x1) {w : Wd} {r : Int} {w' : Wd} (hf : X7_append x1 w = some (r, w')) : Met l yX7_append wsX7_append (rmk 1) (PcG G w [.ref (G.1 10 0), iV x1]) (QiG G r w') 0 0 (GA G) := by
  refine met_of (own := RX7) (by decide) rfl (Nat.le_of_ble_eq_true rfl) rfl ?_
  intro p e s m args below meth c M hr ls hl0 hS0
  have hl0 : lv_has ls 2 [(0, .ref (G.1 10 0)), (1, iV x1)] := hl0
  unfold X7_append at hf
  refine x_aload_n M hl0 dX7_append_0 0 rfl ?_
  refine x_get (c0 := 10) (t0 := 0) (v := .ref (G.1 17 0)) M hS0 (by decide) (ref := "NamedMoves") inX7_append_X7 (sE_10 G _ _) rfl 4 (by decide) (M.2.2.2.2.1 _ flX7_append_36) rfl rfl dX7_append_1 ?_
  refine x_iload_n M hl0 dX7_append_4 1 rfl ?_
  obtain ⟨r1, w2, hc3, hf⟩ := bdt hf
  refine x_callVi (c0 := 17) (t0 := 0) (As := [iV x1]) (rest := []) M hl0 hS0 (c_X6_addCharacter l  hx1 hc3) (cwV 1 M.2.2.2.2.1 gX7_append_X6_addCharacter rfl rfl rfl (by decide +kernel) ⟨Nat.le_of_ble_eq_true rfl, Nat.le_of_ble_eq_true rfl⟩) (by decide) (sE_17 G _ _) rfl rfl (Nat.le_of_ble_eq_true rfl) dX7_append_5 rfl ⟨Nat.zero_le _, Nat.zero_le _⟩ (fun H locs hi4 hS5 => ?_)
  exact x_iret M hr hf hS5 hi4 dX7_append_8

/-! X6_size -/
theorem flX6_size_15 : Cond.fieldLink RX6 15 "NamedMoves$Text" "length" "I" ∈ wsX6_size := by decide +kernel
theorem inX6_size_X6 : ∀ w ∈ u_ws RX6 TX6 2, w ∈ wsX6_size := by decide +kernel
set_option maxHeartbeats 4000000 in
set_option maxRecDepth 100000 in
theorem c_X6_size (l : Launch) {G : GG} {w : Wd} {r : Int} {w' : Wd} (hf : X6_size w = some (r, w')) : Met l yX6_size wsX6_size (rmk 0) (PcG G w [.ref (G.1 17 0)]) (QiG G r w') 0 0 (GA G) := by
  refine met_of (own := RX6) (by decide) rfl (Nat.le_of_ble_eq_true rfl) rfl ?_
  intro p e s m args below meth c M hr ls hl0 hS0
  have hl0 : lv_has ls 1 [(0, .ref (G.1 17 0))] := hl0
  unfold X6_size at hf
  refine x_aload_n M hl0 dX6_size_0 0 rfl ?_
  refine x_get (c0 := 17) (t0 := 0) (v := iV (w 17 0 0)) M hS0 (by decide) (ref := "NamedMoves$Text") inX6_size_X6 (sE_17 G _ _) rfl 1 (by decide) (M.2.2.2.2.1 _ flX6_size_15) rfl rfl dX6_size_1 ?_
  exact x_iret M hr hf hS0 (hS0.inr _ _ _) dX6_size_4

/-! X6_empty -/
theorem flX6_empty_15 : Cond.fieldLink RX6 15 "NamedMoves$Text" "length" "I" ∈ wsX6_empty := by decide +kernel
theorem inX6_empty_X6 : ∀ w ∈ u_ws RX6 TX6 2, w ∈ wsX6_empty := by decide +kernel
set_option maxHeartbeats 4000000 in
set_option maxRecDepth 100000 in
theorem c_X6_empty (l : Launch) {G : GG} {w : Wd} {r : Int} {w' : Wd} (hf : X6_empty w = some (r, w')) : Met l yX6_empty wsX6_empty (rmk 0) (PcG G w [.ref (G.1 17 0)]) (QvG G w') 0 0 (GA G) := by
  refine met_of (own := RX6) (by decide) rfl (Nat.le_of_ble_eq_true rfl) rfl ?_
  intro p e s m args below meth c M hr ls hl0 hS0
  have hl0 : lv_has ls 1 [(0, .ref (G.1 17 0))] := hl0
  unfold X6_empty at hf
  refine x_aload_n M hl0 dX6_empty_0 0 rfl ?_
  refine x_iconst M dX6_empty_1 ?_
  refine x_put (c0 := 17) (t0 := 0) M hS0 (by decide) (ref := "NamedMoves$Text") inX6_empty_X6 tyX6 tyX6_ok nmX6 (sE_17 G _ _) rfl 1 (by decide) (M.2.2.2.2.1 _ flX6_empty_15) rfl rfl (ty := tyX6 1) ⟨by decide, by decide⟩ (tyX6_ok 1 (by decide)) rfl rfl (by simp) 0 (pset_17_0 G _ _ _) dX6_empty_2 (fun H locs hS1 => ?_)
  exact x_vret M hr hf hS1 dX6_empty_5

/-! X7_clearText -/
theorem flX7_clearText_36 : Cond.fieldLink RX7 36 "NamedMoves" "text" "LNamedMoves$Text;" ∈ wsX7_clearText := by decide +kernel
theorem inX7_clearText_X7 : ∀ w ∈ u_ws RX7 TX7 6, w ∈ wsX7_clearText := by decide +kernel
set_option maxHeartbeats 4000000 in
set_option maxRecDepth 100000 in
theorem c_X7_clearText (l : Launch) {G : GG} {w : Wd} {r : Int} {w' : Wd} (hf : X7_clearText w = some (r, w')) : Met l yX7_clearText wsX7_clearText (rmk 1) (PcG G w [.ref (G.1 10 0)]) (QiG G r w') 0 0 (GA G) := by
  refine met_of (own := RX7) (by decide) rfl (Nat.le_of_ble_eq_true rfl) rfl ?_
  intro p e s m args below meth c M hr ls hl0 hS0
  have hl0 : lv_has ls 2 [(0, .ref (G.1 10 0))] := hl0
  unfold X7_clearText at hf
  refine x_aload_n M hl0 dX7_clearText_0 0 rfl ?_
  refine x_get (c0 := 10) (t0 := 0) (v := .ref (G.1 17 0)) M hS0 (by decide) (ref := "NamedMoves") inX7_clearText_X7 (sE_10 G _ _) rfl 4 (by decide) (M.2.2.2.2.1 _ flX7_clearText_36) rfl rfl dX7_clearText_1 ?_
  obtain ⟨r1, w2, hc3, hf⟩ := bdt hf
  refine x_callVi (c0 := 17) (t0 := 0) (As := []) (rest := []) M hl0 hS0 (c_X6_size l   hc3) (cwV 0 M.2.2.2.2.1 gX7_clearText_X6_size rfl rfl rfl (by decide +kernel) ⟨Nat.le_of_ble_eq_true rfl, Nat.le_of_ble_eq_true rfl⟩) (by decide) (sE_17 G _ _) rfl rfl (Nat.le_of_ble_eq_true rfl) dX7_clearText_4 rfl ⟨Nat.zero_le _, Nat.zero_le _⟩ (fun H locs hi4 hS5 => ?_)
  refine x_istore_n M hl0 dX7_clearText_7 (by decide) [(1, iV r1), (0, .ref (G.1 10 0))] rfl (fun ls hl6 => ?_)
  refine x_aload_n M hl6 dX7_clearText_8 1 rfl ?_
  refine x_get (c0 := 10) (t0 := 0) (v := .ref (G.1 17 0)) M hS5 (by decide) (ref := "NamedMoves") inX7_clearText_X7 (sE_10 G _ _) rfl 4 (by decide) (M.2.2.2.2.1 _ flX7_clearText_36) rfl rfl dX7_clearText_9 ?_
  obtain ⟨r7, w8, hc9, hf⟩ := bdt hf
  refine x_callVv (c0 := 17) (t0 := 0) (As := []) (rest := []) M hl6 hS5 (c_X6_empty l   hc9) (cwV 0 M.2.2.2.2.1 gX7_clearText_X6_empty rfl rfl rfl (by decide +kernel) ⟨Nat.le_of_ble_eq_true rfl, Nat.le_of_ble_eq_true rfl⟩) (by decide) (sE_17 G _ _) rfl rfl (Nat.le_of_ble_eq_true rfl) dX7_clearText_12 rfl ⟨Nat.zero_le _, Nat.zero_le _⟩ (fun H locs hS11 => ?_)
  refine x_iload_n M hl6 dX7_clearText_15 0 rfl ?_
  exact x_iret M hr hf hS11 hi4 dX7_clearText_16

/-! X6_at -/
theorem flX6_at_15 : Cond.fieldLink RX6 15 "NamedMoves$Text" "length" "I" ∈ wsX6_at := by decide +kernel
theorem flX6_at_9 : Cond.fieldLink RX6 9 "NamedMoves$Text" "characters" "[I" ∈ wsX6_at := by decide +kernel
theorem inX6_at_X6 : ∀ w ∈ u_ws RX6 TX6 2, w ∈ wsX6_at := by decide +kernel
set_option maxHeartbeats 4000000 in
set_option maxRecDepth 100000 in
theorem c_X6_at (l : Launch) {G : GG} {x1 : Int} (hx1 : InR x1) {w : Wd} {r : Int} {w' : Wd} (hf : X6_at x1 w = some (r, w')) : Met l yX6_at wsX6_at (rmk 0) (PcG G w [.ref (G.1 17 0), iV x1]) (QiG G r w') 0 0 (GA G) := by
  refine met_of (own := RX6) (by decide) rfl (Nat.le_of_ble_eq_true rfl) rfl ?_
  intro p e s m args below meth c M hr ls hl0 hS0
  have hl0 : lv_has ls 3 [(0, .ref (G.1 17 0)), (1, iV x1)] := hl0
  unfold X6_at at hf
  refine x_iload_n M hl0 dX6_at_0 1 rfl ?_
  refine x_if_lt (tgt := 22) M hx1 dX6_at_1 (by decide) (fun hc => ?_) (fun hc => ?_)
  · have hf := ift hf hc
    refine x_iconst M dX6_at_22 ?_
    refine x_istore_n M hl0 dX6_at_23 (by decide) [(2, iV 0), (0, .ref (G.1 17 0)), (1, iV x1)] rfl (fun ls hl1 => ?_)
    refine x_iload_n M hl1 dX6_at_24 0 rfl ?_
    refine x_if_eq (tgt := 37) M ⟨by decide, by decide⟩ dX6_at_25 (by decide) (fun hc => ?_) (fun hc => ?_)
    · refine x_iconst M dX6_at_37 ?_
      exact x_iret M hr hf hS0 ⟨by decide, by decide⟩ dX6_at_38
    · exact absurd hc (by decide)
  · have hf := iff_ hf hc
    refine x_iload_n M hl0 dX6_at_4 1 rfl ?_
    refine x_aload_n M hl0 dX6_at_5 0 rfl ?_
    refine x_get (c0 := 17) (t0 := 0) (v := iV (w 17 0 0)) M hS0 (by decide) (ref := "NamedMoves$Text") inX6_at_X6 (sE_17 G _ _) rfl 1 (by decide) (M.2.2.2.2.1 _ flX6_at_15) rfl rfl dX6_at_6 ?_
    refine x_icmp_ge (tgt := 22) M hx1 (hS0.inr _ _ _) dX6_at_9 (by decide) (fun hc => ?_) (fun hc => ?_)
    · have hf := iff_ hf (Int.not_lt.mpr hc)
      refine x_iconst M dX6_at_22 ?_
      refine x_istore_n M hl0 dX6_at_23 (by decide) [(2, iV 0), (0, .ref (G.1 17 0)), (1, iV x1)] rfl (fun ls hl2 => ?_)
      refine x_iload_n M hl2 dX6_at_24 0 rfl ?_
      refine x_if_eq (tgt := 37) M ⟨by decide, by decide⟩ dX6_at_25 (by decide) (fun hc => ?_) (fun hc => ?_)
      · refine x_iconst M dX6_at_37 ?_
        exact x_iret M hr hf hS0 ⟨by decide, by decide⟩ dX6_at_38
      · exact absurd hc (by decide)
    · have hf := ift hf (Int.not_le.mp hc)
      refine x_iload_n M hl0 dX6_at_12 1 rfl ?_
      refine x_bipush M dX6_at_13 rfl ?_
      refine x_icmp_ge (tgt := 22) M hx1 ⟨by decide, by decide⟩ dX6_at_15 (by decide) (fun hc => ?_) (fun hc => ?_)
      · have hf := iff_ hf (Int.not_lt.mpr hc)
        refine x_iconst M dX6_at_22 ?_
        refine x_istore_n M hl0 dX6_at_23 (by decide) [(2, iV 0), (0, .ref (G.1 17 0)), (1, iV x1)] rfl (fun ls hl3 => ?_)
        refine x_iload_n M hl3 dX6_at_24 0 rfl ?_
        refine x_if_eq (tgt := 37) M ⟨by decide, by decide⟩ dX6_at_25 (by decide) (fun hc => ?_) (fun hc => ?_)
        · refine x_iconst M dX6_at_37 ?_
          exact x_iret M hr hf hS0 ⟨by decide, by decide⟩ dX6_at_38
        · exact absurd hc (by decide)
      · have hf := ift hf (Int.not_le.mp hc)
        refine x_iconst M dX6_at_18 ?_
        refine x_goto (tgt := 23) M dX6_at_19 (by decide) ?_
        refine x_istore_n M hl0 dX6_at_23 (by decide) [(2, iV 1), (0, .ref (G.1 17 0)), (1, iV x1)] rfl (fun ls hl4 => ?_)
        refine x_iload_n M hl4 dX6_at_24 0 rfl ?_
        refine x_if_eq (tgt := 37) M ⟨by decide, by decide⟩ dX6_at_25 (by decide) (fun hc => ?_) (fun hc => ?_)
        · exact absurd hc (by decide)
        · refine x_aload_n M hl4 dX6_at_28 1 rfl ?_
          refine x_get (c0 := 17) (t0 := 0) (v := .ref (G.1 18 0)) M hS0 (by decide) (ref := "NamedMoves$Text") inX6_at_X6 (sE_17 G _ _) rfl 0 (by decide) (M.2.2.2.2.1 _ flX6_at_9) rfl rfl dX6_at_29 ?_
          refine x_iload_n M hl4 dX6_at_32 2 rfl ?_
          obtain ⟨g5, hf⟩ := gdt hf
          refine x_iald (c0 := 18) (t0 := 0) M hS0 (by decide) (hs_18 G _) rfl g5 (by decide) dX6_at_33 ?_
          refine x_goto (tgt := 38) M dX6_at_34 (by decide) ?_
          exact x_iret M hr hf hS0 (hS0.inr _ _ _) dX6_at_38

/-! X1_numbersDue -/
theorem flX1_numbersDue_25 : Cond.fieldLink RX1 25 "NamedMoves$Errand" "letter" "I" ∈ wsX1_numbersDue := by decide +kernel
theorem inX1_numbersDue_X1 : ∀ w ∈ u_ws RX1 TX1 3, w ∈ wsX1_numbersDue := by decide +kernel
set_option maxHeartbeats 4000000 in
set_option maxRecDepth 100000 in
theorem c_X1_numbersDue (l : Launch) {G : GG} {w : Wd} {r : Int} {w' : Wd} (hf : X1_numbersDue w = some (r, w')) : Met l yX1_numbersDue wsX1_numbersDue (rmk 0) (PcG G w [.ref (G.1 19 0)]) (QiG G r w') 0 0 (GA G) := by
  refine met_of (own := RX1) (by decide) rfl (Nat.le_of_ble_eq_true rfl) rfl ?_
  intro p e s m args below meth c M hr ls hl0 hS0
  have hl0 : lv_has ls 1 [(0, .ref (G.1 19 0))] := hl0
  unfold X1_numbersDue at hf
  refine x_aload_n M hl0 dX1_numbersDue_0 0 rfl ?_
  refine x_get (c0 := 19) (t0 := 0) (v := iV (w 19 0 0)) M hS0 (by decide) (ref := "NamedMoves$Errand") inX1_numbersDue_X1 (sE_19 G _ _) rfl 1 (by decide) (M.2.2.2.2.1 _ flX1_numbersDue_25) rfl rfl dX1_numbersDue_1 ?_
  by_cases hq98 : w 19 0 0 = 98
  · have hf := ift hf hq98
    refine x_table (tgt := 92) M (hS0.inr _ _ _) dX1_numbersDue_4 (by decide) (by rw [hq98]; decide) ?_
    refine x_iconst M dX1_numbersDue_92 ?_
    exact x_iret M hr hf hS0 ⟨by decide, by decide⟩ dX1_numbersDue_93
  have hf := iff_ hf hq98
  by_cases hq100 : w 19 0 0 = 100
  · have hf := ift hf hq100
    refine x_table (tgt := 94) M (hS0.inr _ _ _) dX1_numbersDue_4 (by decide) (by rw [hq100]; decide) ?_
    refine x_iconst M dX1_numbersDue_94 ?_
    exact x_iret M hr hf hS0 ⟨by decide, by decide⟩ dX1_numbersDue_95
  have hf := iff_ hf hq100
  by_cases hq102 : w 19 0 0 = 102
  · have hf := ift hf hq102
    refine x_table (tgt := 98) M (hS0.inr _ _ _) dX1_numbersDue_4 (by decide) (by rw [hq102]; decide) ?_
    refine x_iconst M dX1_numbersDue_98 ?_
    exact x_iret M hr hf hS0 ⟨by decide, by decide⟩ dX1_numbersDue_99
  have hf := iff_ hf hq102
  by_cases hq108 : w 19 0 0 = 108
  · have hf := ift hf hq108
    refine x_table (tgt := 98) M (hS0.inr _ _ _) dX1_numbersDue_4 (by decide) (by rw [hq108]; decide) ?_
    refine x_iconst M dX1_numbersDue_98 ?_
    exact x_iret M hr hf hS0 ⟨by decide, by decide⟩ dX1_numbersDue_99
  have hf := iff_ hf hq108
  by_cases hq109 : w 19 0 0 = 109
  · have hf := ift hf hq109
    refine x_table (tgt := 96) M (hS0.inr _ _ _) dX1_numbersDue_4 (by decide) (by rw [hq109]; decide) ?_
    refine x_iconst M dX1_numbersDue_96 ?_
    exact x_iret M hr hf hS0 ⟨by decide, by decide⟩ dX1_numbersDue_97
  have hf := iff_ hf hq109
  by_cases hq115 : w 19 0 0 = 115
  · have hf := ift hf hq115
    refine x_table (tgt := 94) M (hS0.inr _ _ _) dX1_numbersDue_4 (by decide) (by rw [hq115]; decide) ?_
    refine x_iconst M dX1_numbersDue_94 ?_
    exact x_iret M hr hf hS0 ⟨by decide, by decide⟩ dX1_numbersDue_95
  have hf := iff_ hf hq115
  have hz : w 19 0 0 < 98 ∨ 115 < w 19 0 0 ∨ w 19 0 0 = 99 ∨ w 19 0 0 = 101 ∨ w 19 0 0 = 103 ∨ w 19 0 0 = 104 ∨ w 19 0 0 = 105 ∨ w 19 0 0 = 106 ∨ w 19 0 0 = 107 ∨ w 19 0 0 = 110 ∨ w 19 0 0 = 111 ∨ w 19 0 0 = 112 ∨ w 19 0 0 = 113 ∨ w 19 0 0 = 114 := by omega
  refine x_table (tgt := 100) M (hS0.inr _ _ _) dX1_numbersDue_4 (by decide) (by rcases hz with hz | hz | hz | hz | hz | hz | hz | hz | hz | hz | hz | hz | hz | hz <;> first | (rw [hz]; decide) | (unfold tsel; rw [if_pos (by omega)]; decide)) ?_
  refine x_iconst M dX1_numbersDue_100 ?_
  exact x_iret M hr hf hS0 ⟨by decide, by decide⟩ dX1_numbersDue_101

/-! X1_passes -/
theorem flX1_passes_15 : Cond.fieldLink RX1 15 "NamedMoves$Errand" "place" "I" ∈ wsX1_passes := by decide +kernel
theorem inX1_passes_X1 : ∀ w ∈ u_ws RX1 TX1 3, w ∈ wsX1_passes := by decide +kernel
set_option maxHeartbeats 4000000 in
set_option maxRecDepth 100000 in
theorem c_X1_passes (l : Launch) {G : GG} {x2 : Int} (hx2 : InR x2) {w : Wd} {r : Int} {w' : Wd} (hf : X1_passes x2 w = some (r, w')) : Met l yX1_passes wsX1_passes (rmk 1) (PcG G w [.ref (G.1 19 0), .ref (G.1 17 0), iV x2]) (QiG G r w') 0 0 (GA G) := by
  refine met_of (own := RX1) (by decide) rfl (Nat.le_of_ble_eq_true rfl) rfl ?_
  intro p e s m args below meth c M hr ls hl0 hS0
  have hl0 : lv_has ls 3 [(0, .ref (G.1 19 0)), (1, .ref (G.1 17 0)), (2, iV x2)] := hl0
  unfold X1_passes at hf
  refine x_aload_n M hl0 dX1_passes_0 1 rfl ?_
  refine x_aload_n M hl0 dX1_passes_1 0 rfl ?_
  refine x_get (c0 := 19) (t0 := 0) (v := iV (w 19 0 1)) M hS0 (by decide) (ref := "NamedMoves$Errand") inX1_passes_X1 (sE_19 G _ _) rfl 2 (by decide) (M.2.2.2.2.1 _ flX1_passes_15) rfl rfl dX1_passes_2 ?_
  obtain ⟨r1, w2, hc3, hf⟩ := bdt hf
  refine x_callVi (c0 := 17) (t0 := 0) (As := [iV (w 19 0 1)]) (rest := []) M hl0 hS0 (c_X6_at l  (hS0.inr _ _ _) hc3) (cwV 1 M.2.2.2.2.1 gX1_passes_X6_at rfl rfl rfl (by decide +kernel) ⟨Nat.le_of_ble_eq_true rfl, Nat.le_of_ble_eq_true rfl⟩) (by decide) (sE_17 G _ _) rfl rfl (Nat.le_of_ble_eq_true rfl) dX1_passes_5 rfl ⟨Nat.zero_le _, Nat.zero_le _⟩ (fun H locs hi4 hS5 => ?_)
  refine x_iload_n M hl0 dX1_passes_8 2 rfl ?_
  refine x_icmp_eq (tgt := 14) M hi4 hx2 dX1_passes_9 (by decide) (fun hc => ?_) (fun hc => ?_)
  · have hf := ift hf hc
    refine x_aload_n M hl0 dX1_passes_14 0 rfl ?_
    refine x_dup M dX1_passes_15 rfl ?_
    refine x_get (c0 := 19) (t0 := 0) (v := iV (w2 19 0 1)) M hS5 (by decide) (ref := "NamedMoves$Errand") inX1_passes_X1 (sE_19 G _ _) rfl 2 (by decide) (M.2.2.2.2.1 _ flX1_passes_15) rfl rfl dX1_passes_16 ?_
    refine x_iconst M dX1_passes_19 ?_
    obtain ⟨g6, hf⟩ := gdt hf
    refine x_iadd M dX1_passes_20 ?_
    refine x_put (c0 := 19) (t0 := 0) M hS5 (by decide) (ref := "NamedMoves$Errand") inX1_passes_X1 tyX1 tyX1_ok nmX1 (sE_19 G _ _) rfl 2 (by decide) (M.2.2.2.2.1 _ flX1_passes_15) rfl rfl (ty := tyX1 2) g6 (tyX1_ok 2 (by decide)) rfl rfl (by simp) 1 (pset_19_1 G _ _ _) dX1_passes_21 (fun H locs hS7 => ?_)
    refine x_iconst M dX1_passes_24 ?_
    exact x_zret M hr hf hS7 (Or.inr rfl) dX1_passes_25
  · have hf := iff_ hf hc
    refine x_iconst M dX1_passes_12 ?_
    exact x_zret M hr hf hS5 (Or.inl rfl) dX1_passes_13

/-! X6_hasDigitAt -/
set_option maxHeartbeats 4000000 in
set_option maxRecDepth 100000 in
theorem c_X6_hasDigitAt (l : Launch) {G : GG} {x1 : Int} (hx1 : InR x1) {w : Wd} {r : Int} {w' : Wd} (hf : X6_hasDigitAt x1 w = some (r, w')) : Met l yX6_hasDigitAt wsX6_hasDigitAt (rmk 1) (PcG G w [.ref (G.1 17 0), iV x1]) (QiG G r w') 0 0 (GA G) := by
  refine met_of (own := RX6) (by decide) rfl (Nat.le_of_ble_eq_true rfl) rfl ?_
  intro p e s m args below meth c M hr ls hl0 hS0
  have hl0 : lv_has ls 2 [(0, .ref (G.1 17 0)), (1, iV x1)] := hl0
  unfold X6_hasDigitAt at hf
  refine x_aload_n M hl0 dX6_hasDigitAt_0 0 rfl ?_
  refine x_iload_n M hl0 dX6_hasDigitAt_1 1 rfl ?_
  obtain ⟨r1, w2, hc3, hf⟩ := bdt hf
  refine x_callVi (c0 := 17) (t0 := 0) (As := [iV x1]) (rest := []) M hl0 hS0 (c_X6_at l  hx1 hc3) (cwV 1 M.2.2.2.2.1 gX6_hasDigitAt_X6_at rfl rfl rfl (by decide +kernel) ⟨Nat.le_of_ble_eq_true rfl, Nat.le_of_ble_eq_true rfl⟩) (by decide) (sE_17 G _ _) rfl rfl (Nat.le_of_ble_eq_true rfl) dX6_hasDigitAt_2 rfl ⟨Nat.zero_le _, Nat.zero_le _⟩ (fun H locs hi4 hS5 => ?_)
  refine x_bipush M dX6_hasDigitAt_5 rfl ?_
  refine x_icmp_lt (tgt := 24) M hi4 ⟨by decide, by decide⟩ dX6_hasDigitAt_7 (by decide) (fun hc => ?_) (fun hc => ?_)
  · have hf := ift hf hc
    refine x_iconst M dX6_hasDigitAt_24 ?_
    exact x_zret M hr hf hS5 (Or.inl rfl) dX6_hasDigitAt_25
  · have hf := iff_ hf hc
    refine x_aload_n M hl0 dX6_hasDigitAt_10 0 rfl ?_
    refine x_iload_n M hl0 dX6_hasDigitAt_11 1 rfl ?_
    obtain ⟨r6, w7, hc8, hf⟩ := bdt hf
    refine x_callVi (c0 := 17) (t0 := 0) (As := [iV x1]) (rest := []) M hl0 hS5 (c_X6_at l  hx1 hc8) (cwV 1 M.2.2.2.2.1 gX6_hasDigitAt_X6_at rfl rfl rfl (by decide +kernel) ⟨Nat.le_of_ble_eq_true rfl, Nat.le_of_ble_eq_true rfl⟩) (by decide) (sE_17 G _ _) rfl rfl (Nat.le_of_ble_eq_true rfl) dX6_hasDigitAt_12 rfl ⟨Nat.zero_le _, Nat.zero_le _⟩ (fun H locs hi9 hS10 => ?_)
    refine x_bipush M dX6_hasDigitAt_15 rfl ?_
    refine x_icmp_gt (tgt := 24) M hi9 ⟨by decide, by decide⟩ dX6_hasDigitAt_17 (by decide) (fun hc => ?_) (fun hc => ?_)
    · have hf := ift hf hc
      refine x_iconst M dX6_hasDigitAt_24 ?_
      exact x_zret M hr hf hS10 (Or.inl rfl) dX6_hasDigitAt_25
    · have hf := iff_ hf hc
      refine x_iconst M dX6_hasDigitAt_20 ?_
      refine x_goto (tgt := 25) M dX6_hasDigitAt_21 (by decide) ?_
      exact x_zret M hr hf hS10 (Or.inr rfl) dX6_hasDigitAt_25

/-! X1_readNumber -/
theorem flX1_readNumber_15 : Cond.fieldLink RX1 15 "NamedMoves$Errand" "place" "I" ∈ wsX1_readNumber := by decide +kernel
theorem inX1_readNumber_X1 : ∀ w ∈ u_ws RX1 TX1 3, w ∈ wsX1_readNumber := by decide +kernel
set_option maxHeartbeats 4000000 in
set_option maxRecDepth 100000 in
theorem c_X1_readNumber (l : Launch) {G : GG} {w : Wd} {r : Int} {w' : Wd} (hf : X1_readNumber w = some (r, w')) : Met l yX1_readNumber wsX1_readNumber (rmk 2) (PcG G w [.ref (G.1 19 0), .ref (G.1 17 0)]) (QiG G r w') 0 0 (GA G) := by
  refine met_of (own := RX1) (by decide) rfl (Nat.le_of_ble_eq_true rfl) rfl ?_
  intro p e s m args below meth c M hr ls hl0 hS0
  have hl0 : lv_has ls 3 [(0, .ref (G.1 19 0)), (1, .ref (G.1 17 0))] := hl0
  unfold X1_readNumber at hf
  refine x_aload_n M hl0 dX1_readNumber_0 1 rfl ?_
  refine x_aload_n M hl0 dX1_readNumber_1 0 rfl ?_
  refine x_get (c0 := 19) (t0 := 0) (v := iV (w 19 0 1)) M hS0 (by decide) (ref := "NamedMoves$Errand") inX1_readNumber_X1 (sE_19 G _ _) rfl 2 (by decide) (M.2.2.2.2.1 _ flX1_readNumber_15) rfl rfl dX1_readNumber_2 ?_
  obtain ⟨r1, w2, hc3, hf⟩ := bdt hf
  refine x_callVi (c0 := 17) (t0 := 0) (As := [iV (w 19 0 1)]) (rest := []) M hl0 hS0 (c_X6_at l  (hS0.inr _ _ _) hc3) (cwV 1 M.2.2.2.2.1 gX1_readNumber_X6_at rfl rfl rfl (by decide +kernel) ⟨Nat.le_of_ble_eq_true rfl, Nat.le_of_ble_eq_true rfl⟩) (by decide) (sE_17 G _ _) rfl rfl (Nat.le_of_ble_eq_true rfl) dX1_readNumber_5 rfl ⟨Nat.zero_le _, Nat.zero_le _⟩ (fun H locs hi4 hS5 => ?_)
  refine x_bipush M dX1_readNumber_8 rfl ?_
  obtain ⟨g6, hf⟩ := gdt hf
  refine x_isub M dX1_readNumber_10 ?_
  refine x_istore_n M hl0 dX1_readNumber_11 (by decide) [(2, iV (r1 - 48)), (0, .ref (G.1 19 0)), (1, .ref (G.1 17 0))] rfl (fun ls hl7 => ?_)
  refine x_aload_n M hl7 dX1_readNumber_12 1 rfl ?_
  refine x_dup M dX1_readNumber_13 rfl ?_
  refine x_get (c0 := 19) (t0 := 0) (v := iV (w2 19 0 1)) M hS5 (by decide) (ref := "NamedMoves$Errand") inX1_readNumber_X1 (sE_19 G _ _) rfl 2 (by decide) (M.2.2.2.2.1 _ flX1_readNumber_15) rfl rfl dX1_readNumber_14 ?_
  refine x_iconst M dX1_readNumber_17 ?_
  obtain ⟨g8, hf⟩ := gdt hf
  refine x_iadd M dX1_readNumber_18 ?_
  refine x_put (c0 := 19) (t0 := 0) M hS5 (by decide) (ref := "NamedMoves$Errand") inX1_readNumber_X1 tyX1 tyX1_ok nmX1 (sE_19 G _ _) rfl 2 (by decide) (M.2.2.2.2.1 _ flX1_readNumber_15) rfl rfl (ty := tyX1 2) g8 (tyX1_ok 2 (by decide)) rfl rfl (by simp) 1 (pset_19_1 G _ _ _) dX1_readNumber_19 (fun H locs hS9 => ?_)
  refine x_iload_n M hl7 dX1_readNumber_22 0 rfl ?_
  refine x_if_le (tgt := 64) M g6 dX1_readNumber_23 (by decide) (fun hc => ?_) (fun hc => ?_)
  · have hf := iff_ hf (Int.not_lt.mpr hc)
    refine x_iload_n M hl7 dX1_readNumber_64 0 rfl ?_
    exact x_iret M hr hf hS9 g6 dX1_readNumber_65
  · have hf := ift hf (Int.not_le.mp hc)
    refine x_aload_n M hl7 dX1_readNumber_26 2 rfl ?_
    refine x_aload_n M hl7 dX1_readNumber_27 1 rfl ?_
    refine x_get (c0 := 19) (t0 := 0) (v := iV ((up w2 19 0 1 ((w2 19 0 1) + 1)) 19 0 1)) M hS9 (by decide) (ref := "NamedMoves$Errand") inX1_readNumber_X1 (sE_19 G _ _) rfl 2 (by decide) (M.2.2.2.2.1 _ flX1_readNumber_15) rfl rfl dX1_readNumber_28 ?_
    obtain ⟨r10, w11, hc12, hf⟩ := bdt hf
    refine x_callVi (c0 := 17) (t0 := 0) (As := [iV ((up w2 19 0 1 ((w2 19 0 1) + 1)) 19 0 1)]) (rest := []) M hl7 hS9 (c_X6_hasDigitAt l  (hS9.inr _ _ _) hc12) (cwV 1 M.2.2.2.2.1 gX1_readNumber_X6_hasDigitAt rfl rfl rfl (by decide +kernel) ⟨Nat.le_of_ble_eq_true rfl, Nat.le_of_ble_eq_true rfl⟩) (by decide) (sE_17 G _ _) rfl rfl (Nat.le_of_ble_eq_true rfl) dX1_readNumber_31 rfl ⟨Nat.zero_le _, Nat.zero_le _⟩ (fun H locs hi13 hS14 => ?_)
    refine x_if_eq (tgt := 64) M hi13 dX1_readNumber_34 (by decide) (fun hc => ?_) (fun hc => ?_)
    · have hf := ift hf hc
      refine x_iload_n M hl7 dX1_readNumber_64 0 rfl ?_
      exact x_iret M hr hf hS14 g6 dX1_readNumber_65
    · have hf := iff_ hf hc
      refine x_iload_n M hl7 dX1_readNumber_37 0 rfl ?_
      refine x_bipush M dX1_readNumber_38 rfl ?_
      obtain ⟨g15, hf⟩ := gdt hf
      refine x_imul M dX1_readNumber_40 ?_
      refine x_aload_n M hl7 dX1_readNumber_41 2 rfl ?_
      refine x_aload_n M hl7 dX1_readNumber_42 1 rfl ?_
      refine x_get (c0 := 19) (t0 := 0) (v := iV (w11 19 0 1)) M hS14 (by decide) (ref := "NamedMoves$Errand") inX1_readNumber_X1 (sE_19 G _ _) rfl 2 (by decide) (M.2.2.2.2.1 _ flX1_readNumber_15) rfl rfl dX1_readNumber_43 ?_
      obtain ⟨r16, w17, hc18, hf⟩ := bdt hf
      refine x_callVi (c0 := 17) (t0 := 0) (As := [iV (w11 19 0 1)]) (rest := [iV ((r1 - 48) * 10)]) M hl7 hS14 (c_X6_at l  (hS14.inr _ _ _) hc18) (cwV 1 M.2.2.2.2.1 gX1_readNumber_X6_at rfl rfl rfl (by decide +kernel) ⟨Nat.le_of_ble_eq_true rfl, Nat.le_of_ble_eq_true rfl⟩) (by decide) (sE_17 G _ _) rfl rfl (Nat.le_of_ble_eq_true rfl) dX1_readNumber_46 rfl ⟨Nat.zero_le _, Nat.zero_le _⟩ (fun H locs hi19 hS20 => ?_)
      obtain ⟨g21, hf⟩ := gdt hf
      refine x_iadd M dX1_readNumber_49 ?_
      refine x_bipush M dX1_readNumber_50 rfl ?_
      obtain ⟨g22, hf⟩ := gdt hf
      refine x_isub M dX1_readNumber_52 ?_
      refine x_istore_n M hl7 dX1_readNumber_53 (by decide) [(2, iV ((((r1 - 48) * 10) + r16) - 48)), (0, .ref (G.1 19 0)), (1, .ref (G.1 17 0))] rfl (fun ls hl23 => ?_)
      refine x_aload_n M hl23 dX1_readNumber_54 1 rfl ?_
      refine x_dup M dX1_readNumber_55 rfl ?_
      refine x_get (c0 := 19) (t0 := 0) (v := iV (w17 19 0 1)) M hS20 (by decide) (ref := "NamedMoves$Errand") inX1_readNumber_X1 (sE_19 G _ _) rfl 2 (by decide) (M.2.2.2.2.1 _ flX1_readNumber_15) rfl rfl dX1_readNumber_56 ?_
      refine x_iconst M dX1_readNumber_59 ?_
      obtain ⟨g24, hf⟩ := gdt hf
      refine x_iadd M dX1_readNumber_60 ?_
      refine x_put (c0 := 19) (t0 := 0) M hS20 (by decide) (ref := "NamedMoves$Errand") inX1_readNumber_X1 tyX1 tyX1_ok nmX1 (sE_19 G _ _) rfl 2 (by decide) (M.2.2.2.2.1 _ flX1_readNumber_15) rfl rfl (ty := tyX1 2) g24 (tyX1_ok 2 (by decide)) rfl rfl (by simp) 1 (pset_19_1 G _ _ _) dX1_readNumber_61 (fun H locs hS25 => ?_)
      refine x_iload_n M hl23 dX1_readNumber_64 0 rfl ?_
      exact x_iret M hr hf hS25 g22 dX1_readNumber_65

end
