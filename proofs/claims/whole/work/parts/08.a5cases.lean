/-! THE LAW: its cases -/
section CASES
variable {p : Program} {l : Launch} {e : Env} {s : State} {m : MethodId} {below : List Frame} {meth : Method} {c : Code} {H : Heap} {locs : List Loc} {Q : State → Prop} {G : GG} {w : Wd} {B : Int} {b L i : Nat} {xs : Nat → Int32} {ls : Array Slot}
theorem arg_e (hi : i + 4 ≤ L) (hL : L ≤ 2048) {j : Nat} (hj : j < 4) : vp_in (Int32.ofInt (i : Int) + Int32.ofInt (j : Int)) L := by
  rw [← Int32.ofInt_add]
  exact o_in ⟨by omega, by omega⟩ (by omega)
set_option maxHeartbeats 4000000 in
theorem case_setHeavy (M : MC p s m #[Value.ref b] meth c code 4 R_law wsL_law G) (hl : lv_has ls 4 [(3, iV i), (2, .ref (G.1 21 0)), (1, .ref (G.1 10 0)), (0, .ref b)]) (hS : ST G s w H locs) (hG : GR B w) (hB : 0 ≤ B ∧ B ≤ 999000) (hX : va_X b L xs s s.heap) (hbl : b < s.heap.size) (hbA : ¬ GA G b) (hi : i + 4 ≤ L) (hL : L ≤ 2048)
    (kk : ∀ (w' : Wd) (H' : Heap) (locs' : List Loc), ST G s w' H' locs' → GR (B + 80) w' → W p l e room_1 s m #[Value.ref b] below meth c H' locs' 600000 7302250 Q (F0 m 615 ls [])) : W p l e room_1 s m #[Value.ref b] below meth c H locs 600000 7302250 Q (F0 m 132 ls []) := by
  obtain ⟨r, w2, w3, f1, f2, hri, hG3⟩ := z_setHeavy hG hB (xs (Int32.ofInt (i : Int) + Int32.ofInt ((1 : Nat) : Int)).toNatClampNeg).toInt
  refine lv_aload_n M.1 M.2.1 dL_law_132 rfl (lv_at hl 2 rfl) ?_
  refine lv_aload_n M.1 M.2.1 dL_law_133 rfl (lv_at hl 3 rfl) ?_
  refine lv_iload_n M.1 M.2.1 dL_law_134 rfl (lv_at hl 0 rfl) ?_
  refine lv_iconst (v := 1) M.1 M.2.1 dL_law_135 (by decide) ?_
  refine lv_iadd M.1 M.2.1 dL_law_136 ?_
  refine va_sld M.1 M.2.1 hX hbl hbA hS.2 (arg_e (j := 1) hi hL (by decide)) dL_law_137 ?_
  refine x_callVi (c0 := 10) (t0 := 0) (As := [iV (xs (Int32.ofInt (i : Int) + Int32.ofInt ((1 : Nat) : Int)).toNatClampNeg).toInt]) (rest := []) M hl hS (c_X7_setHeavy l (o_inr _) f1) (cwV 1 M.2.2.2.2.1 gL_law_X7_setHeavy rfl rfl rfl (by decide +kernel) ⟨Nat.le_of_ble_eq_true rfl, Nat.le_of_ble_eq_true rfl⟩) (by decide) (sE_10 G _ _) rfl rfl (Nat.le_of_ble_eq_true rfl) dL_law_138 (by simp [o_of]) ⟨Nat.le_of_ble_eq_true rfl, Nat.le_of_ble_eq_true rfl⟩ (fun H locs _ hS => ?_)
  refine lv_aload_n M.1 M.2.1 dL_law_141 rfl (lv_at hl 1 rfl) ?_
  refine lv_aload_n M.1 M.2.1 dL_law_142 rfl (lv_at hl 3 rfl) ?_
  refine lv_iload_n M.1 M.2.1 dL_law_143 rfl (lv_at hl 0 rfl) ?_
  refine lv_iconst (v := 1) M.1 M.2.1 dL_law_144 (by decide) ?_
  refine lv_iadd M.1 M.2.1 dL_law_145 ?_
  refine va_sld M.1 M.2.1 hX hbl hbA hS.2 (arg_e (j := 1) hi hL (by decide)) dL_law_146 ?_
  refine x_callVi (c0 := 21) (t0 := 0) (As := [iV (xs (Int32.ofInt (i : Int) + Int32.ofInt ((1 : Nat) : Int)).toNatClampNeg).toInt]) (rest := [iV r]) M hl hS (c_X8_setHeavy l (o_inr _) f2) (cwV 1 M.2.2.2.2.1 gL_law_X8_setHeavy rfl rfl rfl (by decide +kernel) ⟨Nat.le_of_ble_eq_true rfl, Nat.le_of_ble_eq_true rfl⟩) (by decide) (sE_21 G _ _) rfl rfl (Nat.le_of_ble_eq_true rfl) dL_law_147 (by simp [o_of]) ⟨Nat.le_of_ble_eq_true rfl, Nat.le_of_ble_eq_true rfl⟩ (fun H locs _ hS => ?_)
  exact lv_icmp_eq (tgt := 615) M.1 M.2.1 dL_law_150 (by decide) (fun _ => kk w3 H locs hS hG3) (fun h => absurd rfl h)
end CASES
