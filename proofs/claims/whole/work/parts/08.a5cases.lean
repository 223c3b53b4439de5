/-! THE LAW: its cases -/
section CASES
variable {p : Program} {l : Launch} {e : Env} {s : State} {m : MethodId} {below : List Frame} {meth : Method} {c : Code} {H : Heap} {locs : List Loc} {Q : State → Prop} {G : GG} {w : Wd} {B : Int} {b L i : Nat} {xs : Nat → Int32} {ls : Array Slot}
theorem arg_e (hi : i + 4 ≤ L) (hL : L ≤ 2048) {j : Nat} (hj : j < 4) : vp_in (Int32.ofInt (i : Int) + Int32.ofInt (j : Int)) L := by
  rw [← Int32.ofInt_add]
  exact o_in ⟨by omega, by omega⟩ (by omega)
set_option maxHeartbeats 4000000 in
theorem case_setHeavy (M : MC p s m #[Value.ref b] meth c code 4 R_law wsL_law G) (hl : lv_has ls 4 [(3, iV i), (2, .ref (G.1 21 0)), (1, .ref (G.1 10 0)), (0, .ref b)]) (hS : ST G s w H locs) (hG : GR B w) (hB : 0 ≤ B ∧ B ≤ 999000) (hX : va_X b L xs s s.heap) (hbl : b < s.heap.size) (hbA : ¬ GA G b) (hi : i + 4 ≤ L) (hL : L ≤ 2048)
    (kk : ∀ (w' : Wd) (H' : Heap) (locs' : List Loc), ST G s w' H' locs' → GR (B + 80) w' → W p l e room_1 s m #[Value.ref b] below meth c H' locs' 600000 7302250 Q (F0 m 615 ls [])) : W p l e room_1 s m #[Value.ref b] below meth c H locs 600000 7302250 Q (F0 m 132 ls []) := by
  obtain ⟨r, w2, w3, f1, f2, hri, hG3⟩ := z_setHeavy hG hB (xs (Int32.ofInt (i : Int) + Int32.ofInt ((1 : Nat) : Int)).toNatClampNeg).toInt
  refine lv_aload_n M.1 M.2.1 dL_law_132 rfl (lv_at hl 2 rfl) ?_
  refine lv_aload_n M.1 M.2.1 dL_law_133 rfl (lv_at hl 3 rfl) ?_
  refine lv_iload_n M.1 M.2.1 dL_law_134 rfl (lv_at hl 0 rfl) ?_
  refine lv_iconst (v := 1) M.1 M.2.1 dL_law_135 (by decide) ?_
  refine lv_iadd M.1 M.2.1 dL_law_136 ?_
  refine va_sld M.1 M.2.1 hX hbl hbA hS.2 (arg_e (j := 1) hi hL (by decide)) dL_law_137 ?_
  refine x_callVi (c0 := 10) (t0 := 0) (As := [iV (xs (Int32.ofInt (i : Int) + Int32.ofInt ((1 : Nat) : Int)).toNatClampNeg).toInt]) (rest := []) M hl hS (c_X7_setHeavy l (o_inr _) f1) (cwV 1 M.2.2.2.2.1 gL_law_X7_setHeavy rfl rfl rfl (by decide +kernel) ⟨Nat.le_of_ble_eq_true rfl, Nat.le_of_ble_eq_true rfl⟩) (by decide) (sE_10 G _ _) rfl rfl (Nat.le_of_ble_eq_true rfl) dL_law_138 (by simp [o_of]) ⟨Nat.le_of_ble_eq_true rfl, Nat.le_of_ble_eq_true rfl⟩ (fun H locs _ hS => ?_)
  refine lv_aload_n M.1 M.2.1 dL_law_141 rfl (lv_at hl 1 rfl) ?_
  refine lv_aload_n M.1 M.2.1 dL_law_142 rfl (lv_at hl 3 rfl) ?_
  refine lv_iload_n M.1 M.2.1 dL_law_143 rfl (lv_at hl 0 rfl) ?_
  refine lv_iconst (v := 1) M.1 M.2.1 dL_law_144 (by decide) ?_
  refine lv_iadd M.1 M.2.1 dL_law_145 ?_
  refine va_sld M.1 M.2.1 hX hbl hbA hS.2 (arg_e (j := 1) hi hL (by decide)) dL_law_146 ?_
  refine x_callVi (c0 := 21) (t0 := 0) (As := [iV (xs (Int32.ofInt (i : Int) + Int32.ofInt ((1 : Nat) : Int)).toNatClampNeg).toInt]) (rest := [iV r]) M hl hS (c_X8_setHeavy l (o_inr _) f2) (cwV 1 M.2.2.2.2.1 gL_law_X8_setHeavy rfl rfl rfl (by decide +kernel) ⟨Nat.le_of_ble_eq_true rfl, Nat.le_of_ble_eq_true rfl⟩) (by decide) (sE_21 G _ _) rfl rfl (Nat.le_of_ble_eq_true rfl) dL_law_147 (by simp [o_of]) ⟨Nat.le_of_ble_eq_true rfl, Nat.le_of_ble_eq_true rfl⟩ (fun H locs _ hS => ?_)
  exact lv_icmp_eq (tgt := 615) M.1 M.2.1 dL_law_150 (by decide) (fun _ => kk w3 H locs hS hG3) (fun h => absurd rfl h)
set_option maxHeartbeats 4000000 in
theorem case_make (M : MC p s m #[Value.ref b] meth c code 4 R_law wsL_law G) (hl : lv_has ls 4 [(3, iV i), (2, .ref (G.1 21 0)), (1, .ref (G.1 10 0)), (0, .ref b)]) (hS : ST G s w H locs) (hG : GR B w) (hB : 0 ≤ B ∧ B ≤ 999000) (hX : va_X b L xs s s.heap) (hbl : b < s.heap.size) (hbA : ¬ GA G b) (hi : i + 4 ≤ L) (hL : L ≤ 2048)
    (kk : ∀ (w' : Wd) (H' : Heap) (locs' : List Loc), ST G s w' H' locs' → GR (B + 80) w' → W p l e room_1 s m #[Value.ref b] below meth c H' locs' 600000 7302250 Q (F0 m 615 ls [])) : W p l e room_1 s m #[Value.ref b] below meth c H locs 600000 7302250 Q (F0 m 155 ls []) := by
  obtain ⟨r, w2, w3, f1, f2, hri, hG3⟩ := z_make hG hB (xs (Int32.ofInt (i : Int) + Int32.ofInt ((1 : Nat) : Int)).toNatClampNeg).toInt (xs (Int32.ofInt (i : Int) + Int32.ofInt ((2 : Nat) : Int)).toNatClampNeg).toInt
  refine lv_aload_n M.1 M.2.1 dL_law_155 rfl (lv_at hl 2 rfl) ?_
  refine lv_aload_n M.1 M.2.1 dL_law_156 rfl (lv_at hl 3 rfl) ?_
  refine lv_iload_n M.1 M.2.1 dL_law_157 rfl (lv_at hl 0 rfl) ?_
  refine lv_iconst (v := 1) M.1 M.2.1 dL_law_158 (by decide) ?_
  refine lv_iadd M.1 M.2.1 dL_law_159 ?_
  refine va_sld M.1 M.2.1 hX hbl hbA hS.2 (arg_e (j := 1) hi hL (by decide)) dL_law_160 ?_
  refine lv_aload_n M.1 M.2.1 dL_law_161 rfl (lv_at hl 3 rfl) ?_
  refine lv_iload_n M.1 M.2.1 dL_law_162 rfl (lv_at hl 0 rfl) ?_
  refine lv_iconst (v := 2) M.1 M.2.1 dL_law_163 (by decide) ?_
  refine lv_iadd M.1 M.2.1 dL_law_164 ?_
  refine va_sld M.1 M.2.1 hX hbl hbA hS.2 (arg_e (j := 2) hi hL (by decide)) dL_law_165 ?_
  refine x_callVi (c0 := 10) (t0 := 0) (As := [iV (xs (Int32.ofInt (i : Int) + Int32.ofInt ((1 : Nat) : Int)).toNatClampNeg).toInt, iV (xs (Int32.ofInt (i : Int) + Int32.ofInt ((2 : Nat) : Int)).toNatClampNeg).toInt]) (rest := []) M hl hS (c_X7_make l (o_inr _) (o_inr _) f1) (cwV 2 M.2.2.2.2.1 gL_law_X7_make rfl rfl rfl (by decide +kernel) ⟨Nat.le_of_ble_eq_true rfl, Nat.le_of_ble_eq_true rfl⟩) (by decide) (sE_10 G _ _) rfl rfl (Nat.le_of_ble_eq_true rfl) dL_law_166 (by simp [o_of]) ⟨Nat.le_of_ble_eq_true rfl, Nat.le_of_ble_eq_true rfl⟩ (fun H locs _ hS => ?_)
  refine lv_aload_n M.1 M.2.1 dL_law_169 rfl (lv_at hl 1 rfl) ?_
  refine lv_aload_n M.1 M.2.1 dL_law_170 rfl (lv_at hl 3 rfl) ?_
  refine lv_iload_n M.1 M.2.1 dL_law_171 rfl (lv_at hl 0 rfl) ?_
  refine lv_iconst (v := 1) M.1 M.2.1 dL_law_172 (by decide) ?_
  refine lv_iadd M.1 M.2.1 dL_law_173 ?_
  refine va_sld M.1 M.2.1 hX hbl hbA hS.2 (arg_e (j := 1) hi hL (by decide)) dL_law_174 ?_
  refine lv_aload_n M.1 M.2.1 dL_law_175 rfl (lv_at hl 3 rfl) ?_
  refine lv_iload_n M.1 M.2.1 dL_law_176 rfl (lv_at hl 0 rfl) ?_
  refine lv_iconst (v := 2) M.1 M.2.1 dL_law_177 (by decide) ?_
  refine lv_iadd M.1 M.2.1 dL_law_178 ?_
  refine va_sld M.1 M.2.1 hX hbl hbA hS.2 (arg_e (j := 2) hi hL (by decide)) dL_law_179 ?_
  refine x_callVi (c0 := 21) (t0 := 0) (As := [iV (xs (Int32.ofInt (i : Int) + Int32.ofInt ((1 : Nat) : Int)).toNatClampNeg).toInt, iV (xs (Int32.ofInt (i : Int) + Int32.ofInt ((2 : Nat) : Int)).toNatClampNeg).toInt]) (rest := [iV r]) M hl hS (c_X8_make l (o_inr _) (o_inr _) f2) (cwV 2 M.2.2.2.2.1 gL_law_X8_make rfl rfl rfl (by decide +kernel) ⟨Nat.le_of_ble_eq_true rfl, Nat.le_of_ble_eq_true rfl⟩) (by decide) (sE_21 G _ _) rfl rfl (Nat.le_of_ble_eq_true rfl) dL_law_180 (by simp [o_of]) ⟨Nat.le_of_ble_eq_true rfl, Nat.le_of_ble_eq_true rfl⟩ (fun H locs _ hS => ?_)
  exact lv_icmp_eq (tgt := 615) M.1 M.2.1 dL_law_183 (by decide) (fun _ => kk w3 H locs hS hG3) (fun h => absurd rfl h)
set_option maxHeartbeats 4000000 in
theorem case_link (M : MC p s m #[Value.ref b] meth c code 4 R_law wsL_law G) (hl : lv_has ls 4 [(3, iV i), (2, .ref (G.1 21 0)), (1, .ref (G.1 10 0)), (0, .ref b)]) (hS : ST G s w H locs) (hG : GR B w) (hB : 0 ≤ B ∧ B ≤ 999000) (hX : va_X b L xs s s.heap) (hbl : b < s.heap.size) (hbA : ¬ GA G b) (hi : i + 4 ≤ L) (hL : L ≤ 2048)
    (kk : ∀ (w' : Wd) (H' : Heap) (locs' : List Loc), ST G s w' H' locs' → GR (B + 80) w' → W p l e room_1 s m #[Value.ref b] below meth c H' locs' 600000 7302250 Q (F0 m 615 ls [])) : W p l e room_1 s m #[Value.ref b] below meth c H locs 600000 7302250 Q (F0 m 188 ls []) := by
  obtain ⟨r, w2, w3, f1, f2, hri, hG3⟩ := z_link hG hB (xs (Int32.ofInt (i : Int) + Int32.ofInt ((1 : Nat) : Int)).toNatClampNeg).toInt (xs (Int32.ofInt (i : Int) + Int32.ofInt ((2 : Nat) : Int)).toNatClampNeg).toInt (xs (Int32.ofInt (i : Int) + Int32.ofInt ((3 : Nat) : Int)).toNatClampNeg).toInt
  refine lv_aload_n M.1 M.2.1 dL_law_188 rfl (lv_at hl 2 rfl) ?_
  refine lv_aload_n M.1 M.2.1 dL_law_189 rfl (lv_at hl 3 rfl) ?_
  refine lv_iload_n M.1 M.2.1 dL_law_190 rfl (lv_at hl 0 rfl) ?_
  refine lv_iconst (v := 1) M.1 M.2.1 dL_law_191 (by decide) ?_
  refine lv_iadd M.1 M.2.1 dL_law_192 ?_
  refine va_sld M.1 M.2.1 hX hbl hbA hS.2 (arg_e (j := 1) hi hL (by decide)) dL_law_193 ?_
  refine lv_aload_n M.1 M.2.1 dL_law_194 rfl (lv_at hl 3 rfl) ?_
  refine lv_iload_n M.1 M.2.1 dL_law_195 rfl (lv_at hl 0 rfl) ?_
  refine lv_iconst (v := 2) M.1 M.2.1 dL_law_196 (by decide) ?_
  refine lv_iadd M.1 M.2.1 dL_law_197 ?_
  refine va_sld M.1 M.2.1 hX hbl hbA hS.2 (arg_e (j := 2) hi hL (by decide)) dL_law_198 ?_
  refine lv_aload_n M.1 M.2.1 dL_law_199 rfl (lv_at hl 3 rfl) ?_
  refine lv_iload_n M.1 M.2.1 dL_law_200 rfl (lv_at hl 0 rfl) ?_
  refine lv_iconst (v := 3) M.1 M.2.1 dL_law_201 (by decide) ?_
  refine lv_iadd M.1 M.2.1 dL_law_202 ?_
  refine va_sld M.1 M.2.1 hX hbl hbA hS.2 (arg_e (j := 3) hi hL (by decide)) dL_law_203 ?_
  refine x_callVi (c0 := 10) (t0 := 0) (As := [iV (xs (Int32.ofInt (i : Int) + Int32.ofInt ((1 : Nat) : Int)).toNatClampNeg).toInt, iV (xs (Int32.ofInt (i : Int) + Int32.ofInt ((2 : Nat) : Int)).toNatClampNeg).toInt, iV (xs (Int32.ofInt (i : Int) + Int32.ofInt ((3 : Nat) : Int)).toNatClampNeg).toInt]) (rest := []) M hl hS (c_X7_link l (o_inr _) (o_inr _) (o_inr _) f1) (cwV 3 M.2.2.2.2.1 gL_law_X7_link rfl rfl rfl (by decide +kernel) ⟨Nat.le_of_ble_eq_true rfl, Nat.le_of_ble_eq_true rfl⟩) (by decide) (sE_10 G _ _) rfl rfl (Nat.le_of_ble_eq_true rfl) dL_law_204 (by simp [o_of]) ⟨Nat.le_of_ble_eq_true rfl, Nat.le_of_ble_eq_true rfl⟩ (fun H locs _ hS => ?_)
  refine lv_aload_n M.1 M.2.1 dL_law_207 rfl (lv_at hl 1 rfl) ?_
  refine lv_aload_n M.1 M.2.1 dL_law_208 rfl (lv_at hl 3 rfl) ?_
  refine lv_iload_n M.1 M.2.1 dL_law_209 rfl (lv_at hl 0 rfl) ?_
  refine lv_iconst (v := 1) M.1 M.2.1 dL_law_210 (by decide) ?_
  refine lv_iadd M.1 M.2.1 dL_law_211 ?_
  refine va_sld M.1 M.2.1 hX hbl hbA hS.2 (arg_e (j := 1) hi hL (by decide)) dL_law_212 ?_
  refine lv_aload_n M.1 M.2.1 dL_law_213 rfl (lv_at hl 3 rfl) ?_
  refine lv_iload_n M.1 M.2.1 dL_law_214 rfl (lv_at hl 0 rfl) ?_
  refine lv_iconst (v := 2) M.1 M.2.1 dL_law_215 (by decide) ?_
  refine lv_iadd M.1 M.2.1 dL_law_216 ?_
  refine va_sld M.1 M.2.1 hX hbl hbA hS.2 (arg_e (j := 2) hi hL (by decide)) dL_law_217 ?_
  refine lv_aload_n M.1 M.2.1 dL_law_218 rfl (lv_at hl 3 rfl) ?_
  refine lv_iload_n M.1 M.2.1 dL_law_219 rfl (lv_at hl 0 rfl) ?_
  refine lv_iconst (v := 3) M.1 M.2.1 dL_law_220 (by decide) ?_
  refine lv_iadd M.1 M.2.1 dL_law_221 ?_
  refine va_sld M.1 M.2.1 hX hbl hbA hS.2 (arg_e (j := 3) hi hL (by decide)) dL_law_222 ?_
  refine x_callVi (c0 := 21) (t0 := 0) (As := [iV (xs (Int32.ofInt (i : Int) + Int32.ofInt ((1 : Nat) : Int)).toNatClampNeg).toInt, iV (xs (Int32.ofInt (i : Int) + Int32.ofInt ((2 : Nat) : Int)).toNatClampNeg).toInt, iV (xs (Int32.ofInt (i : Int) + Int32.ofInt ((3 : Nat) : Int)).toNatClampNeg).toInt]) (rest := [iV r]) M hl hS (c_X8_link l (o_inr _) (o_inr _) (o_inr _) f2) (cwV 3 M.2.2.2.2.1 gL_law_X8_link rfl rfl rfl (by decide +kernel) ⟨Nat.le_of_ble_eq_true rfl, Nat.le_of_ble_eq_true rfl⟩) (by decide) (sE_21 G _ _) rfl rfl (Nat.le_of_ble_eq_true rfl) dL_law_223 (by simp [o_of]) ⟨Nat.le_of_ble_eq_true rfl, Nat.le_of_ble_eq_true rfl⟩ (fun H locs _ hS => ?_)
  exact lv_icmp_eq (tgt := 615) M.1 M.2.1 dL_law_226 (by decide) (fun _ => kk w3 H locs hS hG3) (fun h => absurd rfl h)
set_option maxHeartbeats 4000000 in
theorem case_follow (M : MC p s m #[Value.ref b] meth c code 4 R_law wsL_law G) (hl : lv_has ls 4 [(3, iV i), (2, .ref (G.1 21 0)), (1, .ref (G.1 10 0)), (0, .ref b)]) (hS : ST G s w H locs) (hG : GR B w) (hB : 0 ≤ B ∧ B ≤ 999000) (hX : va_X b L xs s s.heap) (hbl : b < s.heap.size) (hbA : ¬ GA G b) (hi : i + 4 ≤ L) (hL : L ≤ 2048)
    (kk : ∀ (w' : Wd) (H' : Heap) (locs' : List Loc), ST G s w' H' locs' → GR (B + 80) w' → W p l e room_1 s m #[Value.ref b] below meth c H' locs' 600000 7302250 Q (F0 m 615 ls [])) : W p l e room_1 s m #[Value.ref b] below meth c H locs 600000 7302250 Q (F0 m 231 ls []) := by
  obtain ⟨r, w2, w3, f1, f2, hri, hG3⟩ := z_follow hG hB (xs (Int32.ofInt (i : Int) + Int32.ofInt ((1 : Nat) : Int)).toNatClampNeg).toInt (xs (Int32.ofInt (i : Int) + Int32.ofInt ((2 : Nat) : Int)).toNatClampNeg).toInt (xs (Int32.ofInt (i : Int) + Int32.ofInt ((3 : Nat) : Int)).toNatClampNeg).toInt
  refine lv_aload_n M.1 M.2.1 dL_law_231 rfl (lv_at hl 2 rfl) ?_
  refine lv_aload_n M.1 M.2.1 dL_law_232 rfl (lv_at hl 3 rfl) ?_
  refine lv_iload_n M.1 M.2.1 dL_law_233 rfl (lv_at hl 0 rfl) ?_
  refine lv_iconst (v := 1) M.1 M.2.1 dL_law_234 (by decide) ?_
  refine lv_iadd M.1 M.2.1 dL_law_235 ?_
  refine va_sld M.1 M.2.1 hX hbl hbA hS.2 (arg_e (j := 1) hi hL (by decide)) dL_law_236 ?_
  refine lv_aload_n M.1 M.2.1 dL_law_237 rfl (lv_at hl 3 rfl) ?_
  refine lv_iload_n M.1 M.2.1 dL_law_238 rfl (lv_at hl 0 rfl) ?_
  refine lv_iconst (v := 2) M.1 M.2.1 dL_law_239 (by decide) ?_
  refine lv_iadd M.1 M.2.1 dL_law_240 ?_
  refine va_sld M.1 M.2.1 hX hbl hbA hS.2 (arg_e (j := 2) hi hL (by decide)) dL_law_241 ?_
  refine lv_aload_n M.1 M.2.1 dL_law_242 rfl (lv_at hl 3 rfl) ?_
  refine lv_iload_n M.1 M.2.1 dL_law_243 rfl (lv_at hl 0 rfl) ?_
  refine lv_iconst (v := 3) M.1 M.2.1 dL_law_244 (by decide) ?_
  refine lv_iadd M.1 M.2.1 dL_law_245 ?_
  refine va_sld M.1 M.2.1 hX hbl hbA hS.2 (arg_e (j := 3) hi hL (by decide)) dL_law_246 ?_
  refine x_callVi (c0 := 10) (t0 := 0) (As := [iV (xs (Int32.ofInt (i : Int) + Int32.ofInt ((1 : Nat) : Int)).toNatClampNeg).toInt, iV (xs (Int32.ofInt (i : Int) + Int32.ofInt ((2 : Nat) : Int)).toNatClampNeg).toInt, iV (xs (Int32.ofInt (i : Int) + Int32.ofInt ((3 : Nat) : Int)).toNatClampNeg).toInt]) (rest := []) M hl hS (c_X7_follow l (o_inr _) (o_inr _) (o_inr _) f1) (cwV 3 M.2.2.2.2.1 gL_law_X7_follow rfl rfl rfl (by decide +kernel) ⟨Nat.le_of_ble_eq_true rfl, Nat.le_of_ble_eq_true rfl⟩) (by decide) (sE_10 G _ _) rfl rfl (Nat.le_of_ble_eq_true rfl) dL_law_247 (by simp [o_of]) ⟨Nat.le_of_ble_eq_true rfl, Nat.le_of_ble_eq_true rfl⟩ (fun H locs _ hS => ?_)
  refine lv_aload_n M.1 M.2.1 dL_law_250 rfl (lv_at hl 1 rfl) ?_
  refine lv_aload_n M.1 M.2.1 dL_law_251 rfl (lv_at hl 3 rfl) ?_
  refine lv_iload_n M.1 M.2.1 dL_law_252 rfl (lv_at hl 0 rfl) ?_
  refine lv_iconst (v := 1) M.1 M.2.1 dL_law_253 (by decide) ?_
  refine lv_iadd M.1 M.2.1 dL_law_254 ?_
  refine va_sld M.1 M.2.1 hX hbl hbA hS.2 (arg_e (j := 1) hi hL (by decide)) dL_law_255 ?_
  refine lv_aload_n M.1 M.2.1 dL_law_256 rfl (lv_at hl 3 rfl) ?_
  refine lv_iload_n M.1 M.2.1 dL_law_257 rfl (lv_at hl 0 rfl) ?_
  refine lv_iconst (v := 2) M.1 M.2.1 dL_law_258 (by decide) ?_
  refine lv_iadd M.1 M.2.1 dL_law_259 ?_
  refine va_sld M.1 M.2.1 hX hbl hbA hS.2 (arg_e (j := 2) hi hL (by decide)) dL_law_260 ?_
  refine lv_aload_n M.1 M.2.1 dL_law_261 rfl (lv_at hl 3 rfl) ?_
  refine lv_iload_n M.1 M.2.1 dL_law_262 rfl (lv_at hl 0 rfl) ?_
  refine lv_iconst (v := 3) M.1 M.2.1 dL_law_263 (by decide) ?_
  refine lv_iadd M.1 M.2.1 dL_law_264 ?_
  refine va_sld M.1 M.2.1 hX hbl hbA hS.2 (arg_e (j := 3) hi hL (by decide)) dL_law_265 ?_
  refine x_callVi (c0 := 21) (t0 := 0) (As := [iV (xs (Int32.ofInt (i : Int) + Int32.ofInt ((1 : Nat) : Int)).toNatClampNeg).toInt, iV (xs (Int32.ofInt (i : Int) + Int32.ofInt ((2 : Nat) : Int)).toNatClampNeg).toInt, iV (xs (Int32.ofInt (i : Int) + Int32.ofInt ((3 : Nat) : Int)).toNatClampNeg).toInt]) (rest := [iV r]) M hl hS (c_X8_follow l (o_inr _) (o_inr _) (o_inr _) f2) (cwV 3 M.2.2.2.2.1 gL_law_X8_follow rfl rfl rfl (by decide +kernel) ⟨Nat.le_of_ble_eq_true rfl, Nat.le_of_ble_eq_true rfl⟩) (by decide) (sE_21 G _ _) rfl rfl (Nat.le_of_ble_eq_true rfl) dL_law_266 (by simp [o_of]) ⟨Nat.le_of_ble_eq_true rfl, Nat.le_of_ble_eq_true rfl⟩ (fun H locs _ hS => ?_)
  exact lv_icmp_eq (tgt := 615) M.1 M.2.1 dL_law_269 (by decide) (fun _ => kk w3 H locs hS hG3) (fun h => absurd rfl h)
set_option maxHeartbeats 4000000 in
theorem case_drop (M : MC p s m #[Value.ref b] meth c code 4 R_law wsL_law G) (hl : lv_has ls 4 [(3, iV i), (2, .ref (G.1 21 0)), (1, .ref (G.1 10 0)), (0, .ref b)]) (hS : ST G s w H locs) (hG : GR B w) (hB : 0 ≤ B ∧ B ≤ 999000) (hX : va_X b L xs s s.heap) (hbl : b < s.heap.size) (hbA : ¬ GA G b) (hi : i + 4 ≤ L) (hL : L ≤ 2048)
    (kk : ∀ (w' : Wd) (H' : Heap) (locs' : List Loc), ST G s w' H' locs' → GR (B + 80) w' → W p l e room_1 s m #[Value.ref b] below meth c H' locs' 600000 7302250 Q (F0 m 615 ls [])) : W p l e room_1 s m #[Value.ref b] below meth c H locs 600000 7302250 Q (F0 m 274 ls []) := by
  obtain ⟨r, w2, w3, f1, f2, hri, hG3⟩ := z_drop hG hB (xs (Int32.ofInt (i : Int) + Int32.ofInt ((1 : Nat) : Int)).toNatClampNeg).toInt
  refine lv_aload_n M.1 M.2.1 dL_law_274 rfl (lv_at hl 2 rfl) ?_
  refine lv_aload_n M.1 M.2.1 dL_law_275 rfl (lv_at hl 3 rfl) ?_
  refine lv_iload_n M.1 M.2.1 dL_law_276 rfl (lv_at hl 0 rfl) ?_
  refine lv_iconst (v := 1) M.1 M.2.1 dL_law_277 (by decide) ?_
  refine lv_iadd M.1 M.2.1 dL_law_278 ?_
  refine va_sld M.1 M.2.1 hX hbl hbA hS.2 (arg_e (j := 1) hi hL (by decide)) dL_law_279 ?_
  refine x_callVi (c0 := 10) (t0 := 0) (As := [iV (xs (Int32.ofInt (i : Int) + Int32.ofInt ((1 : Nat) : Int)).toNatClampNeg).toInt]) (rest := []) M hl hS (c_X7_drop l (o_inr _) f1) (cwV 1 M.2.2.2.2.1 gL_law_X7_drop rfl rfl rfl (by decide +kernel) ⟨Nat.le_of_ble_eq_true rfl, Nat.le_of_ble_eq_true rfl⟩) (by decide) (sE_10 G _ _) rfl rfl (Nat.le_of_ble_eq_true rfl) dL_law_280 (by simp [o_of]) ⟨Nat.le_of_ble_eq_true rfl, Nat.le_of_ble_eq_true rfl⟩ (fun H locs _ hS => ?_)
  refine lv_aload_n M.1 M.2.1 dL_law_283 rfl (lv_at hl 1 rfl) ?_
  refine lv_aload_n M.1 M.2.1 dL_law_284 rfl (lv_at hl 3 rfl) ?_
  refine lv_iload_n M.1 M.2.1 dL_law_285 rfl (lv_at hl 0 rfl) ?_
  refine lv_iconst (v := 1) M.1 M.2.1 dL_law_286 (by decide) ?_
  refine lv_iadd M.1 M.2.1 dL_law_287 ?_
  refine va_sld M.1 M.2.1 hX hbl hbA hS.2 (arg_e (j := 1) hi hL (by decide)) dL_law_288 ?_
  refine x_callVi (c0 := 21) (t0 := 0) (As := [iV (xs (Int32.ofInt (i : Int) + Int32.ofInt ((1 : Nat) : Int)).toNatClampNeg).toInt]) (rest := [iV r]) M hl hS (c_X8_drop l (o_inr _) f2) (cwV 1 M.2.2.2.2.1 gL_law_X8_drop rfl rfl rfl (by decide +kernel) ⟨Nat.le_of_ble_eq_true rfl, Nat.le_of_ble_eq_true rfl⟩) (by decide) (sE_21 G _ _) rfl rfl (Nat.le_of_ble_eq_true rfl) dL_law_289 (by simp [o_of]) ⟨Nat.le_of_ble_eq_true rfl, Nat.le_of_ble_eq_true rfl⟩ (fun H locs _ hS => ?_)
  exact lv_icmp_eq (tgt := 615) M.1 M.2.1 dL_law_292 (by decide) (fun _ => kk w3 H locs hS hG3) (fun h => absurd rfl h)
set_option maxHeartbeats 4000000 in
theorem case_begin (M : MC p s m #[Value.ref b] meth c code 4 R_law wsL_law G) (hl : lv_has ls 4 [(3, iV i), (2, .ref (G.1 21 0)), (1, .ref (G.1 10 0)), (0, .ref b)]) (hS : ST G s w H locs) (hG : GR B w) (hB : 0 ≤ B ∧ B ≤ 999000) (hX : va_X b L xs s s.heap) (hbl : b < s.heap.size) (hbA : ¬ GA G b) (hi : i + 4 ≤ L) (hL : L ≤ 2048)
    (kk : ∀ (w' : Wd) (H' : Heap) (locs' : List Loc), ST G s w' H' locs' → GR (B + 80) w' → W p l e room_1 s m #[Value.ref b] below meth c H' locs' 600000 7302250 Q (F0 m 615 ls [])) : W p l e room_1 s m #[Value.ref b] below meth c H locs 600000 7302250 Q (F0 m 297 ls []) := by
  obtain ⟨r, w2, w3, f1, f2, hri, hG3⟩ := z_begin hG hB 
  refine lv_aload_n M.1 M.2.1 dL_law_297 rfl (lv_at hl 2 rfl) ?_
  refine x_callVi (c0 := 10) (t0 := 0) (As := []) (rest := []) M hl hS (c_X7_begin l  f1) (cwV 0 M.2.2.2.2.1 gL_law_X7_begin rfl rfl rfl (by decide +kernel) ⟨Nat.le_of_ble_eq_true rfl, Nat.le_of_ble_eq_true rfl⟩) (by decide) (sE_10 G _ _) rfl rfl (Nat.le_of_ble_eq_true rfl) dL_law_298 (by simp [o_of]) ⟨Nat.le_of_ble_eq_true rfl, Nat.le_of_ble_eq_true rfl⟩ (fun H locs _ hS => ?_)
  refine lv_aload_n M.1 M.2.1 dL_law_301 rfl (lv_at hl 1 rfl) ?_
  refine x_callVi (c0 := 21) (t0 := 0) (As := []) (rest := [iV r]) M hl hS (c_X8_begin l  f2) (cwV 0 M.2.2.2.2.1 gL_law_X8_begin rfl rfl rfl (by decide +kernel) ⟨Nat.le_of_ble_eq_true rfl, Nat.le_of_ble_eq_true rfl⟩) (by decide) (sE_21 G _ _) rfl rfl (Nat.le_of_ble_eq_true rfl) dL_law_302 (by simp [o_of]) ⟨Nat.le_of_ble_eq_true rfl, Nat.le_of_ble_eq_true rfl⟩ (fun H locs _ hS => ?_)
  exact lv_icmp_eq (tgt := 615) M.1 M.2.1 dL_law_305 (by decide) (fun _ => kk w3 H locs hS hG3) (fun h => absurd rfl h)
set_option maxHeartbeats 4000000 in
theorem case_carry (M : MC p s m #[Value.ref b] meth c code 4 R_law wsL_law G) (hl : lv_has ls 4 [(3, iV i), (2, .ref (G.1 21 0)), (1, .ref (G.1 10 0)), (0, .ref b)]) (hS : ST G s w H locs) (hG : GR B w) (hB : 0 ≤ B ∧ B ≤ 999000) (hX : va_X b L xs s s.heap) (hbl : b < s.heap.size) (hbA : ¬ GA G b) (hi : i + 4 ≤ L) (hL : L ≤ 2048)
    (kk : ∀ (w' : Wd) (H' : Heap) (locs' : List Loc), ST G s w' H' locs' → GR (B + 80) w' → W p l e room_1 s m #[Value.ref b] below meth c H' locs' 600000 7302250 Q (F0 m 615 ls [])) : W p l e room_1 s m #[Value.ref b] below meth c H locs 600000 7302250 Q (F0 m 310 ls []) := by
  obtain ⟨r, w2, w3, f1, f2, hri, hG3⟩ := z_carry hG hB (xs (Int32.ofInt (i : Int) + Int32.ofInt ((1 : Nat) : Int)).toNatClampNeg).toInt
  refine lv_aload_n M.1 M.2.1 dL_law_310 rfl (lv_at hl 2 rfl) ?_
  refine lv_aload_n M.1 M.2.1 dL_law_311 rfl (lv_at hl 3 rfl) ?_
  refine lv_iload_n M.1 M.2.1 dL_law_312 rfl (lv_at hl 0 rfl) ?_
  refine lv_iconst (v := 1) M.1 M.2.1 dL_law_313 (by decide) ?_
  refine lv_iadd M.1 M.2.1 dL_law_314 ?_
  refine va_sld M.1 M.2.1 hX hbl hbA hS.2 (arg_e (j := 1) hi hL (by decide)) dL_law_315 ?_
  refine x_callVi (c0 := 10) (t0 := 0) (As := [iV (xs (Int32.ofInt (i : Int) + Int32.ofInt ((1 : Nat) : Int)).toNatClampNeg).toInt]) (rest := []) M hl hS (c_X7_carry l (o_inr _) f1) (cwV 1 M.2.2.2.2.1 gL_law_X7_carry rfl rfl rfl (by decide +kernel) ⟨Nat.le_of_ble_eq_true rfl, Nat.le_of_ble_eq_true rfl⟩) (by decide) (sE_10 G _ _) rfl rfl (Nat.le_of_ble_eq_true rfl) dL_law_316 (by simp [o_of]) ⟨Nat.le_of_ble_eq_true rfl, Nat.le_of_ble_eq_true rfl⟩ (fun H locs _ hS => ?_)
  refine lv_aload_n M.1 M.2.1 dL_law_319 rfl (lv_at hl 1 rfl) ?_
  refine lv_aload_n M.1 M.2.1 dL_law_320 rfl (lv_at hl 3 rfl) ?_
  refine lv_iload_n M.1 M.2.1 dL_law_321 rfl (lv_at hl 0 rfl) ?_
  refine lv_iconst (v := 1) M.1 M.2.1 dL_law_322 (by decide) ?_
  refine lv_iadd M.1 M.2.1 dL_law_323 ?_
  refine va_sld M.1 M.2.1 hX hbl hbA hS.2 (arg_e (j := 1) hi hL (by decide)) dL_law_324 ?_
  refine x_callVi (c0 := 21) (t0 := 0) (As := [iV (xs (Int32.ofInt (i : Int) + Int32.ofInt ((1 : Nat) : Int)).toNatClampNeg).toInt]) (rest := [iV r]) M hl hS (c_X8_carry l (o_inr _) f2) (cwV 1 M.2.2.2.2.1 gL_law_X8_carry rfl rfl rfl (by decide +kernel) ⟨Nat.le_of_ble_eq_true rfl, Nat.le_of_ble_eq_true rfl⟩) (by decide) (sE_21 G _ _) rfl rfl (Nat.le_of_ble_eq_true rfl) dL_law_325 (by simp [o_of]) ⟨Nat.le_of_ble_eq_true rfl, Nat.le_of_ble_eq_true rfl⟩ (fun H locs _ hS => ?_)
  exact lv_icmp_eq (tgt := 615) M.1 M.2.1 dL_law_328 (by decide) (fun _ => kk w3 H locs hS hG3) (fun h => absurd rfl h)
set_option maxHeartbeats 4000000 in
theorem case_lose (M : MC p s m #[Value.ref b] meth c code 4 R_law wsL_law G) (hl : lv_has ls 4 [(3, iV i), (2, .ref (G.1 21 0)), (1, .ref (G.1 10 0)), (0, .ref b)]) (hS : ST G s w H locs) (hG : GR B w) (hB : 0 ≤ B ∧ B ≤ 999000) (hX : va_X b L xs s s.heap) (hbl : b < s.heap.size) (hbA : ¬ GA G b) (hi : i + 4 ≤ L) (hL : L ≤ 2048)
    (kk : ∀ (w' : Wd) (H' : Heap) (locs' : List Loc), ST G s w' H' locs' → GR (B + 80) w' → W p l e room_1 s m #[Value.ref b] below meth c H' locs' 600000 7302250 Q (F0 m 615 ls [])) : W p l e room_1 s m #[Value.ref b] below meth c H locs 600000 7302250 Q (F0 m 333 ls []) := by
  obtain ⟨r, w2, w3, f1, f2, hri, hG3⟩ := z_lose hG hB (xs (Int32.ofInt (i : Int) + Int32.ofInt ((1 : Nat) : Int)).toNatClampNeg).toInt
  refine lv_aload_n M.1 M.2.1 dL_law_333 rfl (lv_at hl 2 rfl) ?_
  refine lv_aload_n M.1 M.2.1 dL_law_334 rfl (lv_at hl 3 rfl) ?_
  refine lv_iload_n M.1 M.2.1 dL_law_335 rfl (lv_at hl 0 rfl) ?_
  refine lv_iconst (v := 1) M.1 M.2.1 dL_law_336 (by decide) ?_
  refine lv_iadd M.1 M.2.1 dL_law_337 ?_
  refine va_sld M.1 M.2.1 hX hbl hbA hS.2 (arg_e (j := 1) hi hL (by decide)) dL_law_338 ?_
  refine x_callVi (c0 := 10) (t0 := 0) (As := [iV (xs (Int32.ofInt (i : Int) + Int32.ofInt ((1 : Nat) : Int)).toNatClampNeg).toInt]) (rest := []) M hl hS (c_X7_lose l (o_inr _) f1) (cwV 1 M.2.2.2.2.1 gL_law_X7_lose rfl rfl rfl (by decide +kernel) ⟨Nat.le_of_ble_eq_true rfl, Nat.le_of_ble_eq_true rfl⟩) (by decide) (sE_10 G _ _) rfl rfl (Nat.le_of_ble_eq_true rfl) dL_law_339 (by simp [o_of]) ⟨Nat.le_of_ble_eq_true rfl, Nat.le_of_ble_eq_true rfl⟩ (fun H locs _ hS => ?_)
  refine lv_aload_n M.1 M.2.1 dL_law_342 rfl (lv_at hl 1 rfl) ?_
  refine lv_aload_n M.1 M.2.1 dL_law_343 rfl (lv_at hl 3 rfl) ?_
  refine lv_iload_n M.1 M.2.1 dL_law_344 rfl (lv_at hl 0 rfl) ?_
  refine lv_iconst (v := 1) M.1 M.2.1 dL_law_345 (by decide) ?_
  refine lv_iadd M.1 M.2.1 dL_law_346 ?_
  refine va_sld M.1 M.2.1 hX hbl hbA hS.2 (arg_e (j := 1) hi hL (by decide)) dL_law_347 ?_
  refine x_callVi (c0 := 21) (t0 := 0) (As := [iV (xs (Int32.ofInt (i : Int) + Int32.ofInt ((1 : Nat) : Int)).toNatClampNeg).toInt]) (rest := [iV r]) M hl hS (c_X8_lose l (o_inr _) f2) (cwV 1 M.2.2.2.2.1 gL_law_X8_lose rfl rfl rfl (by decide +kernel) ⟨Nat.le_of_ble_eq_true rfl, Nat.le_of_ble_eq_true rfl⟩) (by decide) (sE_21 G _ _) rfl rfl (Nat.le_of_ble_eq_true rfl) dL_law_348 (by simp [o_of]) ⟨Nat.le_of_ble_eq_true rfl, Nat.le_of_ble_eq_true rfl⟩ (fun H locs _ hS => ?_)
  exact lv_icmp_eq (tgt := 615) M.1 M.2.1 dL_law_351 (by decide) (fun _ => kk w3 H locs hS hG3) (fun h => absurd rfl h)
set_option maxHeartbeats 4000000 in
theorem case_mend (M : MC p s m #[Value.ref b] meth c code 4 R_law wsL_law G) (hl : lv_has ls 4 [(3, iV i), (2, .ref (G.1 21 0)), (1, .ref (G.1 10 0)), (0, .ref b)]) (hS : ST G s w H locs) (hG : GR B w) (hB : 0 ≤ B ∧ B ≤ 999000) (hX : va_X b L xs s s.heap) (hbl : b < s.heap.size) (hbA : ¬ GA G b) (hi : i + 4 ≤ L) (hL : L ≤ 2048)
    (kk : ∀ (w' : Wd) (H' : Heap) (locs' : List Loc), ST G s w' H' locs' → GR (B + 80) w' → W p l e room_1 s m #[Value.ref b] below meth c H' locs' 600000 7302250 Q (F0 m 615 ls [])) : W p l e room_1 s m #[Value.ref b] below meth c H locs 600000 7302250 Q (F0 m 356 ls []) := by
  obtain ⟨r, w2, w3, f1, f2, hri, hG3⟩ := z_mend hG hB (xs (Int32.ofInt (i : Int) + Int32.ofInt ((1 : Nat) : Int)).toNatClampNeg).toInt
  refine lv_aload_n M.1 M.2.1 dL_law_356 rfl (lv_at hl 2 rfl) ?_
  refine lv_aload_n M.1 M.2.1 dL_law_357 rfl (lv_at hl 3 rfl) ?_
  refine lv_iload_n M.1 M.2.1 dL_law_358 rfl (lv_at hl 0 rfl) ?_
  refine lv_iconst (v := 1) M.1 M.2.1 dL_law_359 (by decide) ?_
  refine lv_iadd M.1 M.2.1 dL_law_360 ?_
  refine va_sld M.1 M.2.1 hX hbl hbA hS.2 (arg_e (j := 1) hi hL (by decide)) dL_law_361 ?_
  refine x_callVi (c0 := 10) (t0 := 0) (As := [iV (xs (Int32.ofInt (i : Int) + Int32.ofInt ((1 : Nat) : Int)).toNatClampNeg).toInt]) (rest := []) M hl hS (c_X7_mend l (o_inr _) f1) (cwV 1 M.2.2.2.2.1 gL_law_X7_mend rfl rfl rfl (by decide +kernel) ⟨Nat.le_of_ble_eq_true rfl, Nat.le_of_ble_eq_true rfl⟩) (by decide) (sE_10 G _ _) rfl rfl (Nat.le_of_ble_eq_true rfl) dL_law_362 (by simp [o_of]) ⟨Nat.le_of_ble_eq_true rfl, Nat.le_of_ble_eq_true rfl⟩ (fun H locs _ hS => ?_)
  refine lv_aload_n M.1 M.2.1 dL_law_365 rfl (lv_at hl 1 rfl) ?_
  refine lv_aload_n M.1 M.2.1 dL_law_366 rfl (lv_at hl 3 rfl) ?_
  refine lv_iload_n M.1 M.2.1 dL_law_367 rfl (lv_at hl 0 rfl) ?_
  refine lv_iconst (v := 1) M.1 M.2.1 dL_law_368 (by decide) ?_
  refine lv_iadd M.1 M.2.1 dL_law_369 ?_
  refine va_sld M.1 M.2.1 hX hbl hbA hS.2 (arg_e (j := 1) hi hL (by decide)) dL_law_370 ?_
  refine x_callVi (c0 := 21) (t0 := 0) (As := [iV (xs (Int32.ofInt (i : Int) + Int32.ofInt ((1 : Nat) : Int)).toNatClampNeg).toInt]) (rest := [iV r]) M hl hS (c_X8_mend l (o_inr _) f2) (cwV 1 M.2.2.2.2.1 gL_law_X8_mend rfl rfl rfl (by decide +kernel) ⟨Nat.le_of_ble_eq_true rfl, Nat.le_of_ble_eq_true rfl⟩) (by decide) (sE_21 G _ _) rfl rfl (Nat.le_of_ble_eq_true rfl) dL_law_371 (by simp [o_of]) ⟨Nat.le_of_ble_eq_true rfl, Nat.le_of_ble_eq_true rfl⟩ (fun H locs _ hS => ?_)
  exact lv_icmp_eq (tgt := 615) M.1 M.2.1 dL_law_374 (by decide) (fun _ => kk w3 H locs hS hG3) (fun h => absurd rfl h)
set_option maxHeartbeats 4000000 in
theorem case_undo (M : MC p s m #[Value.ref b] meth c code 4 R_law wsL_law G) (hl : lv_has ls 4 [(3, iV i), (2, .ref (G.1 21 0)), (1, .ref (G.1 10 0)), (0, .ref b)]) (hS : ST G s w H locs) (hG : GR B w) (hB : 0 ≤ B ∧ B ≤ 999000) (hX : va_X b L xs s s.heap) (hbl : b < s.heap.size) (hbA : ¬ GA G b) (hi : i + 4 ≤ L) (hL : L ≤ 2048)
    (kk : ∀ (w' : Wd) (H' : Heap) (locs' : List Loc), ST G s w' H' locs' → GR (B + 80) w' → W p l e room_1 s m #[Value.ref b] below meth c H' locs' 600000 7302250 Q (F0 m 615 ls [])) : W p l e room_1 s m #[Value.ref b] below meth c H locs 600000 7302250 Q (F0 m 379 ls []) := by
  obtain ⟨r, w2, w3, f1, f2, hri, hG3⟩ := z_undo hG hB 
  refine lv_aload_n M.1 M.2.1 dL_law_379 rfl (lv_at hl 2 rfl) ?_
  refine x_callVi (c0 := 10) (t0 := 0) (As := []) (rest := []) M hl hS (c_X7_undo l  f1) (cwV 0 M.2.2.2.2.1 gL_law_X7_undo rfl rfl rfl (by decide +kernel) ⟨Nat.le_of_ble_eq_true rfl, Nat.le_of_ble_eq_true rfl⟩) (by decide) (sE_10 G _ _) rfl rfl (Nat.le_of_ble_eq_true rfl) dL_law_380 (by simp [o_of]) ⟨Nat.le_of_ble_eq_true rfl, Nat.le_of_ble_eq_true rfl⟩ (fun H locs _ hS => ?_)
  refine lv_aload_n M.1 M.2.1 dL_law_383 rfl (lv_at hl 1 rfl) ?_
  refine x_callVi (c0 := 21) (t0 := 0) (As := []) (rest := [iV r]) M hl hS (c_X8_undo l  f2) (cwV 0 M.2.2.2.2.1 gL_law_X8_undo rfl rfl rfl (by decide +kernel) ⟨Nat.le_of_ble_eq_true rfl, Nat.le_of_ble_eq_true rfl⟩) (by decide) (sE_21 G _ _) rfl rfl (Nat.le_of_ble_eq_true rfl) dL_law_384 (by simp [o_of]) ⟨Nat.le_of_ble_eq_true rfl, Nat.le_of_ble_eq_true rfl⟩ (fun H locs _ hS => ?_)
  exact lv_icmp_eq (tgt := 615) M.1 M.2.1 dL_law_387 (by decide) (fun _ => kk w3 H locs hS hG3) (fun h => absurd rfl h)
set_option maxHeartbeats 4000000 in
theorem case_append (M : MC p s m #[Value.ref b] meth c code 4 R_law wsL_law G) (hl : lv_has ls 4 [(3, iV i), (2, .ref (G.1 21 0)), (1, .ref (G.1 10 0)), (0, .ref b)]) (hS : ST G s w H locs) (hG : GR B w) (hB : 0 ≤ B ∧ B ≤ 999000) (hX : va_X b L xs s s.heap) (hbl : b < s.heap.size) (hbA : ¬ GA G b) (hi : i + 4 ≤ L) (hL : L ≤ 2048)
    (kk : ∀ (w' : Wd) (H' : Heap) (locs' : List Loc), ST G s w' H' locs' → GR (B + 80) w' → W p l e room_1 s m #[Value.ref b] below meth c H' locs' 600000 7302250 Q (F0 m 615 ls [])) : W p l e room_1 s m #[Value.ref b] below meth c H locs 600000 7302250 Q (F0 m 392 ls []) := by
  obtain ⟨r, w2, w3, f1, f2, hri, hG3⟩ := z_append hG hB (xs (Int32.ofInt (i : Int) + Int32.ofInt ((1 : Nat) : Int)).toNatClampNeg).toInt
  refine lv_aload_n M.1 M.2.1 dL_law_392 rfl (lv_at hl 2 rfl) ?_
  refine lv_aload_n M.1 M.2.1 dL_law_393 rfl (lv_at hl 3 rfl) ?_
  refine lv_iload_n M.1 M.2.1 dL_law_394 rfl (lv_at hl 0 rfl) ?_
  refine lv_iconst (v := 1) M.1 M.2.1 dL_law_395 (by decide) ?_
  refine lv_iadd M.1 M.2.1 dL_law_396 ?_
  refine va_sld M.1 M.2.1 hX hbl hbA hS.2 (arg_e (j := 1) hi hL (by decide)) dL_law_397 ?_
  refine x_callVi (c0 := 10) (t0 := 0) (As := [iV (xs (Int32.ofInt (i : Int) + Int32.ofInt ((1 : Nat) : Int)).toNatClampNeg).toInt]) (rest := []) M hl hS (c_X7_append l (o_inr _) f1) (cwV 1 M.2.2.2.2.1 gL_law_X7_append rfl rfl rfl (by decide +kernel) ⟨Nat.le_of_ble_eq_true rfl, Nat.le_of_ble_eq_true rfl⟩) (by decide) (sE_10 G _ _) rfl rfl (Nat.le_of_ble_eq_true rfl) dL_law_398 (by simp [o_of]) ⟨Nat.le_of_ble_eq_true rfl, Nat.le_of_ble_eq_true rfl⟩ (fun H locs _ hS => ?_)
  refine lv_aload_n M.1 M.2.1 dL_law_401 rfl (lv_at hl 1 rfl) ?_
  refine lv_aload_n M.1 M.2.1 dL_law_402 rfl (lv_at hl 3 rfl) ?_
  refine lv_iload_n M.1 M.2.1 dL_law_403 rfl (lv_at hl 0 rfl) ?_
  refine lv_iconst (v := 1) M.1 M.2.1 dL_law_404 (by decide) ?_
  refine lv_iadd M.1 M.2.1 dL_law_405 ?_
  refine va_sld M.1 M.2.1 hX hbl hbA hS.2 (arg_e (j := 1) hi hL (by decide)) dL_law_406 ?_
  refine x_callVi (c0 := 21) (t0 := 0) (As := [iV (xs (Int32.ofInt (i : Int) + Int32.ofInt ((1 : Nat) : Int)).toNatClampNeg).toInt]) (rest := [iV r]) M hl hS (c_X8_append l (o_inr _) f2) (cwV 1 M.2.2.2.2.1 gL_law_X8_append rfl rfl rfl (by decide +kernel) ⟨Nat.le_of_ble_eq_true rfl, Nat.le_of_ble_eq_true rfl⟩) (by decide) (sE_21 G _ _) rfl rfl (Nat.le_of_ble_eq_true rfl) dL_law_407 (by simp [o_of]) ⟨Nat.le_of_ble_eq_true rfl, Nat.le_of_ble_eq_true rfl⟩ (fun H locs _ hS => ?_)
  exact lv_icmp_eq (tgt := 615) M.1 M.2.1 dL_law_410 (by decide) (fun _ => kk w3 H locs hS hG3) (fun h => absurd rfl h)
set_option maxHeartbeats 4000000 in
theorem case_clearText (M : MC p s m #[Value.ref b] meth c code 4 R_law wsL_law G) (hl : lv_has ls 4 [(3, iV i), (2, .ref (G.1 21 0)), (1, .ref (G.1 10 0)), (0, .ref b)]) (hS : ST G s w H locs) (hG : GR B w) (hB : 0 ≤ B ∧ B ≤ 999000) (hX : va_X b L xs s s.heap) (hbl : b < s.heap.size) (hbA : ¬ GA G b) (hi : i + 4 ≤ L) (hL : L ≤ 2048)
    (kk : ∀ (w' : Wd) (H' : Heap) (locs' : List Loc), ST G s w' H' locs' → GR (B + 80) w' → W p l e room_1 s m #[Value.ref b] below meth c H' locs' 600000 7302250 Q (F0 m 615 ls [])) : W p l e room_1 s m #[Value.ref b] below meth c H locs 600000 7302250 Q (F0 m 415 ls []) := by
  obtain ⟨r, w2, w3, f1, f2, hri, hG3⟩ := z_clearText hG hB 
  refine lv_aload_n M.1 M.2.1 dL_law_415 rfl (lv_at hl 2 rfl) ?_
  refine x_callVi (c0 := 10) (t0 := 0) (As := []) (rest := []) M hl hS (c_X7_clearText l  f1) (cwV 0 M.2.2.2.2.1 gL_law_X7_clearText rfl rfl rfl (by decide +kernel) ⟨Nat.le_of_ble_eq_true rfl, Nat.le_of_ble_eq_true rfl⟩) (by decide) (sE_10 G _ _) rfl rfl (Nat.le_of_ble_eq_true rfl) dL_law_416 (by simp [o_of]) ⟨Nat.le_of_ble_eq_true rfl, Nat.le_of_ble_eq_true rfl⟩ (fun H locs _ hS => ?_)
  refine lv_aload_n M.1 M.2.1 dL_law_419 rfl (lv_at hl 1 rfl) ?_
  refine x_callVi (c0 := 21) (t0 := 0) (As := []) (rest := [iV r]) M hl hS (c_X8_clearText l  f2) (cwV 0 M.2.2.2.2.1 gL_law_X8_clearText rfl rfl rfl (by decide +kernel) ⟨Nat.le_of_ble_eq_true rfl, Nat.le_of_ble_eq_true rfl⟩) (by decide) (sE_21 G _ _) rfl rfl (Nat.le_of_ble_eq_true rfl) dL_law_420 (by simp [o_of]) ⟨Nat.le_of_ble_eq_true rfl, Nat.le_of_ble_eq_true rfl⟩ (fun H locs _ hS => ?_)
  exact lv_icmp_eq (tgt := 615) M.1 M.2.1 dL_law_423 (by decide) (fun _ => kk w3 H locs hS hG3) (fun h => absurd rfl h)
set_option maxHeartbeats 4000000 in
theorem case_run (M : MC p s m #[Value.ref b] meth c code 4 R_law wsL_law G) (hl : lv_has ls 4 [(3, iV i), (2, .ref (G.1 21 0)), (1, .ref (G.1 10 0)), (0, .ref b)]) (hS : ST G s w H locs) (hG : GR B w) (hB : 0 ≤ B ∧ B ≤ 999000) (hX : va_X b L xs s s.heap) (hbl : b < s.heap.size) (hbA : ¬ GA G b) (hi : i + 4 ≤ L) (hL : L ≤ 2048)
    (kk : ∀ (w' : Wd) (H' : Heap) (locs' : List Loc), ST G s w' H' locs' → GR (B + 80) w' → W p l e room_1 s m #[Value.ref b] below meth c H' locs' 600000 7302250 Q (F0 m 615 ls [])) : W p l e room_1 s m #[Value.ref b] below meth c H locs 600000 7302250 Q (F0 m 428 ls []) := by
  obtain ⟨r, w2, w3, f1, f2, hri, hG3⟩ := z_run hG hB 
  refine lv_aload_n M.1 M.2.1 dL_law_428 rfl (lv_at hl 2 rfl) ?_
  refine x_callVi (c0 := 10) (t0 := 0) (As := []) (rest := []) M hl hS (c_X7_run l  f1) (cwV 0 M.2.2.2.2.1 gL_law_X7_run rfl rfl rfl (by decide +kernel) ⟨Nat.le_of_ble_eq_true rfl, Nat.le_of_ble_eq_true rfl⟩) (by decide) (sE_10 G _ _) rfl rfl (Nat.le_of_ble_eq_true rfl) dL_law_429 (by simp [o_of]) ⟨Nat.le_of_ble_eq_true rfl, Nat.le_of_ble_eq_true rfl⟩ (fun H locs _ hS => ?_)
  refine lv_aload_n M.1 M.2.1 dL_law_432 rfl (lv_at hl 1 rfl) ?_
  refine x_callVi (c0 := 21) (t0 := 0) (As := []) (rest := [iV r]) M hl hS (c_X8_run l  f2) (cwV 0 M.2.2.2.2.1 gL_law_X8_run rfl rfl rfl (by decide +kernel) ⟨Nat.le_of_ble_eq_true rfl, Nat.le_of_ble_eq_true rfl⟩) (by decide) (sE_21 G _ _) rfl rfl (Nat.le_of_ble_eq_true rfl) dL_law_433 (by simp [o_of]) ⟨Nat.le_of_ble_eq_true rfl, Nat.le_of_ble_eq_true rfl⟩ (fun H locs _ hS => ?_)
  exact lv_icmp_eq (tgt := 615) M.1 M.2.1 dL_law_436 (by decide) (fun _ => kk w3 H locs hS hG3) (fun h => absurd rfl h)
set_option maxHeartbeats 4000000 in
theorem case_count (M : MC p s m #[Value.ref b] meth c code 4 R_law wsL_law G) (hl : lv_has ls 4 [(3, iV i), (2, .ref (G.1 21 0)), (1, .ref (G.1 10 0)), (0, .ref b)]) (hS : ST G s w H locs) (hG : GR B w) (hB : 0 ≤ B ∧ B ≤ 999000) (hX : va_X b L xs s s.heap) (hbl : b < s.heap.size) (hbA : ¬ GA G b) (hi : i + 4 ≤ L) (hL : L ≤ 2048)
    (kk : ∀ (w' : Wd) (H' : Heap) (locs' : List Loc), ST G s w' H' locs' → GR (B + 80) w' → W p l e room_1 s m #[Value.ref b] below meth c H' locs' 600000 7302250 Q (F0 m 615 ls [])) : W p l e room_1 s m #[Value.ref b] below meth c H locs 600000 7302250 Q (F0 m 441 ls []) := by
  obtain ⟨r, w2, w3, f1, f2, hri, hG3⟩ := z_count hG hB (xs (Int32.ofInt (i : Int) + Int32.ofInt ((1 : Nat) : Int)).toNatClampNeg).toInt
  refine lv_aload_n M.1 M.2.1 dL_law_441 rfl (lv_at hl 2 rfl) ?_
  refine lv_aload_n M.1 M.2.1 dL_law_442 rfl (lv_at hl 3 rfl) ?_
  refine lv_iload_n M.1 M.2.1 dL_law_443 rfl (lv_at hl 0 rfl) ?_
  refine lv_iconst (v := 1) M.1 M.2.1 dL_law_444 (by decide) ?_
  refine lv_iadd M.1 M.2.1 dL_law_445 ?_
  refine va_sld M.1 M.2.1 hX hbl hbA hS.2 (arg_e (j := 1) hi hL (by decide)) dL_law_446 ?_
  refine x_callVi (c0 := 10) (t0 := 0) (As := [iV (xs (Int32.ofInt (i : Int) + Int32.ofInt ((1 : Nat) : Int)).toNatClampNeg).toInt]) (rest := []) M hl hS (c_X7_count l (o_inr _) f1) (cwV 1 M.2.2.2.2.1 gL_law_X7_count rfl rfl rfl (by decide +kernel) ⟨Nat.le_of_ble_eq_true rfl, Nat.le_of_ble_eq_true rfl⟩) (by decide) (sE_10 G _ _) rfl rfl (Nat.le_of_ble_eq_true rfl) dL_law_447 (by simp [o_of]) ⟨Nat.le_of_ble_eq_true rfl, Nat.le_of_ble_eq_true rfl⟩ (fun H locs _ hS => ?_)
  refine lv_aload_n M.1 M.2.1 dL_law_450 rfl (lv_at hl 1 rfl) ?_
  refine lv_aload_n M.1 M.2.1 dL_law_451 rfl (lv_at hl 3 rfl) ?_
  refine lv_iload_n M.1 M.2.1 dL_law_452 rfl (lv_at hl 0 rfl) ?_
  refine lv_iconst (v := 1) M.1 M.2.1 dL_law_453 (by decide) ?_
  refine lv_iadd M.1 M.2.1 dL_law_454 ?_
  refine va_sld M.1 M.2.1 hX hbl hbA hS.2 (arg_e (j := 1) hi hL (by decide)) dL_law_455 ?_
  refine x_callVi (c0 := 21) (t0 := 0) (As := [iV (xs (Int32.ofInt (i : Int) + Int32.ofInt ((1 : Nat) : Int)).toNatClampNeg).toInt]) (rest := [iV r]) M hl hS (c_X8_count l (o_inr _) f2) (cwV 1 M.2.2.2.2.1 gL_law_X8_count rfl rfl rfl (by decide +kernel) ⟨Nat.le_of_ble_eq_true rfl, Nat.le_of_ble_eq_true rfl⟩) (by decide) (sE_21 G _ _) rfl rfl (Nat.le_of_ble_eq_true rfl) dL_law_456 (by simp [o_of]) ⟨Nat.le_of_ble_eq_true rfl, Nat.le_of_ble_eq_true rfl⟩ (fun H locs _ hS => ?_)
  exact lv_icmp_eq (tgt := 615) M.1 M.2.1 dL_law_459 (by decide) (fun _ => kk w3 H locs hS hG3) (fun h => absurd rfl h)
set_option maxHeartbeats 4000000 in
theorem case_hook (M : MC p s m #[Value.ref b] meth c code 4 R_law wsL_law G) (hl : lv_has ls 4 [(3, iV i), (2, .ref (G.1 21 0)), (1, .ref (G.1 10 0)), (0, .ref b)]) (hS : ST G s w H locs) (hG : GR B w) (hB : 0 ≤ B ∧ B ≤ 999000) (hX : va_X b L xs s s.heap) (hbl : b < s.heap.size) (hbA : ¬ GA G b) (hi : i + 4 ≤ L) (hL : L ≤ 2048)
    (kk : ∀ (w' : Wd) (H' : Heap) (locs' : List Loc), ST G s w' H' locs' → GR (B + 80) w' → W p l e room_1 s m #[Value.ref b] below meth c H' locs' 600000 7302250 Q (F0 m 615 ls [])) : W p l e room_1 s m #[Value.ref b] below meth c H locs 600000 7302250 Q (F0 m 464 ls []) := by
  obtain ⟨r, w2, w3, f1, f2, hri, hG3⟩ := z_hook hG hB (xs (Int32.ofInt (i : Int) + Int32.ofInt ((1 : Nat) : Int)).toNatClampNeg).toInt
  refine lv_aload_n M.1 M.2.1 dL_law_464 rfl (lv_at hl 2 rfl) ?_
  refine lv_aload_n M.1 M.2.1 dL_law_465 rfl (lv_at hl 3 rfl) ?_
  refine lv_iload_n M.1 M.2.1 dL_law_466 rfl (lv_at hl 0 rfl) ?_
  refine lv_iconst (v := 1) M.1 M.2.1 dL_law_467 (by decide) ?_
  refine lv_iadd M.1 M.2.1 dL_law_468 ?_
  refine va_sld M.1 M.2.1 hX hbl hbA hS.2 (arg_e (j := 1) hi hL (by decide)) dL_law_469 ?_
  refine x_callVi (c0 := 10) (t0 := 0) (As := [iV (xs (Int32.ofInt (i : Int) + Int32.ofInt ((1 : Nat) : Int)).toNatClampNeg).toInt]) (rest := []) M hl hS (c_X7_hook l (o_inr _) f1) (cwV 1 M.2.2.2.2.1 gL_law_X7_hook rfl rfl rfl (by decide +kernel) ⟨Nat.le_of_ble_eq_true rfl, Nat.le_of_ble_eq_true rfl⟩) (by decide) (sE_10 G _ _) rfl rfl (Nat.le_of_ble_eq_true rfl) dL_law_470 (by simp [o_of]) ⟨Nat.le_of_ble_eq_true rfl, Nat.le_of_ble_eq_true rfl⟩ (fun H locs _ hS => ?_)
  refine lv_aload_n M.1 M.2.1 dL_law_473 rfl (lv_at hl 1 rfl) ?_
  refine lv_aload_n M.1 M.2.1 dL_law_474 rfl (lv_at hl 3 rfl) ?_
  refine lv_iload_n M.1 M.2.1 dL_law_475 rfl (lv_at hl 0 rfl) ?_
  refine lv_iconst (v := 1) M.1 M.2.1 dL_law_476 (by decide) ?_
  refine lv_iadd M.1 M.2.1 dL_law_477 ?_
  refine va_sld M.1 M.2.1 hX hbl hbA hS.2 (arg_e (j := 1) hi hL (by decide)) dL_law_478 ?_
  refine x_callVi (c0 := 21) (t0 := 0) (As := [iV (xs (Int32.ofInt (i : Int) + Int32.ofInt ((1 : Nat) : Int)).toNatClampNeg).toInt]) (rest := [iV r]) M hl hS (c_X8_hook l (o_inr _) f2) (cwV 1 M.2.2.2.2.1 gL_law_X8_hook rfl rfl rfl (by decide +kernel) ⟨Nat.le_of_ble_eq_true rfl, Nat.le_of_ble_eq_true rfl⟩) (by decide) (sE_21 G _ _) rfl rfl (Nat.le_of_ble_eq_true rfl) dL_law_479 (by simp [o_of]) ⟨Nat.le_of_ble_eq_true rfl, Nat.le_of_ble_eq_true rfl⟩ (fun H locs _ hS => ?_)
  exact lv_icmp_eq (tgt := 615) M.1 M.2.1 dL_law_482 (by decide) (fun _ => kk w3 H locs hS hG3) (fun h => absurd rfl h)
set_option maxHeartbeats 4000000 in
theorem case_copy (M : MC p s m #[Value.ref b] meth c code 4 R_law wsL_law G) (hl : lv_has ls 4 [(3, iV i), (2, .ref (G.1 21 0)), (1, .ref (G.1 10 0)), (0, .ref b)]) (hS : ST G s w H locs) (hG : GR B w) (hB : 0 ≤ B ∧ B ≤ 999000) (hX : va_X b L xs s s.heap) (hbl : b < s.heap.size) (hbA : ¬ GA G b) (hi : i + 4 ≤ L) (hL : L ≤ 2048)
    (kk : ∀ (w' : Wd) (H' : Heap) (locs' : List Loc), ST G s w' H' locs' → GR (B + 80) w' → W p l e room_1 s m #[Value.ref b] below meth c H' locs' 600000 7302250 Q (F0 m 615 ls [])) : W p l e room_1 s m #[Value.ref b] below meth c H locs 600000 7302250 Q (F0 m 487 ls []) := by
  obtain ⟨r, w2, w3, f1, f2, hri, hG3⟩ := z_copy hG hB (xs (Int32.ofInt (i : Int) + Int32.ofInt ((1 : Nat) : Int)).toNatClampNeg).toInt (xs (Int32.ofInt (i : Int) + Int32.ofInt ((2 : Nat) : Int)).toNatClampNeg).toInt
  refine lv_aload_n M.1 M.2.1 dL_law_487 rfl (lv_at hl 2 rfl) ?_
  refine lv_aload_n M.1 M.2.1 dL_law_488 rfl (lv_at hl 3 rfl) ?_
  refine lv_iload_n M.1 M.2.1 dL_law_489 rfl (lv_at hl 0 rfl) ?_
  refine lv_iconst (v := 1) M.1 M.2.1 dL_law_490 (by decide) ?_
  refine lv_iadd M.1 M.2.1 dL_law_491 ?_
  refine va_sld M.1 M.2.1 hX hbl hbA hS.2 (arg_e (j := 1) hi hL (by decide)) dL_law_492 ?_
  refine lv_aload_n M.1 M.2.1 dL_law_493 rfl (lv_at hl 3 rfl) ?_
  refine lv_iload_n M.1 M.2.1 dL_law_494 rfl (lv_at hl 0 rfl) ?_
  refine lv_iconst (v := 2) M.1 M.2.1 dL_law_495 (by decide) ?_
  refine lv_iadd M.1 M.2.1 dL_law_496 ?_
  refine va_sld M.1 M.2.1 hX hbl hbA hS.2 (arg_e (j := 2) hi hL (by decide)) dL_law_497 ?_
  refine x_callVi (c0 := 10) (t0 := 0) (As := [iV (xs (Int32.ofInt (i : Int) + Int32.ofInt ((1 : Nat) : Int)).toNatClampNeg).toInt, iV (xs (Int32.ofInt (i : Int) + Int32.ofInt ((2 : Nat) : Int)).toNatClampNeg).toInt]) (rest := []) M hl hS (c_X7_copy l (o_inr _) (o_inr _) f1) (cwV 2 M.2.2.2.2.1 gL_law_X7_copy rfl rfl rfl (by decide +kernel) ⟨Nat.le_of_ble_eq_true rfl, Nat.le_of_ble_eq_true rfl⟩) (by decide) (sE_10 G _ _) rfl rfl (Nat.le_of_ble_eq_true rfl) dL_law_498 (by simp [o_of]) ⟨Nat.le_of_ble_eq_true rfl, Nat.le_of_ble_eq_true rfl⟩ (fun H locs _ hS => ?_)
  refine lv_aload_n M.1 M.2.1 dL_law_501 rfl (lv_at hl 1 rfl) ?_
  refine lv_aload_n M.1 M.2.1 dL_law_502 rfl (lv_at hl 3 rfl) ?_
  refine lv_iload_n M.1 M.2.1 dL_law_503 rfl (lv_at hl 0 rfl) ?_
  refine lv_iconst (v := 1) M.1 M.2.1 dL_law_504 (by decide) ?_
  refine lv_iadd M.1 M.2.1 dL_law_505 ?_
  refine va_sld M.1 M.2.1 hX hbl hbA hS.2 (arg_e (j := 1) hi hL (by decide)) dL_law_506 ?_
  refine lv_aload_n M.1 M.2.1 dL_law_507 rfl (lv_at hl 3 rfl) ?_
  refine lv_iload_n M.1 M.2.1 dL_law_508 rfl (lv_at hl 0 rfl) ?_
  refine lv_iconst (v := 2) M.1 M.2.1 dL_law_509 (by decide) ?_
  refine lv_iadd M.1 M.2.1 dL_law_510 ?_
  refine va_sld M.1 M.2.1 hX hbl hbA hS.2 (arg_e (j := 2) hi hL (by decide)) dL_law_511 ?_
  refine x_callVi (c0 := 21) (t0 := 0) (As := [iV (xs (Int32.ofInt (i : Int) + Int32.ofInt ((1 : Nat) : Int)).toNatClampNeg).toInt, iV (xs (Int32.ofInt (i : Int) + Int32.ofInt ((2 : Nat) : Int)).toNatClampNeg).toInt]) (rest := [iV r]) M hl hS (c_X8_copy l (o_inr _) (o_inr _) f2) (cwV 2 M.2.2.2.2.1 gL_law_X8_copy rfl rfl rfl (by decide +kernel) ⟨Nat.le_of_ble_eq_true rfl, Nat.le_of_ble_eq_true rfl⟩) (by decide) (sE_21 G _ _) rfl rfl (Nat.le_of_ble_eq_true rfl) dL_law_512 (by simp [o_of]) ⟨Nat.le_of_ble_eq_true rfl, Nat.le_of_ble_eq_true rfl⟩ (fun H locs _ hS => ?_)
  exact lv_icmp_eq (tgt := 615) M.1 M.2.1 dL_law_515 (by decide) (fun _ => kk w3 H locs hS hG3) (fun h => absurd rfl h)
set_option maxHeartbeats 4000000 in
theorem case_where (M : MC p s m #[Value.ref b] meth c code 4 R_law wsL_law G) (hl : lv_has ls 4 [(3, iV i), (2, .ref (G.1 21 0)), (1, .ref (G.1 10 0)), (0, .ref b)]) (hS : ST G s w H locs) (hG : GR B w) (hB : 0 ≤ B ∧ B ≤ 999000) (hX : va_X b L xs s s.heap) (hbl : b < s.heap.size) (hbA : ¬ GA G b) (hi : i + 4 ≤ L) (hL : L ≤ 2048)
    (kk : ∀ (w' : Wd) (H' : Heap) (locs' : List Loc), ST G s w' H' locs' → GR (B + 80) w' → W p l e room_1 s m #[Value.ref b] below meth c H' locs' 600000 7302250 Q (F0 m 615 ls [])) : W p l e room_1 s m #[Value.ref b] below meth c H locs 600000 7302250 Q (F0 m 520 ls []) := by
  obtain ⟨r, w2, w3, f1, f2, hri, hG3⟩ := z_where hG hB (xs (Int32.ofInt (i : Int) + Int32.ofInt ((1 : Nat) : Int)).toNatClampNeg).toInt (xs (Int32.ofInt (i : Int) + Int32.ofInt ((2 : Nat) : Int)).toNatClampNeg).toInt
  refine lv_aload_n M.1 M.2.1 dL_law_520 rfl (lv_at hl 2 rfl) ?_
  refine lv_aload_n M.1 M.2.1 dL_law_521 rfl (lv_at hl 3 rfl) ?_
  refine lv_iload_n M.1 M.2.1 dL_law_522 rfl (lv_at hl 0 rfl) ?_
  refine lv_iconst (v := 1) M.1 M.2.1 dL_law_523 (by decide) ?_
  refine lv_iadd M.1 M.2.1 dL_law_524 ?_
  refine va_sld M.1 M.2.1 hX hbl hbA hS.2 (arg_e (j := 1) hi hL (by decide)) dL_law_525 ?_
  refine lv_aload_n M.1 M.2.1 dL_law_526 rfl (lv_at hl 3 rfl) ?_
  refine lv_iload_n M.1 M.2.1 dL_law_527 rfl (lv_at hl 0 rfl) ?_
  refine lv_iconst (v := 2) M.1 M.2.1 dL_law_528 (by decide) ?_
  refine lv_iadd M.1 M.2.1 dL_law_529 ?_
  refine va_sld M.1 M.2.1 hX hbl hbA hS.2 (arg_e (j := 2) hi hL (by decide)) dL_law_530 ?_
  refine x_callVi (c0 := 10) (t0 := 0) (As := [iV (xs (Int32.ofInt (i : Int) + Int32.ofInt ((1 : Nat) : Int)).toNatClampNeg).toInt, iV (xs (Int32.ofInt (i : Int) + Int32.ofInt ((2 : Nat) : Int)).toNatClampNeg).toInt]) (rest := []) M hl hS (c_X7_where l (o_inr _) (o_inr _) f1) (cwV 2 M.2.2.2.2.1 gL_law_X7_where rfl rfl rfl (by decide +kernel) ⟨Nat.le_of_ble_eq_true rfl, Nat.le_of_ble_eq_true rfl⟩) (by decide) (sE_10 G _ _) rfl rfl (Nat.le_of_ble_eq_true rfl) dL_law_531 (by simp [o_of]) ⟨Nat.le_of_ble_eq_true rfl, Nat.le_of_ble_eq_true rfl⟩ (fun H locs _ hS => ?_)
  refine lv_aload_n M.1 M.2.1 dL_law_534 rfl (lv_at hl 1 rfl) ?_
  refine lv_aload_n M.1 M.2.1 dL_law_535 rfl (lv_at hl 3 rfl) ?_
  refine lv_iload_n M.1 M.2.1 dL_law_536 rfl (lv_at hl 0 rfl) ?_
  refine lv_iconst (v := 1) M.1 M.2.1 dL_law_537 (by decide) ?_
  refine lv_iadd M.1 M.2.1 dL_law_538 ?_
  refine va_sld M.1 M.2.1 hX hbl hbA hS.2 (arg_e (j := 1) hi hL (by decide)) dL_law_539 ?_
  refine lv_aload_n M.1 M.2.1 dL_law_540 rfl (lv_at hl 3 rfl) ?_
  refine lv_iload_n M.1 M.2.1 dL_law_541 rfl (lv_at hl 0 rfl) ?_
  refine lv_iconst (v := 2) M.1 M.2.1 dL_law_542 (by decide) ?_
  refine lv_iadd M.1 M.2.1 dL_law_543 ?_
  refine va_sld M.1 M.2.1 hX hbl hbA hS.2 (arg_e (j := 2) hi hL (by decide)) dL_law_544 ?_
  refine x_callVi (c0 := 21) (t0 := 0) (As := [iV (xs (Int32.ofInt (i : Int) + Int32.ofInt ((1 : Nat) : Int)).toNatClampNeg).toInt, iV (xs (Int32.ofInt (i : Int) + Int32.ofInt ((2 : Nat) : Int)).toNatClampNeg).toInt]) (rest := [iV r]) M hl hS (c_X8_where l (o_inr _) (o_inr _) f2) (cwV 2 M.2.2.2.2.1 gL_law_X8_where rfl rfl rfl (by decide +kernel) ⟨Nat.le_of_ble_eq_true rfl, Nat.le_of_ble_eq_true rfl⟩) (by decide) (sE_21 G _ _) rfl rfl (Nat.le_of_ble_eq_true rfl) dL_law_545 (by simp [o_of]) ⟨Nat.le_of_ble_eq_true rfl, Nat.le_of_ble_eq_true rfl⟩ (fun H locs _ hS => ?_)
  exact lv_icmp_eq (tgt := 615) M.1 M.2.1 dL_law_548 (by decide) (fun _ => kk w3 H locs hS hG3) (fun h => absurd rfl h)
set_option maxHeartbeats 4000000 in
theorem case_named (M : MC p s m #[Value.ref b] meth c code 4 R_law wsL_law G) (hl : lv_has ls 4 [(3, iV i), (2, .ref (G.1 21 0)), (1, .ref (G.1 10 0)), (0, .ref b)]) (hS : ST G s w H locs) (hG : GR B w) (hB : 0 ≤ B ∧ B ≤ 999000) (hX : va_X b L xs s s.heap) (hbl : b < s.heap.size) (hbA : ¬ GA G b) (hi : i + 4 ≤ L) (hL : L ≤ 2048)
    (kk : ∀ (w' : Wd) (H' : Heap) (locs' : List Loc), ST G s w' H' locs' → GR (B + 80) w' → W p l e room_1 s m #[Value.ref b] below meth c H' locs' 600000 7302250 Q (F0 m 615 ls [])) : W p l e room_1 s m #[Value.ref b] below meth c H locs 600000 7302250 Q (F0 m 553 ls []) := by
  obtain ⟨r, w2, w3, f1, f2, hri, hG3⟩ := z_named hG hB (xs (Int32.ofInt (i : Int) + Int32.ofInt ((1 : Nat) : Int)).toNatClampNeg).toInt
  refine lv_aload_n M.1 M.2.1 dL_law_553 rfl (lv_at hl 2 rfl) ?_
  refine lv_aload_n M.1 M.2.1 dL_law_554 rfl (lv_at hl 3 rfl) ?_
  refine lv_iload_n M.1 M.2.1 dL_law_555 rfl (lv_at hl 0 rfl) ?_
  refine lv_iconst (v := 1) M.1 M.2.1 dL_law_556 (by decide) ?_
  refine lv_iadd M.1 M.2.1 dL_law_557 ?_
  refine va_sld M.1 M.2.1 hX hbl hbA hS.2 (arg_e (j := 1) hi hL (by decide)) dL_law_558 ?_
  refine x_callVi (c0 := 10) (t0 := 0) (As := [iV (xs (Int32.ofInt (i : Int) + Int32.ofInt ((1 : Nat) : Int)).toNatClampNeg).toInt]) (rest := []) M hl hS (c_X7_named l (o_inr _) f1) (cwV 1 M.2.2.2.2.1 gL_law_X7_named rfl rfl rfl (by decide +kernel) ⟨Nat.le_of_ble_eq_true rfl, Nat.le_of_ble_eq_true rfl⟩) (by decide) (sE_10 G _ _) rfl rfl (Nat.le_of_ble_eq_true rfl) dL_law_559 (by simp [o_of]) ⟨Nat.le_of_ble_eq_true rfl, Nat.le_of_ble_eq_true rfl⟩ (fun H locs _ hS => ?_)
  refine lv_aload_n M.1 M.2.1 dL_law_562 rfl (lv_at hl 1 rfl) ?_
  refine lv_aload_n M.1 M.2.1 dL_law_563 rfl (lv_at hl 3 rfl) ?_
  refine lv_iload_n M.1 M.2.1 dL_law_564 rfl (lv_at hl 0 rfl) ?_
  refine lv_iconst (v := 1) M.1 M.2.1 dL_law_565 (by decide) ?_
  refine lv_iadd M.1 M.2.1 dL_law_566 ?_
  refine va_sld M.1 M.2.1 hX hbl hbA hS.2 (arg_e (j := 1) hi hL (by decide)) dL_law_567 ?_
  refine x_callVi (c0 := 21) (t0 := 0) (As := [iV (xs (Int32.ofInt (i : Int) + Int32.ofInt ((1 : Nat) : Int)).toNatClampNeg).toInt]) (rest := [iV r]) M hl hS (c_X8_named l (o_inr _) f2) (cwV 1 M.2.2.2.2.1 gL_law_X8_named rfl rfl rfl (by decide +kernel) ⟨Nat.le_of_ble_eq_true rfl, Nat.le_of_ble_eq_true rfl⟩) (by decide) (sE_21 G _ _) rfl rfl (Nat.le_of_ble_eq_true rfl) dL_law_568 (by simp [o_of]) ⟨Nat.le_of_ble_eq_true rfl, Nat.le_of_ble_eq_true rfl⟩ (fun H locs _ hS => ?_)
  exact lv_icmp_eq (tgt := 615) M.1 M.2.1 dL_law_571 (by decide) (fun _ => kk w3 H locs hS hG3) (fun h => absurd rfl h)
set_option maxHeartbeats 4000000 in
theorem case_garbage (M : MC p s m #[Value.ref b] meth c code 4 R_law wsL_law G) (hl : lv_has ls 4 [(3, iV i), (2, .ref (G.1 21 0)), (1, .ref (G.1 10 0)), (0, .ref b)]) (hS : ST G s w H locs) (hG : GR B w) (hB : 0 ≤ B ∧ B ≤ 999000) (hX : va_X b L xs s s.heap) (hbl : b < s.heap.size) (hbA : ¬ GA G b) (hi : i + 4 ≤ L) (hL : L ≤ 2048)
    (kk : ∀ (w' : Wd) (H' : Heap) (locs' : List Loc), ST G s w' H' locs' → GR (B + 80) w' → W p l e room_1 s m #[Value.ref b] below meth c H' locs' 600000 7302250 Q (F0 m 615 ls [])) : W p l e room_1 s m #[Value.ref b] below meth c H locs 600000 7302250 Q (F0 m 576 ls []) := by
  obtain ⟨r, w2, w3, f1, f2, hri, hG3⟩ := z_garbage hG hB 
  refine lv_aload_n M.1 M.2.1 dL_law_576 rfl (lv_at hl 2 rfl) ?_
  refine x_callVi (c0 := 10) (t0 := 0) (As := []) (rest := []) M hl hS (c_X7_garbage l  f1) (cwV 0 M.2.2.2.2.1 gL_law_X7_garbage rfl rfl rfl (by decide +kernel) ⟨Nat.le_of_ble_eq_true rfl, Nat.le_of_ble_eq_true rfl⟩) (by decide) (sE_10 G _ _) rfl rfl (Nat.le_of_ble_eq_true rfl) dL_law_577 (by simp [o_of]) ⟨Nat.le_of_ble_eq_true rfl, Nat.le_of_ble_eq_true rfl⟩ (fun H locs _ hS => ?_)
  refine lv_aload_n M.1 M.2.1 dL_law_580 rfl (lv_at hl 1 rfl) ?_
  refine x_callVi (c0 := 21) (t0 := 0) (As := []) (rest := [iV r]) M hl hS (c_X8_garbage l  f2) (cwV 0 M.2.2.2.2.1 gL_law_X8_garbage rfl rfl rfl (by decide +kernel) ⟨Nat.le_of_ble_eq_true rfl, Nat.le_of_ble_eq_true rfl⟩) (by decide) (sE_21 G _ _) rfl rfl (Nat.le_of_ble_eq_true rfl) dL_law_581 (by simp [o_of]) ⟨Nat.le_of_ble_eq_true rfl, Nat.le_of_ble_eq_true rfl⟩ (fun H locs _ hS => ?_)
  exact lv_icmp_eq (tgt := 615) M.1 M.2.1 dL_law_584 (by decide) (fun _ => kk w3 H locs hS hG3) (fun h => absurd rfl h)
set_option maxHeartbeats 4000000 in
theorem case_stepsLeft (M : MC p s m #[Value.ref b] meth c code 4 R_law wsL_law G) (hl : lv_has ls 4 [(3, iV i), (2, .ref (G.1 21 0)), (1, .ref (G.1 10 0)), (0, .ref b)]) (hS : ST G s w H locs) (hG : GR B w) (hB : 0 ≤ B ∧ B ≤ 999000) (hX : va_X b L xs s s.heap) (hbl : b < s.heap.size) (hbA : ¬ GA G b) (hi : i + 4 ≤ L) (hL : L ≤ 2048)
    (kk : ∀ (w' : Wd) (H' : Heap) (locs' : List Loc), ST G s w' H' locs' → GR (B + 80) w' → W p l e room_1 s m #[Value.ref b] below meth c H' locs' 600000 7302250 Q (F0 m 615 ls [])) : W p l e room_1 s m #[Value.ref b] below meth c H locs 600000 7302250 Q (F0 m 589 ls []) := by
  obtain ⟨r, w2, w3, f1, f2, hri, hG3⟩ := z_stepsLeft hG hB 
  refine lv_aload_n M.1 M.2.1 dL_law_589 rfl (lv_at hl 2 rfl) ?_
  refine x_callVi (c0 := 10) (t0 := 0) (As := []) (rest := []) M hl hS (c_X7_stepsLeft l  f1) (cwV 0 M.2.2.2.2.1 gL_law_X7_stepsLeft rfl rfl rfl (by decide +kernel) ⟨Nat.le_of_ble_eq_true rfl, Nat.le_of_ble_eq_true rfl⟩) (by decide) (sE_10 G _ _) rfl rfl (Nat.le_of_ble_eq_true rfl) dL_law_590 (by simp [o_of]) ⟨Nat.le_of_ble_eq_true rfl, Nat.le_of_ble_eq_true rfl⟩ (fun H locs _ hS => ?_)
  refine lv_aload_n M.1 M.2.1 dL_law_593 rfl (lv_at hl 1 rfl) ?_
  refine x_callVi (c0 := 21) (t0 := 0) (As := []) (rest := [iV r]) M hl hS (c_X8_stepsLeft l  f2) (cwV 0 M.2.2.2.2.1 gL_law_X8_stepsLeft rfl rfl rfl (by decide +kernel) ⟨Nat.le_of_ble_eq_true rfl, Nat.le_of_ble_eq_true rfl⟩) (by decide) (sE_21 G _ _) rfl rfl (Nat.le_of_ble_eq_true rfl) dL_law_594 (by simp [o_of]) ⟨Nat.le_of_ble_eq_true rfl, Nat.le_of_ble_eq_true rfl⟩ (fun H locs _ hS => ?_)
  exact lv_icmp_eq (tgt := 615) M.1 M.2.1 dL_law_597 (by decide) (fun _ => kk w3 H locs hS hG3) (fun h => absurd rfl h)
set_option maxHeartbeats 4000000 in
theorem case_freeThen (M : MC p s m #[Value.ref b] meth c code 4 R_law wsL_law G) (hl : lv_has ls 4 [(3, iV i), (2, .ref (G.1 21 0)), (1, .ref (G.1 10 0)), (0, .ref b)]) (hS : ST G s w H locs) (hG : GR B w) (hB : 0 ≤ B ∧ B ≤ 999000) (hX : va_X b L xs s s.heap) (hbl : b < s.heap.size) (hbA : ¬ GA G b) (hi : i + 4 ≤ L) (hL : L ≤ 2048)
    (kk : ∀ (w' : Wd) (H' : Heap) (locs' : List Loc), ST G s w' H' locs' → GR (B + 80) w' → W p l e room_1 s m #[Value.ref b] below meth c H' locs' 600000 7302250 Q (F0 m 615 ls [])) : W p l e room_1 s m #[Value.ref b] below meth c H locs 600000 7302250 Q (F0 m 602 ls []) := by
  obtain ⟨r, w2, w3, f1, f2, hri, hG3⟩ := z_freeThen hG hB 
  refine lv_aload_n M.1 M.2.1 dL_law_602 rfl (lv_at hl 2 rfl) ?_
  refine x_callVi (c0 := 10) (t0 := 0) (As := []) (rest := []) M hl hS (c_X7_freeThen l  f1) (cwV 0 M.2.2.2.2.1 gL_law_X7_freeThen rfl rfl rfl (by decide +kernel) ⟨Nat.le_of_ble_eq_true rfl, Nat.le_of_ble_eq_true rfl⟩) (by decide) (sE_10 G _ _) rfl rfl (Nat.le_of_ble_eq_true rfl) dL_law_603 (by simp [o_of]) ⟨Nat.le_of_ble_eq_true rfl, Nat.le_of_ble_eq_true rfl⟩ (fun H locs _ hS => ?_)
  refine lv_aload_n M.1 M.2.1 dL_law_606 rfl (lv_at hl 1 rfl) ?_
  refine x_callVi (c0 := 21) (t0 := 0) (As := []) (rest := [iV r]) M hl hS (c_X8_freeThen l  f2) (cwV 0 M.2.2.2.2.1 gL_law_X8_freeThen rfl rfl rfl (by decide +kernel) ⟨Nat.le_of_ble_eq_true rfl, Nat.le_of_ble_eq_true rfl⟩) (by decide) (sE_21 G _ _) rfl rfl (Nat.le_of_ble_eq_true rfl) dL_law_607 (by simp [o_of]) ⟨Nat.le_of_ble_eq_true rfl, Nat.le_of_ble_eq_true rfl⟩ (fun H locs _ hS => ?_)
  exact lv_icmp_eq (tgt := 615) M.1 M.2.1 dL_law_610 (by decide) (fun _ => kk w3 H locs hS hG3) (fun h => absurd rfl h)
end CASES
