/-! THE LAW: its own rows -/
section LOOPS
variable {p : Program} {l : Launch} {e : Env} {s : State} {m : MethodId} {below : List Frame} {meth : Method} {c : Code} {H : Heap} {locs : List Loc} {G : GG} {w : Wd} {b L : Nat} {xs : Nat → Int32} {ls : Array Slot}
set_option maxHeartbeats 4000000 in
set_option maxRecDepth 100000 in
theorem law_end {n j T : Int} (C0 : lw_At p s m meth c b L xs) (M : MC p s m #[Value.ref b] meth c code 12 RL wsL_law G) (hnew : ∀ c t, okc c t → s.heap.size ≤ G.1 c t) (hl : lv_has ls 12 ((11, iV j) :: (10, iV T) :: (9, iV 1) :: lvL G b)) (hS : ST G s w H locs) (hK : SK n w) : W p l e room_1 s m #[Value.ref b] below meth c H locs 600000 7302250 (lw_Z below #[Value.ref b] s) (F0 m 258 ls []) := by
  obtain ⟨hx, hb, hr, hml, hown, hts, hX, hbl, hlocks, hgv⟩ := id C0
  have hc := count_C hK.1.1 hK.1.2.2.2.2
  have h14 : X7_count 14 w = some (-1, w) := hc.2.2.2.2.2.2.2.2.2.2.2.2.2.1
  have hm1 : X7_count (-1) w = some (-1, w) := hc.2.2.2.2.2.2.2.2.2.2.2.2.2.2
  have k8 : X7_hook 8 w = some (-1, w) := hook_no (by omega)
  have k1 : X7_hook (-1) w = some (-1, w) := hook_no (by omega)
  refine x_iload M hl dL_law_258 2 rfl ?_
  refine x_if_eq (tgt := 305) M ⟨by decide, by decide⟩ dL_law_260 (by decide) (fun h => absurd h (by decide)) (fun _ => ?_)
  refine x_aload_n M hl dL_law_263 10 rfl ?_
  refine x_bipush M dL_law_264 rfl ?_
  refine x_callVi (c0 := 10) (t0 := 0) (As := [iV 14]) (rest := []) M hl hS (c_X7_count l ⟨by decide, by decide⟩ h14) (cwV 1 M.2.2.2.2.1 gL_law_X7_count rfl rfl rfl (by decide +kernel) ⟨Nat.le_of_ble_eq_true rfl, Nat.le_of_ble_eq_true rfl⟩) (by decide) (sE_10 G _ _) rfl rfl (Nat.le_of_ble_eq_true rfl) dL_law_266 rfl ⟨Nat.le_of_ble_eq_true rfl, Nat.le_of_ble_eq_true rfl⟩ (fun H locs _ hS => ?_)
  refine x_iconst M dL_law_269 ?_
  refine x_icmp_ne (tgt := 305) M ⟨by decide, by decide⟩ ⟨by decide, by decide⟩ dL_law_270 (by decide) (fun h => absurd rfl h) (fun _ => ?_)
  refine x_aload_n M hl dL_law_273 10 rfl ?_
  refine x_iconst M dL_law_274 ?_
  refine x_callVi (c0 := 10) (t0 := 0) (As := [iV (-1)]) (rest := []) M hl hS (c_X7_count l ⟨by decide, by decide⟩ hm1) (cwV 1 M.2.2.2.2.1 gL_law_X7_count rfl rfl rfl (by decide +kernel) ⟨Nat.le_of_ble_eq_true rfl, Nat.le_of_ble_eq_true rfl⟩) (by decide) (sE_10 G _ _) rfl rfl (Nat.le_of_ble_eq_true rfl) dL_law_275 rfl ⟨Nat.le_of_ble_eq_true rfl, Nat.le_of_ble_eq_true rfl⟩ (fun H locs _ hS => ?_)
  refine x_iconst M dL_law_278 ?_
  refine x_icmp_ne (tgt := 305) M ⟨by decide, by decide⟩ ⟨by decide, by decide⟩ dL_law_279 (by decide) (fun h => absurd rfl h) (fun _ => ?_)
  refine x_aload_n M hl dL_law_282 10 rfl ?_
  refine x_bipush M dL_law_283 rfl ?_
  refine x_callVi (c0 := 10) (t0 := 0) (As := [iV 8]) (rest := []) M hl hS (c_X7_hook l ⟨by decide, by decide⟩ k8) (cwV 1 M.2.2.2.2.1 gL_law_X7_hook rfl rfl rfl (by decide +kernel) ⟨Nat.le_of_ble_eq_true rfl, Nat.le_of_ble_eq_true rfl⟩) (by decide) (sE_10 G _ _) rfl rfl (Nat.le_of_ble_eq_true rfl) dL_law_285 rfl ⟨Nat.le_of_ble_eq_true rfl, Nat.le_of_ble_eq_true rfl⟩ (fun H locs _ hS => ?_)
  refine x_iconst M dL_law_288 ?_
  refine x_icmp_ne (tgt := 305) M ⟨by decide, by decide⟩ ⟨by decide, by decide⟩ dL_law_289 (by decide) (fun h => absurd rfl h) (fun _ => ?_)
  refine x_aload_n M hl dL_law_292 10 rfl ?_
  refine x_iconst M dL_law_293 ?_
  refine x_callVi (c0 := 10) (t0 := 0) (As := [iV (-1)]) (rest := []) M hl hS (c_X7_hook l ⟨by decide, by decide⟩ k1) (cwV 1 M.2.2.2.2.1 gL_law_X7_hook rfl rfl rfl (by decide +kernel) ⟨Nat.le_of_ble_eq_true rfl, Nat.le_of_ble_eq_true rfl⟩) (by decide) (sE_10 G _ _) rfl rfl (Nat.le_of_ble_eq_true rfl) dL_law_294 rfl ⟨Nat.le_of_ble_eq_true rfl, Nat.le_of_ble_eq_true rfl⟩ (fun H locs _ hS => ?_)
  refine x_iconst M dL_law_297 ?_
  refine x_icmp_ne (tgt := 305) M ⟨by decide, by decide⟩ ⟨by decide, by decide⟩ dL_law_298 (by decide) (fun h => absurd rfl h) (fun _ => ?_)
  refine va_forget (fun q hq => ?_) ?_
  · obtain ⟨c', t', ok, h⟩ := hS.2.2.2 q hq
    rw [h]
    exact hnew c' t' ok
  refine lv_iconst (v := 1) hx hb dL_law_301 (by decide) ?_
  refine lv_goto (tgt := 306) hx hb dL_law_302 (by decide) ?_
  exact lw_ret hx hb hr hlocks dL_law_306
set_option maxHeartbeats 4000000 in
set_option maxRecDepth 100000 in
theorem law_loop2 {T : Int} (C0 : lw_At p s m meth c b L xs) (M : MC p s m #[Value.ref b] meth c code 12 RL wsL_law G) (hnew : ∀ c t, okc c t → s.heap.size ≤ G.1 c t) (hL : L ≤ 260) (hbA : ¬ GA G b) (hT : 8 ≤ T ∧ T ≤ 57) : ∀ (n j : Nat) (w : Wd) (H : Heap) (locs : List Loc) (ls : Array Slot), 57 - j < n → (j : Int) ≤ T → lv_has ls 12 ((11, iV (j : Int)) :: (10, iV T) :: (9, iV 1) :: lvL G b) → ST G s w H locs → SK (10 + (j : Int)) w → W p l e room_1 s m #[Value.ref b] below meth c H locs 600000 7302250 (lw_Z below #[Value.ref b] s) (F0 m 181 ls []) := by
  obtain ⟨hx, hb, hr, hml, hown, hts, hX, hbl, hlocks, hgv⟩ := id C0
  intro n
  induction n with
  | zero => intro j w H locs ls h1; omega
  | succ n ih =>
    intro j w H locs ls h1 h2 hl hS hK
    refine x_iload M hl dL_law_181 0 rfl ?_
    refine x_iload M hl dL_law_183 1 rfl ?_
    refine x_icmp_ge (tgt := 258) M ⟨by omega, by omega⟩ ⟨by omega, by omega⟩ dL_law_185 (by decide) (fun h => ?_) (fun h => ?_)
    · exact law_end C0 M hnew hl hS hK
    · have hj : (j : Int) < T := by omega
      refine x_iload M hl dL_law_188 2 rfl ?_
      refine x_if_eq (tgt := 258) M ⟨by decide, by decide⟩ dL_law_190 (by decide) (fun h => absurd h (by decide)) (fun _ => ?_)
      refine x_aload_n M hl dL_law_193 10 rfl ?_
      refine x_aload_n M hl dL_law_194 9 rfl ?_
      refine x_aload_n M hl dL_law_195 8 rfl ?_
      refine x_aload M hl dL_law_196 7 rfl ?_
      refine x_aload M hl dL_law_198 6 rfl ?_
      refine x_aload M hl dL_law_200 5 rfl ?_
      refine x_aload M hl dL_law_202 4 rfl ?_
      refine x_aload M hl dL_law_204 3 rfl ?_
      refine x_aload_n M hl dL_law_206 11 rfl ?_
      refine x_bipush M dL_law_207 rfl ?_
      refine x_iload M hl dL_law_209 0 rfl ?_
      refine x_iadd M dL_law_211 ?_
      refine x_cell (k := 11 + (j : Int)) (rest := [.ref (G.1 36 0), .ref (G.1 35 0), .ref (G.1 34 0), .ref (G.1 33 0), .ref (G.1 32 0), .ref (G.1 31 0), .ref (G.1 30 0), .ref (G.1 10 0)]) M hl hS hX hbl hbA hL ⟨by omega, by omega⟩ (va_cwS 2 M.2.2.2.2.1 gL_law_L_cell rfl rfl rfl (by decide +kernel) ⟨Nat.le_of_ble_eq_true rfl, Nat.le_of_ble_eq_true rfl⟩) (Nat.le_of_ble_eq_true rfl) (Nat.le_of_ble_eq_true rfl) dL_law_212 ⟨Nat.le_of_ble_eq_true rfl, Nat.le_of_ble_eq_true rfl⟩ (fun z H locs hz hS => ?_)
      refine x_sipush M dL_law_215 rfl ?_
      refine x_iload M hl dL_law_218 0 rfl ?_
      refine x_imul M dL_law_220 ?_
      refine x_ixor M dL_law_221 ?_
      obtain ⟨w2, a1, hK2⟩ := acts_K hK ⟨by omega, by omega⟩ (xorI z (7919 * (j : Int)))
      refine x_callTi (As := [.ref (G.1 10 0), .ref (G.1 30 0), .ref (G.1 31 0), .ref (G.1 32 0), .ref (G.1 33 0), .ref (G.1 34 0), .ref (G.1 35 0), .ref (G.1 36 0), iV (xorI z (7919 * (j : Int)))]) (rest := []) M hl hS (c_L_acts l (o_inr _) a1) (va_cwS 9 M.2.2.2.2.1 gL_law_L_acts rfl rfl rfl (by decide +kernel) ⟨Nat.le_of_ble_eq_true rfl, Nat.le_of_ble_eq_true rfl⟩) (Nat.le_of_ble_eq_true rfl) rfl (Nat.le_of_ble_eq_true rfl) dL_law_222 rfl ⟨Nat.le_of_ble_eq_true rfl, Nat.le_of_ble_eq_true rfl⟩ (fun H locs _ hS => ?_)
      refine x_if_eq (tgt := 249) M ⟨by decide, by decide⟩ dL_law_225 (by decide) (fun h => absurd h (by decide)) (fun _ => ?_)
      refine x_aload_n M hl dL_law_228 10 rfl ?_
      refine x_aload_n M hl dL_law_229 9 rfl ?_
      refine x_aload_n M hl dL_law_230 8 rfl ?_
      refine x_aload M hl dL_law_231 7 rfl ?_
      refine x_aload M hl dL_law_233 5 rfl ?_
      refine x_aload M hl dL_law_235 4 rfl ?_
      refine x_aload M hl dL_law_237 3 rfl ?_
      refine x_callTi (As := [.ref (G.1 10 0), .ref (G.1 30 0), .ref (G.1 31 0), .ref (G.1 32 0), .ref (G.1 34 0), .ref (G.1 35 0), .ref (G.1 36 0)]) (rest := []) M hl hS (c_L_isSo l (isSo_K hK2 ⟨by omega, by omega⟩)) (va_cwS 7 M.2.2.2.2.1 gL_law_L_isSo rfl rfl rfl (by decide +kernel) ⟨Nat.le_of_ble_eq_true rfl, Nat.le_of_ble_eq_true rfl⟩) (Nat.le_of_ble_eq_true rfl) rfl (Nat.le_of_ble_eq_true rfl) dL_law_239 rfl ⟨Nat.le_of_ble_eq_true rfl, Nat.le_of_ble_eq_true rfl⟩ (fun H locs _ hS => ?_)
      refine x_if_eq (tgt := 249) M ⟨by decide, by decide⟩ dL_law_242 (by decide) (fun h => absurd h (by decide)) (fun _ => ?_)
      refine x_iconst M dL_law_245 ?_
      refine x_goto (tgt := 250) M dL_law_246 (by decide) ?_
      refine x_istore M hl dL_law_250 (by decide) ((9, iV 1) :: (11, iV (j : Int)) :: (10, iV T) :: lvL G b) rfl (fun ls hl => ?_)
      refine x_iinc M hl dL_law_252 1 rfl (by decide) ((11, iV ((j : Int) + 1)) :: (9, iV 1) :: (10, iV T) :: lvL G b) rfl (fun ls hl => ?_)
      refine x_goto (tgt := 181) M dL_law_255 (by decide) ?_
      refine ih (j + 1) w2 H locs ls (by omega) (by omega) (lv_sub hl [0, 2, 1, 3, 4, 5, 6, 7, 8, 9, 10, 11] rfl) hS ?_
      rw [show (10 : Int) + ((j + 1 : Nat) : Int) = 10 + (j : Int) + 1 by omega]
      exact hK2
set_option maxHeartbeats 4000000 in
set_option maxRecDepth 100000 in
theorem law_mid {k : Int} (C0 : lw_At p s m meth c b L xs) (M : MC p s m #[Value.ref b] meth c code 12 RL wsL_law G) (hnew : ∀ c t, okc c t → s.heap.size ≤ G.1 c t) (hL : L ≤ 260) (hbA : ¬ GA G b) (hl : lv_has ls 12 ((10, iV k) :: (9, iV 1) :: lvL G b)) (hS : ST G s w H locs) (hK : SK 10 w) : W p l e room_1 s m #[Value.ref b] below meth c H locs 600000 7302250 (lw_Z below #[Value.ref b] s) (F0 m 163 ls []) := by
  obtain ⟨hx, hb, hr, hml, hown, hts, hX, hbl, hlocks, hgv⟩ := id C0
  refine x_bipush M dL_law_163 rfl ?_
  refine x_aload_n M hl dL_law_165 10 rfl ?_
  refine x_iconst M dL_law_166 ?_
  refine x_cell (k := 0) (rest := [iV 8]) M hl hS hX hbl hbA hL ⟨by omega, by omega⟩ (va_cwS 2 M.2.2.2.2.1 gL_law_L_cell rfl rfl rfl (by decide +kernel) ⟨Nat.le_of_ble_eq_true rfl, Nat.le_of_ble_eq_true rfl⟩) (Nat.le_of_ble_eq_true rfl) (Nat.le_of_ble_eq_true rfl) dL_law_167 ⟨Nat.le_of_ble_eq_true rfl, Nat.le_of_ble_eq_true rfl⟩ (fun z H locs hz hS => ?_)
  refine x_bipush M dL_law_170 rfl ?_
  refine x_callTi (As := [iV z, iV 50]) (rest := [iV 8]) M hl hS (c_L_low l hz ⟨by decide, by decide⟩ (low_e (w := w) (x := z) (m := 50) (by decide))) (va_cwS 2 M.2.2.2.2.1 gL_law_L_low rfl rfl rfl (by decide +kernel) ⟨Nat.le_of_ble_eq_true rfl, Nat.le_of_ble_eq_true rfl⟩) (Nat.le_of_ble_eq_true rfl) rfl (Nat.le_of_ble_eq_true rfl) dL_law_172 rfl ⟨Nat.le_of_ble_eq_true rfl, Nat.le_of_ble_eq_true rfl⟩ (fun H locs hi hS => ?_)
  refine x_iadd M dL_law_175 ?_
  obtain ⟨T, hT⟩ : ∃ T : Int, T = 8 + andI z 2147483647 % 50 := ⟨_, rfl⟩
  rw [← hT]
  have hTb : 8 ≤ T ∧ T ≤ 57 := by
    have := andI_nn z
    omega
  refine x_istore M hl dL_law_176 (by decide) ((10, iV T) :: (9, iV 1) :: lvL G b) rfl (fun ls hl => ?_)
  refine x_iconst M dL_law_178 ?_
  refine x_istore M hl dL_law_179 (by decide) ((11, iV ((0 : Nat) : Int)) :: (10, iV T) :: (9, iV 1) :: lvL G b) rfl (fun ls hl => ?_)
  exact law_loop2 C0 M hnew hL hbA hTb 58 0 w H locs ls (by omega) (by omega) hl hS hK
set_option maxHeartbeats 4000000 in
set_option maxRecDepth 100000 in
theorem law_loop1 (C0 : lw_At p s m meth c b L xs) (M : MC p s m #[Value.ref b] meth c code 12 RL wsL_law G) (hnew : ∀ c t, okc c t → s.heap.size ≤ G.1 c t) (hL : L ≤ 260) (hbA : ¬ GA G b) : ∀ (n k : Nat) (w : Wd) (H : Heap) (locs : List Loc) (ls : Array Slot), 10 - k < n → k ≤ 10 → lv_has ls 12 ((10, iV (k : Int)) :: (9, iV 1) :: lvL G b) → ST G s w H locs → SK (k : Int) w → W p l e room_1 s m #[Value.ref b] below meth c H locs 600000 7302250 (lw_Z below #[Value.ref b] s) (F0 m 94 ls []) := by
  obtain ⟨hx, hb, hr, hml, hown, hts, hX, hbl, hlocks, hgv⟩ := id C0
  intro n
  induction n with
  | zero => intro k w H locs ls h1; omega
  | succ n ih =>
    intro k w H locs ls h1 h2 hl hS hK
    refine x_iload M hl dL_law_94 0 rfl ?_
    refine x_bipush M dL_law_96 rfl ?_
    refine x_icmp_ge (tgt := 163) M ⟨by omega, by omega⟩ ⟨by decide, by decide⟩ dL_law_98 (by decide) (fun h => ?_) (fun h => ?_)
    · have hk : k = 10 := by omega
      subst hk
      exact law_mid C0 M hnew hL hbA hl hS hK
    · refine x_iload M hl dL_law_101 1 rfl ?_
      refine x_if_eq (tgt := 163) M ⟨by decide, by decide⟩ dL_law_103 (by decide) (fun h => absurd h (by decide)) (fun _ => ?_)
      refine x_aload_n M hl dL_law_106 9 rfl ?_
      refine x_aload_n M hl dL_law_107 8 rfl ?_
      refine x_aload_n M hl dL_law_108 7 rfl ?_
      refine x_aload M hl dL_law_109 6 rfl ?_
      refine x_aload M hl dL_law_111 5 rfl ?_
      refine x_aload M hl dL_law_113 4 rfl ?_
      refine x_aload M hl dL_law_115 3 rfl ?_
      refine x_aload M hl dL_law_117 2 rfl ?_
      refine x_aload_n M hl dL_law_119 10 rfl ?_
      refine x_iconst M dL_law_120 ?_
      refine x_iload M hl dL_law_121 0 rfl ?_
      refine x_iadd M dL_law_123 ?_
      refine x_cell (k := 1 + (k : Int)) (rest := [.ref (G.1 36 0), .ref (G.1 35 0), .ref (G.1 34 0), .ref (G.1 33 0), .ref (G.1 32 0), .ref (G.1 31 0), .ref (G.1 30 0), .ref (G.1 10 0)]) M hl hS hX hbl hbA hL ⟨by omega, by omega⟩ (va_cwS 2 M.2.2.2.2.1 gL_law_L_cell rfl rfl rfl (by decide +kernel) ⟨Nat.le_of_ble_eq_true rfl, Nat.le_of_ble_eq_true rfl⟩) (Nat.le_of_ble_eq_true rfl) (Nat.le_of_ble_eq_true rfl) dL_law_124 ⟨Nat.le_of_ble_eq_true rfl, Nat.le_of_ble_eq_true rfl⟩ (fun z H locs hz hS => ?_)
      refine x_ldc (v := 2147483647) (z := 2147483647) M (by decide +kernel) rfl dL_law_127 ?_
      refine x_iand M dL_law_129 ?_
      have hv := andI_nn z
      refine x_sipush M dL_law_130 rfl ?_
      refine x_idiv M (o_inr _) ⟨by decide, by decide⟩ ⟨hv.1, by decide⟩ dL_law_133 ?_
      refine x_sipush M dL_law_134 rfl ?_
      refine x_imul M dL_law_137 ?_
      obtain ⟨A, hA⟩ : ∃ A : Int, A = andI z 2147483647 / 864 * 864 := ⟨_, rfl⟩
      have hAb : 0 ≤ A ∧ A ≤ 2147483232 := by omega
      rw [← hA]
      have fin : ∀ y : Int, 0 ≤ y ∧ y ≤ 8 → W p l e room_1 s m #[Value.ref b] below meth c H locs 600000 7302250 (lw_Z below #[Value.ref b] s) (F0 m 151 ls (iV y :: iV A :: [.ref (G.1 36 0), .ref (G.1 35 0), .ref (G.1 34 0), .ref (G.1 33 0), .ref (G.1 32 0), .ref (G.1 31 0), .ref (G.1 30 0), .ref (G.1 10 0)])) := by
        intro y hy
        refine x_iadd M dL_law_151 ?_
        obtain ⟨w2, a1, hK2⟩ := acts_K hK ⟨by omega, by omega⟩ (A + y)
        refine x_callTi (As := [.ref (G.1 10 0), .ref (G.1 30 0), .ref (G.1 31 0), .ref (G.1 32 0), .ref (G.1 33 0), .ref (G.1 34 0), .ref (G.1 35 0), .ref (G.1 36 0), iV (A + y)]) (rest := []) M hl hS (c_L_acts l ⟨by omega, by omega⟩ a1) (va_cwS 9 M.2.2.2.2.1 gL_law_L_acts rfl rfl rfl (by decide +kernel) ⟨Nat.le_of_ble_eq_true rfl, Nat.le_of_ble_eq_true rfl⟩) (Nat.le_of_ble_eq_true rfl) rfl (Nat.le_of_ble_eq_true rfl) dL_law_152 rfl ⟨Nat.le_of_ble_eq_true rfl, Nat.le_of_ble_eq_true rfl⟩ (fun H locs _ hS => ?_)
        refine x_istore M hl dL_law_155 (by decide) ((9, iV 1) :: (10, iV (k : Int)) :: lvL G b) rfl (fun ls hl => ?_)
        refine x_iinc M hl dL_law_157 1 rfl (by decide) ((10, iV ((k : Int) + 1)) :: (9, iV 1) :: lvL G b) rfl (fun ls hl => ?_)
        refine x_goto (tgt := 94) M dL_law_160 (by decide) ?_
        exact ih (k + 1) w2 H locs ls (by omega) (by omega) hl hS hK2
      refine x_iload M hl dL_law_138 0 rfl ?_
      refine x_bipush M dL_law_140 rfl ?_
      refine x_icmp_ge (tgt := 149) M ⟨by omega, by omega⟩ ⟨by decide, by decide⟩ dL_law_142 (by decide) (fun _ => ?_) (fun _ => ?_)
      · refine x_bipush M dL_law_149 rfl ?_
        exact fin 8 ⟨by decide, by decide⟩
      · refine x_iconst M dL_law_145 ?_
        refine x_goto (tgt := 151) M dL_law_146 (by decide) ?_
        exact fin 0 ⟨by decide, by decide⟩
set_option maxHeartbeats 4000000 in
set_option maxRecDepth 100000 in
theorem law_so (C0 : lw_At p s m meth c b L xs) (M : MC p s m #[Value.ref b] meth c code 12 RL wsL_law G) (hnew : ∀ c t, okc c t → s.heap.size ≤ G.1 c t) (hL : L ≤ 260) (hbA : ¬ GA G b) (hl : lv_has ls 12 ((9, iV 8) :: lvL G b)) (hS : ST G s w H locs) (hI : IH 8 w) : W p l e room_1 s m #[Value.ref b] below meth c H locs 600000 7302250 (lw_Z below #[Value.ref b] s) (F0 m 75 ls []) := by
  have hK := sk_init hI
  refine x_aload_n M hl dL_law_75 8 rfl ?_
  refine x_aload_n M hl dL_law_76 7 rfl ?_
  refine x_aload_n M hl dL_law_77 6 rfl ?_
  refine x_aload M hl dL_law_78 5 rfl ?_
  refine x_aload M hl dL_law_80 3 rfl ?_
  refine x_aload M hl dL_law_82 2 rfl ?_
  refine x_aload M hl dL_law_84 1 rfl ?_
  refine x_callTi (As := [.ref (G.1 10 0), .ref (G.1 30 0), .ref (G.1 31 0), .ref (G.1 32 0), .ref (G.1 34 0), .ref (G.1 35 0), .ref (G.1 36 0)]) (rest := []) M hl hS (c_L_isSo l (isSo_K hK ⟨by decide, by decide⟩)) (va_cwS 7 M.2.2.2.2.1 gL_law_L_isSo rfl rfl rfl (by decide +kernel) ⟨Nat.le_of_ble_eq_true rfl, Nat.le_of_ble_eq_true rfl⟩) (Nat.le_of_ble_eq_true rfl) rfl (Nat.le_of_ble_eq_true rfl) dL_law_86 rfl ⟨Nat.le_of_ble_eq_true rfl, Nat.le_of_ble_eq_true rfl⟩ (fun H locs _ hS => ?_)
  refine x_istore M hl dL_law_89 (by decide) ((9, iV 1) :: lvL G b) rfl (fun ls hl => ?_)
  refine x_iconst M dL_law_91 ?_
  refine x_istore M hl dL_law_92 (by decide) ((10, iV ((0 : Nat) : Int)) :: (9, iV 1) :: lvL G b) rfl (fun ls hl => ?_)
  exact law_loop1 C0 M hnew hL hbA 11 0 w H locs ls (by omega) (by omega) hl hS hK
set_option maxHeartbeats 4000000 in
set_option maxRecDepth 100000 in
theorem law_fill (C0 : lw_At p s m meth c b L xs) (M : MC p s m #[Value.ref b] meth c code 12 RL wsL_law G) (hnew : ∀ c t, okc c t → s.heap.size ≤ G.1 c t) (hL : L ≤ 260) (hbA : ¬ GA G b) : ∀ (n k : Nat) (w : Wd) (H : Heap) (locs : List Loc) (ls : Array Slot), 8 - k < n → k ≤ 8 → lv_has ls 12 ((9, iV (k : Int)) :: lvL G b) → ST G s w H locs → IH k w → W p l e room_1 s m #[Value.ref b] below meth c H locs 600000 7302250 (lw_Z below #[Value.ref b] s) (F0 m 56 ls []) := by
  intro n
  induction n with
  | zero => intro k w H locs ls h1; omega
  | succ n ih =>
    intro k w H locs ls h1 h2 hl hS hI
    refine x_iload M hl dL_law_56 0 rfl ?_
    refine x_bipush M dL_law_58 rfl ?_
    refine x_icmp_ge (tgt := 75) M ⟨by omega, by omega⟩ ⟨by decide, by decide⟩ dL_law_60 (by decide) (fun h => ?_) (fun h => ?_)
    · have hk : k = 8 := by omega
      subst hk
      exact law_so C0 M hnew hL hbA hl hS hI
    · refine x_aload_n M hl dL_law_63 6 rfl ?_
      refine x_iload M hl dL_law_64 0 rfl ?_
      refine x_bipush M dL_law_66 rfl ?_
      refine x_iast (c0 := 31) (t0 := 0) M hS (by decide) (hs_31 G _) rfl ⟨by omega, by omega⟩ (by decide) ⟨by decide, by decide⟩ dL_law_68 (fun H locs hS => ?_)
      refine x_iinc M hl dL_law_69 0 rfl (by decide) ((9, iV ((k : Int) + 1)) :: lvL G b) rfl (fun ls hl => ?_)
      refine x_goto (tgt := 56) M dL_law_72 (by decide) ?_
      exact ih (k + 1) _ H locs ls (by omega) (by omega) hl hS hI.next
set_option maxRecDepth 100000 in
theorem law_row (C0 : lw_At p s m meth c b L xs) (M : MC p s m #[Value.ref b] meth c code 12 RL wsL_law G) (hnew : ∀ c t, okc c t → s.heap.size ≤ G.1 c t) (hL : L ≤ 260) (hbA : ¬ GA G b) (hl : lv_has ls 12 (lvL G b)) (hS : ST G s wd0 H locs) : W p l e room_1 s m #[Value.ref b] below meth c H locs 600000 7302250 (lw_Z below #[Value.ref b] s) (F0 m 48 ls []) := by
  refine x_aload_n M hl dL_law_48 6 rfl ?_
  refine x_iconst M dL_law_49 ?_
  refine x_bipush M dL_law_50 rfl ?_
  refine x_iast (c0 := 30) (t0 := 0) M hS (by decide) (hs_30 G _) rfl ⟨by decide, by decide⟩ (by decide) ⟨by decide, by decide⟩ dL_law_52 (fun H locs hS => ?_)
  refine x_iconst M dL_law_53 ?_
  refine x_istore M hl dL_law_54 (by decide) ((9, iV ((0 : Nat) : Int)) :: lvL G b) rfl (fun ls hl => ?_)
  exact law_fill C0 M hnew hL hbA 9 0 _ H locs ls (by omega) (by omega) hl hS IH.one
end LOOPS
