/-! THE LAW: from its entry to its row -/
/-- the locals when all is made -/
abbrev lvL (G : GG) (b : Nat) : List (Nat × Value) := [(8, .ref (G.1 36 0)), (7, .ref (G.1 35 0)), (6, .ref (G.1 34 0)), (5, .ref (G.1 33 0)), (4, .ref (G.1 32 0)), (3, .ref (G.1 31 0)), (2, .ref (G.1 30 0)), (1, .ref (G.1 10 0)), (0, .ref b)]
set_option maxHeartbeats 8000000 in
set_option maxRecDepth 100000 in
theorem law_begin {p : Program} {e : Env} {s : State} {m : MethodId} {below : List Frame} {meth : Method} {c : Code} (l : Launch) {b L : Nat} {xs : Nat → Int32} (C0 : lw_At p s m meth c b L xs)
    (hloop : ∀ (G : GG) (H : Heap) (ls : Array Slot), HP G wd0 H → KK G s → (∀ c t, okc c t → s.heap.size ≤ G.1 c t) → va_S (GA G) s.heap H [] → lv_has ls 12 (lvL G b) → W p l e room_1 s m #[Value.ref b] below meth c H [] 600000 7302250 (lw_Z below #[Value.ref b] s) (F0 m 48 ls [])) :
    W p l e room_1 s m #[Value.ref b] below meth c s.heap [] 0 0 (lw_Z below #[Value.ref b] s) (entryFrame m ([Value.ref b] : List Value).toArray 12) := by
  obtain ⟨hx, hb, hr, hml, hown, hts, hX, hbl, hlocks, hgv⟩ := id C0
  have htl : ∀ w ∈ wsL_law, w.before #[Value.ref b] s = true := fun w h => hts w (wsL_law_in w h)
  have hA : ∀ q : Nat, s.heap.size ≤ q → (fun q : Nat => s.heap.size ≤ q) q := fun _ h => h
  obtain ⟨D, kI, kZ, kL, hK⟩ := k_start hts
  obtain ⟨hKN, hN, hO, hN28, hN35, hN42⟩ := n_start hts
  have hS : va_S (fun q : Nat => s.heap.size ≤ q) s.heap s.heap [] := va_S.rf
  have hP : va_P D vwCl [] s.heap := fun k q h => by simp at h
  have hD : va_D (fun q : Nat => s.heap.size ≤ q) [] := ⟨fun i j p q h => by simp at h, fun k q h => by simp at h⟩
  have hl := lv_entry ([.ref b]) (n := 12) (Nat.le_of_ble_eq_true rfl)
  rw [lg_entry_eq]
  generalize (lg_sl ([.ref b]) ++ List.replicate (12 - (lg_sl ([.ref b])).length) Slot.unset).toArray = ls at hl ⊢
  have hl : lv_has ls 12 [(0, .ref b)] := hl
  refine va_new (ci := 7) (fs := [.null, .null, .null, .null, .null, .null]) (C := RX7) (T := TX7) (N := 6) hx hb hts inX7 tyX7 tyX7_ok hown (hts (.classLink R_law 69 RX7) (by decide +kernel)) (hts (.instantiable RX7 6) (by decide +kernel)) (hts (.initialized RX7) (by decide +kernel)) hK hP hD hS hA rfl (fun j hj => by rcases (show j = 0 ∨ j = 1 ∨ j = 2 ∨ j = 3 ∨ j = 4 ∨ j = 5 by omega) with rfl | rfl | rfl | rfl | rfl | rfl <;> rfl) (Nat.le_of_ble_eq_true rfl) (Nat.le_of_ble_eq_true rfl) dL_law_0 (fun q7 H hP hD hS => ?_)
  have hP : va_P D vwCl [(q7, .inr (7, [.null, .null, .null, .null, .null, .null]))] H := hP
  have hD : va_D (fun q : Nat => s.heap.size ≤ q) [(q7, .inr (7, [.null, .null, .null, .null, .null, .null]))] := hD
  refine lv_dup hx hb dL_law_3 rfl ?_
  have hPc := hP.sub (ws' := [(q7, .inr (7, [.null, .null, .null, .null, .null, .null]))]) [0] rfl
  have hDc := hD.sub (ws' := [(q7, .inr (7, [.null, .null, .null, .null, .null, .null]))]) [0] (by decide) rfl
  have hKc := hK.sub (tys' := [(kI, .int), (kZ, .boolean)]) [0, 1] rfl
  have hFc := va_free (wc := [(q7, .inr (7, [.null, .null, .null, .null, .null, .null]))]) hD hS hA [0] rfl
  refine va_callv (va_runI (As := []) (rest := [.ref q7]) ⟨hx, hb, hml, hown, htl⟩ (c_X7_init l D kI kZ q7 H.size) (cwI 0 htl gL_law_X7_init rfl rfl rfl (hts (.initialized RX7) (by decide +kernel)) (hts (.methodLink R_law 143 yX7_init) (by decide +kernel)) (hts (.instanceMethod yX7_init) (by decide +kernel)) rfl (by decide +kernel) ⟨Nat.le_of_ble_eq_true rfl, Nat.le_of_ble_eq_true rfl⟩) ⟨fun a U g mk q => by obtain ⟨q0, q1, qP, qK, qD, qN, qO, q28, q35, q42⟩ := q; exact ⟨q0, q1, qP, va_K.moved (u := U) (U := U.calling g mk a) (Vm.Alike.refl U.vm) qK, qD, va_Nw.same rfl rfl qN, va_AO.moved (u := U) (U := U.calling g mk a) (Vm.Alike.refl U.vm) qO, va_Nw.same rfl rfl q28, va_Nw.same rfl rfl q35, va_Nw.same rfl rfl q42⟩, fun U hU hW => ⟨rfl, by rw [hU], by rw [hU]; exact hPc, va_K.moved hW.alike hKc, hDc.weaken (fun _ _ _ _ => trivial), va_Nw.warmM hW hN, va_AO.moved hW.alike hO, va_Nw.warmM hW hN28, va_Nw.warmM hW hN35, va_Nw.warmM hW hN42⟩⟩ rfl rfl hl.1 rfl (lv_room (Nat.le_of_ble_eq_true rfl)) dL_law_4 ⟨Nat.le_of_ble_eq_true rfl, Nat.le_of_ble_eq_true rfl⟩) hS (fun q _ h => hFc q h) hFc (fun u t H1 locs ht hvm _ hB hz1 hk1 hS => ?_)
  obtain ⟨cS, x0, v0, x1, v1, x2, y2, s0, u0, s1, u1, s2, u2, s3, u3, s4, u4, s5, u5, x3, v3, x4, v4, x5, v5, hP1, hK1, hD1⟩ := hB
  rw [ht] at hP1
  have hK4 : va_K D vwCl [(kI, .int), (kZ, .boolean), (cS, .object "NamedMoves$Store"), (kL, .long)] s := by
    have hK2 := va_K.moved hvm.symm hK1
    refine ⟨hK.1, fun k q hq => ?_⟩
    match k, hq with
    | 0, hq => exact hK.2 0 q hq
    | 1, hq => exact hK.2 1 q hq
    | 2, hq => exact hK2.2 2 q hq
    | 3, hq => exact hK.2 2 q hq
    | k + 4, hq => simp at hq
  obtain ⟨hP, hD⟩ := va_join (wr := []) (w1 := (tX7 kI kZ cS q7 x0 v0 x1 v1 x2 y2 s0 u0 s1 u1 s2 u2 s3 u3 s4 u4 s5 u5 x3 v3 x4 v4 x5 v5)) hP hD [0] [] rfl rfl (by decide) (by decide) hk1 hFc hP1 hD1
  generalize H1 = H at hP hS ⊢
  have hP : va_P D vwCl (tX7 kI kZ cS q7 x0 v0 x1 v1 x2 y2 s0 u0 s1 u1 s2 u2 s3 u3 s4 u4 s5 u5 x3 v3 x4 v4 x5 v5) H := hP
  have hD : va_D (fun q : Nat => s.heap.size ≤ q) (tX7 kI kZ cS q7 x0 v0 x1 v1 x2 y2 s0 u0 s1 u1 s2 u2 s3 u3 s4 u4 s5 u5 x3 v3 x4 v4 x5 v5) := hD
  refine lv_astore_n (lv' := [(1, .ref q7), (0, .ref b)]) hx hb dL_law_7 rfl hl (by decide) rfl (fun ls hl => ?_)
  refine lv_bipush (v := 9) hx hb dL_law_8 (by decide) ?_
  refine n_newi (kI := kI) (k0 := 0) (N' := 9) hx hb (hts (.arrayClass .int) (by decide +kernel)) hK hP hD hS hA rfl (by decide) (by decide) (Nat.le_of_ble_eq_true rfl) (Nat.le_of_ble_eq_true rfl) (Nat.le_of_ble_eq_true rfl) dL_law_10 (fun m0 H hP hD hS => ?_)
  have hP : va_P D vwCl ((tX7 kI kZ cS q7 x0 v0 x1 v1 x2 y2 s0 u0 s1 u1 s2 u2 s3 u3 s4 u4 s5 u5 x3 v3 x4 v4 x5 v5) ++ [(m0, .inl (kI, 9, .inl (fun _ => 0)))]) H := hP
  have hD : va_D (fun q : Nat => s.heap.size ≤ q) ((tX7 kI kZ cS q7 x0 v0 x1 v1 x2 y2 s0 u0 s1 u1 s2 u2 s3 u3 s4 u4 s5 u5 x3 v3 x4 v4 x5 v5) ++ [(m0, .inl (kI, 9, .inl (fun _ => 0)))]) := hD
  refine lv_astore_n (lv' := [(2, .ref m0), (1, .ref q7), (0, .ref b)]) hx hb dL_law_12 rfl hl (by decide) rfl (fun ls hl => ?_)
  refine lv_bipush (v := 8) hx hb dL_law_13 (by decide) ?_
  refine n_newi (kI := kI) (k0 := 0) (N' := 8) hx hb (hts (.arrayClass .int) (by decide +kernel)) hK hP hD hS hA rfl (by decide) (by decide) (Nat.le_of_ble_eq_true rfl) (Nat.le_of_ble_eq_true rfl) (Nat.le_of_ble_eq_true rfl) dL_law_15 (fun m1 H hP hD hS => ?_)
  have hP : va_P D vwCl (((tX7 kI kZ cS q7 x0 v0 x1 v1 x2 y2 s0 u0 s1 u1 s2 u2 s3 u3 s4 u4 s5 u5 x3 v3 x4 v4 x5 v5) ++ [(m0, .inl (kI, 9, .inl (fun _ => 0)))]) ++ [(m1, .inl (kI, 8, .inl (fun _ => 0)))]) H := hP
  have hD : va_D (fun q : Nat => s.heap.size ≤ q) (((tX7 kI kZ cS q7 x0 v0 x1 v1 x2 y2 s0 u0 s1 u1 s2 u2 s3 u3 s4 u4 s5 u5 x3 v3 x4 v4 x5 v5) ++ [(m0, .inl (kI, 9, .inl (fun _ => 0)))]) ++ [(m1, .inl (kI, 8, .inl (fun _ => 0)))]) := hD
  refine lv_astore_n (lv' := [(3, .ref m1), (2, .ref m0), (1, .ref q7), (0, .ref b)]) hx hb dL_law_17 rfl hl (by decide) rfl (fun ls hl => ?_)
  refine lv_bipush (v := 40) hx hb dL_law_18 (by decide) ?_
  refine n_newi (kI := kI) (k0 := 0) (N' := 40) hx hb (hts (.arrayClass .int) (by decide +kernel)) hK hP hD hS hA rfl (by decide) (by decide) (Nat.le_of_ble_eq_true rfl) (Nat.le_of_ble_eq_true rfl) (Nat.le_of_ble_eq_true rfl) dL_law_20 (fun m2 H hP hD hS => ?_)
  have hP : va_P D vwCl ((((tX7 kI kZ cS q7 x0 v0 x1 v1 x2 y2 s0 u0 s1 u1 s2 u2 s3 u3 s4 u4 s5 u5 x3 v3 x4 v4 x5 v5) ++ [(m0, .inl (kI, 9, .inl (fun _ => 0)))]) ++ [(m1, .inl (kI, 8, .inl (fun _ => 0)))]) ++ [(m2, .inl (kI, 40, .inl (fun _ => 0)))]) H := hP
  have hD : va_D (fun q : Nat => s.heap.size ≤ q) ((((tX7 kI kZ cS q7 x0 v0 x1 v1 x2 y2 s0 u0 s1 u1 s2 u2 s3 u3 s4 u4 s5 u5 x3 v3 x4 v4 x5 v5) ++ [(m0, .inl (kI, 9, .inl (fun _ => 0)))]) ++ [(m1, .inl (kI, 8, .inl (fun _ => 0)))]) ++ [(m2, .inl (kI, 40, .inl (fun _ => 0)))]) := hD
  refine lv_astore (lv' := [(4, .ref m2), (3, .ref m1), (2, .ref m0), (1, .ref q7), (0, .ref b)]) hx hb dL_law_22 hl (by decide) rfl (fun ls hl => ?_)
  refine lv_bipush (v := 64) hx hb dL_law_24 (by decide) ?_
  refine n_newi (kI := kI) (k0 := 0) (N' := 64) hx hb (hts (.arrayClass .int) (by decide +kernel)) hK hP hD hS hA rfl (by decide) (by decide) (Nat.le_of_ble_eq_true rfl) (Nat.le_of_ble_eq_true rfl) (Nat.le_of_ble_eq_true rfl) dL_law_26 (fun m3 H hP hD hS => ?_)
  have hP : va_P D vwCl (((((tX7 kI kZ cS q7 x0 v0 x1 v1 x2 y2 s0 u0 s1 u1 s2 u2 s3 u3 s4 u4 s5 u5 x3 v3 x4 v4 x5 v5) ++ [(m0, .inl (kI, 9, .inl (fun _ => 0)))]) ++ [(m1, .inl (kI, 8, .inl (fun _ => 0)))]) ++ [(m2, .inl (kI, 40, .inl (fun _ => 0)))]) ++ [(m3, .inl (kI, 64, .inl (fun _ => 0)))]) H := hP
  have hD : va_D (fun q : Nat => s.heap.size ≤ q) (((((tX7 kI kZ cS q7 x0 v0 x1 v1 x2 y2 s0 u0 s1 u1 s2 u2 s3 u3 s4 u4 s5 u5 x3 v3 x4 v4 x5 v5) ++ [(m0, .inl (kI, 9, .inl (fun _ => 0)))]) ++ [(m1, .inl (kI, 8, .inl (fun _ => 0)))]) ++ [(m2, .inl (kI, 40, .inl (fun _ => 0)))]) ++ [(m3, .inl (kI, 64, .inl (fun _ => 0)))]) := hD
  refine lv_astore (lv' := [(5, .ref m3), (4, .ref m2), (3, .ref m1), (2, .ref m0), (1, .ref q7), (0, .ref b)]) hx hb dL_law_28 hl (by decide) rfl (fun ls hl => ?_)
  refine lv_bipush (v := 64) hx hb dL_law_30 (by decide) ?_
  refine n_newl (kI := kL) (k0 := 2) (N' := 64) hx hb (hts (.arrayClass .long) (by decide +kernel)) hK hP hD hS hA rfl (by decide) (by decide) (Nat.le_of_ble_eq_true rfl) (Nat.le_of_ble_eq_true rfl) (Nat.le_of_ble_eq_true rfl) dL_law_32 (fun m4 H hP hD hS => ?_)
  have hP : va_P D vwCl ((((((tX7 kI kZ cS q7 x0 v0 x1 v1 x2 y2 s0 u0 s1 u1 s2 u2 s3 u3 s4 u4 s5 u5 x3 v3 x4 v4 x5 v5) ++ [(m0, .inl (kI, 9, .inl (fun _ => 0)))]) ++ [(m1, .inl (kI, 8, .inl (fun _ => 0)))]) ++ [(m2, .inl (kI, 40, .inl (fun _ => 0)))]) ++ [(m3, .inl (kI, 64, .inl (fun _ => 0)))]) ++ [(m4, .inl (kL, 64, .inr (.inl (fun _ => 0))))]) H := hP
  have hD : va_D (fun q : Nat => s.heap.size ≤ q) ((((((tX7 kI kZ cS q7 x0 v0 x1 v1 x2 y2 s0 u0 s1 u1 s2 u2 s3 u3 s4 u4 s5 u5 x3 v3 x4 v4 x5 v5) ++ [(m0, .inl (kI, 9, .inl (fun _ => 0)))]) ++ [(m1, .inl (kI, 8, .inl (fun _ => 0)))]) ++ [(m2, .inl (kI, 40, .inl (fun _ => 0)))]) ++ [(m3, .inl (kI, 64, .inl (fun _ => 0)))]) ++ [(m4, .inl (kL, 64, .inr (.inl (fun _ => 0))))]) := hD
  refine lv_astore (lv' := [(6, .ref m4), (5, .ref m3), (4, .ref m2), (3, .ref m1), (2, .ref m0), (1, .ref q7), (0, .ref b)]) hx hb dL_law_34 hl (by decide) rfl (fun ls hl => ?_)
  refine lv_bipush (v := 64) hx hb dL_law_36 (by decide) ?_
  refine n_newl (kI := kL) (k0 := 2) (N' := 64) hx hb (hts (.arrayClass .long) (by decide +kernel)) hK hP hD hS hA rfl (by decide) (by decide) (Nat.le_of_ble_eq_true rfl) (Nat.le_of_ble_eq_true rfl) (Nat.le_of_ble_eq_true rfl) dL_law_38 (fun m5 H hP hD hS => ?_)
  have hP : va_P D vwCl (((((((tX7 kI kZ cS q7 x0 v0 x1 v1 x2 y2 s0 u0 s1 u1 s2 u2 s3 u3 s4 u4 s5 u5 x3 v3 x4 v4 x5 v5) ++ [(m0, .inl (kI, 9, .inl (fun _ => 0)))]) ++ [(m1, .inl (kI, 8, .inl (fun _ => 0)))]) ++ [(m2, .inl (kI, 40, .inl (fun _ => 0)))]) ++ [(m3, .inl (kI, 64, .inl (fun _ => 0)))]) ++ [(m4, .inl (kL, 64, .inr (.inl (fun _ => 0))))]) ++ [(m5, .inl (kL, 64, .inr (.inl (fun _ => 0))))]) H := hP
  have hD : va_D (fun q : Nat => s.heap.size ≤ q) (((((((tX7 kI kZ cS q7 x0 v0 x1 v1 x2 y2 s0 u0 s1 u1 s2 u2 s3 u3 s4 u4 s5 u5 x3 v3 x4 v4 x5 v5) ++ [(m0, .inl (kI, 9, .inl (fun _ => 0)))]) ++ [(m1, .inl (kI, 8, .inl (fun _ => 0)))]) ++ [(m2, .inl (kI, 40, .inl (fun _ => 0)))]) ++ [(m3, .inl (kI, 64, .inl (fun _ => 0)))]) ++ [(m4, .inl (kL, 64, .inr (.inl (fun _ => 0))))]) ++ [(m5, .inl (kL, 64, .inr (.inl (fun _ => 0))))]) := hD
  refine lv_astore (lv' := [(7, .ref m5), (6, .ref m4), (5, .ref m3), (4, .ref m2), (3, .ref m1), (2, .ref m0), (1, .ref q7), (0, .ref b)]) hx hb dL_law_40 hl (by decide) rfl (fun ls hl => ?_)
  refine lv_bipush (v := 64) hx hb dL_law_42 (by decide) ?_
  refine n_newl (kI := kL) (k0 := 2) (N' := 64) hx hb (hts (.arrayClass .long) (by decide +kernel)) hK hP hD hS hA rfl (by decide) (by decide) (Nat.le_of_ble_eq_true rfl) (Nat.le_of_ble_eq_true rfl) (Nat.le_of_ble_eq_true rfl) dL_law_44 (fun m6 H hP hD hS => ?_)
  have hP : va_P D vwCl (tAll kI kZ cS kL q7 x0 v0 x1 v1 x2 y2 s0 u0 s1 u1 s2 u2 s3 u3 s4 u4 s5 u5 x3 v3 x4 v4 x5 v5 m0 m1 m2 m3 m4 m5 m6) H := hP
  have hD : va_D (fun q : Nat => s.heap.size ≤ q) (tAll kI kZ cS kL q7 x0 v0 x1 v1 x2 y2 s0 u0 s1 u1 s2 u2 s3 u3 s4 u4 s5 u5 x3 v3 x4 v4 x5 v5 m0 m1 m2 m3 m4 m5 m6) := hD
  refine lv_astore (lv' := [(8, .ref m6), (7, .ref m5), (6, .ref m4), (5, .ref m3), (4, .ref m2), (3, .ref m1), (2, .ref m0), (1, .ref q7), (0, .ref b)]) hx hb dL_law_46 hl (by decide) rfl (fun ls hl => ?_)
  refine va_forget hS.2.2 ?_
  refine W.widen (k := 600000) (n := 7302250) (Nat.le_of_ble_eq_true rfl) (Nat.le_of_ble_eq_true rfl) ?_
  have hH := hp_start q7 x0 v0 x1 v1 x2 y2 s0 u0 s1 u1 s2 u2 s3 u3 s4 u4 s5 u5 x3 v3 x4 v4 x5 v5 m0 m1 m2 m3 m4 m5 m6 hP hD
  refine hloop (gm (tAll kI kZ cS kL q7 x0 v0 x1 v1 x2 y2 s0 u0 s1 u1 s2 u2 s3 u3 s4 u4 s5 u5 x3 v3 x4 v4 x5 v5 m0 m1 m2 m3 m4 m5 m6), D, kI, kZ, cS, kL) H ls hH ⟨hK4, hKN⟩ (fun c t ok => ?_) ⟨hS.1, fun q h1 _ => hS.2.1 q h1 (Nat.not_le.mpr h1), fun _ h => absurd h List.not_mem_nil⟩ hl
  have l1 : pl c t < (tAll kI kZ cS kL q7 x0 v0 x1 v1 x2 y2 s0 u0 s1 u1 s2 u2 s3 u3 s4 u4 s5 u5 x3 v3 x4 v4 x5 v5 m0 m1 m2 m3 m4 m5 m6).length := by rw [show (tAll kI kZ cS kL q7 x0 v0 x1 v1 x2 y2 s0 u0 s1 u1 s2 u2 s3 u3 s4 u4 s5 u5 x3 v3 x4 v4 x5 v5 m0 m1 m2 m3 m4 m5 m6).length = 98 from rfl]; exact pl_lt c (by omega) t (by omega) ok
  have g1 := List.getElem?_eq_getElem l1
  show s.heap.size ≤ gm (tAll kI kZ cS kL q7 x0 v0 x1 v1 x2 y2 s0 u0 s1 u1 s2 u2 s3 u3 s4 u4 s5 u5 x3 v3 x4 v4 x5 v5 m0 m1 m2 m3 m4 m5 m6) c t
  unfold gm
  rw [g1]
  exact hD.2 _ _ g1
