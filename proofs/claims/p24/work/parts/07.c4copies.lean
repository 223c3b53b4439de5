/-! CONSTRUCTORS: X0 -/
abbrev tX0 (kI : ClassId) (h0 q0 q1 q2 q3 q4 : Nat) : va_W := [(h0, .inr (0, [.ref q0, .ref q1, .ref q2, .ref q3, .ref q4])), (q0, .inl (kI, 260, .inl (fun _ => 0))), (q1, .inl (kI, 260, .inl (fun _ => 0))), (q3, .inl (kI, 260, .inl (fun _ => 0))), (q2, .inl (kI, 260, .inl (fil (fun _ => 0) 300 260))), (q4, .inl (kI, 520, .inl (fil (fun _ => 0) 300 520)))]
set_option maxHeartbeats 4000000 in
set_option maxRecDepth 100000 in
theorem c_X0_init (l : Launch) (D : va_G) (kI : ClassId) (h0 sz : Nat) : Met l yX0_init wsX0_init ({ frames := 1, cells := 5, slots := 1560, locals := 32 }) (va_Pc [.ref h0] (fun U => U.heap.size = sz ∧ va_P D vwCl [(h0, .inr (0, [.null, .null, .null, .null, .null]))] U.heap ∧ va_K D vwCl [(kI, .int)] U ∧ va_D (fun _ => True) [(h0, .inr (0, [.null, .null, .null, .null, .null]))])) (va_Qv (fun _ : Nat × Nat × Nat × Nat × Nat => True) (fun u U => va_P D vwCl (tX0 kI h0 u.1 u.2.1 u.2.2.1 u.2.2.2.1 u.2.2.2.2) U.heap ∧ va_K D vwCl [(kI, .int)] U ∧ va_D (va_A [(h0, .inr (0, [.null, .null, .null, .null, .null]))] sz) (tX0 kI h0 u.1 u.2.1 u.2.2.1 u.2.2.2.1 u.2.2.2.2)) (va_A [(h0, .inr (0, [.null, .null, .null, .null, .null]))] sz)) 5 1560 (va_A [(h0, .inr (0, [.null, .null, .null, .null, .null]))] sz) := by
  refine Met.ofW (cc := cX0_init) (maxL := 1) (ret := none) (by decide) rfl ?_
  intro p e s m args below meth c s₁ B hml hv
  obtain ⟨rfl, hsz, hP, hK, hD0⟩ := hv
  have hx := B.exec
  have hb := B.bytes
  have hr := B.returns
  have hts := atoms_spec (ws := wsX0_init) B.pre
  have hown : s.vm.findClass RX0 = some m.cls := findClass_of_methodNamed B.named
  have hlocks := B.notSynchronized
  have hin : meth.name = "<init>" := (name_of_methodNamed B.named B.method).1
  subst hsz
  have hD := hD0.self (sz := s.heap.size)
  generalize hAe : va_A [(h0, .inr (0, [.null, .null, .null, .null, .null]))] s.heap.size = A at hD ⊢
  have hA : ∀ q : Nat, s.heap.size ≤ q → A q := fun q h => by rw [← hAe]; exact Or.inr h
  have hS : va_S A s.heap s.heap [] := va_S.rf
  have hP : va_P D vwCl [(h0, .inr (0, [.null, .null, .null, .null, .null]))] s.heap := hP
  have hl := lv_entry ([.ref h0]) (n := 1) (Nat.le_of_ble_eq_true rfl)
  rw [lg_entry_eq]
  generalize (lg_sl ([.ref h0]) ++ List.replicate (1 - (lg_sl ([.ref h0])).length) Slot.unset).toArray = ls at hl ⊢
  have hl : lv_has ls 1 [(0, .ref h0)] := hl
  refine lv_aload_n hx hb dX0_init_0 rfl (lv_at hl 0 rfl) ?_
  refine W.objInit hx hb hown (hts (.methodLink RX0 3 objectInit) (by decide +kernel)) (hts (.instanceMethod objectInit) (by decide +kernel)) (hts _ (List.mem_cons_of_mem _ (List.mem_append_left _ (List.mem_of_getElem? (i := 2) rfl)))) rfl (by rw [hml]; exact hl.1) rfl dX0_init_1 (Nat.le_of_ble_eq_true rfl) (Nat.le_of_ble_eq_true rfl) ?_
  refine W.eq (g2 := F0 m 4 ls []) rfl ?_
  refine lv_aload_n hx hb dX0_init_4 rfl (lv_at hl 0 rfl) ?_
  refine lv_sipush (v := 260) hx hb dX0_init_5 (by decide) ?_
  refine n_newi (kI := kI) (k0 := 0) (N' := 260) hx hb (hts (.arrayClass .int) (by decide +kernel)) hK hP hD hS hA rfl (by decide) (by decide) (Nat.le_of_ble_eq_true rfl) (Nat.le_of_ble_eq_true rfl) (Nat.le_of_ble_eq_true rfl) dX0_init_8 (fun q0 H hP hD hS => ?_)
  have hP : va_P D vwCl [(h0, .inr (0, [.null, .null, .null, .null, .null])), (q0, .inl (kI, 260, .inl (fun _ => 0)))] H := hP
  have hD : va_D A [(h0, .inr (0, [.null, .null, .null, .null, .null])), (q0, .inl (kI, 260, .inl (fun _ => 0)))] := hD
  refine va_putF (D := D) (ci := 0) (v := .ref q0) (ty := .array .int) (C := RX0) (T := TX0) (N := 5) hx hb hts (fun w h => List.mem_cons_of_mem _ (List.mem_append_right _ h)) tyX0 tyX0_ok nmX0 hown hK hP hD hS 0 rfl rfl 0 (by decide) (hts (.fieldLink RX0 9 "NamedMoves$Copies" "things" "[I") (by decide +kernel)) (fun _ h9 => h9) rfl hin rfl (by decide +kernel) rfl rfl (Nat.le_of_ble_eq_true rfl) dX0_init_10 (fun H locs hP hD hS => ?_)
  have hP : va_P D vwCl [(h0, .inr (0, [.ref q0, .null, .null, .null, .null])), (q0, .inl (kI, 260, .inl (fun _ => 0)))] H := hP
  have hD : va_D A [(h0, .inr (0, [.ref q0, .null, .null, .null, .null])), (q0, .inl (kI, 260, .inl (fun _ => 0)))] := hD
  refine lv_aload_n hx hb dX0_init_13 rfl (lv_at hl 0 rfl) ?_
  refine lv_sipush (v := 260) hx hb dX0_init_14 (by decide) ?_
  refine n_newi (kI := kI) (k0 := 0) (N' := 260) hx hb (hts (.arrayClass .int) (by decide +kernel)) hK hP hD hS hA rfl (by decide) (by decide) (Nat.le_of_ble_eq_true rfl) (Nat.le_of_ble_eq_true rfl) (Nat.le_of_ble_eq_true rfl) dX0_init_17 (fun q1 H hP hD hS => ?_)
  have hP : va_P D vwCl [(h0, .inr (0, [.ref q0, .null, .null, .null, .null])), (q0, .inl (kI, 260, .inl (fun _ => 0))), (q1, .inl (kI, 260, .inl (fun _ => 0)))] H := hP
  have hD : va_D A [(h0, .inr (0, [.ref q0, .null, .null, .null, .null])), (q0, .inl (kI, 260, .inl (fun _ => 0))), (q1, .inl (kI, 260, .inl (fun _ => 0)))] := hD
  refine va_putF (D := D) (ci := 0) (v := .ref q1) (ty := .array .int) (C := RX0) (T := TX0) (N := 5) hx hb hts (fun w h => List.mem_cons_of_mem _ (List.mem_append_right _ h)) tyX0 tyX0_ok nmX0 hown hK hP hD hS 0 rfl rfl 1 (by decide) (hts (.fieldLink RX0 15 "NamedMoves$Copies" "sizes" "[I") (by decide +kernel)) (fun _ h9 => h9) rfl hin rfl (by decide +kernel) rfl rfl (Nat.le_of_ble_eq_true rfl) dX0_init_19 (fun H locs hP hD hS => ?_)
  have hP : va_P D vwCl [(h0, .inr (0, [.ref q0, .ref q1, .null, .null, .null])), (q0, .inl (kI, 260, .inl (fun _ => 0))), (q1, .inl (kI, 260, .inl (fun _ => 0)))] H := hP
  have hD : va_D A [(h0, .inr (0, [.ref q0, .ref q1, .null, .null, .null])), (q0, .inl (kI, 260, .inl (fun _ => 0))), (q1, .inl (kI, 260, .inl (fun _ => 0)))] := hD
  refine lv_aload_n hx hb dX0_init_22 rfl (lv_at hl 0 rfl) ?_
  refine lv_sipush (v := 260) hx hb dX0_init_23 (by decide) ?_
  refine n_newi (kI := kI) (k0 := 0) (N' := 260) hx hb (hts (.arrayClass .int) (by decide +kernel)) hK hP hD hS hA rfl (by decide) (by decide) (Nat.le_of_ble_eq_true rfl) (Nat.le_of_ble_eq_true rfl) (Nat.le_of_ble_eq_true rfl) dX0_init_26 (fun q2 H hP hD hS => ?_)
  have hP : va_P D vwCl [(h0, .inr (0, [.ref q0, .ref q1, .null, .null, .null])), (q0, .inl (kI, 260, .inl (fun _ => 0))), (q1, .inl (kI, 260, .inl (fun _ => 0))), (q2, .inl (kI, 260, .inl (fun _ => 0)))] H := hP
  have hD : va_D A [(h0, .inr (0, [.ref q0, .ref q1, .null, .null, .null])), (q0, .inl (kI, 260, .inl (fun _ => 0))), (q1, .inl (kI, 260, .inl (fun _ => 0))), (q2, .inl (kI, 260, .inl (fun _ => 0)))] := hD
  refine va_putF (D := D) (ci := 0) (v := .ref q2) (ty := .array .int) (C := RX0) (T := TX0) (N := 5) hx hb hts (fun w h => List.mem_cons_of_mem _ (List.mem_append_right _ h)) tyX0 tyX0_ok nmX0 hown hK hP hD hS 0 rfl rfl 2 (by decide) (hts (.fieldLink RX0 18 "NamedMoves$Copies" "notes" "[I") (by decide +kernel)) (fun _ h9 => h9) rfl hin rfl (by decide +kernel) rfl rfl (Nat.le_of_ble_eq_true rfl) dX0_init_28 (fun H locs hP hD hS => ?_)
  have hP : va_P D vwCl [(h0, .inr (0, [.ref q0, .ref q1, .ref q2, .null, .null])), (q0, .inl (kI, 260, .inl (fun _ => 0))), (q1, .inl (kI, 260, .inl (fun _ => 0))), (q2, .inl (kI, 260, .inl (fun _ => 0)))] H := hP
  have hD : va_D A [(h0, .inr (0, [.ref q0, .ref q1, .ref q2, .null, .null])), (q0, .inl (kI, 260, .inl (fun _ => 0))), (q1, .inl (kI, 260, .inl (fun _ => 0))), (q2, .inl (kI, 260, .inl (fun _ => 0)))] := hD
  refine lv_aload_n hx hb dX0_init_31 rfl (lv_at hl 0 rfl) ?_
  refine lv_sipush (v := 260) hx hb dX0_init_32 (by decide) ?_
  refine n_newi (kI := kI) (k0 := 0) (N' := 260) hx hb (hts (.arrayClass .int) (by decide +kernel)) hK hP hD hS hA rfl (by decide) (by decide) (Nat.le_of_ble_eq_true rfl) (Nat.le_of_ble_eq_true rfl) (Nat.le_of_ble_eq_true rfl) dX0_init_35 (fun q3 H hP hD hS => ?_)
  have hP : va_P D vwCl [(h0, .inr (0, [.ref q0, .ref q1, .ref q2, .null, .null])), (q0, .inl (kI, 260, .inl (fun _ => 0))), (q1, .inl (kI, 260, .inl (fun _ => 0))), (q2, .inl (kI, 260, .inl (fun _ => 0))), (q3, .inl (kI, 260, .inl (fun _ => 0)))] H := hP
  have hD : va_D A [(h0, .inr (0, [.ref q0, .ref q1, .ref q2, .null, .null])), (q0, .inl (kI, 260, .inl (fun _ => 0))), (q1, .inl (kI, 260, .inl (fun _ => 0))), (q2, .inl (kI, 260, .inl (fun _ => 0))), (q3, .inl (kI, 260, .inl (fun _ => 0)))] := hD
  refine va_putF (D := D) (ci := 0) (v := .ref q3) (ty := .array .int) (C := RX0) (T := TX0) (N := 5) hx hb hts (fun w h => List.mem_cons_of_mem _ (List.mem_append_right _ h)) tyX0 tyX0_ok nmX0 hown hK hP hD hS 0 rfl rfl 3 (by decide) (hts (.fieldLink RX0 21 "NamedMoves$Copies" "marks" "[I") (by decide +kernel)) (fun _ h9 => h9) rfl hin rfl (by decide +kernel) rfl rfl (Nat.le_of_ble_eq_true rfl) dX0_init_37 (fun H locs hP hD hS => ?_)
  have hP : va_P D vwCl [(h0, .inr (0, [.ref q0, .ref q1, .ref q2, .ref q3, .null])), (q0, .inl (kI, 260, .inl (fun _ => 0))), (q1, .inl (kI, 260, .inl (fun _ => 0))), (q2, .inl (kI, 260, .inl (fun _ => 0))), (q3, .inl (kI, 260, .inl (fun _ => 0)))] H := hP
  have hD : va_D A [(h0, .inr (0, [.ref q0, .ref q1, .ref q2, .ref q3, .null])), (q0, .inl (kI, 260, .inl (fun _ => 0))), (q1, .inl (kI, 260, .inl (fun _ => 0))), (q2, .inl (kI, 260, .inl (fun _ => 0))), (q3, .inl (kI, 260, .inl (fun _ => 0)))] := hD
  refine lv_aload_n hx hb dX0_init_40 rfl (lv_at hl 0 rfl) ?_
  refine lv_sipush (v := 520) hx hb dX0_init_41 (by decide) ?_
  refine n_newi (kI := kI) (k0 := 0) (N' := 520) hx hb (hts (.arrayClass .int) (by decide +kernel)) hK hP hD hS hA rfl (by decide) (by decide) (Nat.le_of_ble_eq_true rfl) (Nat.le_of_ble_eq_true rfl) (Nat.le_of_ble_eq_true rfl) dX0_init_44 (fun q4 H hP hD hS => ?_)
  have hP : va_P D vwCl [(h0, .inr (0, [.ref q0, .ref q1, .ref q2, .ref q3, .null])), (q0, .inl (kI, 260, .inl (fun _ => 0))), (q1, .inl (kI, 260, .inl (fun _ => 0))), (q2, .inl (kI, 260, .inl (fun _ => 0))), (q3, .inl (kI, 260, .inl (fun _ => 0))), (q4, .inl (kI, 520, .inl (fun _ => 0)))] H := hP
  have hD : va_D A [(h0, .inr (0, [.ref q0, .ref q1, .ref q2, .ref q3, .null])), (q0, .inl (kI, 260, .inl (fun _ => 0))), (q1, .inl (kI, 260, .inl (fun _ => 0))), (q2, .inl (kI, 260, .inl (fun _ => 0))), (q3, .inl (kI, 260, .inl (fun _ => 0))), (q4, .inl (kI, 520, .inl (fun _ => 0)))] := hD
  refine va_putF (D := D) (ci := 0) (v := .ref q4) (ty := .array .int) (C := RX0) (T := TX0) (N := 5) hx hb hts (fun w h => List.mem_cons_of_mem _ (List.mem_append_right _ h)) tyX0 tyX0_ok nmX0 hown hK hP hD hS 0 rfl rfl 4 (by decide) (hts (.fieldLink RX0 24 "NamedMoves$Copies" "names" "[I") (by decide +kernel)) (fun _ h9 => h9) rfl hin rfl (by decide +kernel) rfl rfl (Nat.le_of_ble_eq_true rfl) dX0_init_46 (fun H locs hP hD hS => ?_)
  have hP : va_P D vwCl [(h0, .inr (0, [.ref q0, .ref q1, .ref q2, .ref q3, .ref q4])), (q0, .inl (kI, 260, .inl (fun _ => 0))), (q1, .inl (kI, 260, .inl (fun _ => 0))), (q2, .inl (kI, 260, .inl (fun _ => 0))), (q3, .inl (kI, 260, .inl (fun _ => 0))), (q4, .inl (kI, 520, .inl (fun _ => 0)))] H := hP
  have hD : va_D A [(h0, .inr (0, [.ref q0, .ref q1, .ref q2, .ref q3, .ref q4])), (q0, .inl (kI, 260, .inl (fun _ => 0))), (q1, .inl (kI, 260, .inl (fun _ => 0))), (q2, .inl (kI, 260, .inl (fun _ => 0))), (q3, .inl (kI, 260, .inl (fun _ => 0))), (q4, .inl (kI, 520, .inl (fun _ => 0)))] := hD
  refine lv_aload_n hx hb dX0_init_49 rfl (lv_at hl 0 rfl) ?_
  refine va_get (D := D) (ci := 0) (v := .ref q2) (C := RX0) (T := TX0) (N := 5) hx hb hts (fun w h => List.mem_cons_of_mem _ (List.mem_append_right _ h)) hown hK hP 0 rfl rfl 2 (by decide) (hts (.fieldLink RX0 18 "NamedMoves$Copies" "notes" "[I") (by decide +kernel)) (fun _ h9 => h9) rfl dX0_init_50 ?_
  refine lv_sipush (v := 300) hx hb dX0_init_53 (by decide) ?_
  have hPc := hP.sub (ws' := [(q2, .inl (kI, 260, .inl (fun _ => 0)))]) [3] rfl
  have hDc := hD.sub (ws' := [(q2, .inl (kI, 260, .inl (fun _ => 0)))]) [3] (by decide) rfl
  have hKc := hK.sub (tys' := [(kI, .int)]) [0] rfl
  have hFc := va_free (wc := [(q2, .inl (kI, 260, .inl (fun _ => 0)))]) hD hS hA [3] rfl
  refine va_callv (va_runS (As := [.ref q2, .int 300]) (rest := []) ⟨hx, hb, hml, hown, hts⟩ (c_fill l D kI q2 260 (fun _ => 0) 300 H.size (by decide)) (va_cwS 2 hts gX0_init_J7_fill_53178 rfl rfl rfl (by decide +kernel) ⟨Nat.le_of_ble_eq_true rfl, Nat.le_of_ble_eq_true rfl⟩) ⟨fun a U g mk q => by obtain ⟨q0, q1, qP, qK, qD⟩ := q; exact ⟨q0, q1, qP, va_K.moved (u := U) (U := U.calling g mk a) (Vm.Alike.refl U.vm) qK, qD⟩, fun U hU hW => ⟨rfl, by rw [hU], by rw [hU]; exact hPc, va_K.moved hW.alike hKc, hDc.weaken (fun _ _ _ _ => trivial)⟩⟩ rfl rfl hl.1 rfl (lv_room (Nat.le_of_ble_eq_true rfl)) dX0_init_56 ⟨Nat.le_of_ble_eq_true rfl, Nat.le_of_ble_eq_true rfl⟩) hS (fun q _ h => hFc q h) hFc (fun u t H1 locs ht hvm _ hB hz1 hk1 hS => ?_)
  obtain ⟨hP1, hK1, hD1⟩ := hB
  rw [ht] at hP1
  obtain ⟨hP, hD⟩ := va_join (wr := [(h0, .inr (0, [.ref q0, .ref q1, .ref q2, .ref q3, .ref q4])), (q0, .inl (kI, 260, .inl (fun _ => 0))), (q1, .inl (kI, 260, .inl (fun _ => 0))), (q3, .inl (kI, 260, .inl (fun _ => 0))), (q4, .inl (kI, 520, .inl (fun _ => 0)))]) (w1 := [(q2, .inl (kI, 260, .inl (fil (fun _ => 0) 300 260)))]) hP hD [3] [0, 1, 2, 4, 5] rfl rfl (by decide) (by decide) hk1 hFc hP1 hD1
  generalize H1 = H at hP hS ⊢
  have hP : va_P D vwCl [(h0, .inr (0, [.ref q0, .ref q1, .ref q2, .ref q3, .ref q4])), (q0, .inl (kI, 260, .inl (fun _ => 0))), (q1, .inl (kI, 260, .inl (fun _ => 0))), (q3, .inl (kI, 260, .inl (fun _ => 0))), (q4, .inl (kI, 520, .inl (fun _ => 0))), (q2, .inl (kI, 260, .inl (fil (fun _ => 0) 300 260)))] H := hP
  have hD : va_D A [(h0, .inr (0, [.ref q0, .ref q1, .ref q2, .ref q3, .ref q4])), (q0, .inl (kI, 260, .inl (fun _ => 0))), (q1, .inl (kI, 260, .inl (fun _ => 0))), (q3, .inl (kI, 260, .inl (fun _ => 0))), (q4, .inl (kI, 520, .inl (fun _ => 0))), (q2, .inl (kI, 260, .inl (fil (fun _ => 0) 300 260)))] := hD
  refine lv_aload_n hx hb dX0_init_59 rfl (lv_at hl 0 rfl) ?_
  refine va_get (D := D) (ci := 0) (v := .ref q4) (C := RX0) (T := TX0) (N := 5) hx hb hts (fun w h => List.mem_cons_of_mem _ (List.mem_append_right _ h)) hown hK hP 0 rfl rfl 4 (by decide) (hts (.fieldLink RX0 24 "NamedMoves$Copies" "names" "[I") (by decide +kernel)) (fun _ h9 => h9) rfl dX0_init_60 ?_
  refine lv_sipush (v := 300) hx hb dX0_init_63 (by decide) ?_
  have hPc := hP.sub (ws' := [(q4, .inl (kI, 520, .inl (fun _ => 0)))]) [4] rfl
  have hDc := hD.sub (ws' := [(q4, .inl (kI, 520, .inl (fun _ => 0)))]) [4] (by decide) rfl
  have hKc := hK.sub (tys' := [(kI, .int)]) [0] rfl
  have hFc := va_free (wc := [(q4, .inl (kI, 520, .inl (fun _ => 0)))]) hD hS hA [4] rfl
  refine va_callv (va_runS (As := [.ref q4, .int 300]) (rest := []) ⟨hx, hb, hml, hown, hts⟩ (c_fill l D kI q4 520 (fun _ => 0) 300 H.size (by decide)) (va_cwS 2 hts gX0_init_J7_fill_53178 rfl rfl rfl (by decide +kernel) ⟨Nat.le_of_ble_eq_true rfl, Nat.le_of_ble_eq_true rfl⟩) ⟨fun a U g mk q => by obtain ⟨q0, q1, qP, qK, qD⟩ := q; exact ⟨q0, q1, qP, va_K.moved (u := U) (U := U.calling g mk a) (Vm.Alike.refl U.vm) qK, qD⟩, fun U hU hW => ⟨rfl, by rw [hU], by rw [hU]; exact hPc, va_K.moved hW.alike hKc, hDc.weaken (fun _ _ _ _ => trivial)⟩⟩ rfl rfl hl.1 rfl (lv_room (Nat.le_of_ble_eq_true rfl)) dX0_init_66 ⟨Nat.le_of_ble_eq_true rfl, Nat.le_of_ble_eq_true rfl⟩) hS (fun q _ h => hFc q h) hFc (fun u t H1 locs ht hvm _ hB hz1 hk1 hS => ?_)
  obtain ⟨hP1, hK1, hD1⟩ := hB
  rw [ht] at hP1
  obtain ⟨hP, hD⟩ := va_join (wr := [(h0, .inr (0, [.ref q0, .ref q1, .ref q2, .ref q3, .ref q4])), (q0, .inl (kI, 260, .inl (fun _ => 0))), (q1, .inl (kI, 260, .inl (fun _ => 0))), (q3, .inl (kI, 260, .inl (fun _ => 0))), (q2, .inl (kI, 260, .inl (fil (fun _ => 0) 300 260)))]) (w1 := [(q4, .inl (kI, 520, .inl (fil (fun _ => 0) 300 520)))]) hP hD [4] [0, 1, 2, 3, 5] rfl rfl (by decide) (by decide) hk1 hFc hP1 hD1
  generalize H1 = H at hP hS ⊢
  have hP : va_P D vwCl [(h0, .inr (0, [.ref q0, .ref q1, .ref q2, .ref q3, .ref q4])), (q0, .inl (kI, 260, .inl (fun _ => 0))), (q1, .inl (kI, 260, .inl (fun _ => 0))), (q3, .inl (kI, 260, .inl (fun _ => 0))), (q2, .inl (kI, 260, .inl (fil (fun _ => 0) 300 260))), (q4, .inl (kI, 520, .inl (fil (fun _ => 0) 300 520)))] H := hP
  have hD : va_D A [(h0, .inr (0, [.ref q0, .ref q1, .ref q2, .ref q3, .ref q4])), (q0, .inl (kI, 260, .inl (fun _ => 0))), (q1, .inl (kI, 260, .inl (fun _ => 0))), (q3, .inl (kI, 260, .inl (fun _ => 0))), (q2, .inl (kI, 260, .inl (fil (fun _ => 0) 300 260))), (q4, .inl (kI, 520, .inl (fil (fun _ => 0) 300 520)))] := hD
  exact W.vret hx hb hr (fun t ht hW => ⟨⟨(q0, q1, q2, q3, q4), rfl, trivial, by rw [ht]; exact hP, va_K.moved hW.alike hK, hD⟩, hS.F ht⟩) hS.2.2 dX0_init_69
