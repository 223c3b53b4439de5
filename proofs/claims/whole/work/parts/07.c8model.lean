/-! CONSTRUCTORS: X8 -/
abbrev tX8 (kI kZ : ClassId) (h0 q0 q1 q2 q3 q4 q5 q6 : Nat) : va_W := [(h0, .inr (8, [.ref q0, .ref q1, .ref q2, .int 0, .int 0, .ref q3, .int 0, .int 0, .ref q4, .ref q5, .ref q6, .int 0])), (q0, .inl (kI, 1125, .inl (upd (upd (upd (upd (upd (upd (upd (upd (upd (fun _ => 0) (1 : Int32).toNatClampNeg 6) ((9 : Int32) + 0).toNatClampNeg (-9)) ((9 : Int32) + 1).toNatClampNeg (-9)) ((9 : Int32) + 2).toNatClampNeg (-9)) ((9 : Int32) + 3).toNatClampNeg (-9)) ((9 : Int32) + 4).toNatClampNeg (-9)) ((9 : Int32) + 5).toNatClampNeg (-9)) ((9 : Int32) + 6).toNatClampNeg (-9)) ((9 : Int32) + 7).toNatClampNeg (-9)))), (q1, .inl (kI, 5625, .inl (fun _ => 0))), (q2, .inl (kI, 1125, .inl (fun _ => 0))), (q3, .inl (kI, 80, .inl (fun _ => 0))), (q4, .inl (kI, 3, .inl (fun _ => 0))), (q5, .inl (kZ, 188, .inl (fun _ => 0))), (q6, .inl (kI, 188, .inl (fun _ => 0)))]
set_option maxHeartbeats 4000000 in
set_option maxRecDepth 100000 in
theorem c_X8_init (l : Launch) (D : va_G) (kI kZ : ClassId) (h0 sz : Nat) : Met l yX8_init wsX8_init ({ frames := 1, cells := 7, slots := 8334, locals := 12 }) (va_Pc [.ref h0] (fun U => U.heap.size = sz ∧ va_P D vwCl [(h0, .inr (8, [.null, .null, .null, .int 0, .int 0, .null, .int 0, .int 0, .null, .null, .null, .int 0]))] U.heap ∧ va_K D vwCl [(kI, .int), (kZ, .boolean)] U ∧ va_D (fun _ => True) [(h0, .inr (8, [.null, .null, .null, .int 0, .int 0, .null, .int 0, .int 0, .null, .null, .null, .int 0]))])) (va_Qv (fun _ : Nat × Nat × Nat × Nat × Nat × Nat × Nat => True) (fun u U => va_P D vwCl (tX8 kI kZ h0 u.1 u.2.1 u.2.2.1 u.2.2.2.1 u.2.2.2.2.1 u.2.2.2.2.2.1 u.2.2.2.2.2.2) U.heap ∧ va_K D vwCl [(kI, .int), (kZ, .boolean)] U ∧ va_D (va_A [(h0, .inr (8, [.null, .null, .null, .int 0, .int 0, .null, .int 0, .int 0, .null, .null, .null, .int 0]))] sz) (tX8 kI kZ h0 u.1 u.2.1 u.2.2.1 u.2.2.2.1 u.2.2.2.2.1 u.2.2.2.2.2.1 u.2.2.2.2.2.2)) (va_A [(h0, .inr (8, [.null, .null, .null, .int 0, .int 0, .null, .int 0, .int 0, .null, .null, .null, .int 0]))] sz)) 7 8334 (va_A [(h0, .inr (8, [.null, .null, .null, .int 0, .int 0, .null, .int 0, .int 0, .null, .null, .null, .int 0]))] sz) := by
  refine Met.ofW (cc := cX8_init) (maxL := 2) (ret := none) (by decide) rfl ?_
  intro p e s m args below meth c s₁ B hml hv
  obtain ⟨rfl, hsz, hP, hK, hD0⟩ := hv
  have hx := B.exec
  have hb := B.bytes
  have hr := B.returns
  have hts := atoms_spec (ws := wsX8_init) B.pre
  have hown : s.vm.findClass RX8 = some m.cls := findClass_of_methodNamed B.named
  have hlocks := B.notSynchronized
  have hin : meth.name = "<init>" := (name_of_methodNamed B.named B.method).1
  subst hsz
  have hD := hD0.self (sz := s.heap.size)
  generalize hAe : va_A [(h0, .inr (8, [.null, .null, .null, .int 0, .int 0, .null, .int 0, .int 0, .null, .null, .null, .int 0]))] s.heap.size = A at hD ⊢
  have hA : ∀ q : Nat, s.heap.size ≤ q → A q := fun q h => by rw [← hAe]; exact Or.inr h
  have hS : va_S A s.heap s.heap [] := va_S.rf
  have hP : va_P D vwCl [(h0, .inr (8, [.null, .null, .null, .int 0, .int 0, .null, .int 0, .int 0, .null, .null, .null, .int 0]))] s.heap := hP
  have hl := lv_entry ([.ref h0]) (n := 2) (Nat.le_of_ble_eq_true rfl)
  rw [lg_entry_eq]
  generalize (lg_sl ([.ref h0]) ++ List.replicate (2 - (lg_sl ([.ref h0])).length) Slot.unset).toArray = ls at hl ⊢
  have hl : lv_has ls 2 [(0, .ref h0)] := hl
  refine lv_aload_n hx hb dX8_init_0 rfl (lv_at hl 0 rfl) ?_
  refine W.objInit hx hb hown (hts (.methodLink RX8 1 objectInit) (by decide +kernel)) (hts (.instanceMethod objectInit) (by decide +kernel)) (hts _ (List.mem_cons_of_mem _ (List.mem_append_left _ (List.mem_of_getElem? (i := 2) rfl)))) rfl (by rw [hml]; exact hl.1) rfl dX8_init_1 (Nat.le_of_ble_eq_true rfl) (Nat.le_of_ble_eq_true rfl) ?_
  refine W.eq (g2 := F0 m 4 ls []) rfl ?_
  refine lv_aload_n hx hb dX8_init_4 rfl (lv_at hl 0 rfl) ?_
  refine lv_sipush (v := 1125) hx hb dX8_init_5 (by decide) ?_
  refine n_newi (kI := kI) (k0 := 0) (N' := 1125) hx hb (hts (.arrayClass .int) (by decide +kernel)) hK hP hD hS hA rfl (by decide) (by decide) (Nat.le_of_ble_eq_true rfl) (Nat.le_of_ble_eq_true rfl) (Nat.le_of_ble_eq_true rfl) dX8_init_8 (fun q0 H hP hD hS => ?_)
  have hP : va_P D vwCl [(h0, .inr (8, [.null, .null, .null, .int 0, .int 0, .null, .int 0, .int 0, .null, .null, .null, .int 0])), (q0, .inl (kI, 1125, .inl (fun _ => 0)))] H := hP
  have hD : va_D A [(h0, .inr (8, [.null, .null, .null, .int 0, .int 0, .null, .int 0, .int 0, .null, .null, .null, .int 0])), (q0, .inl (kI, 1125, .inl (fun _ => 0)))] := hD
  refine va_putF (D := D) (ci := 8) (v := .ref q0) (ty := .array .int) (C := RX8) (T := TX8) (N := 12) hx hb hts (fun w h => List.mem_cons_of_mem _ (List.mem_append_right _ h)) tyX8 tyX8_ok nmX8 hown hK hP hD hS 0 rfl rfl 0 (by decide) (hts (.fieldLink RX8 7 "NamedMovesModel" "s" "[I") (by decide +kernel)) (fun _ h9 => h9) rfl hin rfl (by decide +kernel) rfl rfl (Nat.le_of_ble_eq_true rfl) dX8_init_10 (fun H locs hP hD hS => ?_)
  have hP : va_P D vwCl [(h0, .inr (8, [.ref q0, .null, .null, .int 0, .int 0, .null, .int 0, .int 0, .null, .null, .null, .int 0])), (q0, .inl (kI, 1125, .inl (fun _ => 0)))] H := hP
  have hD : va_D A [(h0, .inr (8, [.ref q0, .null, .null, .int 0, .int 0, .null, .int 0, .int 0, .null, .null, .null, .int 0])), (q0, .inl (kI, 1125, .inl (fun _ => 0)))] := hD
  refine lv_aload_n hx hb dX8_init_13 rfl (lv_at hl 0 rfl) ?_
  refine lv_sipush (v := 5625) hx hb dX8_init_14 (by decide) ?_
  refine n_newi (kI := kI) (k0 := 0) (N' := 5625) hx hb (hts (.arrayClass .int) (by decide +kernel)) hK hP hD hS hA rfl (by decide) (by decide) (Nat.le_of_ble_eq_true rfl) (Nat.le_of_ble_eq_true rfl) (Nat.le_of_ble_eq_true rfl) dX8_init_17 (fun q1 H hP hD hS => ?_)
  have hP : va_P D vwCl [(h0, .inr (8, [.ref q0, .null, .null, .int 0, .int 0, .null, .int 0, .int 0, .null, .null, .null, .int 0])), (q0, .inl (kI, 1125, .inl (fun _ => 0))), (q1, .inl (kI, 5625, .inl (fun _ => 0)))] H := hP
  have hD : va_D A [(h0, .inr (8, [.ref q0, .null, .null, .int 0, .int 0, .null, .int 0, .int 0, .null, .null, .null, .int 0])), (q0, .inl (kI, 1125, .inl (fun _ => 0))), (q1, .inl (kI, 5625, .inl (fun _ => 0)))] := hD
  refine va_putF (D := D) (ci := 8) (v := .ref q1) (ty := .array .int) (C := RX8) (T := TX8) (N := 12) hx hb hts (fun w h => List.mem_cons_of_mem _ (List.mem_append_right _ h)) tyX8 tyX8_ok nmX8 hown hK hP hD hS 0 rfl rfl 1 (by decide) (hts (.fieldLink RX8 13 "NamedMovesModel" "past" "[I") (by decide +kernel)) (fun _ h9 => h9) rfl hin rfl (by decide +kernel) rfl rfl (Nat.le_of_ble_eq_true rfl) dX8_init_19 (fun H locs hP hD hS => ?_)
  have hP : va_P D vwCl [(h0, .inr (8, [.ref q0, .ref q1, .null, .int 0, .int 0, .null, .int 0, .int 0, .null, .null, .null, .int 0])), (q0, .inl (kI, 1125, .inl (fun _ => 0))), (q1, .inl (kI, 5625, .inl (fun _ => 0)))] H := hP
  have hD : va_D A [(h0, .inr (8, [.ref q0, .ref q1, .null, .int 0, .int 0, .null, .int 0, .int 0, .null, .null, .null, .int 0])), (q0, .inl (kI, 1125, .inl (fun _ => 0))), (q1, .inl (kI, 5625, .inl (fun _ => 0)))] := hD
  refine lv_aload_n hx hb dX8_init_22 rfl (lv_at hl 0 rfl) ?_
  refine lv_sipush (v := 1125) hx hb dX8_init_23 (by decide) ?_
  refine n_newi (kI := kI) (k0 := 0) (N' := 1125) hx hb (hts (.arrayClass .int) (by decide +kernel)) hK hP hD hS hA rfl (by decide) (by decide) (Nat.le_of_ble_eq_true rfl) (Nat.le_of_ble_eq_true rfl) (Nat.le_of_ble_eq_true rfl) dX8_init_26 (fun q2 H hP hD hS => ?_)
  have hP : va_P D vwCl [(h0, .inr (8, [.ref q0, .ref q1, .null, .int 0, .int 0, .null, .int 0, .int 0, .null, .null, .null, .int 0])), (q0, .inl (kI, 1125, .inl (fun _ => 0))), (q1, .inl (kI, 5625, .inl (fun _ => 0))), (q2, .inl (kI, 1125, .inl (fun _ => 0)))] H := hP
  have hD : va_D A [(h0, .inr (8, [.ref q0, .ref q1, .null, .int 0, .int 0, .null, .int 0, .int 0, .null, .null, .null, .int 0])), (q0, .inl (kI, 1125, .inl (fun _ => 0))), (q1, .inl (kI, 5625, .inl (fun _ => 0))), (q2, .inl (kI, 1125, .inl (fun _ => 0)))] := hD
  refine va_putF (D := D) (ci := 8) (v := .ref q2) (ty := .array .int) (C := RX8) (T := TX8) (N := 12) hx hb hts (fun w h => List.mem_cons_of_mem _ (List.mem_append_right _ h)) tyX8 tyX8_ok nmX8 hown hK hP hD hS 0 rfl rfl 2 (by decide) (hts (.fieldLink RX8 16 "NamedMovesModel" "held" "[I") (by decide +kernel)) (fun _ h9 => h9) rfl hin rfl (by decide +kernel) rfl rfl (Nat.le_of_ble_eq_true rfl) dX8_init_28 (fun H locs hP hD hS => ?_)
  have hP : va_P D vwCl [(h0, .inr (8, [.ref q0, .ref q1, .ref q2, .int 0, .int 0, .null, .int 0, .int 0, .null, .null, .null, .int 0])), (q0, .inl (kI, 1125, .inl (fun _ => 0))), (q1, .inl (kI, 5625, .inl (fun _ => 0))), (q2, .inl (kI, 1125, .inl (fun _ => 0)))] H := hP
  have hD : va_D A [(h0, .inr (8, [.ref q0, .ref q1, .ref q2, .int 0, .int 0, .null, .int 0, .int 0, .null, .null, .null, .int 0])), (q0, .inl (kI, 1125, .inl (fun _ => 0))), (q1, .inl (kI, 5625, .inl (fun _ => 0))), (q2, .inl (kI, 1125, .inl (fun _ => 0)))] := hD
  refine lv_aload_n hx hb dX8_init_31 rfl (lv_at hl 0 rfl) ?_
  refine lv_bipush (v := 80) hx hb dX8_init_32 (by decide) ?_
  refine n_newi (kI := kI) (k0 := 0) (N' := 80) hx hb (hts (.arrayClass .int) (by decide +kernel)) hK hP hD hS hA rfl (by decide) (by decide) (Nat.le_of_ble_eq_true rfl) (Nat.le_of_ble_eq_true rfl) (Nat.le_of_ble_eq_true rfl) dX8_init_34 (fun q3 H hP hD hS => ?_)
  have hP : va_P D vwCl [(h0, .inr (8, [.ref q0, .ref q1, .ref q2, .int 0, .int 0, .null, .int 0, .int 0, .null, .null, .null, .int 0])), (q0, .inl (kI, 1125, .inl (fun _ => 0))), (q1, .inl (kI, 5625, .inl (fun _ => 0))), (q2, .inl (kI, 1125, .inl (fun _ => 0))), (q3, .inl (kI, 80, .inl (fun _ => 0)))] H := hP
  have hD : va_D A [(h0, .inr (8, [.ref q0, .ref q1, .ref q2, .int 0, .int 0, .null, .int 0, .int 0, .null, .null, .null, .int 0])), (q0, .inl (kI, 1125, .inl (fun _ => 0))), (q1, .inl (kI, 5625, .inl (fun _ => 0))), (q2, .inl (kI, 1125, .inl (fun _ => 0))), (q3, .inl (kI, 80, .inl (fun _ => 0)))] := hD
  refine va_putF (D := D) (ci := 8) (v := .ref q3) (ty := .array .int) (C := RX8) (T := TX8) (N := 12) hx hb hts (fun w h => List.mem_cons_of_mem _ (List.mem_append_right _ h)) tyX8 tyX8_ok nmX8 hown hK hP hD hS 0 rfl rfl 5 (by decide) (hts (.fieldLink RX8 19 "NamedMovesModel" "text" "[I") (by decide +kernel)) (fun _ h9 => h9) rfl hin rfl (by decide +kernel) rfl rfl (Nat.le_of_ble_eq_true rfl) dX8_init_36 (fun H locs hP hD hS => ?_)
  have hP : va_P D vwCl [(h0, .inr (8, [.ref q0, .ref q1, .ref q2, .int 0, .int 0, .ref q3, .int 0, .int 0, .null, .null, .null, .int 0])), (q0, .inl (kI, 1125, .inl (fun _ => 0))), (q1, .inl (kI, 5625, .inl (fun _ => 0))), (q2, .inl (kI, 1125, .inl (fun _ => 0))), (q3, .inl (kI, 80, .inl (fun _ => 0)))] H := hP
  have hD : va_D A [(h0, .inr (8, [.ref q0, .ref q1, .ref q2, .int 0, .int 0, .ref q3, .int 0, .int 0, .null, .null, .null, .int 0])), (q0, .inl (kI, 1125, .inl (fun _ => 0))), (q1, .inl (kI, 5625, .inl (fun _ => 0))), (q2, .inl (kI, 1125, .inl (fun _ => 0))), (q3, .inl (kI, 80, .inl (fun _ => 0)))] := hD
  refine lv_aload_n hx hb dX8_init_39 rfl (lv_at hl 0 rfl) ?_
  refine lv_iconst (v := 3) hx hb dX8_init_40 (by decide) ?_
  refine n_newi (kI := kI) (k0 := 0) (N' := 3) hx hb (hts (.arrayClass .int) (by decide +kernel)) hK hP hD hS hA rfl (by decide) (by decide) (Nat.le_of_ble_eq_true rfl) (Nat.le_of_ble_eq_true rfl) (Nat.le_of_ble_eq_true rfl) dX8_init_41 (fun q4 H hP hD hS => ?_)
  have hP : va_P D vwCl [(h0, .inr (8, [.ref q0, .ref q1, .ref q2, .int 0, .int 0, .ref q3, .int 0, .int 0, .null, .null, .null, .int 0])), (q0, .inl (kI, 1125, .inl (fun _ => 0))), (q1, .inl (kI, 5625, .inl (fun _ => 0))), (q2, .inl (kI, 1125, .inl (fun _ => 0))), (q3, .inl (kI, 80, .inl (fun _ => 0))), (q4, .inl (kI, 3, .inl (fun _ => 0)))] H := hP
  have hD : va_D A [(h0, .inr (8, [.ref q0, .ref q1, .ref q2, .int 0, .int 0, .ref q3, .int 0, .int 0, .null, .null, .null, .int 0])), (q0, .inl (kI, 1125, .inl (fun _ => 0))), (q1, .inl (kI, 5625, .inl (fun _ => 0))), (q2, .inl (kI, 1125, .inl (fun _ => 0))), (q3, .inl (kI, 80, .inl (fun _ => 0))), (q4, .inl (kI, 3, .inl (fun _ => 0)))] := hD
  refine va_putF (D := D) (ci := 8) (v := .ref q4) (ty := .array .int) (C := RX8) (T := TX8) (N := 12) hx hb hts (fun w h => List.mem_cons_of_mem _ (List.mem_append_right _ h)) tyX8 tyX8_ok nmX8 hown hK hP hD hS 0 rfl rfl 8 (by decide) (hts (.fieldLink RX8 22 "NamedMovesModel" "read" "[I") (by decide +kernel)) (fun _ h9 => h9) rfl hin rfl (by decide +kernel) rfl rfl (Nat.le_of_ble_eq_true rfl) dX8_init_43 (fun H locs hP hD hS => ?_)
  have hP : va_P D vwCl [(h0, .inr (8, [.ref q0, .ref q1, .ref q2, .int 0, .int 0, .ref q3, .int 0, .int 0, .ref q4, .null, .null, .int 0])), (q0, .inl (kI, 1125, .inl (fun _ => 0))), (q1, .inl (kI, 5625, .inl (fun _ => 0))), (q2, .inl (kI, 1125, .inl (fun _ => 0))), (q3, .inl (kI, 80, .inl (fun _ => 0))), (q4, .inl (kI, 3, .inl (fun _ => 0)))] H := hP
  have hD : va_D A [(h0, .inr (8, [.ref q0, .ref q1, .ref q2, .int 0, .int 0, .ref q3, .int 0, .int 0, .ref q4, .null, .null, .int 0])), (q0, .inl (kI, 1125, .inl (fun _ => 0))), (q1, .inl (kI, 5625, .inl (fun _ => 0))), (q2, .inl (kI, 1125, .inl (fun _ => 0))), (q3, .inl (kI, 80, .inl (fun _ => 0))), (q4, .inl (kI, 3, .inl (fun _ => 0)))] := hD
  refine lv_aload_n hx hb dX8_init_46 rfl (lv_at hl 0 rfl) ?_
  refine lv_sipush (v := 188) hx hb dX8_init_47 (by decide) ?_
  refine n_newz (kI := kZ) (k0 := 1) (N' := 188) hx hb (hts (.arrayClass .boolean) (by decide +kernel)) hK hP hD hS hA rfl (by decide) (by decide) (Nat.le_of_ble_eq_true rfl) (Nat.le_of_ble_eq_true rfl) (Nat.le_of_ble_eq_true rfl) dX8_init_50 (fun q5 H hP hD hS => ?_)
  have hP : va_P D vwCl [(h0, .inr (8, [.ref q0, .ref q1, .ref q2, .int 0, .int 0, .ref q3, .int 0, .int 0, .ref q4, .null, .null, .int 0])), (q0, .inl (kI, 1125, .inl (fun _ => 0))), (q1, .inl (kI, 5625, .inl (fun _ => 0))), (q2, .inl (kI, 1125, .inl (fun _ => 0))), (q3, .inl (kI, 80, .inl (fun _ => 0))), (q4, .inl (kI, 3, .inl (fun _ => 0))), (q5, .inl (kZ, 188, .inl (fun _ => 0)))] H := hP
  have hD : va_D A [(h0, .inr (8, [.ref q0, .ref q1, .ref q2, .int 0, .int 0, .ref q3, .int 0, .int 0, .ref q4, .null, .null, .int 0])), (q0, .inl (kI, 1125, .inl (fun _ => 0))), (q1, .inl (kI, 5625, .inl (fun _ => 0))), (q2, .inl (kI, 1125, .inl (fun _ => 0))), (q3, .inl (kI, 80, .inl (fun _ => 0))), (q4, .inl (kI, 3, .inl (fun _ => 0))), (q5, .inl (kZ, 188, .inl (fun _ => 0)))] := hD
  refine va_putF (D := D) (ci := 8) (v := .ref q5) (ty := .array .boolean) (C := RX8) (T := TX8) (N := 12) hx hb hts (fun w h => List.mem_cons_of_mem _ (List.mem_append_right _ h)) tyX8 tyX8_ok nmX8 hown hK hP hD hS 0 rfl rfl 9 (by decide) (hts (.fieldLink RX8 25 "NamedMovesModel" "isReached" "[Z") (by decide +kernel)) (fun _ h9 => h9) rfl hin rfl (by decide +kernel) rfl rfl (Nat.le_of_ble_eq_true rfl) dX8_init_52 (fun H locs hP hD hS => ?_)
  have hP : va_P D vwCl [(h0, .inr (8, [.ref q0, .ref q1, .ref q2, .int 0, .int 0, .ref q3, .int 0, .int 0, .ref q4, .ref q5, .null, .int 0])), (q0, .inl (kI, 1125, .inl (fun _ => 0))), (q1, .inl (kI, 5625, .inl (fun _ => 0))), (q2, .inl (kI, 1125, .inl (fun _ => 0))), (q3, .inl (kI, 80, .inl (fun _ => 0))), (q4, .inl (kI, 3, .inl (fun _ => 0))), (q5, .inl (kZ, 188, .inl (fun _ => 0)))] H := hP
  have hD : va_D A [(h0, .inr (8, [.ref q0, .ref q1, .ref q2, .int 0, .int 0, .ref q3, .int 0, .int 0, .ref q4, .ref q5, .null, .int 0])), (q0, .inl (kI, 1125, .inl (fun _ => 0))), (q1, .inl (kI, 5625, .inl (fun _ => 0))), (q2, .inl (kI, 1125, .inl (fun _ => 0))), (q3, .inl (kI, 80, .inl (fun _ => 0))), (q4, .inl (kI, 3, .inl (fun _ => 0))), (q5, .inl (kZ, 188, .inl (fun _ => 0)))] := hD
  refine lv_aload_n hx hb dX8_init_55 rfl (lv_at hl 0 rfl) ?_
  refine lv_sipush (v := 188) hx hb dX8_init_56 (by decide) ?_
  refine n_newi (kI := kI) (k0 := 0) (N' := 188) hx hb (hts (.arrayClass .int) (by decide +kernel)) hK hP hD hS hA rfl (by decide) (by decide) (Nat.le_of_ble_eq_true rfl) (Nat.le_of_ble_eq_true rfl) (Nat.le_of_ble_eq_true rfl) dX8_init_59 (fun q6 H hP hD hS => ?_)
  have hP : va_P D vwCl [(h0, .inr (8, [.ref q0, .ref q1, .ref q2, .int 0, .int 0, .ref q3, .int 0, .int 0, .ref q4, .ref q5, .null, .int 0])), (q0, .inl (kI, 1125, .inl (fun _ => 0))), (q1, .inl (kI, 5625, .inl (fun _ => 0))), (q2, .inl (kI, 1125, .inl (fun _ => 0))), (q3, .inl (kI, 80, .inl (fun _ => 0))), (q4, .inl (kI, 3, .inl (fun _ => 0))), (q5, .inl (kZ, 188, .inl (fun _ => 0))), (q6, .inl (kI, 188, .inl (fun _ => 0)))] H := hP
  have hD : va_D A [(h0, .inr (8, [.ref q0, .ref q1, .ref q2, .int 0, .int 0, .ref q3, .int 0, .int 0, .ref q4, .ref q5, .null, .int 0])), (q0, .inl (kI, 1125, .inl (fun _ => 0))), (q1, .inl (kI, 5625, .inl (fun _ => 0))), (q2, .inl (kI, 1125, .inl (fun _ => 0))), (q3, .inl (kI, 80, .inl (fun _ => 0))), (q4, .inl (kI, 3, .inl (fun _ => 0))), (q5, .inl (kZ, 188, .inl (fun _ => 0))), (q6, .inl (kI, 188, .inl (fun _ => 0)))] := hD
  refine va_putF (D := D) (ci := 8) (v := .ref q6) (ty := .array .int) (C := RX8) (T := TX8) (N := 12) hx hb hts (fun w h => List.mem_cons_of_mem _ (List.mem_append_right _ h)) tyX8 tyX8_ok nmX8 hown hK hP hD hS 0 rfl rfl 10 (by decide) (hts (.fieldLink RX8 29 "NamedMovesModel" "found" "[I") (by decide +kernel)) (fun _ h9 => h9) rfl hin rfl (by decide +kernel) rfl rfl (Nat.le_of_ble_eq_true rfl) dX8_init_61 (fun H locs hP hD hS => ?_)
  have hP : va_P D vwCl [(h0, .inr (8, [.ref q0, .ref q1, .ref q2, .int 0, .int 0, .ref q3, .int 0, .int 0, .ref q4, .ref q5, .ref q6, .int 0])), (q0, .inl (kI, 1125, .inl (fun _ => 0))), (q1, .inl (kI, 5625, .inl (fun _ => 0))), (q2, .inl (kI, 1125, .inl (fun _ => 0))), (q3, .inl (kI, 80, .inl (fun _ => 0))), (q4, .inl (kI, 3, .inl (fun _ => 0))), (q5, .inl (kZ, 188, .inl (fun _ => 0))), (q6, .inl (kI, 188, .inl (fun _ => 0)))] H := hP
  have hD : va_D A [(h0, .inr (8, [.ref q0, .ref q1, .ref q2, .int 0, .int 0, .ref q3, .int 0, .int 0, .ref q4, .ref q5, .ref q6, .int 0])), (q0, .inl (kI, 1125, .inl (fun _ => 0))), (q1, .inl (kI, 5625, .inl (fun _ => 0))), (q2, .inl (kI, 1125, .inl (fun _ => 0))), (q3, .inl (kI, 80, .inl (fun _ => 0))), (q4, .inl (kI, 3, .inl (fun _ => 0))), (q5, .inl (kZ, 188, .inl (fun _ => 0))), (q6, .inl (kI, 188, .inl (fun _ => 0)))] := hD
  refine lv_aload_n hx hb dX8_init_64 rfl (lv_at hl 0 rfl) ?_
  refine va_get (D := D) (ci := 8) (v := .ref q0) (C := RX8) (T := TX8) (N := 12) hx hb hts (fun w h => List.mem_cons_of_mem _ (List.mem_append_right _ h)) hown hK hP 0 rfl rfl 0 (by decide) (hts (.fieldLink RX8 7 "NamedMovesModel" "s" "[I") (by decide +kernel)) (fun _ h9 => h9) rfl dX8_init_65 ?_
  refine lv_iconst (v := 1) hx hb dX8_init_68 (by decide) ?_
  refine lv_bipush (v := 6) hx hb dX8_init_69 (by decide) ?_
  refine va_iast hx hb hK hP hD hS 1 0 (f := (fun _ => 0)) rfl rfl (by unfold vp_in; decide +kernel) dX8_init_71 (fun H locs hP hD hS => ?_)
  have hP : va_P D vwCl [(h0, .inr (8, [.ref q0, .ref q1, .ref q2, .int 0, .int 0, .ref q3, .int 0, .int 0, .ref q4, .ref q5, .ref q6, .int 0])), (q0, .inl (kI, 1125, .inl (upd (fun _ => 0) (1 : Int32).toNatClampNeg 6))), (q1, .inl (kI, 5625, .inl (fun _ => 0))), (q2, .inl (kI, 1125, .inl (fun _ => 0))), (q3, .inl (kI, 80, .inl (fun _ => 0))), (q4, .inl (kI, 3, .inl (fun _ => 0))), (q5, .inl (kZ, 188, .inl (fun _ => 0))), (q6, .inl (kI, 188, .inl (fun _ => 0)))] H := hP
  have hD : va_D A [(h0, .inr (8, [.ref q0, .ref q1, .ref q2, .int 0, .int 0, .ref q3, .int 0, .int 0, .ref q4, .ref q5, .ref q6, .int 0])), (q0, .inl (kI, 1125, .inl (upd (fun _ => 0) (1 : Int32).toNatClampNeg 6))), (q1, .inl (kI, 5625, .inl (fun _ => 0))), (q2, .inl (kI, 1125, .inl (fun _ => 0))), (q3, .inl (kI, 80, .inl (fun _ => 0))), (q4, .inl (kI, 3, .inl (fun _ => 0))), (q5, .inl (kZ, 188, .inl (fun _ => 0))), (q6, .inl (kI, 188, .inl (fun _ => 0)))] := hD
  refine lv_iconst (v := 0) hx hb dX8_init_72 (by decide) ?_
  refine lv_istore_n hx hb dX8_init_73 rfl hl (by decide) (lv' := [(1, .int 0), (0, .ref h0)]) rfl (fun ls hl => ?_)
  refine lv_iload_n hx hb dX8_init_74 rfl (lv_at hl 0 rfl) ?_
  refine lv_bipush (v := 8) hx hb dX8_init_75 (by decide) ?_
  refine lv_icmp_ge (tgt := 97) hx hb dX8_init_77 (by decide) (fun h => absurd h (by decide)) (fun _ => ?_)
  refine lv_aload_n hx hb dX8_init_80 rfl (lv_at hl 1 rfl) ?_
  refine va_get (D := D) (ci := 8) (v := .ref q0) (C := RX8) (T := TX8) (N := 12) hx hb hts (fun w h => List.mem_cons_of_mem _ (List.mem_append_right _ h)) hown hK hP 0 rfl rfl 0 (by decide) (hts (.fieldLink RX8 7 "NamedMovesModel" "s" "[I") (by decide +kernel)) (fun _ h9 => h9) rfl dX8_init_81 ?_
  refine lv_bipush (v := 9) hx hb dX8_init_84 (by decide) ?_
  refine lv_iload_n hx hb dX8_init_86 rfl (lv_at hl 0 rfl) ?_
  refine lv_iadd hx hb dX8_init_87 ?_
  refine lv_bipush (v := -9) hx hb dX8_init_88 (by decide) ?_
  refine va_iast hx hb hK hP hD hS 1 0 (f := (upd (fun _ => 0) (1 : Int32).toNatClampNeg 6)) rfl rfl (by unfold vp_in; decide +kernel) dX8_init_90 (fun H locs hP hD hS => ?_)
  have hP : va_P D vwCl [(h0, .inr (8, [.ref q0, .ref q1, .ref q2, .int 0, .int 0, .ref q3, .int 0, .int 0, .ref q4, .ref q5, .ref q6, .int 0])), (q0, .inl (kI, 1125, .inl (upd (upd (fun _ => 0) (1 : Int32).toNatClampNeg 6) ((9 : Int32) + 0).toNatClampNeg (-9)))), (q1, .inl (kI, 5625, .inl (fun _ => 0))), (q2, .inl (kI, 1125, .inl (fun _ => 0))), (q3, .inl (kI, 80, .inl (fun _ => 0))), (q4, .inl (kI, 3, .inl (fun _ => 0))), (q5, .inl (kZ, 188, .inl (fun _ => 0))), (q6, .inl (kI, 188, .inl (fun _ => 0)))] H := hP
  have hD : va_D A [(h0, .inr (8, [.ref q0, .ref q1, .ref q2, .int 0, .int 0, .ref q3, .int 0, .int 0, .ref q4, .ref q5, .ref q6, .int 0])), (q0, .inl (kI, 1125, .inl (upd (upd (fun _ => 0) (1 : Int32).toNatClampNeg 6) ((9 : Int32) + 0).toNatClampNeg (-9)))), (q1, .inl (kI, 5625, .inl (fun _ => 0))), (q2, .inl (kI, 1125, .inl (fun _ => 0))), (q3, .inl (kI, 80, .inl (fun _ => 0))), (q4, .inl (kI, 3, .inl (fun _ => 0))), (q5, .inl (kZ, 188, .inl (fun _ => 0))), (q6, .inl (kI, 188, .inl (fun _ => 0)))] := hD
  refine lv_iinc (v := 1) hx hb dX8_init_91 hl (k := 0) rfl (by decide) (by decide) (lv' := [(1, .int 1), (0, .ref h0)]) rfl (fun ls hl => ?_)
  refine lv_goto (tgt := 74) hx hb dX8_init_94 (by decide) ?_
  refine lv_iload_n hx hb dX8_init_74 rfl (lv_at hl 0 rfl) ?_
  refine lv_bipush (v := 8) hx hb dX8_init_75 (by decide) ?_
  refine lv_icmp_ge (tgt := 97) hx hb dX8_init_77 (by decide) (fun h => absurd h (by decide)) (fun _ => ?_)
  refine lv_aload_n hx hb dX8_init_80 rfl (lv_at hl 1 rfl) ?_
  refine va_get (D := D) (ci := 8) (v := .ref q0) (C := RX8) (T := TX8) (N := 12) hx hb hts (fun w h => List.mem_cons_of_mem _ (List.mem_append_right _ h)) hown hK hP 0 rfl rfl 0 (by decide) (hts (.fieldLink RX8 7 "NamedMovesModel" "s" "[I") (by decide +kernel)) (fun _ h9 => h9) rfl dX8_init_81 ?_
  refine lv_bipush (v := 9) hx hb dX8_init_84 (by decide) ?_
  refine lv_iload_n hx hb dX8_init_86 rfl (lv_at hl 0 rfl) ?_
  refine lv_iadd hx hb dX8_init_87 ?_
  refine lv_bipush (v := -9) hx hb dX8_init_88 (by decide) ?_
  refine va_iast hx hb hK hP hD hS 1 0 (f := (upd (upd (fun _ => 0) (1 : Int32).toNatClampNeg 6) ((9 : Int32) + 0).toNatClampNeg (-9))) rfl rfl (by unfold vp_in; decide +kernel) dX8_init_90 (fun H locs hP hD hS => ?_)
  have hP : va_P D vwCl [(h0, .inr (8, [.ref q0, .ref q1, .ref q2, .int 0, .int 0, .ref q3, .int 0, .int 0, .ref q4, .ref q5, .ref q6, .int 0])), (q0, .inl (kI, 1125, .inl (upd (upd (upd (fun _ => 0) (1 : Int32).toNatClampNeg 6) ((9 : Int32) + 0).toNatClampNeg (-9)) ((9 : Int32) + 1).toNatClampNeg (-9)))), (q1, .inl (kI, 5625, .inl (fun _ => 0))), (q2, .inl (kI, 1125, .inl (fun _ => 0))), (q3, .inl (kI, 80, .inl (fun _ => 0))), (q4, .inl (kI, 3, .inl (fun _ => 0))), (q5, .inl (kZ, 188, .inl (fun _ => 0))), (q6, .inl (kI, 188, .inl (fun _ => 0)))] H := hP
  have hD : va_D A [(h0, .inr (8, [.ref q0, .ref q1, .ref q2, .int 0, .int 0, .ref q3, .int 0, .int 0, .ref q4, .ref q5, .ref q6, .int 0])), (q0, .inl (kI, 1125, .inl (upd (upd (upd (fun _ => 0) (1 : Int32).toNatClampNeg 6) ((9 : Int32) + 0).toNatClampNeg (-9)) ((9 : Int32) + 1).toNatClampNeg (-9)))), (q1, .inl (kI, 5625, .inl (fun _ => 0))), (q2, .inl (kI, 1125, .inl (fun _ => 0))), (q3, .inl (kI, 80, .inl (fun _ => 0))), (q4, .inl (kI, 3, .inl (fun _ => 0))), (q5, .inl (kZ, 188, .inl (fun _ => 0))), (q6, .inl (kI, 188, .inl (fun _ => 0)))] := hD
  refine lv_iinc (v := 2) hx hb dX8_init_91 hl (k := 0) rfl (by decide) (by decide) (lv' := [(1, .int 2), (0, .ref h0)]) rfl (fun ls hl => ?_)
  refine lv_goto (tgt := 74) hx hb dX8_init_94 (by decide) ?_
  refine lv_iload_n hx hb dX8_init_74 rfl (lv_at hl 0 rfl) ?_
  refine lv_bipush (v := 8) hx hb dX8_init_75 (by decide) ?_
  refine lv_icmp_ge (tgt := 97) hx hb dX8_init_77 (by decide) (fun h => absurd h (by decide)) (fun _ => ?_)
  refine lv_aload_n hx hb dX8_init_80 rfl (lv_at hl 1 rfl) ?_
  refine va_get (D := D) (ci := 8) (v := .ref q0) (C := RX8) (T := TX8) (N := 12) hx hb hts (fun w h => List.mem_cons_of_mem _ (List.mem_append_right _ h)) hown hK hP 0 rfl rfl 0 (by decide) (hts (.fieldLink RX8 7 "NamedMovesModel" "s" "[I") (by decide +kernel)) (fun _ h9 => h9) rfl dX8_init_81 ?_
  refine lv_bipush (v := 9) hx hb dX8_init_84 (by decide) ?_
  refine lv_iload_n hx hb dX8_init_86 rfl (lv_at hl 0 rfl) ?_
  refine lv_iadd hx hb dX8_init_87 ?_
  refine lv_bipush (v := -9) hx hb dX8_init_88 (by decide) ?_
  refine va_iast hx hb hK hP hD hS 1 0 (f := (upd (upd (upd (fun _ => 0) (1 : Int32).toNatClampNeg 6) ((9 : Int32) + 0).toNatClampNeg (-9)) ((9 : Int32) + 1).toNatClampNeg (-9))) rfl rfl (by unfold vp_in; decide +kernel) dX8_init_90 (fun H locs hP hD hS => ?_)
  have hP : va_P D vwCl [(h0, .inr (8, [.ref q0, .ref q1, .ref q2, .int 0, .int 0, .ref q3, .int 0, .int 0, .ref q4, .ref q5, .ref q6, .int 0])), (q0, .inl (kI, 1125, .inl (upd (upd (upd (upd (fun _ => 0) (1 : Int32).toNatClampNeg 6) ((9 : Int32) + 0).toNatClampNeg (-9)) ((9 : Int32) + 1).toNatClampNeg (-9)) ((9 : Int32) + 2).toNatClampNeg (-9)))), (q1, .inl (kI, 5625, .inl (fun _ => 0))), (q2, .inl (kI, 1125, .inl (fun _ => 0))), (q3, .inl (kI, 80, .inl (fun _ => 0))), (q4, .inl (kI, 3, .inl (fun _ => 0))), (q5, .inl (kZ, 188, .inl (fun _ => 0))), (q6, .inl (kI, 188, .inl (fun _ => 0)))] H := hP
  have hD : va_D A [(h0, .inr (8, [.ref q0, .ref q1, .ref q2, .int 0, .int 0, .ref q3, .int 0, .int 0, .ref q4, .ref q5, .ref q6, .int 0])), (q0, .inl (kI, 1125, .inl (upd (upd (upd (upd (fun _ => 0) (1 : Int32).toNatClampNeg 6) ((9 : Int32) + 0).toNatClampNeg (-9)) ((9 : Int32) + 1).toNatClampNeg (-9)) ((9 : Int32) + 2).toNatClampNeg (-9)))), (q1, .inl (kI, 5625, .inl (fun _ => 0))), (q2, .inl (kI, 1125, .inl (fun _ => 0))), (q3, .inl (kI, 80, .inl (fun _ => 0))), (q4, .inl (kI, 3, .inl (fun _ => 0))), (q5, .inl (kZ, 188, .inl (fun _ => 0))), (q6, .inl (kI, 188, .inl (fun _ => 0)))] := hD
  refine lv_iinc (v := 3) hx hb dX8_init_91 hl (k := 0) rfl (by decide) (by decide) (lv' := [(1, .int 3), (0, .ref h0)]) rfl (fun ls hl => ?_)
  refine lv_goto (tgt := 74) hx hb dX8_init_94 (by decide) ?_
  refine lv_iload_n hx hb dX8_init_74 rfl (lv_at hl 0 rfl) ?_
  refine lv_bipush (v := 8) hx hb dX8_init_75 (by decide) ?_
  refine lv_icmp_ge (tgt := 97) hx hb dX8_init_77 (by decide) (fun h => absurd h (by decide)) (fun _ => ?_)
  refine lv_aload_n hx hb dX8_init_80 rfl (lv_at hl 1 rfl) ?_
  refine va_get (D := D) (ci := 8) (v := .ref q0) (C := RX8) (T := TX8) (N := 12) hx hb hts (fun w h => List.mem_cons_of_mem _ (List.mem_append_right _ h)) hown hK hP 0 rfl rfl 0 (by decide) (hts (.fieldLink RX8 7 "NamedMovesModel" "s" "[I") (by decide +kernel)) (fun _ h9 => h9) rfl dX8_init_81 ?_
  refine lv_bipush (v := 9) hx hb dX8_init_84 (by decide) ?_
  refine lv_iload_n hx hb dX8_init_86 rfl (lv_at hl 0 rfl) ?_
  refine lv_iadd hx hb dX8_init_87 ?_
  refine lv_bipush (v := -9) hx hb dX8_init_88 (by decide) ?_
  refine va_iast hx hb hK hP hD hS 1 0 (f := (upd (upd (upd (upd (fun _ => 0) (1 : Int32).toNatClampNeg 6) ((9 : Int32) + 0).toNatClampNeg (-9)) ((9 : Int32) + 1).toNatClampNeg (-9)) ((9 : Int32) + 2).toNatClampNeg (-9))) rfl rfl (by unfold vp_in; decide +kernel) dX8_init_90 (fun H locs hP hD hS => ?_)
  have hP : va_P D vwCl [(h0, .inr (8, [.ref q0, .ref q1, .ref q2, .int 0, .int 0, .ref q3, .int 0, .int 0, .ref q4, .ref q5, .ref q6, .int 0])), (q0, .inl (kI, 1125, .inl (upd (upd (upd (upd (upd (fun _ => 0) (1 : Int32).toNatClampNeg 6) ((9 : Int32) + 0).toNatClampNeg (-9)) ((9 : Int32) + 1).toNatClampNeg (-9)) ((9 : Int32) + 2).toNatClampNeg (-9)) ((9 : Int32) + 3).toNatClampNeg (-9)))), (q1, .inl (kI, 5625, .inl (fun _ => 0))), (q2, .inl (kI, 1125, .inl (fun _ => 0))), (q3, .inl (kI, 80, .inl (fun _ => 0))), (q4, .inl (kI, 3, .inl (fun _ => 0))), (q5, .inl (kZ, 188, .inl (fun _ => 0))), (q6, .inl (kI, 188, .inl (fun _ => 0)))] H := hP
  have hD : va_D A [(h0, .inr (8, [.ref q0, .ref q1, .ref q2, .int 0, .int 0, .ref q3, .int 0, .int 0, .ref q4, .ref q5, .ref q6, .int 0])), (q0, .inl (kI, 1125, .inl (upd (upd (upd (upd (upd (fun _ => 0) (1 : Int32).toNatClampNeg 6) ((9 : Int32) + 0).toNatClampNeg (-9)) ((9 : Int32) + 1).toNatClampNeg (-9)) ((9 : Int32) + 2).toNatClampNeg (-9)) ((9 : Int32) + 3).toNatClampNeg (-9)))), (q1, .inl (kI, 5625, .inl (fun _ => 0))), (q2, .inl (kI, 1125, .inl (fun _ => 0))), (q3, .inl (kI, 80, .inl (fun _ => 0))), (q4, .inl (kI, 3, .inl (fun _ => 0))), (q5, .inl (kZ, 188, .inl (fun _ => 0))), (q6, .inl (kI, 188, .inl (fun _ => 0)))] := hD
  refine lv_iinc (v := 4) hx hb dX8_init_91 hl (k := 0) rfl (by decide) (by decide) (lv' := [(1, .int 4), (0, .ref h0)]) rfl (fun ls hl => ?_)
  refine lv_goto (tgt := 74) hx hb dX8_init_94 (by decide) ?_
  refine lv_iload_n hx hb dX8_init_74 rfl (lv_at hl 0 rfl) ?_
  refine lv_bipush (v := 8) hx hb dX8_init_75 (by decide) ?_
  refine lv_icmp_ge (tgt := 97) hx hb dX8_init_77 (by decide) (fun h => absurd h (by decide)) (fun _ => ?_)
  refine lv_aload_n hx hb dX8_init_80 rfl (lv_at hl 1 rfl) ?_
  refine va_get (D := D) (ci := 8) (v := .ref q0) (C := RX8) (T := TX8) (N := 12) hx hb hts (fun w h => List.mem_cons_of_mem _ (List.mem_append_right _ h)) hown hK hP 0 rfl rfl 0 (by decide) (hts (.fieldLink RX8 7 "NamedMovesModel" "s" "[I") (by decide +kernel)) (fun _ h9 => h9) rfl dX8_init_81 ?_
  refine lv_bipush (v := 9) hx hb dX8_init_84 (by decide) ?_
  refine lv_iload_n hx hb dX8_init_86 rfl (lv_at hl 0 rfl) ?_
  refine lv_iadd hx hb dX8_init_87 ?_
  refine lv_bipush (v := -9) hx hb dX8_init_88 (by decide) ?_
  refine va_iast hx hb hK hP hD hS 1 0 (f := (upd (upd (upd (upd (upd (fun _ => 0) (1 : Int32).toNatClampNeg 6) ((9 : Int32) + 0).toNatClampNeg (-9)) ((9 : Int32) + 1).toNatClampNeg (-9)) ((9 : Int32) + 2).toNatClampNeg (-9)) ((9 : Int32) + 3).toNatClampNeg (-9))) rfl rfl (by unfold vp_in; decide +kernel) dX8_init_90 (fun H locs hP hD hS => ?_)
  have hP : va_P D vwCl [(h0, .inr (8, [.ref q0, .ref q1, .ref q2, .int 0, .int 0, .ref q3, .int 0, .int 0, .ref q4, .ref q5, .ref q6, .int 0])), (q0, .inl (kI, 1125, .inl (upd (upd (upd (upd (upd (upd (fun _ => 0) (1 : Int32).toNatClampNeg 6) ((9 : Int32) + 0).toNatClampNeg (-9)) ((9 : Int32) + 1).toNatClampNeg (-9)) ((9 : Int32) + 2).toNatClampNeg (-9)) ((9 : Int32) + 3).toNatClampNeg (-9)) ((9 : Int32) + 4).toNatClampNeg (-9)))), (q1, .inl (kI, 5625, .inl (fun _ => 0))), (q2, .inl (kI, 1125, .inl (fun _ => 0))), (q3, .inl (kI, 80, .inl (fun _ => 0))), (q4, .inl (kI, 3, .inl (fun _ => 0))), (q5, .inl (kZ, 188, .inl (fun _ => 0))), (q6, .inl (kI, 188, .inl (fun _ => 0)))] H := hP
  have hD : va_D A [(h0, .inr (8, [.ref q0, .ref q1, .ref q2, .int 0, .int 0, .ref q3, .int 0, .int 0, .ref q4, .ref q5, .ref q6, .int 0])), (q0, .inl (kI, 1125, .inl (upd (upd (upd (upd (upd (upd (fun _ => 0) (1 : Int32).toNatClampNeg 6) ((9 : Int32) + 0).toNatClampNeg (-9)) ((9 : Int32) + 1).toNatClampNeg (-9)) ((9 : Int32) + 2).toNatClampNeg (-9)) ((9 : Int32) + 3).toNatClampNeg (-9)) ((9 : Int32) + 4).toNatClampNeg (-9)))), (q1, .inl (kI, 5625, .inl (fun _ => 0))), (q2, .inl (kI, 1125, .inl (fun _ => 0))), (q3, .inl (kI, 80, .inl (fun _ => 0))), (q4, .inl (kI, 3, .inl (fun _ => 0))), (q5, .inl (kZ, 188, .inl (fun _ => 0))), (q6, .inl (kI, 188, .inl (fun _ => 0)))] := hD
  refine lv_iinc (v := 5) hx hb dX8_init_91 hl (k := 0) rfl (by decide) (by decide) (lv' := [(1, .int 5), (0, .ref h0)]) rfl (fun ls hl => ?_)
  refine lv_goto (tgt := 74) hx hb dX8_init_94 (by decide) ?_
  refine lv_iload_n hx hb dX8_init_74 rfl (lv_at hl 0 rfl) ?_
  refine lv_bipush (v := 8) hx hb dX8_init_75 (by decide) ?_
  refine lv_icmp_ge (tgt := 97) hx hb dX8_init_77 (by decide) (fun h => absurd h (by decide)) (fun _ => ?_)
  refine lv_aload_n hx hb dX8_init_80 rfl (lv_at hl 1 rfl) ?_
  refine va_get (D := D) (ci := 8) (v := .ref q0) (C := RX8) (T := TX8) (N := 12) hx hb hts (fun w h => List.mem_cons_of_mem _ (List.mem_append_right _ h)) hown hK hP 0 rfl rfl 0 (by decide) (hts (.fieldLink RX8 7 "NamedMovesModel" "s" "[I") (by decide +kernel)) (fun _ h9 => h9) rfl dX8_init_81 ?_
  refine lv_bipush (v := 9) hx hb dX8_init_84 (by decide) ?_
  refine lv_iload_n hx hb dX8_init_86 rfl (lv_at hl 0 rfl) ?_
  refine lv_iadd hx hb dX8_init_87 ?_
  refine lv_bipush (v := -9) hx hb dX8_init_88 (by decide) ?_
  refine va_iast hx hb hK hP hD hS 1 0 (f := (upd (upd (upd (upd (upd (upd (fun _ => 0) (1 : Int32).toNatClampNeg 6) ((9 : Int32) + 0).toNatClampNeg (-9)) ((9 : Int32) + 1).toNatClampNeg (-9)) ((9 : Int32) + 2).toNatClampNeg (-9)) ((9 : Int32) + 3).toNatClampNeg (-9)) ((9 : Int32) + 4).toNatClampNeg (-9))) rfl rfl (by unfold vp_in; decide +kernel) dX8_init_90 (fun H locs hP hD hS => ?_)
  have hP : va_P D vwCl [(h0, .inr (8, [.ref q0, .ref q1, .ref q2, .int 0, .int 0, .ref q3, .int 0, .int 0, .ref q4, .ref q5, .ref q6, .int 0])), (q0, .inl (kI, 1125, .inl (upd (upd (upd (upd (upd (upd (upd (fun _ => 0) (1 : Int32).toNatClampNeg 6) ((9 : Int32) + 0).toNatClampNeg (-9)) ((9 : Int32) + 1).toNatClampNeg (-9)) ((9 : Int32) + 2).toNatClampNeg (-9)) ((9 : Int32) + 3).toNatClampNeg (-9)) ((9 : Int32) + 4).toNatClampNeg (-9)) ((9 : Int32) + 5).toNatClampNeg (-9)))), (q1, .inl (kI, 5625, .inl (fun _ => 0))), (q2, .inl (kI, 1125, .inl (fun _ => 0))), (q3, .inl (kI, 80, .inl (fun _ => 0))), (q4, .inl (kI, 3, .inl (fun _ => 0))), (q5, .inl (kZ, 188, .inl (fun _ => 0))), (q6, .inl (kI, 188, .inl (fun _ => 0)))] H := hP
  have hD : va_D A [(h0, .inr (8, [.ref q0, .ref q1, .ref q2, .int 0, .int 0, .ref q3, .int 0, .int 0, .ref q4, .ref q5, .ref q6, .int 0])), (q0, .inl (kI, 1125, .inl (upd (upd (upd (upd (upd (upd (upd (fun _ => 0) (1 : Int32).toNatClampNeg 6) ((9 : Int32) + 0).toNatClampNeg (-9)) ((9 : Int32) + 1).toNatClampNeg (-9)) ((9 : Int32) + 2).toNatClampNeg (-9)) ((9 : Int32) + 3).toNatClampNeg (-9)) ((9 : Int32) + 4).toNatClampNeg (-9)) ((9 : Int32) + 5).toNatClampNeg (-9)))), (q1, .inl (kI, 5625, .inl (fun _ => 0))), (q2, .inl (kI, 1125, .inl (fun _ => 0))), (q3, .inl (kI, 80, .inl (fun _ => 0))), (q4, .inl (kI, 3, .inl (fun _ => 0))), (q5, .inl (kZ, 188, .inl (fun _ => 0))), (q6, .inl (kI, 188, .inl (fun _ => 0)))] := hD
  refine lv_iinc (v := 6) hx hb dX8_init_91 hl (k := 0) rfl (by decide) (by decide) (lv' := [(1, .int 6), (0, .ref h0)]) rfl (fun ls hl => ?_)
  refine lv_goto (tgt := 74) hx hb dX8_init_94 (by decide) ?_
  refine lv_iload_n hx hb dX8_init_74 rfl (lv_at hl 0 rfl) ?_
  refine lv_bipush (v := 8) hx hb dX8_init_75 (by decide) ?_
  refine lv_icmp_ge (tgt := 97) hx hb dX8_init_77 (by decide) (fun h => absurd h (by decide)) (fun _ => ?_)
  refine lv_aload_n hx hb dX8_init_80 rfl (lv_at hl 1 rfl) ?_
  refine va_get (D := D) (ci := 8) (v := .ref q0) (C := RX8) (T := TX8) (N := 12) hx hb hts (fun w h => List.mem_cons_of_mem _ (List.mem_append_right _ h)) hown hK hP 0 rfl rfl 0 (by decide) (hts (.fieldLink RX8 7 "NamedMovesModel" "s" "[I") (by decide +kernel)) (fun _ h9 => h9) rfl dX8_init_81 ?_
  refine lv_bipush (v := 9) hx hb dX8_init_84 (by decide) ?_
  refine lv_iload_n hx hb dX8_init_86 rfl (lv_at hl 0 rfl) ?_
  refine lv_iadd hx hb dX8_init_87 ?_
  refine lv_bipush (v := -9) hx hb dX8_init_88 (by decide) ?_
  refine va_iast hx hb hK hP hD hS 1 0 (f := (upd (upd (upd (upd (upd (upd (upd (fun _ => 0) (1 : Int32).toNatClampNeg 6) ((9 : Int32) + 0).toNatClampNeg (-9)) ((9 : Int32) + 1).toNatClampNeg (-9)) ((9 : Int32) + 2).toNatClampNeg (-9)) ((9 : Int32) + 3).toNatClampNeg (-9)) ((9 : Int32) + 4).toNatClampNeg (-9)) ((9 : Int32) + 5).toNatClampNeg (-9))) rfl rfl (by unfold vp_in; decide +kernel) dX8_init_90 (fun H locs hP hD hS => ?_)
  have hP : va_P D vwCl [(h0, .inr (8, [.ref q0, .ref q1, .ref q2, .int 0, .int 0, .ref q3, .int 0, .int 0, .ref q4, .ref q5, .ref q6, .int 0])), (q0, .inl (kI, 1125, .inl (upd (upd (upd (upd (upd (upd (upd (upd (fun _ => 0) (1 : Int32).toNatClampNeg 6) ((9 : Int32) + 0).toNatClampNeg (-9)) ((9 : Int32) + 1).toNatClampNeg (-9)) ((9 : Int32) + 2).toNatClampNeg (-9)) ((9 : Int32) + 3).toNatClampNeg (-9)) ((9 : Int32) + 4).toNatClampNeg (-9)) ((9 : Int32) + 5).toNatClampNeg (-9)) ((9 : Int32) + 6).toNatClampNeg (-9)))), (q1, .inl (kI, 5625, .inl (fun _ => 0))), (q2, .inl (kI, 1125, .inl (fun _ => 0))), (q3, .inl (kI, 80, .inl (fun _ => 0))), (q4, .inl (kI, 3, .inl (fun _ => 0))), (q5, .inl (kZ, 188, .inl (fun _ => 0))), (q6, .inl (kI, 188, .inl (fun _ => 0)))] H := hP
  have hD : va_D A [(h0, .inr (8, [.ref q0, .ref q1, .ref q2, .int 0, .int 0, .ref q3, .int 0, .int 0, .ref q4, .ref q5, .ref q6, .int 0])), (q0, .inl (kI, 1125, .inl (upd (upd (upd (upd (upd (upd (upd (upd (fun _ => 0) (1 : Int32).toNatClampNeg 6) ((9 : Int32) + 0).toNatClampNeg (-9)) ((9 : Int32) + 1).toNatClampNeg (-9)) ((9 : Int32) + 2).toNatClampNeg (-9)) ((9 : Int32) + 3).toNatClampNeg (-9)) ((9 : Int32) + 4).toNatClampNeg (-9)) ((9 : Int32) + 5).toNatClampNeg (-9)) ((9 : Int32) + 6).toNatClampNeg (-9)))), (q1, .inl (kI, 5625, .inl (fun _ => 0))), (q2, .inl (kI, 1125, .inl (fun _ => 0))), (q3, .inl (kI, 80, .inl (fun _ => 0))), (q4, .inl (kI, 3, .inl (fun _ => 0))), (q5, .inl (kZ, 188, .inl (fun _ => 0))), (q6, .inl (kI, 188, .inl (fun _ => 0)))] := hD
  refine lv_iinc (v := 7) hx hb dX8_init_91 hl (k := 0) rfl (by decide) (by decide) (lv' := [(1, .int 7), (0, .ref h0)]) rfl (fun ls hl => ?_)
  refine lv_goto (tgt := 74) hx hb dX8_init_94 (by decide) ?_
  refine lv_iload_n hx hb dX8_init_74 rfl (lv_at hl 0 rfl) ?_
  refine lv_bipush (v := 8) hx hb dX8_init_75 (by decide) ?_
  refine lv_icmp_ge (tgt := 97) hx hb dX8_init_77 (by decide) (fun h => absurd h (by decide)) (fun _ => ?_)
  refine lv_aload_n hx hb dX8_init_80 rfl (lv_at hl 1 rfl) ?_
  refine va_get (D := D) (ci := 8) (v := .ref q0) (C := RX8) (T := TX8) (N := 12) hx hb hts (fun w h => List.mem_cons_of_mem _ (List.mem_append_right _ h)) hown hK hP 0 rfl rfl 0 (by decide) (hts (.fieldLink RX8 7 "NamedMovesModel" "s" "[I") (by decide +kernel)) (fun _ h9 => h9) rfl dX8_init_81 ?_
  refine lv_bipush (v := 9) hx hb dX8_init_84 (by decide) ?_
  refine lv_iload_n hx hb dX8_init_86 rfl (lv_at hl 0 rfl) ?_
  refine lv_iadd hx hb dX8_init_87 ?_
  refine lv_bipush (v := -9) hx hb dX8_init_88 (by decide) ?_
  refine va_iast hx hb hK hP hD hS 1 0 (f := (upd (upd (upd (upd (upd (upd (upd (upd (fun _ => 0) (1 : Int32).toNatClampNeg 6) ((9 : Int32) + 0).toNatClampNeg (-9)) ((9 : Int32) + 1).toNatClampNeg (-9)) ((9 : Int32) + 2).toNatClampNeg (-9)) ((9 : Int32) + 3).toNatClampNeg (-9)) ((9 : Int32) + 4).toNatClampNeg (-9)) ((9 : Int32) + 5).toNatClampNeg (-9)) ((9 : Int32) + 6).toNatClampNeg (-9))) rfl rfl (by unfold vp_in; decide +kernel) dX8_init_90 (fun H locs hP hD hS => ?_)
  have hP : va_P D vwCl [(h0, .inr (8, [.ref q0, .ref q1, .ref q2, .int 0, .int 0, .ref q3, .int 0, .int 0, .ref q4, .ref q5, .ref q6, .int 0])), (q0, .inl (kI, 1125, .inl (upd (upd (upd (upd (upd (upd (upd (upd (upd (fun _ => 0) (1 : Int32).toNatClampNeg 6) ((9 : Int32) + 0).toNatClampNeg (-9)) ((9 : Int32) + 1).toNatClampNeg (-9)) ((9 : Int32) + 2).toNatClampNeg (-9)) ((9 : Int32) + 3).toNatClampNeg (-9)) ((9 : Int32) + 4).toNatClampNeg (-9)) ((9 : Int32) + 5).toNatClampNeg (-9)) ((9 : Int32) + 6).toNatClampNeg (-9)) ((9 : Int32) + 7).toNatClampNeg (-9)))), (q1, .inl (kI, 5625, .inl (fun _ => 0))), (q2, .inl (kI, 1125, .inl (fun _ => 0))), (q3, .inl (kI, 80, .inl (fun _ => 0))), (q4, .inl (kI, 3, .inl (fun _ => 0))), (q5, .inl (kZ, 188, .inl (fun _ => 0))), (q6, .inl (kI, 188, .inl (fun _ => 0)))] H := hP
  have hD : va_D A [(h0, .inr (8, [.ref q0, .ref q1, .ref q2, .int 0, .int 0, .ref q3, .int 0, .int 0, .ref q4, .ref q5, .ref q6, .int 0])), (q0, .inl (kI, 1125, .inl (upd (upd (upd (upd (upd (upd (upd (upd (upd (fun _ => 0) (1 : Int32).toNatClampNeg 6) ((9 : Int32) + 0).toNatClampNeg (-9)) ((9 : Int32) + 1).toNatClampNeg (-9)) ((9 : Int32) + 2).toNatClampNeg (-9)) ((9 : Int32) + 3).toNatClampNeg (-9)) ((9 : Int32) + 4).toNatClampNeg (-9)) ((9 : Int32) + 5).toNatClampNeg (-9)) ((9 : Int32) + 6).toNatClampNeg (-9)) ((9 : Int32) + 7).toNatClampNeg (-9)))), (q1, .inl (kI, 5625, .inl (fun _ => 0))), (q2, .inl (kI, 1125, .inl (fun _ => 0))), (q3, .inl (kI, 80, .inl (fun _ => 0))), (q4, .inl (kI, 3, .inl (fun _ => 0))), (q5, .inl (kZ, 188, .inl (fun _ => 0))), (q6, .inl (kI, 188, .inl (fun _ => 0)))] := hD
  refine lv_iinc (v := 8) hx hb dX8_init_91 hl (k := 0) rfl (by decide) (by decide) (lv' := [(1, .int 8), (0, .ref h0)]) rfl (fun ls hl => ?_)
  refine lv_goto (tgt := 74) hx hb dX8_init_94 (by decide) ?_
  refine lv_iload_n hx hb dX8_init_74 rfl (lv_at hl 0 rfl) ?_
  refine lv_bipush (v := 8) hx hb dX8_init_75 (by decide) ?_
  refine lv_icmp_ge (tgt := 97) hx hb dX8_init_77 (by decide) (fun _ => ?_) (fun h => absurd (by decide) h)
  exact W.vret hx hb hr (fun t ht hW => ⟨⟨(q0, q1, q2, q3, q4, q5, q6), rfl, trivial, by rw [ht]; exact hP, va_K.moved hW.alike hK, hD⟩, hS.F ht⟩) hS.2.2 dX8_init_97
