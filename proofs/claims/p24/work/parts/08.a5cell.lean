/-! THE LAW: a word of the script -/
set_option maxRecDepth 100000 in
theorem c_L_cell (l : Launch) {b L : Nat} {xs : Nat → Int32} {k : Int} (hk : 0 ≤ k ∧ k ≤ 1000) (hL : L ≤ 260) : Met l yL_cell wsL_cell (rmL 0 0) (va_Pc [.ref b, iV k] (fun U => va_X b L xs U U.heap ∧ b < U.heap.size)) (va_Qi (fun (_ : Int32) (_ : Unit) => True) (fun _ _ => True) (fun _ => False)) 0 0 (fun _ => False) := by
  refine Met.ofW (cc := cL_cell) (maxL := 2) (ret := some .int) (by decide) rfl ?_
  intro p e s m args below meth c s₁ B hml hv
  obtain ⟨rfl, hX, hbl⟩ := hv
  have hts := atoms_spec (ws := wsL_cell) B.pre
  have hown : s.vm.findClass RL = some m.cls := findClass_of_methodNamed B.named
  have hx := B.exec
  have hb := B.bytes
  have hl := lv_entry ([.ref b, iV k]) (n := 2) (Nat.le_of_ble_eq_true rfl)
  rw [lg_entry_eq]
  generalize (lg_sl ([.ref b, iV k]) ++ List.replicate (2 - (lg_sl ([.ref b, iV k])).length) Slot.unset).toArray = ls at hl ⊢
  have hl : lv_has ls 2 [(0, .ref b), (1, iV k)] := hl
  have hS : va_S (fun _ : Nat => False) s.heap s.heap [] := va_S.rf
  have hbA : ¬ (fun _ : Nat => False) b := fun h => h
  refine lv_iload_n hx hb dL_cell_0 rfl (lv_at hl 1 rfl) ?_
  refine lv_aload_n hx hb dL_cell_1 rfl (lv_at hl 0 rfl) ?_
  refine va_slen hx hb hX hbl hbA hS dL_cell_2 ?_
  refine lv_icmp_ge (tgt := 12) hx hb dL_cell_3 (by decide) (fun _ => ?_) (fun h => ?_)
  · refine lv_ldc (v := 40503) hx hb hown (hts (.constant RL 7 40503) (by decide +kernel)) dL_cell_12 ?_
    refine lv_iload_n hx hb dL_cell_14 rfl (lv_at hl 1 rfl) ?_
    refine lv_iconst (v := 3) hx hb dL_cell_15 (by decide) ?_
    refine lv_iadd hx hb dL_cell_16 ?_
    refine lv_imul hx hb dL_cell_17 ?_
    exact W.iret hx hb B.returns (fun t ht hW => ⟨⟨_, (), rfl, trivial, trivial⟩, va_S.F hS ht⟩) (fun _ h => absurd h List.not_mem_nil) dL_cell_18 B.notSynchronized
  · have hlt : k < (L : Int) := by
      have h' : ¬ ((L : Int) ≤ k) := fun q => h ((o_le (x := (L : Int)) (y := k) ⟨by omega, by omega⟩ ⟨by omega, by omega⟩).mpr q)
      omega
    refine lv_aload_n hx hb dL_cell_6 rfl (lv_at hl 0 rfl) ?_
    refine lv_iload_n hx hb dL_cell_7 rfl (lv_at hl 1 rfl) ?_
    refine va_sld hx hb hX hbl hbA hS (o_in (i := k) (n := L) ⟨hk.1, hlt⟩ (by omega)) dL_cell_8 ?_
    refine lv_goto (tgt := 18) hx hb dL_cell_9 (by decide) ?_
    exact W.iret hx hb B.returns (fun t ht hW => ⟨⟨_, (), rfl, trivial, trivial⟩, va_S.F hS ht⟩) (fun _ h => absurd h List.not_mem_nil) dL_cell_18 B.notSynchronized
section XC
variable {p : Program} {l : Launch} {e : Env} {R : Room} {s : State} {m : MethodId} {args : Array Value} {below : List Frame} {meth : Method} {c : Code} {H : Heap} {locs : List Loc} {cells slots : Nat} {Q : State → Prop}
variable {cc : ByteArray} {nL : Nat} {own : String} {Ts : List Cond} {G : GG} {pc : Nat} {ls : Array Slot} {rest : List Value} {lv lv' : List (Nat × Value)} {w : Wd}
theorem x_cell {b L idx : Nat} {xs : Nat → Int32} (M : MC p s m args meth c cc nL own Ts G) (hl : lv_has ls nL lv) (hS : ST G s w H locs) (hX : va_X b L xs s s.heap) (hbl : b < s.heap.size) (hbA : ¬ GA G b) (hL : L ≤ 260) {k : Int} (hk : 0 ≤ k ∧ k ≤ 1000) (cw : CallB R s args own idx yL_cell cL_cell 2 (some .int) wsL_cell (rmL 0 0) 0 0 2 ∧ (Cond.static yL_cell).before args s = true) (hlo : 16 + (2 + 11) + (rmL 0 0).locals ≤ R.locals) (hcat : (rest.map fun v => v.category).sum ≤ 16) (hdg : decode cc pc = .ok (.invokestatic idx, 3)) (hR : cells ≤ R.cells ∧ slots ≤ R.slots) (kk : ∀ (z : Int) (H1 : Heap) (locs1 : List Loc), InR z → ST G s w H1 locs1 → W p l e R s m args below meth c H1 locs1 cells slots Q (F0 m (pc + 3) ls (iV z :: rest))) : W p l e R s m args below meth c H locs cells slots Q (F0 m pc ls (iV k :: .ref b :: rest)) := by
  refine va_calli (A0 := GA G) (x_runS16 (As := [.ref b, iV k]) (rest := rest) ⟨M.1, M.2.1, M.2.2.1, M.2.2.2.1, M.2.2.2.2.1⟩ (c_L_cell l (b := b) (L := L) (xs := xs) hk hL) cw hlo ⟨fun a U g mk q => ⟨q.1, va_X.moved (u := U) (U := U.calling g mk a) (Vm.Alike.refl U.vm) q.2.1, q.2.2⟩, fun U hU hW => ⟨rfl, (hX.moved hW.alike).kept (by rw [hU]; exact hS.2.2.1 b hbl hbA), by rw [hU]; exact Nat.lt_of_lt_of_le hbl hS.2.1⟩⟩ rfl hl.1 rfl hcat hdg hR) hS.2 (fun _ _ h => False.elim h) (fun _ h => False.elim h) (fun r u t H1 locs1 ht hvm hw hB hz hk1 hS1 => ?_)
  have e : Value.int r = iV r.toInt := by
    show Value.int r = Value.int (Int32.ofInt r.toInt)
    rw [o_of]
  rw [e]
  exact kk r.toInt H1 locs1 (o_inr r) ⟨⟨hS.1.1, fun c t ok => (hS.1.2.1 c t ok).kept (hk1 _ (va_at.lt (hS.1.2.1 c t ok)) (fun h => h)), hS.1.2.2⟩, hS1⟩
end XC
