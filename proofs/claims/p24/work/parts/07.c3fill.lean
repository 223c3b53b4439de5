/-! CONSTRUCTORS: Arrays.fill -/
def fil (f : Nat → Int32) (v : Int32) (i : Nat) : Nat → Int32 := fun j => if j < i then v else f j
theorem fil_0 (f : Nat → Int32) (v : Int32) : fil f v 0 = f := by
  funext j
  unfold fil
  rw [if_neg (by omega)]
theorem fil_s (f : Nat → Int32) (v : Int32) (i : Nat) : upd (fil f v i) i v = fil f v (i + 1) := by
  funext j
  unfold upd fil
  by_cases e : j = i
  · subst e
    simp
  · by_cases h : j < i
    · simp [e, h, show j < i + 1 by omega]
    · simp [e, h, show ¬ j < i + 1 by omega]
theorem n_i32 {i : Nat} (h : i < 2147483648) : (Int32.ofInt (i : Int)).toNatClampNeg = i := by
  rw [o_clamp ⟨by omega, by omega⟩]
  rfl
section FILL
variable {p : Program} {l : Launch} {e : Env} {R : Room} {s : State} {m : MethodId} {args : Array Value} {below : List Frame} {meth : Method} {c : Code} {Q : State → Prop} {D : va_G} {A : Nat → Prop} {H0 : Heap}
/-- the loop, from its head on -/
theorem fill_l (hx : p.tables.exec = Jvm.exec) (hb : c.code = cJ7_fill_53178) {kI : ClassId} {a N : Nat} {f : Nat → Int32} {v : Int32} (hN : N < 2147483648) (hK : va_K D vwCl [(kI, .int)] s)
    (hret : ∀ (H : Heap) (locs : List Loc) (ls : Array Slot), va_P D vwCl [(a, .inl (kI, N, .inl (fil f v N)))] H → va_D A [(a, .inl (kI, N, .inl (fil f v N)))] → va_S A H0 H locs → W p l e R s m args below meth c H locs 0 0 Q (F0 m 20 ls [])) :
    ∀ (r i : Nat) (H : Heap) (locs : List Loc) (ls : Array Slot), i + r = N → va_P D vwCl [(a, .inl (kI, N, .inl (fil f v i)))] H → va_D A [(a, .inl (kI, N, .inl (fil f v i)))] → va_S A H0 H locs → lv_has ls 4 [(0, .ref a), (1, .int v), (2, iV i), (3, iV N)] → W p l e R s m args below meth c H locs 0 0 Q (F0 m 5 ls []) := by
  intro r
  induction r with
  | zero =>
    intro i H locs ls hi hP hD hS hl
    have e : i = N := by omega
    subst e
    refine lv_iload_n hx hb dJ7_fill_53178_5 rfl (lv_at hl 2 rfl) ?_
    refine lv_iload_n hx hb dJ7_fill_53178_6 rfl (lv_at hl 3 rfl) ?_
    refine lv_icmp_ge (tgt := 20) hx hb dJ7_fill_53178_7 (by decide) (fun _ => hret H locs ls hP hD hS) (fun h => absurd ?_ h)
    exact (o_le ⟨by omega, by omega⟩ ⟨by omega, by omega⟩).mpr (Int.le_refl _)
  | succ r ih =>
    intro i H locs ls hi hP hD hS hl
    refine lv_iload_n hx hb dJ7_fill_53178_5 rfl (lv_at hl 2 rfl) ?_
    refine lv_iload_n hx hb dJ7_fill_53178_6 rfl (lv_at hl 3 rfl) ?_
    refine lv_icmp_ge (tgt := 20) hx hb dJ7_fill_53178_7 (by decide) (fun h => absurd ((o_le ⟨by omega, by omega⟩ ⟨by omega, by omega⟩).mp h) (by omega)) (fun _ => ?_)
    refine lv_aload_n hx hb dJ7_fill_53178_10 rfl (lv_at hl 0 rfl) ?_
    refine lv_iload_n hx hb dJ7_fill_53178_11 rfl (lv_at hl 2 rfl) ?_
    refine lv_iload_n hx hb dJ7_fill_53178_12 rfl (lv_at hl 1 rfl) ?_
    refine va_iast hx hb hK hP hD hS 0 0 (f := fil f v i) rfl rfl (o_in (i := (i : Int)) (n := N) ⟨by omega, by omega⟩ hN) dJ7_fill_53178_13 (fun H1 locs1 hP hD hS => ?_)
    rw [n_i32 (by omega), fil_s] at hP hD
    refine lv_iinc (v := Int32.ofInt ((i + 1 : Nat) : Int)) hx hb dJ7_fill_53178_14 hl (k := 2) rfl ?_ (by decide) rfl (fun ls hl => ?_)
    · rw [← Int32.ofInt_add]
      rfl
    refine lv_goto (tgt := 5) hx hb dJ7_fill_53178_17 (by decide) ?_
    exact ih (i + 1) H1 locs1 ls (by omega) hP hD hS (lv_sub hl [1, 2, 0, 3] rfl)
end FILL
set_option maxHeartbeats 4000000 in
set_option maxRecDepth 100000 in
theorem c_fill (l : Launch) (D : va_G) (kI : ClassId) (a N : Nat) (f : Nat → Int32) (v : Int32) (sz : Nat) (hN : N < 2147483648) : Met l yJ7_fill_53178 wsJ7_fill_53178 ({ frames := 0, cells := 0, slots := 0, locals := 0 }) (va_Pc [.ref a, .int v] (fun U => U.heap.size = sz ∧ va_P D vwCl [(a, .inl (kI, N, .inl f))] U.heap ∧ va_K D vwCl [(kI, .int)] U ∧ va_D (fun _ => True) [(a, .inl (kI, N, .inl f))])) (va_Qv (fun _ : Unit => True) (fun _ U => va_P D vwCl [(a, .inl (kI, N, .inl (fil f v N)))] U.heap ∧ va_K D vwCl [(kI, .int)] U ∧ va_D (va_A [(a, .inl (kI, N, .inl f))] sz) [(a, .inl (kI, N, .inl (fil f v N)))]) (va_A [(a, .inl (kI, N, .inl f))] sz)) 0 0 (va_A [(a, .inl (kI, N, .inl f))] sz) := by
  refine va_MetF (cc := cJ7_fill_53178) (maxL := 4) (ret := none) (by decide +kernel) rfl ?_
  intro p e s m args below meth c s₁ B hml hv
  obtain ⟨rfl, hsz, hP, hK, hD0⟩ := hv
  have hx := B.exec
  have hb := B.bytes
  have hr := B.returns
  subst hsz
  have hD := hD0.self (sz := s.heap.size)
  generalize hAe : va_A [(a, .inl (kI, N, .inl f))] s.heap.size = A at hD ⊢
  have hA : ∀ q : Nat, s.heap.size ≤ q → A q := fun q h => by rw [← hAe]; exact Or.inr h
  have hS : va_S A s.heap s.heap [] := va_S.rf
  have hP : va_P D vwCl [(a, .inl (kI, N, .inl f))] s.heap := hP
  have hlocks := B.notSynchronized
  have hl := lv_entry ([.ref a, .int v]) (n := 4) (Nat.le_of_ble_eq_true rfl)
  rw [lg_entry_eq]
  generalize (lg_sl ([.ref a, .int v]) ++ List.replicate (4 - (lg_sl ([.ref a, .int v])).length) Slot.unset).toArray = ls at hl ⊢
  have hl : lv_has ls 4 [(0, .ref a), (1, .int v)] := hl
  refine lv_iconst (v := 0) hx hb dJ7_fill_53178_0 (by decide) ?_
  refine lv_istore_n hx hb dJ7_fill_53178_1 rfl hl (by decide) (lv' := [(2, .int 0), (0, .ref a), (1, .int v)]) rfl (fun ls hl => ?_)
  refine lv_aload_n hx hb dJ7_fill_53178_2 rfl (lv_at hl 1 rfl) ?_
  refine va_alen (x := (N, .inl f)) (v := Int32.ofInt (N : Int)) hx hb hK hP 0 0 rfl rfl rfl dJ7_fill_53178_3 ?_
  refine lv_istore_n hx hb dJ7_fill_53178_4 rfl hl (by decide) (lv' := [(3, iV N), (2, .int 0), (0, .ref a), (1, .int v)]) rfl (fun ls hl => ?_)
  refine fill_l hx hb hN hK (fun H locs ls hP hD hS => ?_) N 0 s.heap [] ls (by omega) (by rw [fil_0]; exact hP) (by rw [fil_0]; exact hD) hS (lv_sub hl [2, 3, 1, 0] rfl)
  exact W.vret hx hb hr (fun t ht hW => ⟨⟨(), rfl, trivial, by rw [ht]; exact hP, va_K.moved hW.alike hK, hD⟩, hS.F ht⟩) hS.2.2 dJ7_fill_53178_20
