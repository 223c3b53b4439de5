/-! THE BEGINNING: cells as the world has them -/
theorem arr_cg {cA : ClassId} {n : Nat} {f g : Nat → Int32} (h : ∀ j, j < n → f j = g j) : vp_cell cA (n, .inl f) = vp_cell cA (n, .inl g) := by
  show ({ cls := cA, slots := Array.ofFn (n := n) fun j => Value.int (f j.val), vm := .none } : Cell) = { cls := cA, slots := Array.ofFn (n := n) fun j => Value.int (g j.val), vm := .none }
  have e : (fun j : Fin n => Value.int (f j.val)) = fun j : Fin n => Value.int (g j.val) := funext fun j => by rw [h j.1 j.2]
  rw [e]
theorem arr_cgq {cA : ClassId} {n : Nat} {f g : Nat → Option Nat} (h : ∀ j, j < n → f j = g j) : vp_cell cA (n, .inr (.inr (.inr (.inr f)))) = vp_cell cA (n, .inr (.inr (.inr (.inr g)))) := by
  show ({ cls := cA, slots := Array.ofFn (n := n) fun j => va_rf (f j.val), vm := .none } : Cell) = { cls := cA, slots := Array.ofFn (n := n) fun j => va_rf (g j.val), vm := .none }
  have e : (fun j : Fin n => va_rf (f j.val)) = fun j : Fin n => va_rf (g j.val) := funext fun j => by rw [h j.1 j.2]
  rw [e]
theorem arr_cgl {cA : ClassId} {n : Nat} {f g : Nat → Int64} (h : ∀ j, j < n → f j = g j) : vp_cell cA (n, .inr (.inl f)) = vp_cell cA (n, .inr (.inl g)) := by
  show ({ cls := cA, slots := Array.ofFn (n := n) fun j => Value.long (f j.val), vm := .none } : Cell) = { cls := cA, slots := Array.ofFn (n := n) fun j => Value.long (g j.val), vm := .none }
  have e : (fun j : Fin n => Value.long (f j.val)) = fun j : Fin n => Value.long (g j.val) := funext fun j => by rw [h j.1 j.2]
  rw [e]
theorem at_l {D : va_G} {q n : Nat} {kL : ClassId} {f g : Nat → Int64} {H : Heap} (hP : va_at D vwCl (q, .inl (kL, n, .inr (.inl f))) H) (h : ∀ j, j < n → f j = g j) : va_at D vwCl (q, .inl (kL, n, .inr (.inl g))) H := by
  show H[q]? = some (vp_cell kL (n, .inr (.inl g)))
  rw [← arr_cgl h]
  exact hP
theorem at_i {D : va_G} {q n : Nat} {kI : ClassId} {f g : Nat → Int32} {H : Heap} (hP : va_at D vwCl (q, .inl (kI, n, .inl f)) H) (h : ∀ j, j < n → f j = g j) : va_at D vwCl (q, .inl (kI, n, .inl g)) H := by
  show H[q]? = some (vp_cell kI (n, .inl g))
  rw [← arr_cg h]
  exact hP
/-- a store at the beginning -/
theorem at_sto {G : GG} {t : Nat} {H : Heap} {h0 q0 q1 a0 a1 a2 a3 a4 q2 b0 : Nat} (hP : va_P G.2.1 vwCl (tX5 G.2.2.1 h0 q0 q1 a0 a1 a2 a3 a4 q2 b0) H) (e0 : G.1 0 t = h0) (e1 : G.1 1 t = q0) (e2 : G.1 2 t = q1) (e3 : G.1 3 t = a0) (e4 : G.1 4 t = a1) (e5 : G.1 5 t = a2) (e6 : G.1 6 t = a3) (e7 : G.1 7 t = a4) (e8 : G.1 8 t = q2) (e9 : G.1 9 t = b0) : ∀ c, c < 10 → va_at G.2.1 vwCl (G.1 c t, sE G wd0 c t) H := by
  subst e0 e1 e2 e3 e4 e5 e6 e7 e8 e9
  intro c hc
  rcases (show c = 0 ∨ c = 1 ∨ c = 2 ∨ c = 3 ∨ c = 4 ∨ c = 5 ∨ c = 6 ∨ c = 7 ∨ c = 8 ∨ c = 9 by omega) with rfl | rfl | rfl | rfl | rfl | rfl | rfl | rfl | rfl | rfl
  · exact hP 0 _ rfl
  · exact at_i (hP 9 _ rfl) (fun j hj => by unfold fil; rw [if_pos hj]; rfl)
  · exact hP 1 _ rfl
  · exact at_i (hP 2 _ rfl) (fun j hj => rfl)
  · exact at_i (hP 3 _ rfl) (fun j hj => rfl)
  · exact at_i (hP 5 _ rfl) (fun j hj => by unfold fil; rw [if_pos hj]; rfl)
  · exact at_i (hP 4 _ rfl) (fun j hj => rfl)
  · exact at_i (hP 6 _ rfl) (fun j hj => by unfold fil; rw [if_pos hj]; rfl)
  · exact hP 7 _ rfl
  · exact at_i (hP 8 _ rfl) (fun j hj => rfl)
abbrev tR (kI kL : ClassId) (m0 m1 m2 m3 m4 m5 m6 : Nat) : va_W := [(m0, .inl (kI, 9, .inl (fun _ => 0))), (m1, .inl (kI, 8, .inl (fun _ => 0))), (m2, .inl (kI, 40, .inl (fun _ => 0))), (m3, .inl (kI, 64, .inl (fun _ => 0))), (m4, .inl (kL, 64, .inr (.inl (fun _ => 0)))), (m5, .inl (kL, 64, .inr (.inl (fun _ => 0)))), (m6, .inl (kL, 64, .inr (.inl (fun _ => 0))))]
theorem at_row {G : GG} {H : Heap} {m0 m1 m2 m3 m4 m5 m6 : Nat} (hP : va_P G.2.1 vwCl (tR G.2.2.1 G.2.2.2.2.2 m0 m1 m2 m3 m4 m5 m6) H) (e0 : G.1 30 0 = m0) (e1 : G.1 31 0 = m1) (e2 : G.1 32 0 = m2) (e3 : G.1 33 0 = m3) (e4 : G.1 34 0 = m4) (e5 : G.1 35 0 = m5) (e6 : G.1 36 0 = m6) : ∀ c, 30 ≤ c → c < 37 → va_at G.2.1 vwCl (G.1 c 0, sE G wd0 c 0) H := by
  subst e0 e1 e2 e3 e4 e5 e6
  intro c h1 h2
  rcases (show c = 30 ∨ c = 31 ∨ c = 32 ∨ c = 33 ∨ c = 34 ∨ c = 35 ∨ c = 36 by omega) with rfl | rfl | rfl | rfl | rfl | rfl | rfl
  · exact at_i (hP 0 _ rfl) (fun j hj => rfl)
  · exact at_i (hP 1 _ rfl) (fun j hj => rfl)
  · exact at_i (hP 2 _ rfl) (fun j hj => rfl)
  · exact at_i (hP 3 _ rfl) (fun j hj => rfl)
  · exact at_l (hP 4 _ rfl) (fun j hj => rfl)
  · exact at_l (hP 5 _ rfl) (fun j hj => rfl)
  · exact at_l (hP 6 _ rfl) (fun j hj => rfl)
section NL
variable {p : Program} {l : Launch} {e : Env} {R : Room} {s : State} {m : MethodId} {args : Array Value} {below : List Frame} {meth : Method} {c : Code} {H H0 : Heap} {locs : List Loc} {cells slots : Nat} {Q : State → Prop}
variable {cc : ByteArray} {pc : Nat} {ls : Array Slot} {rest : List Value} {D : va_G} {cl : List vw_C} {tys : List (ClassId × FieldType)} {ws : va_W} {A : Nat → Prop}
theorem n_newl (hexec : p.tables.exec = Jvm.exec) (hb : c.code = cc) (harr : (Cond.arrayClass .long).before args s = true) (hK : va_K D cl tys s) (hP : va_P D cl ws H) (hD : va_D A ws) (hS : va_S A H0 H locs) (hA : ∀ q, H0.size ≤ q → A q)
    {kI : ClassId} {k0 : Nat} (hk : tys[k0]? = some (kI, .long)) {n : Int32} {N' : Nat} (hn : ¬ n < 0) (hN : n.toNatClampNeg = N') (hbytes : N' * componentBytes .long ≤ 536870912) (hcells : cells + 1 ≤ R.cells) (hslots : slots + N' ≤ R.slots) (hdg : decode cc pc = .ok (.newarray .long, 2))
    (kk : ∀ (q : Nat) (H1 : Heap), va_P D cl (ws ++ [(q, .inl (kI, N', .inr (.inl (fun _ => 0))))]) H1 → va_D A (ws ++ [(q, .inl (kI, N', .inr (.inl (fun _ => 0))))]) → va_S A H0 H1 locs →
      W p l e R s m args below meth c H1 locs (cells + 1) (slots + N') Q (F0 m (pc + 2) ls (.ref q :: rest))) : W p l e R s m args below meth c H locs cells slots Q (F0 m pc ls (.int n :: rest)) := by
  refine va_newa (atype := .long) (ty := .long) (a0 := (N', .inr (.inl (fun _ => 0)))) hexec hb harr rfl hK hP hD hS hA (fun cA => rfl) hn hN hbytes hcells hslots hdg (fun q cA H1 hK1 hP1 hD1 hS1 => ?_)
  have h1 : s.vm.findClass ("[" ++ FieldType.long.toString) = some cA := (hK1.2 tys.length (cA, .long) (by simp)).2
  have h2 : s.vm.findClass ("[" ++ FieldType.long.toString) = some kI := (hK.2 k0 (kI, .long) hk).2
  have e : cA = kI := Option.some.inj (h1.symm.trans h2)
  subst e
  exact kk q H1 hP1 hD1 hS1
end NL
