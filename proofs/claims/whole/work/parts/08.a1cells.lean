/-! THE BEGINNING: cells as the world has them -/
theorem arr_cg {cA : ClassId} {n : Nat} {f g : Nat → Int32} (h : ∀ j, j < n → f j = g j) : vp_cell cA (n, .inl f) = vp_cell cA (n, .inl g) := by
  show ({ cls := cA, slots := Array.ofFn (n := n) fun j => Value.int (f j.val), vm := .none } : Cell) = { cls := cA, slots := Array.ofFn (n := n) fun j => Value.int (g j.val), vm := .none }
  have e : (fun j : Fin n => Value.int (f j.val)) = fun j : Fin n => Value.int (g j.val) := funext fun j => by rw [h j.1 j.2]
  rw [e]
theorem arr_cgq {cA : ClassId} {n : Nat} {f g : Nat → Option Nat} (h : ∀ j, j < n → f j = g j) : vp_cell cA (n, .inr (.inr (.inr (.inr f)))) = vp_cell cA (n, .inr (.inr (.inr (.inr g)))) := by
  show ({ cls := cA, slots := Array.ofFn (n := n) fun j => va_rf (f j.val), vm := .none } : Cell) = { cls := cA, slots := Array.ofFn (n := n) fun j => va_rf (g j.val), vm := .none }
  have e : (fun j : Fin n => va_rf (f j.val)) = fun j : Fin n => va_rf (g j.val) := funext fun j => by rw [h j.1 j.2]
  rw [e]
theorem at_i {D : va_G} {q n : Nat} {kI : ClassId} {f g : Nat → Int32} {H : Heap} (hP : va_at D vwCl (q, .inl (kI, n, .inl f)) H) (h : ∀ j, j < n → f j = g j) : va_at D vwCl (q, .inl (kI, n, .inl g)) H := by
  show H[q]? = some (vp_cell kI (n, .inl g))
  rw [← arr_cg h]
  exact hP
/-- a store at the beginning -/
theorem at_sto {G : GG} {t : Nat} {H : Heap} {h0 q0 q1 a0 a1 a2 a3 a4 q2 b0 : Nat} (hP : va_P G.2.1 vwCl (tX5 G.2.2.1 h0 q0 q1 a0 a1 a2 a3 a4 q2 b0) H) (e0 : G.1 0 t = h0) (e1 : G.1 1 t = q0) (e2 : G.1 2 t = q1) (e3 : G.1 3 t = a0) (e4 : G.1 4 t = a1) (e5 : G.1 5 t = a2) (e6 : G.1 6 t = a3) (e7 : G.1 7 t = a4) (e8 : G.1 8 t = q2) (e9 : G.1 9 t = b0) : ∀ c, c < 10 → va_at G.2.1 vwCl (G.1 c t, sE G wd0 c t) H := by
  subst e0 e1 e2 e3 e4 e5 e6 e7 e8 e9
  intro c hc
  rcases (show c = 0 ∨ c = 1 ∨ c = 2 ∨ c = 3 ∨ c = 4 ∨ c = 5 ∨ c = 6 ∨ c = 7 ∨ c = 8 ∨ c = 9 by omega) with rfl | rfl | rfl | rfl | rfl | rfl | rfl | rfl | rfl | rfl
  · exact hP 0 _ rfl
  · exact at_i (hP 9 _ rfl) (fun j hj => by unfold fil; rw [if_pos hj]; rfl)
  · exact hP 1 _ rfl
  · exact at_i (hP 2 _ rfl) (fun j hj => rfl)
  · exact at_i (hP 3 _ rfl) (fun j hj => rfl)
  · exact at_i (hP 5 _ rfl) (fun j hj => by unfold fil; rw [if_pos hj]; rfl)
  · exact at_i (hP 4 _ rfl) (fun j hj => rfl)
  · exact at_i (hP 6 _ rfl) (fun j hj => by unfold fil; rw [if_pos hj]; rfl)
  · exact hP 7 _ rfl
  · exact at_i (hP 8 _ rfl) (fun j hj => rfl)
/-- the model's row -/
theorem row_e (j : Nat) (hj : j < 1125) : (upd (upd (upd (upd (upd (upd (upd (upd (upd (fun _ => 0) (1 : Int32).toNatClampNeg 6) ((9 : Int32) + 0).toNatClampNeg (-9)) ((9 : Int32) + 1).toNatClampNeg (-9)) ((9 : Int32) + 2).toNatClampNeg (-9)) ((9 : Int32) + 3).toNatClampNeg (-9)) ((9 : Int32) + 4).toNatClampNeg (-9)) ((9 : Int32) + 5).toNatClampNeg (-9)) ((9 : Int32) + 6).toNatClampNeg (-9)) ((9 : Int32) + 7).toNatClampNeg (-9)) j = Int32.ofInt (wd0 22 0 j) := by
  rw [show (1 : Int32).toNatClampNeg = 1 by decide, show ((9 : Int32) + 0).toNatClampNeg = 9 by decide, show ((9 : Int32) + 1).toNatClampNeg = 10 by decide, show ((9 : Int32) + 2).toNatClampNeg = 11 by decide, show ((9 : Int32) + 3).toNatClampNeg = 12 by decide, show ((9 : Int32) + 4).toNatClampNeg = 13 by decide, show ((9 : Int32) + 5).toNatClampNeg = 14 by decide, show ((9 : Int32) + 6).toNatClampNeg = 15 by decide, show ((9 : Int32) + 7).toNatClampNeg = 16 by decide]
  show _ = Int32.ofInt (if j = 1 then (6 : Int) else if 9 ≤ j ∧ j < 17 then -9 else 0)
  unfold upd
  by_cases h17 : j < 17
  · rcases (show j = 0 ∨ j = 1 ∨ j = 2 ∨ j = 3 ∨ j = 4 ∨ j = 5 ∨ j = 6 ∨ j = 7 ∨ j = 8 ∨ j = 9 ∨ j = 10 ∨ j = 11 ∨ j = 12 ∨ j = 13 ∨ j = 14 ∨ j = 15 ∨ j = 16 by omega) with rfl | rfl | rfl | rfl | rfl | rfl | rfl | rfl | rfl | rfl | rfl | rfl | rfl | rfl | rfl | rfl | rfl <;> rfl
  · rw [if_neg (by omega), if_neg (by omega), if_neg (by omega), if_neg (by omega), if_neg (by omega), if_neg (by omega), if_neg (by omega), if_neg (by omega), if_neg (by omega), if_neg (by omega), if_neg (by omega)]
    rfl
theorem at_mod {G : GG} {H : Heap} {h0 q0 q1 q2 q3 q4 q5 q6 : Nat} (hP : va_P G.2.1 vwCl (tX8 G.2.2.1 G.2.2.2.1 h0 q0 q1 q2 q3 q4 q5 q6) H) (e0 : G.1 21 0 = h0) (e1 : G.1 22 0 = q0) (e2 : G.1 23 0 = q1) (e3 : G.1 24 0 = q2) (e4 : G.1 25 0 = q3) (e5 : G.1 26 0 = q4) (e6 : G.1 27 0 = q5) (e7 : G.1 28 0 = q6) : ∀ c, 21 ≤ c → c < 29 → va_at G.2.1 vwCl (G.1 c 0, sE G wd0 c 0) H := by
  subst e0 e1 e2 e3 e4 e5 e6 e7
  intro c h1 h2
  rcases (show c = 21 ∨ c = 22 ∨ c = 23 ∨ c = 24 ∨ c = 25 ∨ c = 26 ∨ c = 27 ∨ c = 28 by omega) with rfl | rfl | rfl | rfl | rfl | rfl | rfl | rfl
  · exact hP 0 _ rfl
  · exact at_i (hP 1 _ rfl) row_e
  · exact at_i (hP 2 _ rfl) (fun j hj => rfl)
  · exact at_i (hP 3 _ rfl) (fun j hj => rfl)
  · exact at_i (hP 4 _ rfl) (fun j hj => rfl)
  · exact at_i (hP 5 _ rfl) (fun j hj => rfl)
  · exact at_i (hP 6 _ rfl) (fun j hj => rfl)
  · exact at_i (hP 7 _ rfl) (fun j hj => rfl)
