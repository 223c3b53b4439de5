/-! PURE: counting, both sides -/
section COUNT
variable {B : Int} {k : Nat} {ex : Int} {w v va : Wd} {t a i b h : Nat}
/-- over the addresses, and over the cells -/
theorem sm_cells {f : Nat → Int} (h0 : ∀ d, d < 260 → ¬ (d < 64 ∨ (100 ≤ d ∧ d < 164) ∨ (200 ≤ d ∧ d < 260)) → f d = 0) : sm f 260 = sm (fun c => f (100 * (c / 64) + c % 64)) 188 := by
  rw [show 260 = 64 + (36 + (64 + (36 + 60))) from rfl, sm_add, sm_add, sm_add, sm_add, show 188 = 64 + (64 + 60) from rfl, sm_add, sm_add]
  rw [sm_zero (f := fun i => f (64 + i)) 36 (fun i hi => h0 _ (by omega) (by omega))]
  rw [sm_zero (f := fun i => f (64 + (36 + (64 + i)))) 36 (fun i hi => h0 _ (by omega) (by omega))]
  rw [sm_congr (f := fun c => f (100 * (c / 64) + c % 64)) (g := f) 64 (fun i hi => by rw [show 100 * (i / 64) + i % 64 = i by omega])]
  rw [sm_congr (f := fun i => f (100 * ((64 + i) / 64) + (64 + i) % 64)) (g := fun i => f (64 + (36 + i))) 64 (fun i hi => by
    show f (100 * ((64 + i) / 64) + (64 + i) % 64) = f (64 + (36 + i))
    rw [show 100 * ((64 + i) / 64) + (64 + i) % 64 = 64 + (36 + i) by omega])]
  rw [sm_congr (f := fun i => f (100 * ((64 + (64 + i)) / 64) + (64 + (64 + i)) % 64)) (g := fun i => f (64 + (36 + (64 + (36 + i))))) 60 (fun i hi => by
    show f (100 * ((64 + (64 + i)) / 64) + (64 + (64 + i)) % 64) = f (64 + (36 + (64 + (36 + i))))
    rw [show 100 * ((64 + (64 + i)) / 64) + (64 + (64 + i)) % 64 = 64 + (36 + (64 + (36 + i))) by omega])]
  omega
/-- one for a copy of x that stays -/
def tw (w : Wd) (t : Nat) (x : Int) (d : Nat) : Int := if 0 < w 4 t d ∧ w 3 t d = x ∧ ¬ (w 0 t 2 = 1 ∧ (100 * (1 - w 0 t 3) ≤ d ∧ d < 100 * (1 - w 0 t 3) + 64)) then 1 else 0
theorem tw_01 (x : Int) (d : Nat) : 0 ≤ tw w t x d ∧ tw w t x d ≤ 1 := by
  unfold tw
  split <;> omega
theorem sm_tw (x : Int) (n : Nat) : 0 ≤ sm (tw w t x) n ∧ sm (tw w t x) n ≤ n := by
  refine ⟨sm_nonneg n (fun i _ => (tw_01 x i).1), ?_⟩
  have := sm_le (f := tw w t x) (b := 1) n (fun i _ => (tw_01 x i).2)
  omega
theorem hasTwins_l (hI : Iv B k ex w t) (x : Int) : ∀ (n p : Nat), p ≤ 260 → 260 - p < n → X5_hasTwins_b4 t n x (sm (tw w t x) p) p w = some (if 1 < sm (tw w t x) 260 then 1 else 0, w) := by
  have hA := hI.A
  unfold IvA at hA
  intro n
  induction n with
  | zero => intro p h1 h2; omega
  | succ n ih =>
    intro p h1 h2
    have hb := sm_tw (w := w) (t := t) x p
    have hs : sm (tw w t x) (p + 1) = sm (tw w t x) p + tw w t x p := rfl
    rw [X5_hasTwins_b4]
    by_cases h3 : p < 260
    · have ih2 := ih (p + 1) (by omega) (by omega)
      rw [show ((p + 1 : Nat) : Int) = (p : Int) + 1 by omega] at ih2
      rw [if_pos (by omega), isOf_e ⟨by omega, by omega⟩, show ((p : Nat) : Int).toNat = p from rfl]
      by_cases h4 : 0 < w 4 t p ∧ w 3 t p = x
      · rw [if_pos h4, bd_t, if_neg (by decide), isOld_e hA.2.2.2.1 hA.2.2.1 (by omega), bd_t]
        by_cases h5 : w 0 t 2 = 1 ∧ (100 * (1 - w 0 t 3) ≤ p ∧ p < 100 * (1 - w 0 t 3) + 64)
        · have e : tw w t x p = 0 := if_neg (fun q => q.2.2 h5)
          rw [if_pos h5, if_neg (by decide), gd_t ⟨by omega, by omega⟩, ← ih2, hs, e, Int.add_zero]
        · have e : tw w t x p = 1 := if_pos ⟨h4.1, h4.2, h5⟩
          rw [if_neg h5, if_pos rfl, gd_t ⟨by omega, by omega⟩, gd_t ⟨by omega, by omega⟩, ← ih2, hs, e]
      · have e : tw w t x p = 0 := if_neg (fun q => h4 ⟨q.1, q.2.1⟩)
        rw [if_neg h4, bd_t, if_pos rfl, gd_t ⟨by omega, by omega⟩, ← ih2, hs, e, Int.add_zero]
    · rw [if_neg (by omega), show p = 260 by omega]
      by_cases h4 : 1 < sm (tw w t x) 260
      · rw [if_pos h4, if_pos h4]
      · rw [if_neg h4, if_neg h4]
theorem hasTwins_e (hI : Iv B k ex w t) (x : Int) : X5_hasTwins t x w = some (if 1 < sm (tw w t x) 260 then 1 else 0, w) := hasTwins_l hI x LF 0 (by omega) (by rw [show LF = 10000 from rfl]; omega)
/-- the cell of the model -/
theorem thing8 (hR : Re w v t) (c : Nat) (hc : c < 188) : v 22 0 (185 + 5 * c) = if 0 < w 4 t (100 * (c / 64) + c % 64) then w 3 t (100 * (c / 64) + c % 64) + 1 else 0 := by
  have := hR.2.2.2.1 (100 * (c / 64) + c % 64) (by omega)
  rw [show 64 * ((100 * (c / 64) + c % 64) / 100) + (100 * (c / 64) + c % 64) % 100 = c by omega] at this
  exact this
theorem copies8_l (hR : Re w v t) (hI : Iv B k ex w t) {x : Int} (hx : 0 ≤ x ∧ x ≤ 1000) : ∀ (n c : Nat), c ≤ 188 → 188 - c < n → X8_copies_b4 n x (sm (fun c => tw w t x (100 * (c / 64) + c % 64)) c) c v = some (sm (fun c => tw w t x (100 * (c / 64) + c % 64)) 188, v) := by
  have hA := hI.A
  unfold IvA at hA
  have a2 := hR.1.2.2.1
  have a3 := hR.1.2.2.2.1
  intro n
  induction n with
  | zero => intro c h1 h2; omega
  | succ n ih =>
    intro c h1 h2
    have hb1 := sm_nonneg (f := fun c => tw w t x (100 * (c / 64) + c % 64)) c (fun i _ => (tw_01 x _).1)
    have hb2 := sm_le (f := fun c => tw w t x (100 * (c / 64) + c % 64)) (b := 1) c (fun i _ => (tw_01 x _).2)
    have hs : sm (fun c => tw w t x (100 * (c / 64) + c % 64)) (c + 1) = sm (fun c => tw w t x (100 * (c / 64) + c % 64)) c + tw w t x (100 * (c / 64) + c % 64) := rfl
    rw [X8_copies_b4]
    by_cases h3 : c < 188
    · have ih2 := ih (c + 1) (by omega) (by omega)
      rw [show ((c + 1 : Nat) : Int) = (c : Int) + 1 by omega] at ih2
      have hth := thing8 hR c h3
      obtain ⟨d, hd⟩ : ∃ d : Nat, d = 100 * (c / 64) + c % 64 := ⟨_, rfl⟩
      rw [← hd] at hth hs
      have hS := hI.S d (by omega)
      have tail : ¬ (w 0 t 2 = 1 ∧ (100 * (1 - w 0 t 3) ≤ d ∧ d < 100 * (1 - w 0 t 3) + 64)) → X8_copies_b34 (X8_copies_b4 n) x (sm (fun c => tw w t x (100 * (c / 64) + c % 64)) c) c 1 v = some (sm (fun c => tw w t x (100 * (c / 64) + c % 64)) 188, v) := by
        intro hno
        unfold X8_copies_b34
        rw [if_neg (by decide), ofCopy8_e (by omega) (by omega), bd_t, gd_t ⟨by omega, by omega⟩]
        simp only [show (0 : Int).toNat = 0 from rfl, Nat.add_zero]
        rw [show ((c : Nat) : Int).toNat = c from rfl, hth]
        by_cases h4 : 0 < w 4 t d ∧ w 3 t d = x
        · have e : tw w t x d = 1 := if_pos ⟨h4.1, h4.2, hno⟩
          rw [if_pos h4.1, if_pos (by omega), gd_t ⟨by omega, by omega⟩, gd_t ⟨by omega, by omega⟩, ← ih2, hs, e]
        · have e : tw w t x d = 0 := if_neg (fun q => h4 ⟨q.1, q.2.1⟩)
          have hne : ¬ ((if 0 < w 4 t d then w 3 t d + 1 else 0) = x + 1) := by
            by_cases e : 0 < w 4 t d
            · rw [if_pos e]; omega
            · rw [if_neg e]; omega
          rw [if_neg hne, gd_t ⟨by omega, by omega⟩, gd_t ⟨by omega, by omega⟩, ← ih2, hs, e]
      rw [if_pos (by omega), isMoving8_e, a2]
      by_cases hm : w 0 t 2 = 1
      · rw [if_pos hm, bd_t, if_neg (by decide), gd_t (by omega), old8_e (by omega), bd_t, a3]
        by_cases h5 : (c : Int) / 64 = 1 - w 0 t 3
        · have e : tw w t x d = 0 := if_neg (fun q => q.2.2 ⟨hm, by omega, by omega⟩)
          rw [if_pos h5]
          unfold X8_copies_b34
          rw [if_pos rfl, gd_t ⟨by omega, by omega⟩, gd_t ⟨by omega, by omega⟩, ← ih2, hs, e]
        · rw [if_neg h5]
          exact tail (by omega)
      · rw [if_neg hm, bd_t, if_pos rfl]
        exact tail (fun q => hm q.1)
    · rw [if_neg (by omega), show c = 188 by omega]
theorem tw_out (hI : Iv B k ex w t) (x : Int) : ∀ d, d < 260 → ¬ (d < 64 ∨ (100 ≤ d ∧ d < 164) ∨ (200 ≤ d ∧ d < 260)) → tw w t x d = 0 := fun d hd hn => if_neg (fun q => hn ((hI.S d hd).2.2 q.1).1)
theorem copies8_e (hR : Re w v t) (hI : Iv B k ex w t) {x : Int} (hx : 0 ≤ x ∧ x ≤ 1000) : X8_copies x v = some (sm (tw w t x) 260, v) := by
  rw [sm_cells (tw_out hI x)]
  exact copies8_l hR hI hx LF 0 (by omega) (by rw [show LF = 10000 from rfl]; omega)
/-- one for any copy of x -/
def cp (w : Wd) (t : Nat) (x : Int) (d : Nat) : Int := if 0 < w 4 t d ∧ w 3 t d = x then 1 else 0
theorem cp_01 (x : Int) (d : Nat) : 0 ≤ cp w t x d ∧ cp w t x d ≤ 1 := by
  unfold cp
  split <;> omega
theorem sm_cp (x : Int) (n : Nat) : 0 ≤ sm (cp w t x) n ∧ sm (cp w t x) n ≤ n := by
  refine ⟨sm_nonneg n (fun i _ => (cp_01 x i).1), ?_⟩
  have := sm_le (f := cp w t x) (b := 1) n (fun i _ => (cp_01 x i).2)
  omega
theorem addressOf_l {x y : Int} : ∀ (n p : Nat), p ≤ 260 → 260 - p < n → sm (cp w t x) p ≤ y → ∃ r : Int, X0_addressOf_b5 t n x y (sm (cp w t x) p) p w = some (r, w) ∧ ((r = 300 ∧ sm (cp w t x) 260 ≤ y) ∨ ((p : Int) ≤ r ∧ r < 260 ∧ 0 < w 4 t r.toNat ∧ w 3 t r.toNat = x ∧ sm (cp w t x) r.toNat = y)) := by
  intro n
  induction n with
  | zero => intro p h1 h2; omega
  | succ n ih =>
    intro p h1 h2 hy
    have hb := sm_cp (w := w) (t := t) x p
    have hs : sm (cp w t x) (p + 1) = sm (cp w t x) p + cp w t x p := rfl
    rw [X0_addressOf_b5]
    by_cases h3 : p < 260
    · have ih2 := ih (p + 1) (by omega) (by omega)
      rw [show ((p + 1 : Nat) : Int) = (p : Int) + 1 by omega] at ih2
      rw [if_pos (by omega), isOf_e ⟨by omega, by omega⟩, show ((p : Nat) : Int).toNat = p from rfl]
      by_cases h4 : 0 < w 4 t p ∧ w 3 t p = x
      · have e : cp w t x p = 1 := if_pos h4
        rw [if_pos h4, bd_t, if_neg (by decide)]
        by_cases h5 : sm (cp w t x) p = y
        · exact ⟨p, by rw [if_pos h5], Or.inr ⟨by omega, by omega, h4.1, h4.2, h5⟩⟩
        · obtain ⟨r, g1, g2⟩ := ih2 (by omega)
          refine ⟨r, ?_, g2.imp (fun q => q) (fun q => ⟨by omega, q.2⟩)⟩
          rw [if_neg h5, gd_t ⟨by omega, by omega⟩, gd_t ⟨by omega, by omega⟩, ← g1, hs, e]
      · have e : cp w t x p = 0 := if_neg h4
        obtain ⟨r, g1, g2⟩ := ih2 (by omega)
        refine ⟨r, ?_, g2.imp (fun q => q) (fun q => ⟨by omega, q.2⟩)⟩
        rw [if_neg h4, bd_t, if_pos rfl, gd_t ⟨by omega, by omega⟩, ← g1, hs, e, Int.add_zero]
    · refine ⟨300, by rw [if_neg (by omega)], Or.inl ⟨rfl, ?_⟩⟩
      rw [show p = 260 by omega] at hy
      exact hy
theorem addressOf_e {x y : Int} (hy : 0 ≤ y) : ∃ r : Int, X0_addressOf t x y w = some (r, w) ∧ ((r = 300 ∧ sm (cp w t x) 260 ≤ y) ∨ (0 ≤ r ∧ r < 260 ∧ 0 < w 4 t r.toNat ∧ w 3 t r.toNat = x ∧ sm (cp w t x) r.toNat = y)) := by
  obtain ⟨r, g1, g2⟩ := addressOf_l (w := w) (t := t) (x := x) (y := y) LF 0 (by omega) (by rw [show LF = 10000 from rfl]; omega) hy
  exact ⟨r, g1, g2.imp (fun q => q) (fun q => ⟨by omega, q.2⟩)⟩
end COUNT
