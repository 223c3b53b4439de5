/-! PURE: what holds of a store of the class, always -/
def prs (w : Wd) (t : Nat) (x : Int) : Prop := 0 ≤ x ∧ (x.toNat < 64 ∨ (100 ≤ x.toNat ∧ x.toNat < 164) ∨ (200 ≤ x.toNat ∧ x.toNat < 260)) ∧ 0 < w 4 t x.toNat
/-- it is there, and if a move goes on it lies where it stays -/
def liv (w : Wd) (t : Nat) (x : Int) : Prop := prs w t x ∧ (w 0 t 2 = 1 → ¬ (100 * (1 - w 0 t 3) ≤ x ∧ x < 100 * (1 - w 0 t 3) + 64) ∧ (200 ≤ x → w 6 t x.toNat = 1))
def inQ (w : Wd) (t : Nat) (x : Int) : Prop := ∃ j : Nat, w 8 t 0 ≤ j ∧ (j : Int) < w 8 t 1 ∧ w 9 t j = x
def IvA (B : Int) (w : Wd) (t : Nat) : Prop := (0 ≤ w 0 t 1 ∧ w 0 t 1 ≤ 40) ∧ (2 ≤ w 0 t 0 ∧ w 0 t 0 ≤ 13) ∧ (w 0 t 2 = 0 ∨ w 0 t 2 = 1) ∧ (w 0 t 3 = 0 ∨ w 0 t 3 = 1) ∧ (0 ≤ w 0 t 4 ∧ w 0 t 4 ≤ 64) ∧ (0 ≤ w 0 t 5 ∧ w 0 t 5 ≤ B) ∧ (0 ≤ w 0 t 6 ∧ w 0 t 6 ≤ B)
def IvS (w : Wd) (t : Nat) : Prop := ∀ a : Nat, a < 260 → 0 ≤ w 4 t a ∧ w 4 t a ≤ 12 ∧ (0 < w 4 t a → (a < 64 ∨ (100 ≤ a ∧ a < 164) ∨ (200 ≤ a ∧ a < 260)) ∧ 0 ≤ w 3 t a ∧ w 3 t a < w 0 t 1)
def IvH (k : Nat) (w : Wd) (t : Nat) : Prop := ∀ h : Nat, h < 8 → w 1 t h = 300 ∨ (prs w t (w 1 t h) ∧ (h < k → liv w t (w 1 t h)))
def IvN (w : Wd) (t : Nat) : Prop := ∀ a : Nat, a < 260 → 0 < w 4 t a → ∀ j : Nat, j < 2 → w 7 t (2 * a + j) = 300 ∨ prs w t (w 7 t (2 * a + j))
def IvB (ex : Int) (w : Wd) (t : Nat) : Prop := w 0 t 2 = 1 → ∀ a : Nat, a < 260 → liv w t a → ¬ inQ w t a → (a : Int) ≠ ex → ∀ j : Nat, j < 2 → w 7 t (2 * a + j) = 300 ∨ liv w t (w 7 t (2 * a + j))
def IvQ (w : Wd) (t : Nat) : Prop := 0 ≤ w 8 t 0 ∧ w 8 t 0 ≤ w 8 t 1 ∧ w 8 t 1 ≤ 124 ∧ ∀ j : Nat, w 8 t 0 ≤ j → (j : Int) < w 8 t 1 → liv w t (w 9 t j)
def IvE (w : Wd) (t : Nat) : Prop := (∀ p : Nat, p < 60 → w 6 t (200 + p) = 0 ∨ w 6 t (200 + p) = 1) ∧ (w 0 t 2 = 1 → w 8 t 1 ≤ w 0 t 4 + sm (fun p => w 6 t (200 + p)) 60) ∧ (w 0 t 2 = 0 → ∀ p : Nat, p < 60 → w 6 t (200 + p) = 0) ∧ ∀ a : Nat, a < 200 → 0 < w 4 t a → w 6 t a = 0
def IvT (w : Wd) (t : Nat) : Prop := ∀ a : Nat, a < 260 → 0 < w 4 t a → w 5 t a = 300 ∨ (w 0 t 2 = 1 ∧ (100 * (1 - w 0 t 3) ≤ a ∧ a < 100 * (1 - w 0 t 3) + 64) ∧ prs w t (w 5 t a) ∧ 100 * w 0 t 3 ≤ w 5 t a ∧ w 5 t a < 100 * w 0 t 3 + 64)
def IvF (w : Wd) (t : Nat) : Prop := ∀ p : Nat, p < 60 → 0 < w 4 t (200 + p) → (p : Int) + w 4 t (200 + p) ≤ 60 ∧ ∀ q : Nat, p < q → (q : Int) < p + w 4 t (200 + p) → w 4 t (200 + q) = 0
def kp (w : Wd) (t : Nat) : Int := sm (fun p => if w 5 t ((100 - 100 * (w 0 t 3).toNat) + p) = 300 then w 4 t ((100 - 100 * (w 0 t 3).toNat) + p) else 0) 64
def IvR (w : Wd) (t : Nat) : Prop := sm (fun p => w 4 t ((100 * (w 0 t 3).toNat) + p)) 64 ≤ w 0 t 4 ∧ (w 0 t 2 = 1 → w 0 t 4 + kp w t ≤ 64) ∧ ∀ p : Nat, p < 64 → 0 < w 4 t ((100 * (w 0 t 3).toNat) + p) → (p : Int) + w 4 t ((100 * (w 0 t 3).toNat) + p) ≤ w 0 t 4
def IvO (w : Wd) (t : Nat) : Prop := w 0 t 2 = 0 → ∀ p : Nat, p < 64 → w 4 t ((100 - 100 * (w 0 t 3).toNat) + p) = 0
def Iv (B : Int) (k : Nat) (ex : Int) (w : Wd) (t : Nat) : Prop := IvA B w t ∧ IvS w t ∧ IvH k w t ∧ IvN w t ∧ IvB ex w t ∧ IvQ w t ∧ IvE w t ∧ IvT w t ∧ IvF w t ∧ IvR w t ∧ IvO w t
/-- a move goes on just when somebody waits -/
def IvW (w : Wd) (t : Nat) : Prop := (w 0 t 2 = 1 → w 8 t 0 < w 8 t 1) ∧ (w 0 t 2 = 0 → w 8 t 0 = w 8 t 1)
section INV
variable {B : Int} {k : Nat} {ex : Int} {w : Wd} {t : Nat}
theorem Iv.A (h : Iv B k ex w t) : IvA B w t := h.1
theorem Iv.S (h : Iv B k ex w t) : IvS w t := h.2.1
theorem Iv.H (h : Iv B k ex w t) : IvH k w t := h.2.2.1
theorem Iv.N (h : Iv B k ex w t) : IvN w t := h.2.2.2.1
theorem Iv.Bk (h : Iv B k ex w t) : IvB ex w t := h.2.2.2.2.1
theorem Iv.Q (h : Iv B k ex w t) : IvQ w t := h.2.2.2.2.2.1
theorem Iv.E (h : Iv B k ex w t) : IvE w t := h.2.2.2.2.2.2.1
theorem Iv.T (h : Iv B k ex w t) : IvT w t := h.2.2.2.2.2.2.2.1
theorem Iv.F (h : Iv B k ex w t) : IvF w t := h.2.2.2.2.2.2.2.2.1
theorem Iv.R (h : Iv B k ex w t) : IvR w t := h.2.2.2.2.2.2.2.2.2.1
theorem Iv.O (h : Iv B k ex w t) : IvO w t := h.2.2.2.2.2.2.2.2.2.2
theorem prs.lt {x : Int} (h : prs w t x) : 0 ≤ x ∧ x < 260 := by
  obtain ⟨h1, h2, h3⟩ := h
  omega
/-- the marks together -/
theorem Iv.marks (h : Iv B k ex w t) : 0 ≤ sm (fun p => w 6 t (200 + p)) 60 ∧ sm (fun p => w 6 t (200 + p)) 60 ≤ 60 := by
  have hE := h.E.1
  refine ⟨sm_nonneg 60 (fun p hp => ?_), ?_⟩
  · rcases hE p hp with q | q <;> rw [q] <;> decide
  · have := sm_le (f := fun p => w 6 t (200 + p)) (b := 1) 60 (fun p hp => by
      show w 6 t (200 + p) ≤ 1
      rcases hE p hp with q | q <;> rw [q] <;> decide)
    omega
theorem Iv.mark_room (h : Iv B k ex w t) (hm : w 0 t 2 = 1) {x : Int} (hx : 200 ≤ x ∧ x < 260) (hz : w 6 t x.toNat ≠ 1) : w 8 t 1 < 124 ∧ w 8 t 1 + 1 ≤ w 0 t 4 + sm (fun p => w 6 t (200 + p)) 60 + 1 := by
  have hE := h.E
  have h0 : w 6 t (200 + (x.toNat - 200)) = 0 := by
    rcases hE.1 (x.toNat - 200) (by omega) with q | q
    · exact q
    · rw [show 200 + (x.toNat - 200) = x.toNat by omega] at q; exact absurd q hz
  have h1 := sm_chg (f := fun p => if p = x.toNat - 200 then 1 else w 6 t (200 + p)) (g := fun p => w 6 t (200 + p)) (k := x.toNat - 200) 60 (by omega) (fun i _ hne => by simp [hne])
  have h2 := sm_le (f := fun p => if p = x.toNat - 200 then 1 else w 6 t (200 + p)) (b := 1) 60 (fun p hp => by
    show (if p = x.toNat - 200 then (1 : Int) else w 6 t (200 + p)) ≤ 1
    split
    · decide
    · rcases hE.1 p hp with q | q <;> rw [q] <;> decide)
  simp only [if_true, h0] at h1
  have h3 := hE.2.1 hm
  have h4 := h.A.2.2.2.2.1
  omega
theorem Iv.kp_ge (h : Iv B k ex w t) {x : Int} (hx : (100 * (1 - w 0 t 3) ≤ x ∧ x < 100 * (1 - w 0 t 3) + 64)) (hn : w 5 t x.toNat = 300) : w 4 t x.toNat ≤ kp w t := by
  have hh := h.A.2.2.2.1
  have := sm_ge (f := fun p => if w 5 t ((100 - 100 * (w 0 t 3).toNat) + p) = 300 then w 4 t ((100 - 100 * (w 0 t 3).toNat) + p) else 0) (k := x.toNat - (100 - 100 * (w 0 t 3).toNat)) 64 (by omega) (fun i hi => by
    show 0 ≤ (if w 5 t ((100 - 100 * (w 0 t 3).toNat) + i) = 300 then w 4 t ((100 - 100 * (w 0 t 3).toNat) + i) else 0)
    split
    · exact (h.S _ (by omega)).1
    · decide)
  rw [show (100 - 100 * (w 0 t 3).toNat) + (x.toNat - (100 - 100 * (w 0 t 3).toNat)) = x.toNat by omega, if_pos hn] at this
  exact this
/-- nothing lies where the next copy comes -/
theorem Iv.nb_free (h : Iv B k ex w t) (ht : w 0 t 4 < 64) {y : Int} (hy : prs w t y) : y ≠ 100 * w 0 t 3 + w 0 t 4 := by
  intro e
  have hA := h.A
  unfold IvA at hA
  have hp := hy.2.2
  have := h.R.2.2 (w 0 t 4).toNat (by omega)
  rw [show (100 * (w 0 t 3).toNat) + (w 0 t 4).toNat = y.toNat by omega] at this
  have := this hp
  omega
/-! what the movers do, as changes of the world -/
def layW (w : Wd) (t a : Nat) (th s : Int) : Wd := up (up (up (up (up (up w 3 t a th) 4 t a s) 5 t a 300) 6 t a 0) 7 t (2 * a) 300) 7 t (2 * a + 1) 300
def lagW (w : Wd) (t a b : Nat) : Wd := up (up (up (up (up (up (up w 3 t b (w 3 t a)) 4 t b (w 4 t a)) 5 t b 300) 6 t b 0) 7 t (2 * b) (w 7 t (2 * a))) 7 t (2 * b + 1) (w 7 t (2 * a + 1))) 5 t a b
/-- the next place of the present half -/
def nb (w : Wd) (t : Nat) : Int := 100 * w 0 t 3 + w 0 t 4
def carW (w : Wd) (t a : Nat) : Wd := up (up (up (lagW w t a (nb w t).toNat) 0 t 4 (w 0 t 4 + w 4 t a)) 9 t (w 8 t 1).toNat (nb w t)) 8 t 1 (w 8 t 1 + 1)
def mkW (w : Wd) (t a : Nat) : Wd := up (up (up w 6 t a 1) 9 t (w 8 t 1).toNat a) 8 t 1 (w 8 t 1 + 1)
def rv (w : Wd) (t : Nat) (x : Int) : Int := if w 0 t 2 = 1 ∧ (100 * (1 - w 0 t 3) ≤ x ∧ x < 100 * (1 - w 0 t 3) + 64) then (if w 5 t x.toNat = 300 then nb w t else w 5 t x.toNat) else x
def rW (w : Wd) (t : Nat) (x : Int) : Wd := if w 0 t 2 = 1 ∧ (100 * (1 - w 0 t 3) ≤ x ∧ x < 100 * (1 - w 0 t 3) + 64) then (if w 5 t x.toNat = 300 then carW w t x.toNat else w) else if w 0 t 2 = 1 ∧ 200 ≤ x ∧ x < 260 ∧ w 6 t x.toNat ≠ 1 then mkW w t x.toNat else w
theorem lay_e {x th s : Int} (h : 0 ≤ x ∧ x < 260) : X0_lay t x th s w = some (0, layW w t x.toNat th s) := by
  unfold X0_lay layW
  rw [if_neg (by omega), if_pos h.2, gd_t h, gd_t ⟨by omega, by omega⟩, gd_t (by omega), gd_t ⟨by omega, by omega⟩, gd_t (by omega)]
  rw [show (x * 2).toNat = 2 * x.toNat by omega, show (x * 2 + 1).toNat = 2 * x.toNat + 1 by omega]
theorem layAgain_e {x y : Int} (hx : 0 ≤ x ∧ x < 260) (hy : 0 ≤ y ∧ y < 260) (hne : x ≠ y) : X0_layAgain t x y w = some (0, lagW w t x.toNat y.toNat) := by
  unfold X0_layAgain lagW
  rw [if_neg (by omega), if_pos hx.2, if_neg (by omega), if_pos hy.2, gd_t hx, gd_t hy, gd_t ⟨by omega, by omega⟩, gd_t ⟨by omega, by omega⟩, gd_t (by omega), gd_t (by omega), gd_t ⟨by omega, by omega⟩, gd_t ⟨by omega, by omega⟩, gd_t (by omega), gd_t (by omega)]
  rw [show (x * 2).toNat = 2 * x.toNat by omega, show (x * 2 + 1).toNat = 2 * x.toNat + 1 by omega, show (y * 2).toNat = 2 * y.toNat by omega, show (y * 2 + 1).toNat = 2 * y.toNat + 1 by omega]
  simp (disch := omega) only [up_c, up_n]
  rw [show ((y.toNat : Nat) : Int) = y by omega]
theorem carry_e (hI : Iv B k ex w t) (hm : w 0 t 2 = 1) {x : Int} (hp : prs w t x) (ho : (100 * (1 - w 0 t 3) ≤ x ∧ x < 100 * (1 - w 0 t 3) + 64)) (hn : w 5 t x.toNat = 300) : X5_carryOver t x (w 4 t x.toNat) w = some (nb w t, carW w t x.toNat) := by
  have hA := hI.A
  unfold IvA at hA
  have hl := hp.lt
  have h12 := hI.S x.toNat (by omega)
  have hk := hI.kp_ge ho hn
  have hR := hI.R.2.1 hm
  have hq := hI.Q
  unfold IvQ at hq
  have hE := hI.E.2.1 hm
  have hM := hI.marks
  have hpp := hp.2.2
  have hend : w 8 t 1 < 124 := by omega
  unfold X5_carryOver carW nb
  rw [if_neg (by omega), free_e hA.2.2.2.2.1, bd_t, if_neg (by omega), aoh_e hA.2.2.2.1, bd_t, gd_t ⟨by omega, by omega⟩, layAgain_e hl (by omega) (by omega), bd_t]
  have e0 : (lagW w t x.toNat (100 * w 0 t 3 + w 0 t 4).toNat) 0 t 4 = w 0 t 4 := by unfold lagW; simp (disch := decide) only [up_c]
  rw [e0, gd_t ⟨by omega, by omega⟩]
  have e1 : (up (lagW w t x.toNat (100 * w 0 t 3 + w 0 t 4).toNat) 0 t 4 (w 0 t 4 + w 4 t x.toNat)) 8 t 1 = w 8 t 1 := by unfold lagW; simp (disch := decide) only [up_c]
  rw [join_e (by rw [e1]; omega), bd_t, e1]
theorem read_core (hI : Iv B k ex w t) {x : Int} (hx : x = 300 ∨ prs w t x) (c i : Nat) (f : Option (Int × Wd)) (hc : c = 1 ∨ c = 7) (hwx : w c t i = x)
    (hf : f = (bd (X5_isInOldHalf t x w) fun r3 w4 => if r3 = 0 then (if w4 0 t 2 = 0 then (some (w4 c t i, w4)) else (if x < 200 then (some (w4 c t i, w4)) else (bd (X0_mark t x w4) fun r8 w9 => if r8 = 0 then (some (w9 c t i, w9)) else (bd (X3_join t x w9) fun r13 w14 => some (w14 c t i, w14))))) else (bd (X0_noteAt t x w4) fun r18 w19 => if r18 = 300 then (bd (X0_sizeAt t x w19) fun r24 w25 => bd (X5_carryOver t x r24 w25) fun r29 w30 => some ((up w30 c t i r29) c t i, up w30 c t i r29)) else (some ((up w19 c t i r18) c t i, up w19 c t i r18))))) :
    f = some (rv w t x, up (rW w t x) c t i (rv w t x)) := by
  subst hf
  have hA := hI.A
  unfold IvA at hA
  have hb : -1000 ≤ x ∧ x ≤ 1000 := by
    rcases hx with h | h
    · omega
    · have := h.lt; omega
  rw [isOld_e hA.2.2.2.1 hA.2.2.1 hb, bd_t]
  unfold rv rW
  by_cases ho : w 0 t 2 = 1 ∧ (100 * (1 - w 0 t 3) ≤ x ∧ x < 100 * (1 - w 0 t 3) + 64)
  · have hp : prs w t x := by
      rcases hx with h | h
      · omega
      · exact h
    rw [if_pos ho, if_neg (by decide), noteAt_1 hp.lt hp.2.2, bd_t, if_pos ho, if_pos ho]
    by_cases hn : w 5 t x.toNat = 300
    · rw [if_pos hn, if_pos hn, if_pos hn, sizeAt_e hp.lt (by have := hp.2.2; omega), bd_t, carry_e hI ho.1 hp ho.2 hn, bd_t, up_h rfl]
    · rw [if_neg hn, if_neg hn, if_neg hn, up_h rfl]
  · rw [if_neg ho, if_pos rfl, if_neg ho, if_neg ho]
    by_cases h0 : w 0 t 2 = 0
    · rw [if_pos h0, if_neg (by omega), hwx, ← hwx, up_self]
    · rw [if_neg h0]
      by_cases h2 : x < 200
      · rw [if_pos h2, if_neg (by omega), hwx, ← hwx, up_self]
      · rw [if_neg h2]
        rcases hx with h | hp
        · rw [mark_0 (by omega), bd_t, if_pos rfl, if_neg (by omega), hwx, ← hwx, up_self]
        · have hl := hp.lt
          rw [mark_e hl hp.2.2]
          by_cases hmk : w 6 t x.toNat = 1
          · rw [if_pos hmk, bd_t, if_pos rfl, if_neg (by omega), hwx, ← hwx, up_self]
          · have hm : w 0 t 2 = 1 := by have := hA.2.2.1; omega
            have hr := hI.mark_room hm ⟨by omega, hl.2⟩ hmk
            have hq := hI.Q
            unfold IvQ at hq
            rw [if_neg hmk, bd_t, if_neg (by decide), join_e (by rw [up_c (by decide)]; omega), bd_t, if_pos ⟨hm, by omega, hl.2, hmk⟩]
            unfold mkW
            rw [show ((x.toNat : Nat) : Int) = x by omega]
            have e1 : (up w 6 t x.toNat 1) 8 t 1 = w 8 t 1 := up_c (by decide)
            rw [e1]
            have e2 : (up (up (up w 6 t x.toNat 1) 9 t (w 8 t 1).toNat x) 8 t 1 (w 8 t 1 + 1)) c t i = x := by
              rw [up_c (by omega), up_c (by omega), up_c (by omega), hwx]
            have e3 : up (up (up (up w 6 t x.toNat 1) 9 t (w 8 t 1).toNat x) 8 t 1 (w 8 t 1 + 1)) c t i x = up (up (up w 6 t x.toNat 1) 9 t (w 8 t 1).toNat x) 8 t 1 (w 8 t 1 + 1) := by
              have := up_self (w := up (up (up w 6 t x.toNat 1) 9 t (w 8 t 1).toNat x) 8 t 1 (w 8 t 1 + 1)) (c := c) (t := t) (i := i)
              rw [e2] at this
              exact this
            rw [e2, e3]
theorem readH_e (hI : Iv B k ex w t) {x : Int} (hx : 0 ≤ x ∧ x < 8) : X5_readIn_h t t x w = some (rv w t (w 1 t x.toNat), up (rW w t (w 1 t x.toNat)) 1 t x.toNat (rv w t (w 1 t x.toNat))) := by
  refine read_core hI ?_ 1 x.toNat _ (Or.inl rfl) rfl ?_
  · rcases hI.H x.toNat (by omega) with h | h
    · exact Or.inl h
    · exact Or.inr h.1
  · unfold X5_readIn_h
    rw [if_neg (by omega), if_pos hx.2, gd_t hx]
theorem readN_e (hI : Iv B k ex w t) {x : Int} (hx : 0 ≤ x ∧ x < 520) (hv : w 7 t x.toNat = 300 ∨ prs w t (w 7 t x.toNat)) : X5_readIn_n t t x w = some (rv w t (w 7 t x.toNat), up (rW w t (w 7 t x.toNat)) 7 t x.toNat (rv w t (w 7 t x.toNat))) := by
  refine read_core hI hv 7 x.toNat _ (Or.inr rfl) rfl ?_
  · unfold X5_readIn_n
    rw [if_neg (by omega), if_pos hx.2, gd_t hx]
end INV
