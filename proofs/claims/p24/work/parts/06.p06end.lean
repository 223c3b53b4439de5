/-! PURE: the end of a move, and its beginning -/
section EN
variable {B : Int} {k : Nat} {ex : Int} {w : Wd} {t a i : Nat}
/-- places without copies, from lo on -/
def zr (w : Wd) (t lo hi : Nat) : Wd := fun c t' i => if c = 4 ∧ t' = t ∧ lo ≤ i ∧ i < hi then 0 else w c t' i
theorem remove_e {x : Int} (h : 0 ≤ x ∧ x < 260) : X0_remove t x w = some (0, up w 4 t x.toNat 0) := by
  unfold X0_remove
  rw [if_neg (by omega), if_pos h.2, gd_t h]
theorem zr_step {lo hi : Nat} (h : lo < hi) : zr (up w 4 t lo 0) t (lo + 1) hi = zr w t lo hi := by
  funext c t' j
  unfold zr up
  by_cases h1 : c = 4 ∧ t' = t
  · by_cases h2 : j = lo
    · rw [if_neg (by omega), if_pos ⟨h1.1, h1.2, h2⟩, if_pos ⟨h1.1, h1.2, by omega, by omega⟩]
    · by_cases h3 : lo ≤ j ∧ j < hi
      · rw [if_pos ⟨h1.1, h1.2, by omega, h3.2⟩, if_pos ⟨h1.1, h1.2, h3⟩]
      · rw [if_neg (by omega), if_neg (by omega), if_neg (by omega)]
  · rw [if_neg (fun q => h1 ⟨q.1, q.2.1⟩), if_neg (fun q => h1 ⟨q.1, q.2.1⟩), if_neg (fun q => h1 ⟨q.1, q.2.1⟩)]
theorem zr_none {lo : Nat} : zr w t lo lo = w := by
  funext c t' j
  unfold zr
  rw [if_neg (by omega)]
theorem emptyHalf_l {x : Int} (hx : x = 0 ∨ x = 1) : ∀ (n : Nat) (p : Int) (w : Wd), 0 ≤ p ∧ p ≤ 64 → 64 - p < n → X0_emptyHalf_b2 t n x p w = some (0, zr w t (100 * x + p).toNat (100 * x + 64).toNat) := by
  intro n
  induction n with
  | zero => intro p w h1 h2; omega
  | succ n ih =>
    intro p w h1 h2
    rw [X0_emptyHalf_b2_s]
    by_cases h3 : p < 64
    · rw [if_pos h3, gd_t ⟨by omega, by omega⟩, gd_t ⟨by omega, by omega⟩, remove_e (by omega), bd_t, gd_t ⟨by omega, by omega⟩, ih (p + 1) _ (by omega) (by omega)]
      rw [show (x * 100 + p).toNat = (100 * x + p).toNat by omega, show (100 * x + (p + 1)).toNat = (100 * x + p).toNat + 1 by omega, zr_step (by omega)]
    · rw [if_neg h3, show p = 64 by omega, zr_none]
theorem emptyHalf_e {x : Int} (hx : x = 0 ∨ x = 1) : X0_emptyHalf t x w = some (0, zr w t (100 * x).toNat (100 * x + 64).toNat) := by
  unfold X0_emptyHalf
  rw [emptyHalf_l hx LF 0 w (by omega) (by rw [show LF = 10000 from rfl]; omega), Int.add_zero]
/-- the floor swept, from lo on -/
def sw (w : Wd) (t lo : Nat) : Wd := fun c t' i => if c = 4 ∧ t' = t ∧ lo ≤ i ∧ i < 260 ∧ w 6 t i = 0 then 0 else if c = 6 ∧ t' = t ∧ lo ≤ i ∧ i < 260 then 0 else w c t' i
theorem sw_none : sw w t 260 = w := by
  funext c t' j
  unfold sw
  rw [if_neg (by omega), if_neg (by omega)]
theorem sw_step0 {lo : Nat} (h : lo < 260) (h0 : w 6 t lo = 0) : sw (up (up w 4 t lo 0) 6 t lo 0) t (lo + 1) = sw w t lo := by
  funext c t' j
  by_cases h1 : t' = t ∧ (c = 4 ∨ c = 6)
  · obtain ⟨rfl, h1⟩ := h1
    by_cases h2 : j = lo
    · subst h2
      rcases h1 with rfl | rfl
      · simp [sw, up, h, h0]
      · simp [sw, up, h]
    · rcases h1 with rfl | rfl
      · by_cases h3 : lo < j ∧ j < 260
        · simp [sw, up, h2, h3.2, show lo + 1 ≤ j by omega, show lo ≤ j by omega]
        · simp [sw, up, h2, show ¬ (lo + 1 ≤ j ∧ j < 260) by omega, show ¬ (lo ≤ j ∧ j < 260) by omega]
          rw [if_neg (by omega), if_neg (by omega)]
      · by_cases h3 : lo < j ∧ j < 260
        · simp [sw, up, h3.2, show lo + 1 ≤ j by omega, show lo ≤ j by omega]
        · simp [sw, up, h2]
          rw [if_neg (by omega), if_neg (by omega)]
  · have e : ∀ z : Nat, z = 4 ∨ z = 6 → ¬ (c = z ∧ t' = t) := fun z hz q => h1 ⟨q.2, by rcases hz with rfl | rfl <;> simp [q.1]⟩
    have e4 := e 4 (Or.inl rfl)
    have e6 := e 6 (Or.inr rfl)
    unfold sw up
    rw [if_neg (fun q => e4 ⟨q.1, q.2.1⟩), if_neg (fun q => e6 ⟨q.1, q.2.1⟩), if_neg (fun q => e6 ⟨q.1, q.2.1⟩), if_neg (fun q => e4 ⟨q.1, q.2.1⟩), if_neg (fun q => e4 ⟨q.1, q.2.1⟩), if_neg (fun q => e6 ⟨q.1, q.2.1⟩)]
theorem sw_step1 {lo : Nat} (h : lo < 260) (h0 : w 6 t lo ≠ 0) : sw (up w 6 t lo 0) t (lo + 1) = sw w t lo := by
  funext c t' j
  by_cases h1 : t' = t ∧ (c = 4 ∨ c = 6)
  · obtain ⟨rfl, h1⟩ := h1
    by_cases h2 : j = lo
    · subst h2
      rcases h1 with rfl | rfl
      · simp [sw, up, h, h0]
        intro q
        omega
      · simp [sw, up, h]
    · rcases h1 with rfl | rfl
      · by_cases h3 : lo < j ∧ j < 260
        · simp [sw, up, h2, h3.2, show lo + 1 ≤ j by omega, show lo ≤ j by omega]
        · simp [sw, up, h2]
          rw [if_neg (by omega), if_neg (by omega)]
      · by_cases h3 : lo < j ∧ j < 260
        · simp [sw, up, h3.2, show lo + 1 ≤ j by omega, show lo ≤ j by omega]
        · simp [sw, up, h2]
          rw [if_neg (by omega), if_neg (by omega)]
  · have e : ∀ z : Nat, z = 4 ∨ z = 6 → ¬ (c = z ∧ t' = t) := fun z hz q => h1 ⟨q.2, by rcases hz with rfl | rfl <;> simp [q.1]⟩
    have e4 := e 4 (Or.inl rfl)
    have e6 := e 6 (Or.inr rfl)
    unfold sw up
    rw [if_neg (fun q => e4 ⟨q.1, q.2.1⟩), if_neg (fun q => e6 ⟨q.1, q.2.1⟩), if_neg (fun q => e6 ⟨q.1, q.2.1⟩), if_neg (fun q => e4 ⟨q.1, q.2.1⟩), if_neg (fun q => e6 ⟨q.1, q.2.1⟩)]
theorem sweep_l : ∀ (n : Nat) (p : Int) (w : Wd), 0 ≤ p ∧ p ≤ 260 → 260 - p < n → X0_sweepFloor_b4 t n p w = some (0, sw w t p.toNat) := by
  intro n
  induction n with
  | zero => intro p w h1 h2; omega
  | succ n ih =>
    intro p w h1 h2
    rw [X0_sweepFloor_b4_s]
    by_cases h3 : p < 260
    · rw [if_pos h3, gd_t ⟨h1.1, h3⟩]
      by_cases h4 : w 6 t p.toNat = 0
      · rw [if_pos h4, remove_e ⟨h1.1, h3⟩, bd_t, gd_t ⟨by omega, by omega⟩, ih (p + 1) _ (by omega) (by omega), show (p + 1).toNat = p.toNat + 1 by omega, sw_step0 (by omega) h4]
      · rw [if_neg h4, gd_t ⟨by omega, by omega⟩, ih (p + 1) _ (by omega) (by omega), show (p + 1).toNat = p.toNat + 1 by omega, sw_step1 (by omega) h4]
    · rw [if_neg h3, show p = 260 by omega]
      rw [show (260 : Int).toNat = 260 from rfl, sw_none]
theorem sweep_e : X0_sweepFloor t w = some (0, sw w t 200) := by
  unfold X0_sweepFloor
  exact sweep_l LF 200 w (by omega) (by rw [show LF = 10000 from rfl]; omega)
/-- the world behind the end of a move -/
def endW (w : Wd) (t : Nat) : Wd := up (up (sw (zr w t (100 - 100 * (w 0 t 3).toNat) ((100 - 100 * (w 0 t 3).toNat) + 64)) t 200) 0 t 2 0) 0 t 6 (w 0 t 6 + 1)
theorem end_e (hh : w 0 t 3 = 0 ∨ w 0 t 3 = 1) (hb : 0 ≤ w 0 t 6 ∧ w 0 t 6 ≤ 1000000) : X5_endMove t w = some (0, endW w t) := by
  unfold X5_endMove endW
  rw [gd_t ⟨by omega, by omega⟩, emptyHalf_e (by omega), bd_t, sweep_e, bd_t]
  rw [show (100 * (1 - w 0 t 3)).toNat = (100 - 100 * (w 0 t 3).toNat) by omega, show (100 * (1 - w 0 t 3) + 64).toNat = (100 - 100 * (w 0 t 3).toNat) + 64 by omega]
  have e : (up (sw (zr w t (100 - 100 * (w 0 t 3).toNat) ((100 - 100 * (w 0 t 3).toNat) + 64)) t 200) 0 t 2 0) 0 t 6 = w 0 t 6 := by simp [sw, zr, up]
  rw [e, gd_t ⟨by omega, by omega⟩]
theorem end_0 (h : i ≠ 2) (h6 : i ≠ 6) : endW w t 0 t i = w 0 t i := by simp [endW, sw, zr, up, h, h6]
theorem end_02 : endW w t 0 t 2 = 0 := by simp [endW, sw, zr, up]
theorem end_06 : endW w t 0 t 6 = w 0 t 6 + 1 := by simp [endW, sw, zr, up]
theorem end_1 : endW w t 1 t i = w 1 t i := by simp [endW, sw, zr, up]
theorem end_3 : endW w t 3 t i = w 3 t i := by simp [endW, sw, zr, up]
theorem end_4 : endW w t 4 t i = if ((100 - 100 * (w 0 t 3).toNat) ≤ i ∧ i < (100 - 100 * (w 0 t 3).toNat) + 64) ∨ (200 ≤ i ∧ i < 260 ∧ w 6 t i = 0) then 0 else w 4 t i := by
  have h6 : (zr w t (100 - 100 * (w 0 t 3).toNat) ((100 - 100 * (w 0 t 3).toNat) + 64)) 6 t i = w 6 t i := by simp [zr]
  unfold endW
  rw [up_c (by decide), up_c (by decide)]
  unfold sw
  rw [h6]
  unfold zr
  by_cases h1 : 200 ≤ i ∧ i < 260 ∧ w 6 t i = 0
  · rw [if_pos ⟨rfl, rfl, h1⟩, if_pos (Or.inr h1)]
  · rw [if_neg (by omega), if_neg (by omega)]
    by_cases h2 : (100 - 100 * (w 0 t 3).toNat) ≤ i ∧ i < (100 - 100 * (w 0 t 3).toNat) + 64
    · rw [if_pos ⟨rfl, rfl, h2⟩, if_pos (Or.inl h2)]
    · rw [if_neg (by omega), if_neg (by omega)]
theorem end_5 : endW w t 5 t i = w 5 t i := by simp [endW, sw, zr, up]
theorem end_6 : endW w t 6 t i = if 200 ≤ i ∧ i < 260 then 0 else w 6 t i := by simp [endW, sw, zr, up]
theorem end_7 : endW w t 7 t i = w 7 t i := by simp [endW, sw, zr, up]
theorem end_8 : endW w t 8 t i = w 8 t i := by simp [endW, sw, zr, up]
theorem end_9 : endW w t 9 t i = w 9 t i := by simp [endW, sw, zr, up]
theorem liv.ended (hI : Iv B k ex w t) (hm : w 0 t 2 = 1) {y : Int} (hy : liv w t y) : prs (endW w t) t y ∧ liv (endW w t) t y := by
  have hA := hI.A
  unfold IvA at hA
  have h2 := hy.2 hm
  have hl := hy.1.lt
  have hp : prs (endW w t) t y := by
    refine ⟨hy.1.1, hy.1.2.1, ?_⟩
    rw [end_4, if_neg ?_]
    · exact hy.1.2.2
    · rintro (q | q)
      · omega
      · have := h2.2 (by omega)
        omega
  exact ⟨hp, hp, fun q => by rw [end_02] at q; omega⟩
theorem Iv.ended (h : Iv B 8 (-1) w t) (hm : w 0 t 2 = 1) (hq : w 8 t 0 = w 8 t 1) : Iv (B + 1) 8 (-1) (endW w t) t := by
  have hA := h.A
  unfold IvA at hA
  have hnq : ∀ y : Int, ¬ inQ w t y := by
    rintro y ⟨z, z1, z2, -⟩
    omega
  have hlv : ∀ c : Nat, c < 260 → 0 < endW w t 4 t c → liv w t c := by
    intro c hc hpc
    rw [end_4] at hpc
    split at hpc
    · omega
    · rename_i g
      have hS := (h.S c hc).2.2 hpc
      refine ⟨⟨by omega, by simpa using hS.1, by simpa using hpc⟩, fun _ => ⟨by omega, fun h2 => ?_⟩⟩
      have := h.E.1 (c - 200) (by omega)
      rw [show 200 + (c - 200) = c by omega] at this
      rw [show ((c : Nat) : Int).toNat = c by omega]
      omega
  refine ⟨?_, ?_, ?_, ?_, ?_, ?_, ?_, ?_, ?_, ?_, ?_⟩
  · unfold IvA
    rw [end_02, end_06, end_0 (by decide) (by decide), end_0 (by decide) (by decide), end_0 (by decide) (by decide), end_0 (by decide) (by decide), end_0 (by decide) (by decide)]
    omega
  · intro c hc
    have hS := h.S c hc
    rw [end_4, end_3, end_0 (by decide) (by decide)]
    split
    · exact ⟨by omega, by omega, fun q => by omega⟩
    · exact hS
  · intro j hj
    rw [end_1]
    rcases h.H j hj with q | q
    · exact Or.inl q
    · have := (q.2 hj).ended h hm
      exact Or.inr ⟨this.1, fun _ => this.2⟩
  · intro c hc hpc j hj
    rw [end_7]
    rcases h.Bk hm c hc (hlv c hc hpc) (hnq _) (by omega) j hj with q | q
    · exact Or.inl q
    · exact Or.inr (q.ended h hm).1
  · intro q
    rw [end_02] at q
    omega
  · obtain ⟨q1, q2, q3, q4⟩ := h.Q
    unfold IvQ
    rw [end_8, end_8]
    exact ⟨q1, q2, q3, fun j j1 j2 => by omega⟩
  · obtain ⟨e1, e2, e3, e4⟩ := h.E
    unfold IvE
    refine ⟨fun p hp => ?_, fun q => ?_, fun _ p hp => ?_, fun c hc hpc => ?_⟩
    · rw [end_6, if_pos (by omega)]; exact Or.inl rfl
    · rw [end_02] at q; omega
    · rw [end_6, if_pos (by omega)]
    · rw [end_6, if_neg (by omega)]
      rw [end_4] at hpc
      split at hpc
      · omega
      · exact e4 c hc hpc
  · intro c hc hpc
    have hl := (hlv c hc hpc).2 hm
    rw [end_5]
    rw [end_4] at hpc
    split at hpc
    · omega
    · rcases h.T c hc hpc with q | q
      · exact Or.inl q
      · exact absurd q.2.1 hl.1
  · intro p hp hpp
    rw [end_4] at hpp
    split at hpp
    · omega
    · rename_i g
      obtain ⟨f1, f2⟩ := h.F p hp hpp
      rw [end_4, if_neg g]
      refine ⟨f1, fun q q1 q2 => ?_⟩
      rw [end_4, f2 q q1 q2]
      split <;> rfl
  · obtain ⟨r1, r2, r3⟩ := h.R
    have e4 : ∀ p, p < 64 → endW w t 4 t ((100 * (w 0 t 3).toNat) + p) = w 4 t ((100 * (w 0 t 3).toNat) + p) := fun p hp => by rw [end_4, if_neg (by omega)]
    unfold IvR
    rw [end_02, end_0 (by decide) (by decide), end_0 (by decide) (by decide)]
    refine ⟨?_, fun q => by omega, fun p hp hpp => ?_⟩
    · rw [sm_congr (g := fun p => w 4 t ((100 * (w 0 t 3).toNat) + p)) 64 e4]; exact r1
    · rw [e4 p hp] at hpp ⊢
      exact r3 p hp hpp
  · intro _ p hp
    rw [end_0 (by decide) (by decide), end_4, if_pos (by omega)]
/-- the world at the start of a move, ahead of the reading of hooks -/
def begW (w : Wd) (t : Nat) : Wd := up (up (up (up (up w 0 t 2 1) 0 t 3 (1 - w 0 t 3)) 0 t 4 0) 8 t 0 0) 8 t 1 0
theorem beg_0 (h2 : i ≠ 2) (h3 : i ≠ 3) (h4 : i ≠ 4) : begW w t 0 t i = w 0 t i := by simp [begW, up, h2, h3, h4]
theorem beg_02 : begW w t 0 t 2 = 1 := by simp [begW, up]
theorem beg_03 : begW w t 0 t 3 = 1 - w 0 t 3 := by simp [begW, up]
theorem beg_04 : begW w t 0 t 4 = 0 := by simp [begW, up]
theorem beg_o {c j : Nat} (h : c ≠ 0) (h8 : c ≠ 8) : begW w t c t j = w c t j := by simp [begW, up, h, h8]
theorem beg_80 : begW w t 8 t 0 = 0 := by simp [begW, up]
theorem beg_81 : begW w t 8 t 1 = 0 := by simp [begW, up]
theorem prs.beg {y : Int} : prs (begW w t) t y ↔ prs w t y := by unfold prs; rw [beg_o (by decide) (by decide)]
theorem Iv.beg (h : Iv B 8 (-1) w t) (hm : w 0 t 2 = 0) : Iv B 0 (-1) (begW w t) t := by
  have hA := h.A
  unfold IvA at hA
  have o4 : ∀ j, begW w t 4 t j = w 4 t j := fun j => beg_o (by decide) (by decide)
  have o5 : ∀ j, begW w t 5 t j = w 5 t j := fun j => beg_o (by decide) (by decide)
  have o6 : ∀ j, begW w t 6 t j = w 6 t j := fun j => beg_o (by decide) (by decide)
  have o3 : ∀ j, begW w t 3 t j = w 3 t j := fun j => beg_o (by decide) (by decide)
  have o7 : ∀ j, begW w t 7 t j = w 7 t j := fun j => beg_o (by decide) (by decide)
  have o1 : ∀ j, begW w t 1 t j = w 1 t j := fun j => beg_o (by decide) (by decide)
  have hO := h.O hm
  refine ⟨?_, ?_, ?_, ?_, ?_, ?_, ?_, ?_, ?_, ?_, ?_⟩
  · unfold IvA
    rw [beg_02, beg_03, beg_04, beg_0 (by decide) (by decide) (by decide), beg_0 (by decide) (by decide) (by decide), beg_0 (by decide) (by decide) (by decide), beg_0 (by decide) (by decide) (by decide)]
    omega
  · unfold IvS
    rw [beg_0 (by decide) (by decide) (by decide)]
    simp only [o4, o3]
    exact h.S
  · intro j hj
    rw [o1]
    exact (h.H j hj).imp (fun q => q) (fun q => ⟨prs.beg.mpr q.1, fun z => by omega⟩)
  · unfold IvN
    simp only [o4, o7, prs.beg]
    exact h.N
  · intro _ c hc hlc _ _ j hj
    exfalso
    obtain ⟨hp, hl⟩ := hlc
    have hp := prs.beg.mp hp
    have hl := hl beg_02
    rw [beg_03, o6] at hl
    have hp3 := hp.2.2
    rw [show ((c : Nat) : Int).toNat = c by omega] at hp3 hl
    by_cases h2 : 200 ≤ c
    · have := h.E.2.2.1 hm (c - 200) (by omega)
      rw [show 200 + (c - 200) = c by omega] at this
      have := hl.2 (by omega)
      omega
    · have hi := ((h.S c hc).2.2 hp3).1
      have := hO (c - (100 - 100 * (w 0 t 3).toNat)) (by omega)
      rw [show (100 - 100 * (w 0 t 3).toNat) + (c - (100 - 100 * (w 0 t 3).toNat)) = c by omega] at this
      omega
  · unfold IvQ
    rw [beg_80, beg_81]
    exact ⟨by omega, by omega, by omega, fun j j1 j2 => by omega⟩
  · obtain ⟨e1, e2, e3, e4⟩ := h.E
    unfold IvE
    rw [beg_02, beg_81, beg_04]
    simp only [o6, o4]
    refine ⟨e1, fun _ => ?_, fun q => by omega, e4⟩
    have := h.marks
    omega
  · intro c hc hpc
    rw [o4] at hpc
    rw [o5]
    rcases h.T c hc hpc with q | q
    · exact Or.inl q
    · omega
  · unfold IvF; simp only [o4]; exact h.F
  · obtain ⟨r1, r2, r3⟩ := h.R
    unfold IvR kp
    rw [beg_02, beg_03, beg_04]
    simp only [o4, o5]
    refine ⟨?_, fun _ => ?_, fun p hp hpp => ?_⟩
    · rw [sm_zero 64 (fun p hp => ?_)]
      · omega
      · have := hO p hp
        rw [show 100 * (1 - w 0 t 3).toNat = (100 - 100 * (w 0 t 3).toNat) by omega]
        exact this
    · have := sm_mono (f := fun p => if w 5 t (100 - 100 * (1 - w 0 t 3).toNat + p) = 300 then w 4 t (100 - 100 * (1 - w 0 t 3).toNat + p) else 0) (g := fun p => w 4 t ((100 * (w 0 t 3).toNat) + p)) 64 (fun p hp => by
        show (if w 5 t (100 - 100 * (1 - w 0 t 3).toNat + p) = 300 then w 4 t (100 - 100 * (1 - w 0 t 3).toNat + p) else 0) ≤ w 4 t ((100 * (w 0 t 3).toNat) + p)
        rw [show 100 - 100 * (1 - w 0 t 3).toNat = (100 * (w 0 t 3).toNat) by omega]
        split
        · exact Int.le_refl _
        · exact (h.S _ (by omega)).1)
      omega
    · have := hO p hp
      rw [show 100 * (1 - w 0 t 3).toNat = (100 - 100 * (w 0 t 3).toNat) by omega] at hpp
      omega
  · intro q
    rw [beg_02] at q
    omega
end EN
