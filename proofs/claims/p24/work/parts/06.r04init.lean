/-! PURE: the world at the beginning -/
section INIT
def wd0 : Wd := fun c _ i => if c = 0 then (if i = 0 then 6 else 0) else if c = 1 then 300 else if c = 5 then 300 else if c = 7 then 300 else 0
theorem wd0_inr (c t i : Nat) : InR (wd0 c t i) := by
  unfold wd0
  split
  · split
    · exact ⟨by decide, by decide⟩
    · exact ⟨by decide, by decide⟩
  split
  · exact ⟨by decide, by decide⟩
  split
  · exact ⟨by decide, by decide⟩
  split
  · exact ⟨by decide, by decide⟩
  · exact ⟨by decide, by decide⟩
theorem wd0_inc (c t i : Nat) : InC c (wd0 c t i) := inC_of (wd0_inr c t i)
/-- what holds while the law's own row is begun -/
def IH (k : Nat) (w : Wd) : Prop := (∀ c t i, c ≠ 30 → c ≠ 31 → w c t i = wd0 c t i) ∧ (∀ i, w 30 0 i = if i = 1 then 6 else 0) ∧ ∀ h : Nat, h < k → w 31 0 h = -9
theorem IH.one : IH 0 (up wd0 30 0 1 6) := by
  refine ⟨fun c t i h1 _ => ?_, fun i => ?_, fun h hh => by omega⟩
  · unfold up
    rw [if_neg (fun q => h1 q.1)]
  · unfold up
    by_cases h : i = 1
    · rw [if_pos ⟨rfl, rfl, h⟩, if_pos h]
    · rw [if_neg (fun q => h q.2.2), if_neg h]
      rfl
theorem IH.next {k : Nat} {w : Wd} (h : IH k w) : IH (k + 1) (up w 31 0 k (-9)) := by
  obtain ⟨h1, h2, h3⟩ := h
  refine ⟨fun c t i e1 e2 => ?_, fun i => ?_, fun j hj => ?_⟩
  · unfold up
    rw [if_neg (fun q => e2 q.1)]
    exact h1 c t i e1 e2
  · unfold up
    rw [if_neg (fun q => absurd q.1 (by decide))]
    exact h2 i
  · unfold up
    by_cases e : j = k
    · rw [if_pos ⟨rfl, rfl, e⟩]
    · rw [if_neg (fun q => e q.2.2)]
      exact h3 j (by omega)
theorem sk_init {w : Wd} (h : IH 8 w) : SK 0 w := by
  obtain ⟨h1, h2, h3⟩ := h
  have e0 : ∀ i, w 0 0 i = if i = 0 then 6 else 0 := fun i => h1 0 0 i (by decide) (by decide)
  have e1 : ∀ i, w 1 0 i = 300 := fun i => h1 1 0 i (by decide) (by decide)
  have e4 : ∀ i, w 4 0 i = 0 := fun i => h1 4 0 i (by decide) (by decide)
  have e6 : ∀ i, w 6 0 i = 0 := fun i => h1 6 0 i (by decide) (by decide)
  have e8 : ∀ i, w 8 0 i = 0 := fun i => h1 8 0 i (by decide) (by decide)
  have e11 : ∀ i, w 11 0 i = 0 := fun i => h1 11 0 i (by decide) (by decide)
  have e17 : ∀ i, w 17 0 i = 0 := fun i => h1 17 0 i (by decide) (by decide)
  have e34 : ∀ i, w 34 0 i = 0 := fun i => h1 34 0 i (by decide) (by decide)
  have e35 : ∀ i, w 35 0 i = 0 := fun i => h1 35 0 i (by decide) (by decide)
  have e36 : ∀ i, w 36 0 i = 0 := fun i => h1 36 0 i (by decide) (by decide)
  have e00 : w 0 0 0 = 6 := e0 0
  have e01 : w 0 0 1 = 0 := e0 1
  have e02 : w 0 0 2 = 0 := e0 2
  have e03 : w 0 0 3 = 0 := e0 3
  have e04 : w 0 0 4 = 0 := e0 4
  have e05 : w 0 0 5 = 0 := e0 5
  have e06 : w 0 0 6 = 0 := e0 6
  have hph : Phi w = 0 := sm_zero 260 (fun a _ => by
    unfold fP
    rw [if_neg (fun q => by have := q.1; rw [e4] at this; exact absurd this (by decide))])
  have hwt : Wt w = 0 := by
    unfold Wt
    rw [e8, e8]
    rfl
  have hpm := Pm_le (g := w)
  refine ⟨⟨⟨?_, ?_, ?_, ?_, ?_, ?_, ?_, ?_, ?_, ?_, ?_⟩, ?_, ?_, ?_, ?_⟩, ⟨?_, ?_, ?_, ?_, ?_⟩, ?_⟩
  · unfold IvA
    rw [e00, e01, e02, e03, e04, e05, e06]
    decide
  · intro a ha
    rw [e4]
    exact ⟨by decide, by decide, fun q => absurd q (by decide)⟩
  · intro h hh
    exact Or.inl (e1 h)
  · intro a ha hp
    rw [e4] at hp
    exact absurd hp (by decide)
  · intro h
    rw [e02] at h
    exact absurd h (by decide)
  · unfold IvQ
    simp only [e8]
    exact ⟨by decide, by decide, by decide, fun j j1 j2 => by omega⟩
  · unfold IvE
    simp only [e6, e8, e02]
    exact ⟨fun _ _ => Or.inl trivial, fun q => absurd q (by decide), fun _ _ _ => trivial, fun _ _ _ => trivial⟩
  · intro a ha hp
    rw [e4] at hp
    exact absurd hp (by decide)
  · intro p hp hpp
    rw [e4] at hpp
    exact absurd hpp (by decide)
  · unfold IvR
    refine ⟨?_, fun q => ?_, fun p hp hpp => ?_⟩
    · rw [sm_zero 64 (fun i _ => e4 _), e04]
      decide
    · rw [e02] at q
      exact absurd q (by decide)
    · rw [e4] at hpp
      exact absurd hpp (by decide)
  · intro _ p hp
    exact e4 _
  · unfold IvW
    simp only [e8, e02]
    exact ⟨fun q => absurd q (by decide), fun _ => trivial⟩
  · rw [e11]
    decide
  · rw [e11]
    decide
  · exact e17 0
  · unfold LbA
    rw [e00, e01, e02, e03, e04, e05, e06]
    simp only [h2, e8]
    decide
  · intro h hh
    rw [e1, h3 h hh, nn_300]
  · intro j hj
    rw [e8, e8] at hj
    omega
  · refine ⟨fun a ha => ?_, fun k _ _ => e36 k⟩
    have hc : cv w a = 0 := by
      unfold cv
      rw [e4, if_neg (by decide)]
    rw [hc]
    unfold cl
    simp only [e34, e35, e36]
    first
      | rfl
      | (split <;> first | rfl | (split <;> rfl))
      | simp
  · intro a ha hp
    rw [e4] at hp
    exact absurd hp (by decide)
  · unfold CT
    rw [hph, hwt, e01, e05]
    omega
end INIT
