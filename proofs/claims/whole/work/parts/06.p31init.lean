/-! PURE: the world at the beginning -/
section INIT
def wd0 : Wd := fun c _ i => if c = 0 then (if i = 0 then 6 else 0) else if c = 1 then 300 else if c = 5 then 300 else if c = 7 then 300 else if c = 22 then (if i = 1 then 6 else if 9 ≤ i ∧ i < 17 then -9 else 0) else 0
theorem wd0_inr (c t i : Nat) : InR (wd0 c t i) := by
  unfold wd0
  split
  · split
    · exact ⟨by decide, by decide⟩
    · exact ⟨by decide, by decide⟩
  split
  · exact ⟨by decide, by decide⟩
  split
  · exact ⟨by decide, by decide⟩
  split
  · exact ⟨by decide, by decide⟩
  split
  · split
    · exact ⟨by decide, by decide⟩
    · split
      · exact ⟨by decide, by decide⟩
      · exact ⟨by decide, by decide⟩
  · exact ⟨by decide, by decide⟩
theorem gr_init : GR 0 wd0 := by
  have e4 : ∀ i, wd0 4 0 i = 0 := fun i => rfl
  have e6 : ∀ i, wd0 6 0 i = 0 := fun i => rfl
  have e8 : ∀ i, wd0 8 0 i = 0 := fun i => rfl
  have e02 : wd0 0 0 2 = 0 := rfl
  refine ⟨⟨⟨?_, ?_, ?_, ?_, ?_, ?_, ?_, ?_, ?_, ?_, ?_⟩, ?_, ?_, ?_, ?_, ?_, ?_⟩, ⟨by decide, by decide, rfl, fun j hj => ?_⟩, ⟨by decide, rfl, fun i hi => ?_⟩, rfl⟩
  · unfold IvA
    decide
  · intro a ha
    rw [e4]
    exact ⟨by decide, by decide, fun q => absurd q (by decide)⟩
  · intro h hh
    exact Or.inl rfl
  · intro a ha hp
    rw [e4] at hp
    exact absurd hp (by decide)
  · intro h
    rw [e02] at h
    exact absurd h (by decide)
  · unfold IvQ
    simp only [e8]
    exact ⟨by decide, by decide, by decide, fun j j1 j2 => by omega⟩
  · unfold IvE
    simp only [e6, e8, e02]
    exact ⟨fun _ _ => Or.inl trivial, fun q => absurd q (by decide), fun _ _ _ => trivial, fun _ _ _ => trivial⟩
  · intro a ha hp
    rw [e4] at hp
    exact absurd hp (by decide)
  · intro p hp hpp
    rw [e4] at hpp
    exact absurd hpp (by decide)
  · unfold IvR
    refine ⟨?_, fun q => ?_, fun p hp hpp => ?_⟩
    · rw [sm_zero 64 (fun i _ => e4 _)]
      decide
    · rw [e02] at q
      exact absurd q (by decide)
    · rw [e4] at hpp
      exact absurd hpp (by decide)
  · intro _ p hp
    exact e4 _
  · unfold IvW
    simp only [e8, e02]
    exact ⟨fun q => absurd q (by decide), fun _ => trivial⟩
  · unfold ReA
    decide
  · intro h hh
    show (if 9 + h = 1 then (6 : Int) else if 9 ≤ 9 + h ∧ 9 + h < 17 then -9 else 0) = nn 300
    rw [if_neg (by omega), if_pos (by omega), nn_300]
  · intro j hj
    rw [e8, e8] at hj
    omega
  · intro a ha
    rw [e4, if_neg (by decide)]
    show (if 185 + 5 * (64 * (a / 100) + a % 100) = 1 then (6 : Int) else if 9 ≤ 185 + 5 * (64 * (a / 100) + a % 100) ∧ 185 + 5 * (64 * (a / 100) + a % 100) < 17 then -9 else 0) = 0
    rw [if_neg (by omega), if_neg (by omega)]
  · intro a ha hp
    rw [e4] at hp
    exact absurd hp (by decide)
  · have : wd0 11 0 1 = 0 := rfl
    omega
  · have : wd0 17 0 0 = 0 := rfl
    omega
end INIT
