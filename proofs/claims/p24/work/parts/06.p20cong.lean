/-! PURE: what reaches from a store to its copy -/
section CONG
variable {B : Int} {k : Nat} {ex : Int} {w v w1 v1 : Wd} {t t1 a i : Nat}
/-- the places of a store -/
def Rg (c i : Nat) : Prop := (c = 0 ∧ i < 7) ∨ (c = 1 ∧ i < 8) ∨ (3 ≤ c ∧ c ≤ 6 ∧ i < 260) ∨ (c = 7 ∧ i < 520) ∨ (c = 8 ∧ i < 2) ∨ (c = 9 ∧ i < 124)
/-- two stores hold the same -/
def Ag (w : Wd) (t : Nat) (w1 : Wd) (t1 : Nat) : Prop := ∀ c i, Rg c i → w1 c t1 i = w c t i
theorem Ag.rf : Ag w t w t := fun _ _ _ => rfl
theorem Ag.tr {w2 : Wd} {t2 : Nat} (h1 : Ag w t w1 t1) (h2 : Ag w1 t1 w2 t2) : Ag w t w2 t2 := fun c i hr => (h2 c i hr).trans (h1 c i hr)
theorem Ag.of (h : ∀ c, c < 10 → ∀ i, w1 c t i = w c t i) : Ag w t w1 t := fun c i hr => h c (by unfold Rg at hr; omega) i
theorem Ag.r0 (h : Ag w t w1 t1) (hi : i < 7) : w1 0 t1 i = w 0 t i := h 0 i (Or.inl ⟨rfl, hi⟩)
theorem Ag.r1 (h : Ag w t w1 t1) (hi : i < 8) : w1 1 t1 i = w 1 t i := h 1 i (Or.inr (Or.inl ⟨rfl, hi⟩))
theorem Ag.rc (h : Ag w t w1 t1) {c : Nat} (hc : 3 ≤ c ∧ c ≤ 6) (hi : i < 260) : w1 c t1 i = w c t i := h c i (Or.inr (Or.inr (Or.inl ⟨hc.1, hc.2, hi⟩)))
theorem Ag.r7 (h : Ag w t w1 t1) (hi : i < 520) : w1 7 t1 i = w 7 t i := h 7 i (Or.inr (Or.inr (Or.inr (Or.inl ⟨rfl, hi⟩))))
theorem Ag.r8 (h : Ag w t w1 t1) (hi : i < 2) : w1 8 t1 i = w 8 t i := h 8 i (Or.inr (Or.inr (Or.inr (Or.inr (Or.inl ⟨rfl, hi⟩)))))
theorem Ag.r9 (h : Ag w t w1 t1) (hi : i < 124) : w1 9 t1 i = w 9 t i := h 9 i (Or.inr (Or.inr (Or.inr (Or.inr (Or.inr ⟨rfl, hi⟩)))))
theorem Ag.pr (h : Ag w t w1 t1) {x : Int} : prs w1 t1 x ↔ prs w t x := by
  unfold prs
  constructor
  · rintro ⟨h1, h2, h3⟩
    rw [h.rc (by decide) (by omega)] at h3
    exact ⟨h1, h2, h3⟩
  · rintro ⟨h1, h2, h3⟩
    rw [← h.rc (by decide) (by omega)] at h3
    exact ⟨h1, h2, h3⟩
theorem Ag.li (h : Ag w t w1 t1) {x : Int} : liv w1 t1 x ↔ liv w t x := by
  unfold liv
  rw [h.pr, h.r0 (by decide), h.r0 (by decide)]
  constructor
  · rintro ⟨h1, h2⟩
    refine ⟨h1, fun q => ?_⟩
    have := h2 q
    rw [h.rc (by decide) (by have := h1.lt; omega)] at this
    exact this
  · rintro ⟨h1, h2⟩
    refine ⟨h1, fun q => ?_⟩
    rw [h.rc (c := 6) (by decide) (by have := h1.lt; omega)]
    exact h2 q
theorem Iv.cg (hI : Iv B k ex w t) (h : Ag w t w1 t1) : Iv B k ex w1 t1 := by
  have hA := hI.A
  unfold IvA at hA
  have z := fun (i : Nat) (hi : i < 7) => h.r0 hi
  have e8 := fun (i : Nat) (hi : i < 2) => h.r8 hi
  obtain ⟨q1, q2, q3, q4⟩ := hI.Q
  refine ⟨?_, ?_, ?_, ?_, ?_, ?_, ?_, ?_, ?_, ?_, ?_⟩
  · unfold IvA
    rw [z 0 (by decide), z 1 (by decide), z 2 (by decide), z 3 (by decide), z 4 (by decide), z 5 (by decide), z 6 (by decide)]
    exact hI.A
  · intro a ha
    rw [h.rc (by decide) ha, h.rc (by decide) ha, z 1 (by decide)]
    exact hI.S a ha
  · intro j hj
    rw [h.r1 hj, h.pr, h.li]
    exact hI.H j hj
  · intro a ha hp j hj
    rw [h.rc (by decide) ha] at hp
    rw [h.r7 (by omega), h.pr]
    exact hI.N a ha hp j hj
  · intro hm a ha hla hq hne j hj
    rw [z 2 (by decide)] at hm
    rw [h.li] at hla
    rw [h.r7 (by omega), h.li]
    refine hI.Bk hm a ha hla (fun ⟨y, y1, y2, y3⟩ => hq ⟨y, ?_, ?_, ?_⟩) hne j hj
    · rw [e8 0 (by decide)]; exact y1
    · rw [e8 1 (by decide)]; exact y2
    · rw [h.r9 (by omega)]; exact y3
  · unfold IvQ
    rw [e8 0 (by decide), e8 1 (by decide)]
    refine ⟨q1, q2, q3, fun j j1 j2 => ?_⟩
    rw [h.r9 (by omega), h.li]
    exact q4 j j1 j2
  · obtain ⟨e1, e2, e3, e4⟩ := hI.E
    unfold IvE
    rw [e8 1 (by decide), z 2 (by decide), z 4 (by decide)]
    have s6 : ∀ p, p < 60 → w1 6 t1 (200 + p) = w 6 t (200 + p) := fun p hp => h.rc (by decide) (by omega)
    rw [sm_congr (f := fun p => w1 6 t1 (200 + p)) (g := fun p => w 6 t (200 + p)) 60 s6]
    refine ⟨fun p hp => ?_, e2, fun q p hp => ?_, fun a ha hp => ?_⟩
    · rw [s6 p hp]; exact e1 p hp
    · rw [s6 p hp]; exact e3 q p hp
    · rw [h.rc (by decide) (by omega)] at hp ⊢; exact e4 a ha hp
  · intro a ha hp
    rw [h.rc (by decide) ha] at hp
    rw [h.rc (by decide) ha, z 2 (by decide), z 3 (by decide), h.pr]
    exact hI.T a ha hp
  · intro p hp hpp
    rw [h.rc (by decide) (by omega)] at hpp
    obtain ⟨f1, f2⟩ := hI.F p hp hpp
    rw [h.rc (by decide) (by omega)]
    refine ⟨f1, fun q g1 g2 => ?_⟩
    rw [h.rc (by decide) (by omega)]
    exact f2 q g1 g2
  · obtain ⟨r1, r2, r3⟩ := hI.R
    have hk : kp w1 t1 = kp w t := by
      unfold kp
      rw [z 3 (by decide)]
      refine sm_congr 64 (fun p hp => ?_)
      show (if w1 5 t1 ((100 - 100 * (w 0 t 3).toNat) + p) = 300 then w1 4 t1 ((100 - 100 * (w 0 t 3).toNat) + p) else 0) = _
      rw [h.rc (by decide) (by omega), h.rc (by decide) (by omega)]
    unfold IvR
    rw [hk, z 2 (by decide), z 3 (by decide), z 4 (by decide)]
    rw [sm_congr (f := fun p => w1 4 t1 ((100 * (w 0 t 3).toNat) + p)) (g := fun p => w 4 t ((100 * (w 0 t 3).toNat) + p)) 64 (fun p hp => h.rc (by decide) (by omega))]
    refine ⟨r1, r2, fun p hp hpp => ?_⟩
    rw [h.rc (by decide) (by omega)] at hpp ⊢
    exact r3 p hp hpp
  · intro q p hp
    rw [z 2 (by decide)] at q
    rw [z 3 (by decide), h.rc (by decide) (by omega)]
    exact hI.O q p hp
theorem IvW.cg (hW : IvW w t) (h : Ag w t w1 t1) : IvW w1 t1 := by
  unfold IvW
  rw [h.r0 (by decide), h.r8 (by decide), h.r8 (by decide)]
  exact hW
theorem Re.cg (hR : Re w v t) (hI : Iv B k ex w t) (h : Ag w t w1 t1) (hv : ∀ i, i < 1125 → v1 22 0 i = v 22 0 i) : Re w1 v1 t1 := by
  have hA := hI.A
  unfold IvA at hA
  obtain ⟨q1, q2, q3, q4⟩ := hI.Q
  have z := fun (i : Nat) (hi : i < 7) => h.r0 hi
  have e8 := fun (i : Nat) (hi : i < 2) => h.r8 hi
  have hf : (w 0 t 3).toNat < 2 := by omega
  refine ⟨?_, ?_, ?_, ?_, ?_⟩
  · unfold ReA
    rw [z 0 (by decide), z 1 (by decide), z 2 (by decide), z 3 (by decide), z 4 (by decide), z 5 (by decide), z 6 (by decide), e8 0 (by decide), e8 1 (by decide)]
    rw [hv 0 (by omega), hv 1 (by omega), hv 2 (by omega), hv 3 (by omega), hv (4 + _) (by omega), hv (5 - _) (by omega), hv 6 (by omega), hv 7 (by omega), hv 8 (by omega)]
    exact hR.1
  · intro j hj
    rw [hv _ (by omega), h.r1 hj]
    exact hR.2.1 j hj
  · intro j hj
    rw [e8 0 (by decide), e8 1 (by decide)] at hj
    rw [hv _ (by omega), e8 0 (by decide), h.r9 (by omega)]
    exact hR.2.2.1 j hj
  · intro d hd
    rw [hv _ (by omega), h.rc (by decide) (by omega), h.rc (by decide) (by omega)]
    exact hR.2.2.2.1 d hd
  · intro d hd hp
    rw [h.rc (by decide) (by omega)] at hp
    have hS := ((hI.S d (by omega)).2.2 hp).2
    rw [h.rc (c := 3) (by decide) (by omega), h.rc (c := 4) (by decide) (by omega), h.rc (c := 5) (by decide) (by omega), h.rc (c := 6) (by decide) (by omega), h.r7 (by omega), h.r7 (by omega)]
    rw [hv _ (by omega), hv _ (by omega), hv _ (by omega), hv _ (by omega), hv _ (by omega)]
    exact hR.2.2.2.2 d hd hp
theorem Si.cg (hS : Si B w v t) (h : Ag w t w1 t1) (hv : ∀ i, i < 1125 → v1 22 0 i = v 22 0 i) : Si B w1 v1 t1 := ⟨hS.1.cg h, hS.2.1.cg h, hS.2.2.cg hS.1 h hv⟩
theorem Si.mono {B' : Int} (hS : Si B w v t) (h : B ≤ B') : Si B' w v t := ⟨hS.1.mono h, hS.2⟩
/-- a store becomes another -/
theorem become_e (hne : t ≠ t1) (hm : w 0 t1 2 = 0 ∨ w 0 t1 2 = 1) : ∃ w', X5_become t t1 w = some (0, w') ∧ Ag w t1 w' t ∧ FrC t w w' := by
  have hne2 : t1 ≠ t := fun e => hne e.symm
  unfold X5_become X0_become X3_become
  rw [bd_t, bd_t]
  simp only [up_t hne2]
  rw [gd_t (by
    simp only [up, cpy, hne2]
    simpa using hm)]
  refine ⟨_, rfl, ?_, ?_⟩
  · intro c i hr
    unfold Rg at hr
    rcases hr with ⟨rfl, h⟩ | ⟨rfl, h⟩ | ⟨h1, h2, h3⟩ | ⟨rfl, h⟩ | ⟨rfl, h⟩ | ⟨rfl, h⟩
    · rcases (show i = 0 ∨ i = 1 ∨ i = 2 ∨ i = 3 ∨ i = 4 ∨ i = 5 ∨ i = 6 by omega) with rfl | rfl | rfl | rfl | rfl | rfl | rfl <;> simp [up, cpy, hne2]
    · simp [up, cpy, hne2, h]
    · rcases (show c = 3 ∨ c = 4 ∨ c = 5 ∨ c = 6 by omega) with rfl | rfl | rfl | rfl <;> simp [up, cpy, hne2, h3]
    · simp [up, cpy, hne2, h]
    · rcases (show i = 0 ∨ i = 1 by omega) with rfl | rfl <;> simp [up, cpy, hne2]
    · simp [up, cpy, hne2, h]
  · intro c t' i hn
    by_cases e : t' = t
    · have hc : 10 ≤ c := by omega
      subst e
      simp [up, cpy, show c ≠ 0 by omega, show c ≠ 1 by omega, show c ≠ 3 by omega, show c ≠ 4 by omega, show c ≠ 5 by omega, show c ≠ 6 by omega, show c ≠ 7 by omega, show c ≠ 8 by omega, show c ≠ 9 by omega]
    · simp [up, cpy, e]
end CONG
