/-! PURE: marking, writing of hooks and names, taking out of the queue -/
section MK
variable {B : Int} {k : Nat} {ex : Int} {w : Wd} {t a i : Nat}
theorem prs.mk {y : Int} : prs (mkW w t a) t y ↔ prs w t y := by unfold prs; rw [mk_4]
theorem liv.mk {y : Int} (hy : liv w t y) : liv (mkW w t a) t y := by
  refine ⟨prs.mk.mpr hy.1, fun hm => ?_⟩
  rw [mk_0] at hm
  rw [mk_0, mk_6]
  refine ⟨(hy.2 hm).1, fun h2 => ?_⟩
  split
  · rfl
  · exact (hy.2 hm).2 h2
theorem Iv.mk (h : Iv B k ex w t) (hm : w 0 t 2 = 1) {x : Int} (hp : prs w t x) (h2 : 200 ≤ x) (hz : w 6 t x.toNat ≠ 1) : Iv B k ex (mkW w t x.toNat) t ∧ liv (mkW w t x.toNat) t x := by
  have hA := h.A
  unfold IvA at hA
  have hl := hp.lt
  have hr := h.mark_room hm ⟨h2, hl.2⟩ hz
  have hlx : liv (mkW w t x.toNat) t x := by
    refine ⟨prs.mk.mpr hp, fun _ => ?_⟩
    rw [mk_0, mk_6, if_pos rfl]
    exact ⟨by omega, fun _ => rfl⟩
  refine ⟨⟨?_, ?_, ?_, ?_, ?_, ?_, ?_, ?_, ?_, ?_, ?_⟩, hlx⟩
  · unfold IvA; simp only [mk_0]; exact hA
  · unfold IvS; simp only [mk_0, mk_3, mk_4]; exact h.S
  · intro j hj
    rw [mk_1]
    exact (h.H j hj).imp (fun q => q) (fun q => ⟨prs.mk.mpr q.1, fun hk => (q.2 hk).mk⟩)
  · intro c hc hpc j hj
    rw [mk_4] at hpc
    rw [mk_7]
    exact (h.N c hc hpc j hj).imp (fun q => q) (fun q => prs.mk.mpr q)
  · intro _ c hc hlc hq hex j hj
    have hq2 := h.Q
    unfold IvQ at hq2
    have hcb : c ≠ x.toNat := by
      intro e
      refine hq ⟨(w 8 t 1).toNat, ?_, ?_, ?_⟩
      · rw [mk_80]; omega
      · rw [mk_81]; omega
      · rw [mk_9, if_pos rfl]; omega
    have hlc0 : liv w t c := by
      refine ⟨prs.mk.mp hlc.1, fun _ => ?_⟩
      have := hlc.2 (by rw [mk_0]; exact hm)
      rw [mk_0, mk_6, if_neg (by simpa using hcb)] at this
      exact this
    have hq0 : ¬ inQ w t c := by
      rintro ⟨z, z1, z2, z3⟩
      refine hq ⟨z, by rw [mk_80]; exact z1, by rw [mk_81]; omega, ?_⟩
      rw [mk_9, if_neg (by omega)]
      exact z3
    rw [mk_7]
    exact (h.Bk hm c hc hlc0 hq0 hex j hj).imp (fun q => q) (fun q => q.mk)
  · obtain ⟨q1, q2, q3, q4⟩ := h.Q
    unfold IvQ
    rw [mk_80, mk_81]
    refine ⟨q1, by omega, by omega, fun j j1 j2 => ?_⟩
    rw [mk_9]
    by_cases hj : j = (w 8 t 1).toNat
    · rw [if_pos hj, show ((x.toNat : Nat) : Int) = x by omega]
      exact hlx
    · rw [if_neg hj]
      exact (q4 j j1 (by omega)).mk
  · obtain ⟨e1, e2, e3, e4⟩ := h.E
    have h0 : w 6 t x.toNat = 0 := by
      rcases e1 (x.toNat - 200) (by omega) with q | q
      · rwa [show 200 + (x.toNat - 200) = x.toNat by omega] at q
      · rw [show 200 + (x.toNat - 200) = x.toNat by omega] at q; exact absurd q hz
    have hs := sm_chg (f := fun p => mkW w t x.toNat 6 t (200 + p)) (g := fun p => w 6 t (200 + p)) (k := x.toNat - 200) 60 (by omega) (fun i hi hne => by
      show mkW w t x.toNat 6 t _ = _
      rw [mk_6, if_neg (by omega)])
    simp only [show 200 + (x.toNat - 200) = x.toNat by omega, h0] at hs
    rw [mk_6, if_pos rfl] at hs
    unfold IvE
    rw [mk_81, mk_0, mk_0, hs]
    refine ⟨fun p hp => ?_, fun _ => ?_, fun q => by omega, fun c hc hpc => ?_⟩
    · rw [mk_6]
      split
      · exact Or.inr rfl
      · exact e1 p hp
    · have := e2 hm
      omega
    · rw [mk_4] at hpc
      rw [mk_6, if_neg (by omega)]
      exact e4 c hc hpc
  · intro c hc hpc
    rw [mk_4] at hpc
    rw [mk_5, mk_0, mk_0]
    exact (h.T c hc hpc).imp (fun q => q) (fun q => ⟨q.1, q.2.1, prs.mk.mpr q.2.2.1, q.2.2.2⟩)
  · unfold IvF; simp only [mk_4]; exact h.F
  · unfold IvR kp; simp only [mk_4, mk_5, mk_0]; exact h.R
  · intro q
    rw [mk_0] at q
    omega
/-- a hook is written -/
theorem hw_o {c t' j : Nat} {r : Int} (h : c ≠ 1) : up w 1 t i r c t' j = w c t' j := up_c h
theorem prs.hw {r y : Int} : prs (up w 1 t i r) t y ↔ prs w t y := by unfold prs; rw [hw_o (by decide)]
theorem liv.hw {r y : Int} : liv (up w 1 t i r) t y ↔ liv w t y := by
  unfold liv
  rw [prs.hw, hw_o (by decide), hw_o (by decide), hw_o (by decide)]
theorem inQ.hw {r y : Int} : inQ (up w 1 t i r) t y ↔ inQ w t y := by
  unfold inQ
  simp only [hw_o (show (8 : Nat) ≠ 1 by decide), hw_o (show (9 : Nat) ≠ 1 by decide)]
theorem Iv.hw (h : Iv B k ex w t) {k' : Nat} {r : Int} (hi : i < 8) (hk : ∀ j, j < k' → j < k ∨ j = i) (hr : r = 300 ∨ liv w t r) : Iv B k' ex (up w 1 t i r) t := by
  have o0 : ∀ j, up w 1 t i r 0 t j = w 0 t j := fun j => hw_o (by decide)
  have o3 : ∀ j, up w 1 t i r 3 t j = w 3 t j := fun j => hw_o (by decide)
  have o4 : ∀ j, up w 1 t i r 4 t j = w 4 t j := fun j => hw_o (by decide)
  have o5 : ∀ j, up w 1 t i r 5 t j = w 5 t j := fun j => hw_o (by decide)
  have o6 : ∀ j, up w 1 t i r 6 t j = w 6 t j := fun j => hw_o (by decide)
  have o7 : ∀ j, up w 1 t i r 7 t j = w 7 t j := fun j => hw_o (by decide)
  have o8 : ∀ j, up w 1 t i r 8 t j = w 8 t j := fun j => hw_o (by decide)
  have o9 : ∀ j, up w 1 t i r 9 t j = w 9 t j := fun j => hw_o (by decide)
  refine ⟨?_, ?_, ?_, ?_, ?_, ?_, ?_, ?_, ?_, ?_, ?_⟩
  · unfold IvA; simp only [o0]; exact h.A
  · unfold IvS; simp only [o0, o3, o4]; exact h.S
  · intro j hj
    by_cases e : j = i
    · rw [up_h e]
      exact hr.imp (fun q => q) (fun q => ⟨prs.hw.mpr q.1, fun _ => liv.hw.mpr q⟩)
    · rw [up_n e]
      refine (h.H j hj).imp (fun q => q) (fun q => ⟨prs.hw.mpr q.1, fun q2 => liv.hw.mpr (q.2 ?_)⟩)
      rcases hk j q2 with z | z
      · exact z
      · exact absurd z e
  · unfold IvN; simp only [o4, o7, prs.hw]; exact h.N
  · unfold IvB; simp only [o0, o7, liv.hw, inQ.hw]; exact h.Bk
  · unfold IvQ; simp only [o8, o9, liv.hw]; exact h.Q
  · unfold IvE; simp only [o0, o4, o6, o8]; exact h.E
  · unfold IvT; simp only [o0, o4, o5, prs.hw]; exact h.T
  · unfold IvF; simp only [o4]; exact h.F
  · unfold IvR kp; simp only [o0, o4, o5]; exact h.R
  · unfold IvO; simp only [o0, o4]; exact h.O
/-- a name is written -/
theorem nw_o {c t' j : Nat} {r : Int} (h : c ≠ 7) : up w 7 t i r c t' j = w c t' j := up_c h
theorem prs.nw {r y : Int} : prs (up w 7 t i r) t y ↔ prs w t y := by unfold prs; rw [nw_o (by decide)]
theorem liv.nw {r y : Int} : liv (up w 7 t i r) t y ↔ liv w t y := by
  unfold liv
  rw [prs.nw, nw_o (by decide), nw_o (by decide), nw_o (by decide)]
theorem inQ.nw {r y : Int} : inQ (up w 7 t i r) t y ↔ inQ w t y := by
  unfold inQ
  simp only [nw_o (show (8 : Nat) ≠ 7 by decide), nw_o (show (9 : Nat) ≠ 7 by decide)]
theorem Iv.nw (h : Iv B k ex w t) {r : Int} (hr : r = 300 ∨ liv w t r) : Iv B k ex (up w 7 t i r) t := by
  have o0 : ∀ j, up w 7 t i r 0 t j = w 0 t j := fun j => nw_o (by decide)
  have o1 : ∀ j, up w 7 t i r 1 t j = w 1 t j := fun j => nw_o (by decide)
  have o3 : ∀ j, up w 7 t i r 3 t j = w 3 t j := fun j => nw_o (by decide)
  have o4 : ∀ j, up w 7 t i r 4 t j = w 4 t j := fun j => nw_o (by decide)
  have o5 : ∀ j, up w 7 t i r 5 t j = w 5 t j := fun j => nw_o (by decide)
  have o6 : ∀ j, up w 7 t i r 6 t j = w 6 t j := fun j => nw_o (by decide)
  have o8 : ∀ j, up w 7 t i r 8 t j = w 8 t j := fun j => nw_o (by decide)
  have o9 : ∀ j, up w 7 t i r 9 t j = w 9 t j := fun j => nw_o (by decide)
  refine ⟨?_, ?_, ?_, ?_, ?_, ?_, ?_, ?_, ?_, ?_, ?_⟩
  · unfold IvA; simp only [o0]; exact h.A
  · unfold IvS; simp only [o0, o3, o4]; exact h.S
  · unfold IvH; simp only [o1, prs.nw, liv.nw]; exact h.H
  · intro c hc hpc j hj
    rw [o4] at hpc
    rw [prs.nw]
    by_cases e : 2 * c + j = i
    · rw [up_h e]
      exact hr.imp (fun q => q) (fun q => q.1)
    · rw [up_n e]
      exact h.N c hc hpc j hj
  · intro hm c hc hlc hq hex j hj
    rw [o0] at hm
    rw [liv.nw] at hlc ⊢
    rw [inQ.nw] at hq
    by_cases e : 2 * c + j = i
    · rw [up_h e]
      exact hr
    · rw [up_n e]
      exact h.Bk hm c hc hlc hq hex j hj
  · unfold IvQ; simp only [o8, o9, liv.nw]; exact h.Q
  · unfold IvE; simp only [o0, o4, o6, o8]; exact h.E
  · unfold IvT; simp only [o0, o4, o5, prs.nw]; exact h.T
  · unfold IvF; simp only [o4]; exact h.F
  · unfold IvR kp; simp only [o0, o4, o5]; exact h.R
  · unfold IvO; simp only [o0, o4]; exact h.O
/-- the first one is taken out of the queue -/
def popW (w : Wd) (t : Nat) : Wd := up w 8 t 0 (w 8 t 0 + 1)
theorem pop_o {c t' j : Nat} (h : c ≠ 8) : popW w t c t' j = w c t' j := up_c h
theorem pop_0 : popW w t 8 t 0 = w 8 t 0 + 1 := up_h rfl
theorem pop_1 : popW w t 8 t 1 = w 8 t 1 := up_n (by decide)
theorem prs.pop {y : Int} : prs (popW w t) t y ↔ prs w t y := by unfold prs; rw [pop_o (by decide)]
theorem liv.pop {y : Int} : liv (popW w t) t y ↔ liv w t y := by
  unfold liv
  rw [prs.pop, pop_o (by decide), pop_o (by decide), pop_o (by decide)]
theorem Iv.pop (h : Iv B k (-1) w t) (hq : w 8 t 0 < w 8 t 1) : Iv B k (w 9 t (w 8 t 0).toNat) (popW w t) t ∧ liv w t (w 9 t (w 8 t 0).toNat) := by
  obtain ⟨q1, q2, q3, q4⟩ := h.Q
  have o0 : ∀ j, popW w t 0 t j = w 0 t j := fun j => pop_o (by decide)
  have o1 : ∀ j, popW w t 1 t j = w 1 t j := fun j => pop_o (by decide)
  have o3 : ∀ j, popW w t 3 t j = w 3 t j := fun j => pop_o (by decide)
  have o4 : ∀ j, popW w t 4 t j = w 4 t j := fun j => pop_o (by decide)
  have o5 : ∀ j, popW w t 5 t j = w 5 t j := fun j => pop_o (by decide)
  have o6 : ∀ j, popW w t 6 t j = w 6 t j := fun j => pop_o (by decide)
  have o7 : ∀ j, popW w t 7 t j = w 7 t j := fun j => pop_o (by decide)
  have o9 : ∀ j, popW w t 9 t j = w 9 t j := fun j => pop_o (by decide)
  refine ⟨⟨?_, ?_, ?_, ?_, ?_, ?_, ?_, ?_, ?_, ?_, ?_⟩, q4 _ (by omega) (by omega)⟩
  · unfold IvA; simp only [o0]; exact h.A
  · unfold IvS; simp only [o0, o3, o4]; exact h.S
  · unfold IvH; simp only [o1, prs.pop, liv.pop]; exact h.H
  · unfold IvN; simp only [o4, o7, prs.pop]; exact h.N
  · intro hm c hc hlc hnq hex j hj
    rw [o0] at hm
    rw [liv.pop] at hlc ⊢
    rw [o7]
    refine h.Bk hm c hc hlc ?_ (by omega) j hj
    rintro ⟨z, z1, z2, z3⟩
    by_cases e : z = (w 8 t 0).toNat
    · exact hex (by rw [← z3, e])
    · exact hnq ⟨z, by rw [pop_0]; omega, by rw [pop_1]; exact z2, by rw [o9]; exact z3⟩
  · unfold IvQ
    rw [pop_0, pop_1]
    refine ⟨by omega, by omega, q3, fun j j1 j2 => ?_⟩
    rw [o9, liv.pop]
    exact q4 j (by omega) j2
  · unfold IvE; simp only [o0, o4, o6, pop_1]; exact h.E
  · unfold IvT; simp only [o0, o4, o5, prs.pop]; exact h.T
  · unfold IvF; simp only [o4]; exact h.F
  · unfold IvR kp; simp only [o0, o4, o5]; exact h.R
  · unfold IvO; simp only [o0, o4]; exact h.O
/-- both its names are read: it is like the others -/
theorem Iv.done (h : Iv B k ex w t) (hd : ∀ a : Nat, (a : Int) = ex → ∀ j : Nat, j < 2 → w 7 t (2 * a + j) = 300 ∨ liv w t (w 7 t (2 * a + j))) : Iv B k (-1) w t := by
  refine ⟨h.A, h.S, h.H, h.N, ?_, h.Q, h.E, h.T, h.F, h.R, h.O⟩
  intro hm c hc hlc hq _ j hj
  by_cases e : (c : Int) = ex
  · exact hd c e j hj
  · exact h.Bk hm c hc hlc hq e j hj
end MK
