/-! PURE: carrying and marking keep what holds always -/
section CAR
variable {B : Int} {k : Nat} {ex : Int} {w : Wd} {t a i : Nat}
theorem car_0 (h : i ≠ 4) : carW w t a 0 t i = w 0 t i := by simp [carW, lagW, up, h]
theorem car_04 : carW w t a 0 t 4 = w 0 t 4 + w 4 t a := by simp [carW, lagW, up]
theorem car_1 : carW w t a 1 t i = w 1 t i := by simp [carW, lagW, up]
theorem car_3 : carW w t a 3 t i = if i = (nb w t).toNat then w 3 t a else w 3 t i := by simp [carW, lagW, up]
theorem car_4 : carW w t a 4 t i = if i = (nb w t).toNat then w 4 t a else w 4 t i := by simp [carW, lagW, up]
theorem car_5 : carW w t a 5 t i = if i = a then ((nb w t).toNat : Int) else if i = (nb w t).toNat then 300 else w 5 t i := by simp [carW, lagW, up]
theorem car_6 : carW w t a 6 t i = if i = (nb w t).toNat then 0 else w 6 t i := by simp [carW, lagW, up]
theorem car_7 : carW w t a 7 t i = if i = 2 * (nb w t).toNat + 1 then w 7 t (2 * a + 1) else if i = 2 * (nb w t).toNat then w 7 t (2 * a) else w 7 t i := by simp [carW, lagW, up]
theorem car_80 : carW w t a 8 t 0 = w 8 t 0 := by simp [carW, lagW, up]
theorem car_81 : carW w t a 8 t 1 = w 8 t 1 + 1 := by simp [carW, lagW, up]
theorem car_9 : carW w t a 9 t i = if i = (w 8 t 1).toNat then nb w t else w 9 t i := by simp [carW, lagW, up]
theorem mk_0 : mkW w t a 0 t i = w 0 t i := by simp [mkW, up]
theorem mk_1 : mkW w t a 1 t i = w 1 t i := by simp [mkW, up]
theorem mk_3 : mkW w t a 3 t i = w 3 t i := by simp [mkW, up]
theorem mk_4 : mkW w t a 4 t i = w 4 t i := by simp [mkW, up]
theorem mk_5 : mkW w t a 5 t i = w 5 t i := by simp [mkW, up]
theorem mk_6 : mkW w t a 6 t i = if i = a then 1 else w 6 t i := by simp [mkW, up]
theorem mk_7 : mkW w t a 7 t i = w 7 t i := by simp [mkW, up]
theorem mk_80 : mkW w t a 8 t 0 = w 8 t 0 := by simp [mkW, up]
theorem mk_81 : mkW w t a 8 t 1 = w 8 t 1 + 1 := by simp [mkW, up]
theorem mk_9 : mkW w t a 9 t i = if i = (w 8 t 1).toNat then (a : Int) else w 9 t i := by simp [mkW, up]
/-- where the next copy comes to lie -/
theorem Iv.nb_in (h : Iv B k ex w t) (ht : w 0 t 4 < 64) : 0 ≤ nb w t ∧ 100 * w 0 t 3 ≤ nb w t ∧ nb w t < 100 * w 0 t 3 + 64 ∧ (((nb w t).toNat) < 64 ∨ (100 ≤ ((nb w t).toNat) ∧ ((nb w t).toNat) < 164) ∨ (200 ≤ ((nb w t).toNat) ∧ ((nb w t).toNat) < 260)) ∧ (nb w t).toNat < 164 := by
  have hA := h.A
  unfold IvA at hA
  unfold nb
  omega
theorem Iv.car_ok (h : Iv B k ex w t) (hm : w 0 t 2 = 1) {x : Int} (hp : prs w t x) (ho : (100 * (1 - w 0 t 3) ≤ x ∧ x < 100 * (1 - w 0 t 3) + 64)) (hn : w 5 t x.toNat = 300) : w 4 t x.toNat + w 0 t 4 ≤ 64 ∧ w 0 t 4 < 64 ∧ 0 < w 4 t x.toNat ∧ w 8 t 1 < 124 ∧ w 8 t 1 + 1 ≤ w 0 t 4 + w 4 t x.toNat + sm (fun p => w 6 t (200 + p)) 60 := by
  have hA := h.A
  unfold IvA at hA
  have hl := hp.lt
  have h12 := h.S x.toNat (by omega)
  have hk := h.kp_ge ho hn
  have hR := h.R.2.1 hm
  have hE := h.E.2.1 hm
  have hM := h.marks
  have hpp := hp.2.2
  omega
theorem prs.car {x y : Int} (hI : Iv B k ex w t) (hx : 0 < w 4 t x.toNat) (hy : prs w t y) : prs (carW w t x.toNat) t y := by
  refine ⟨hy.1, hy.2.1, ?_⟩
  rw [car_4]
  split
  · exact hx
  · exact hy.2.2
theorem liv.car {x y : Int} (hI : Iv B k ex w t) (ht : w 0 t 4 < 64) (hx : 0 < w 4 t x.toNat) (hy : liv w t y) : liv (carW w t x.toNat) t y := by
  have hb := hI.nb_in ht
  have hyl := hy.1.1
  refine ⟨hy.1.car hI hx, fun hm => ?_⟩
  rw [car_0 (by decide)] at hm
  rw [car_0 (by decide)]
  refine ⟨(hy.2 hm).1, fun h2 => ?_⟩
  rw [car_6, if_neg (by omega)]
  exact (hy.2 hm).2 h2
theorem Iv.car (h : Iv B k ex w t) (hm : w 0 t 2 = 1) {x : Int} (hp : prs w t x) (ho : (100 * (1 - w 0 t 3) ≤ x ∧ x < 100 * (1 - w 0 t 3) + 64)) (hn : w 5 t x.toNat = 300) : Iv B k ex (carW w t x.toNat) t ∧ liv (carW w t x.toNat) t (nb w t) := by
  have hA := h.A
  unfold IvA at hA
  obtain ⟨c1, c2, c3, c4, c5⟩ := h.car_ok hm hp ho hn
  obtain ⟨b0, b1, b2, b3, b4⟩ := h.nb_in c2
  have hl := hp.lt
  have hne : x.toNat ≠ (nb w t).toNat := by omega
  have hb4 : nb w t = 100 * w 0 t 3 + w 0 t 4 := rfl
  have hSx := h.S x.toNat (by omega)
  have hlb : liv (carW w t x.toNat) t (nb w t) := by
    refine ⟨⟨b0, b3, ?_⟩, fun _ => ⟨?_, fun h2 => by omega⟩⟩
    · rw [car_4, if_pos rfl]; exact c3
    · rw [car_0 (by decide)]; omega
  refine ⟨⟨?_, ?_, ?_, ?_, ?_, ?_, ?_, ?_, ?_, ?_, ?_⟩, hlb⟩
  · unfold IvA
    rw [car_04, car_0 (by decide), car_0 (by decide), car_0 (by decide), car_0 (by decide), car_0 (by decide), car_0 (by decide)]
    omega
  · intro c hc
    have hS := h.S c hc
    rw [car_4, car_3, car_0 (by decide)]
    split
    · refine ⟨hSx.1, hSx.2.1, fun q => ⟨by omega, (hSx.2.2 q).2⟩⟩
    · exact hS
  · intro j hj
    rw [car_1]
    rcases h.H j hj with q | q
    · exact Or.inl q
    · exact Or.inr ⟨q.1.car h c3, fun hk => (q.2 hk).car h c2 c3⟩
  · intro c hc hpc j hj
    rw [car_4] at hpc
    rw [car_7]
    by_cases hcb : c = (nb w t).toNat
    · have hN := h.N x.toNat (by omega) c3
      subst hcb
      rcases (show j = 0 ∨ j = 1 by omega) with rfl | rfl
      · rw [if_neg (by omega), if_pos (by omega)]
        exact (hN 0 (by omega)).imp (fun q => q) (fun q => q.car h c3)
      · rw [if_pos (by omega)]
        exact (hN 1 (by omega)).imp (fun q => q) (fun q => q.car h c3)
    · rw [if_neg hcb] at hpc
      rw [if_neg (by omega), if_neg (by omega)]
      exact (h.N c hc hpc j hj).imp (fun q => q) (fun q => q.car h c3)
  · intro _ c hc hlc hq hex j hj
    have hq2 := h.Q
    unfold IvQ at hq2
    have hcb : c ≠ (nb w t).toNat := by
      intro e
      refine hq ⟨(w 8 t 1).toNat, ?_, ?_, ?_⟩
      · rw [car_80]; omega
      · rw [car_81]; omega
      · rw [car_9, if_pos rfl]; omega
    have hlc0 : liv w t c := by
      obtain ⟨⟨g1, g2, g3⟩, g4⟩ := hlc
      rw [car_4, if_neg (by simpa using hcb)] at g3
      refine ⟨⟨g1, g2, g3⟩, fun _ => ?_⟩
      have := g4 (by rw [car_0 (by decide)]; exact hm)
      rw [car_0 (by decide), car_6, if_neg (by simpa using hcb)] at this
      exact this
    have hq0 : ¬ inQ w t c := by
      rintro ⟨z, z1, z2, z3⟩
      refine hq ⟨z, by rw [car_80]; exact z1, by rw [car_81]; omega, ?_⟩
      rw [car_9, if_neg (by omega)]
      exact z3
    rw [car_7, if_neg (by omega), if_neg (by omega)]
    exact (h.Bk hm c hc hlc0 hq0 hex j hj).imp (fun q => q) (fun q => q.car h c2 c3)
  · obtain ⟨q1, q2, q3, q4⟩ := h.Q
    unfold IvQ
    rw [car_80, car_81]
    refine ⟨q1, by omega, by omega, fun j j1 j2 => ?_⟩
    rw [car_9]
    by_cases hj : j = (w 8 t 1).toNat
    · rw [if_pos hj]
      exact hlb
    · rw [if_neg hj]
      exact (q4 j j1 (by omega)).car h c2 c3
  · obtain ⟨e1, e2, e3, e4⟩ := h.E
    have es : ∀ p, p < 60 → carW w t x.toNat 6 t (200 + p) = w 6 t (200 + p) := fun p hp => by rw [car_6, if_neg (by omega)]
    unfold IvE
    rw [car_81, car_04, car_0 (by decide), sm_congr (g := fun p => w 6 t (200 + p)) 60 es]
    refine ⟨fun p hp => by rw [es p hp]; exact e1 p hp, fun _ => by omega, fun q => by omega, fun c hc hpc => ?_⟩
    rw [car_4] at hpc
    rw [car_6]
    split
    · rfl
    · rename_i g
      rw [if_neg g] at hpc
      exact e4 c hc hpc
  · intro c hc hpc
    rw [car_4] at hpc
    rw [car_5, car_0 (by decide), car_0 (by decide)]
    by_cases hca : c = x.toNat
    · subst hca
      rw [if_pos rfl]
      exact Or.inr ⟨hm, by omega, by rw [show (((nb w t).toNat : Nat) : Int) = nb w t by omega]; exact hlb.1, by omega, by omega⟩
    · rw [if_neg hca]
      by_cases hcb : c = (nb w t).toNat
      · exact Or.inl (if_pos hcb)
      · rw [if_neg hcb] at hpc ⊢
        exact (h.T c hc hpc).imp (fun q => q) (fun q => ⟨q.1, q.2.1, q.2.2.1.car h c3, q.2.2.2⟩)
  · intro p hp0 hpp
    have e : ∀ q, carW w t x.toNat 4 t (200 + q) = w 4 t (200 + q) := fun q => by rw [car_4, if_neg (by omega)]
    rw [e] at hpp ⊢
    obtain ⟨f1, f2⟩ := h.F p hp0 hpp
    exact ⟨f1, fun q q1 q2 => by rw [e]; exact f2 q q1 q2⟩
  · obtain ⟨r1, r2, r3⟩ := h.R
    unfold IvR kp
    rw [car_04, car_0 (by decide), car_0 (by decide)]
    refine ⟨?_, fun _ => ?_, fun p hp1 hp2 => ?_⟩
    · have := sm_chg (f := fun p => carW w t x.toNat 4 t ((100 * (w 0 t 3).toNat) + p)) (g := fun p => w 4 t ((100 * (w 0 t 3).toNat) + p)) (k := (nb w t).toNat - (100 * (w 0 t 3).toNat)) 64 (by omega) (fun i hi hne => by
        show carW w t x.toNat 4 t _ = _
        rw [car_4, if_neg (by omega)])
      simp only [car_4] at this
      rw [if_pos (by omega)] at this
      have h0 := (h.S ((100 * (w 0 t 3).toNat) + ((nb w t).toNat - (100 * (w 0 t 3).toNat))) (by omega)).1
      simp only [car_4]
      omega
    · have := sm_chg (f := fun p => if carW w t x.toNat 5 t ((100 - 100 * (w 0 t 3).toNat) + p) = 300 then carW w t x.toNat 4 t ((100 - 100 * (w 0 t 3).toNat) + p) else 0) (g := fun p => if w 5 t ((100 - 100 * (w 0 t 3).toNat) + p) = 300 then w 4 t ((100 - 100 * (w 0 t 3).toNat) + p) else 0) (k := x.toNat - (100 - 100 * (w 0 t 3).toNat)) 64 (by omega) (fun i hi hne => by
        have e5 : carW w t x.toNat 5 t ((100 - 100 * (w 0 t 3).toNat) + i) = w 5 t ((100 - 100 * (w 0 t 3).toNat) + i) := by rw [car_5, if_neg (by omega), if_neg (by omega)]
        have e4 : carW w t x.toNat 4 t ((100 - 100 * (w 0 t 3).toNat) + i) = w 4 t ((100 - 100 * (w 0 t 3).toNat) + i) := by rw [car_4, if_neg (by omega)]
        show (if carW w t x.toNat 5 t _ = 300 then carW w t x.toNat 4 t _ else 0) = _
        rw [e5, e4])
      have e5 : carW w t x.toNat 5 t x.toNat ≠ 300 := by rw [car_5, if_pos rfl]; omega
      simp only [show (100 - 100 * (w 0 t 3).toNat) + (x.toNat - (100 - 100 * (w 0 t 3).toNat)) = x.toNat by omega, hn, if_true, if_neg e5] at this
      have hk := r2 hm
      unfold kp at hk
      omega
    · rw [car_4] at hp2 ⊢
      by_cases e : (100 * (w 0 t 3).toNat) + p = (nb w t).toNat
      · rw [if_pos e]
        have := hb4
        omega
      · rw [if_neg e] at hp2 ⊢
        have := r3 p hp1 hp2
        omega
  · intro q
    rw [car_0 (by decide)] at q
    omega
end CAR
