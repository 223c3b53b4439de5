/-! PURE: a thing is made, both sides -/
section MAKE
variable {B : Int} {k : Nat} {ex : Int} {w v va : Wd} {t a i : Nat}
/-- a new copy of a new thing at b, of size s, with mark m (behind it: taken, hook, made) -/
def nwW (w : Wd) (t b : Nat) (s m tk : Int) (h : Nat) : Wd := up (up (up (up (layW w t b (w 0 t 1) s) 6 t b m) 0 t 4 tk) 1 t h b) 0 t 1 (w 0 t 1 + 1)
variable {b h : Nat} {s m tk : Int}
theorem nw_01 : nwW w t b s m tk h 0 t 1 = w 0 t 1 + 1 := by simp [nwW, layW, up]
theorem nw_04 : nwW w t b s m tk h 0 t 4 = tk := by simp [nwW, layW, up]
theorem nw_0 (h1 : i ≠ 1) (h4 : i ≠ 4) : nwW w t b s m tk h 0 t i = w 0 t i := by simp [nwW, layW, up, h1, h4]
theorem nw_1 : nwW w t b s m tk h 1 t i = if i = h then (b : Int) else w 1 t i := by simp [nwW, layW, up]
theorem nw_3 : nwW w t b s m tk h 3 t i = if i = b then w 0 t 1 else w 3 t i := by simp [nwW, layW, up]
theorem nw_4 : nwW w t b s m tk h 4 t i = if i = b then s else w 4 t i := by simp [nwW, layW, up]
theorem nw_5 : nwW w t b s m tk h 5 t i = if i = b then 300 else w 5 t i := by simp [nwW, layW, up]
theorem nw_6 : nwW w t b s m tk h 6 t i = if i = b then m else w 6 t i := by
  by_cases e : i = b <;> simp [nwW, layW, up, e]
theorem nw_7 : nwW w t b s m tk h 7 t i = if i = 2 * b + 1 then 300 else if i = 2 * b then 300 else w 7 t i := by simp [nwW, layW, up]
theorem nw_8 : nwW w t b s m tk h 8 t i = w 8 t i := by simp [nwW, layW, up]
theorem nw_9 : nwW w t b s m tk h 9 t i = w 9 t i := by simp [nwW, layW, up]
/-- what has to hold of the place -/
def Fit (w : Wd) (t b : Nat) (s m tk : Int) : Prop := (1 ≤ s ∧ s ≤ 12) ∧ w 0 t 1 < 40 ∧ ((((b : Int) = 100 * w 0 t 3 + w 0 t 4) ∧ m = 0 ∧ tk = w 0 t 4 + s ∧ w 0 t 4 + s ≤ 64 ∧ (w 0 t 2 = 1 → w 0 t 4 + s + kp w t ≤ 64)) ∨ (200 ≤ b ∧ (b : Int) + s ≤ 260 ∧ m = w 0 t 2 ∧ tk = w 0 t 4 ∧ (∀ q : Nat, b - 200 ≤ q → (q : Int) < (b : Int) - 200 + s → w 4 t (200 + q) = 0) ∧ ∀ q : Nat, q < b - 200 → 0 < w 4 t (200 + q) → (q : Int) + w 4 t (200 + q) ≤ (b : Int) - 200))
theorem Iv.nwm (hI : Iv B 8 (-1) w t) (hF : Fit w t b s m tk) (hh : h < 8) : Iv B 8 (-1) (nwW w t b s m tk h) t ∧ (b < 64 ∨ (100 ≤ b ∧ b < 164) ∨ (200 ≤ b ∧ b < 260)) := by
  have hA := hI.A
  unfold IvA at hA
  obtain ⟨hs, hmd, hF⟩ := hF
  have hia : (b < 64 ∨ (100 ≤ b ∧ b < 164) ∨ (200 ≤ b ∧ b < 260)) := by rcases hF with q | q <;> omega
  have hb : b < 260 := by omega
  have hold : ¬ (100 * (1 - w 0 t 3) ≤ b ∧ b < 100 * (1 - w 0 t 3) + 64) := by rcases hF with q | q <;> omega
  have htk : 0 ≤ tk ∧ tk ≤ 64 := by rcases hF with q | q <;> omega
  have hpr : ∀ y : Int, prs w t y → prs (nwW w t b s m tk h) t y := by
    intro y hy
    refine ⟨hy.1, hy.2.1, ?_⟩
    rw [nw_4]
    split
    · omega
    · exact hy.2.2
  have hfree : ∀ y : Int, prs w t y → y.toNat ≠ b := by
    intro y hy e
    have h2 := hy.2.2
    rcases hF with q | q
    · exact hI.nb_free (by omega) hy (by have := hy.1; omega)
    · have := q.2.2.2.2.1 (b - 200) (by omega) (by omega)
      rw [show 200 + (b - 200) = b by omega] at this
      rw [e] at h2
      omega
  have hlv : ∀ y : Int, liv w t y → liv (nwW w t b s m tk h) t y := by
    intro y hy
    refine ⟨hpr y hy.1, fun q => ?_⟩
    rw [nw_0 (by decide) (by decide)] at q
    rw [nw_0 (by decide) (by decide), nw_6, if_neg (hfree y hy.1)]
    exact hy.2 q
  have hlb : liv (nwW w t b s m tk h) t b := by
    refine ⟨⟨by omega, hia, ?_⟩, fun q => ?_⟩
    · rw [nw_4, if_pos (by omega)]; omega
    · rw [nw_0 (by decide) (by decide)] at q
      rw [nw_0 (by decide) (by decide), nw_6, if_pos (by omega)]
      refine ⟨hold, fun q2 => ?_⟩
      rcases hF with z | z
      · omega
      · omega
  refine ⟨⟨?_, ?_, ?_, ?_, ?_, ?_, ?_, ?_, ?_, ?_, ?_⟩, hia⟩
  · unfold IvA
    rw [nw_01, nw_04]
    simp (disch := decide) only [nw_0]
    omega
  · intro c hc
    have hS := hI.S c hc
    rw [nw_4, nw_3, nw_01]
    split
    · rename_i e
      subst e
      exact ⟨by omega, by omega, fun _ => ⟨hia, by omega, by omega⟩⟩
    · exact ⟨hS.1, hS.2.1, fun q => ⟨(hS.2.2 q).1, (hS.2.2 q).2.1, by have := (hS.2.2 q).2.2; omega⟩⟩
  · intro j hj
    rw [nw_1]
    split
    · exact Or.inr ⟨hlb.1, fun _ => hlb⟩
    · exact (hI.H j hj).imp (fun q => q) (fun q => ⟨hpr _ q.1, fun z => hlv _ (q.2 z)⟩)
  · intro c hc hpc j hj
    rw [nw_4] at hpc
    rw [nw_7]
    by_cases e : c = b
    · subst e
      rcases (show j = 0 ∨ j = 1 by omega) with rfl | rfl
      · rw [if_neg (by omega), if_pos (by omega)]; exact Or.inl rfl
      · rw [if_pos (by omega)]; exact Or.inl rfl
    · rw [if_neg e] at hpc
      rw [if_neg (by omega), if_neg (by omega)]
      exact (hI.N c hc hpc j hj).imp (fun q => q) (hpr _)
  · intro hm c hc hlc hnq hex j hj
    rw [nw_0 (by decide) (by decide)] at hm
    rw [nw_7]
    by_cases e : c = b
    · subst e
      rcases (show j = 0 ∨ j = 1 by omega) with rfl | rfl
      · rw [if_neg (by omega), if_pos (by omega)]; exact Or.inl rfl
      · rw [if_pos (by omega)]; exact Or.inl rfl
    · rw [if_neg (by omega), if_neg (by omega)]
      have hlc0 : liv w t c := by
        obtain ⟨⟨g1, g2, g3⟩, g4⟩ := hlc
        rw [nw_4, if_neg (by simpa using e)] at g3
        refine ⟨⟨g1, g2, g3⟩, fun q => ?_⟩
        have := g4 (by rw [nw_0 (by decide) (by decide)]; exact q)
        rw [nw_0 (by decide) (by decide), nw_6, if_neg (by simpa using e)] at this
        exact this
      have hnq0 : ¬ inQ w t c := by
        rintro ⟨z, z1, z2, z3⟩
        exact hnq ⟨z, by rw [nw_8]; exact z1, by rw [nw_8]; exact z2, by rw [nw_9]; exact z3⟩
      exact (hI.Bk hm c hc hlc0 hnq0 hex j hj).imp (fun q => q) (hlv _)
  · obtain ⟨q1, q2, q3, q4⟩ := hI.Q
    unfold IvQ
    simp only [nw_8, nw_9]
    exact ⟨q1, q2, q3, fun j j1 j2 => hlv _ (q4 j j1 j2)⟩
  · obtain ⟨e1, e2, e3, e4⟩ := hI.E
    have hm01 : m = 0 ∨ m = 1 := by rcases hF with q | q <;> omega
    unfold IvE
    rw [nw_8, nw_04, nw_0 (by decide) (by decide)]
    refine ⟨fun p hp => ?_, fun q => ?_, fun q p hp => ?_, fun c hc hpc => ?_⟩
    · rw [nw_6]
      split
      · exact hm01
      · exact e1 p hp
    · have hle : sm (fun p => w 6 t (200 + p)) 60 ≤ sm (fun p => nwW w t b s m tk h 6 t (200 + p)) 60 := sm_mono 60 (fun p hp => by
        show w 6 t (200 + p) ≤ nwW w t b s m tk h 6 t (200 + p)
        rw [nw_6]
        split
        · have := e1 p hp
          rcases hF with z | z <;> omega
        · exact Int.le_refl _)
      have := e2 q
      rcases hF with z | z <;> omega
    · rw [nw_6]
      split
      · rcases hF with z | z <;> omega
      · exact e3 q p hp
    · rw [nw_4] at hpc
      rw [nw_6]
      split
      · rename_i e
        rcases hF with z | z <;> omega
      · rename_i e
        rw [if_neg e] at hpc
        exact e4 c hc hpc
  · intro c hc hpc
    rw [nw_4] at hpc
    rw [nw_5, nw_0 (by decide) (by decide), nw_0 (by decide) (by decide)]
    by_cases e : c = b
    · exact Or.inl (if_pos e)
    · rw [if_neg e] at hpc ⊢
      exact (hI.T c hc hpc).imp (fun q => q) (fun q => ⟨q.1, q.2.1, hpr _ q.2.2.1, q.2.2.2⟩)
  · intro p hp hpp
    rw [nw_4] at hpp ⊢
    by_cases e : 200 + p = b
    · rw [if_pos e]
      rcases hF with z | z
      · omega
      · refine ⟨by omega, fun q q1 q2 => ?_⟩
        rw [nw_4, if_neg (by omega)]
        exact z.2.2.2.2.1 q (by omega) (by omega)
    · rw [if_neg e] at hpp ⊢
      obtain ⟨f1, f2⟩ := hI.F p hp hpp
      refine ⟨f1, fun q q1 q2 => ?_⟩
      rw [nw_4]
      by_cases e2 : 200 + q = b
      · exfalso
        rcases hF with z | z
        · omega
        · have := z.2.2.2.2.2 p (by omega) hpp
          omega
      · rw [if_neg e2]
        exact f2 q q1 q2
  · obtain ⟨r1, r2, r3⟩ := hI.R
    have hkp : kp (nwW w t b s m tk h) t = kp w t := by
      unfold kp
      rw [nw_0 (by decide) (by decide)]
      refine sm_congr 64 (fun p hp => ?_)
      show (if nwW w t b s m tk h 5 t ((100 - 100 * (w 0 t 3).toNat) + p) = 300 then nwW w t b s m tk h 4 t ((100 - 100 * (w 0 t 3).toNat) + p) else 0) = _
      rw [nw_5, nw_4]
      have e : (100 - 100 * (w 0 t 3).toNat) + p ≠ b := by omega
      simp only [if_neg e]
    unfold IvR
    rw [hkp, nw_04, nw_0 (by decide) (by decide), nw_0 (by decide) (by decide)]
    rcases hF with z | z
    · have hsm := sm_chg (f := fun p => nwW w t b s m tk h 4 t ((100 * (w 0 t 3).toNat) + p)) (g := fun p => w 4 t ((100 * (w 0 t 3).toNat) + p)) (k := (w 0 t 4).toNat) 64 (by omega) (fun i hi hne => by
        show nwW w t b s m tk h 4 t _ = _
        rw [nw_4, if_neg (by omega)])
      have e : (100 * (w 0 t 3).toNat) + (w 0 t 4).toNat = b := by omega
      simp only [e] at hsm
      rw [nw_4, if_pos rfl] at hsm
      have h0 := (hI.S b hb).1
      refine ⟨by omega, fun q => by have := z.2.2.2.2 q; omega, fun p hp hpp => ?_⟩
      rw [nw_4] at hpp ⊢
      split
      · omega
      · rename_i e2
        rw [if_neg e2] at hpp
        have := r3 p hp hpp
        omega
    · have e : ∀ p, p < 64 → nwW w t b s m tk h 4 t ((100 * (w 0 t 3).toNat) + p) = w 4 t ((100 * (w 0 t 3).toNat) + p) := fun p hp => by rw [nw_4, if_neg (by omega)]
      have htk2 := z.2.2.2.1
      clear z hfree hpr hlv hlb
      rw [sm_congr (g := fun p => w 4 t ((100 * (w 0 t 3).toNat) + p)) 64 e]
      refine ⟨by omega, fun q => by have := r2 q; omega, fun p hp hpp => ?_⟩
      rw [e p hp] at hpp ⊢
      have := r3 p hp hpp
      omega
  · intro q p hp
    rw [nw_0 (by decide) (by decide)] at q
    rw [nw_0 (by decide) (by decide), nw_4, if_neg (by omega)]
    exact hI.O q p hp
/-- the model's row with a new thing in cell c -/
def nv8 (v : Wd) (c : Nat) (s m tk ad : Int) (f h : Nat) : Wd := up (up (lays8 (up (up v 22 0 (17 + (v 22 0 0).toNat) s) 22 0 0 (v 22 0 0 + 1)) c (v 22 0 0) (-9) (-9) m) 22 0 (4 + f) tk) 22 0 (9 + h) ad
theorem Re.nwm (hR : Re w v t) (hI : Iv B 8 (-1) w t) (hF : Fit w t b s m tk) (hh : h < 8) : Re (nwW w t b s m tk h) (nv8 v (64 * (b / 100) + b % 100) s m tk b (w 0 t 3).toNat h) t := by
  obtain ⟨a0, a1, a2, a3, a4, a5, a6, a7, a8⟩ := hR.1
  have hA := hI.A
  unfold IvA at hA
  obtain ⟨q1, q2, q3, q4⟩ := hI.Q
  have hia := (hI.nwm hF hh).2
  have hb : b < 260 := by omega
  have hmd := hF.2.1
  have hs := hF.1
  obtain ⟨cb, hcb⟩ : ∃ n : Nat, n = (64 * (b / 100) + b % 100) := ⟨_, rfl⟩
  have hcb2 : cb < 188 := by omega
  obtain ⟨f, hf⟩ : ∃ n : Nat, n = (w 0 t 3).toNat := ⟨_, rfl⟩
  have hf2 : f < 2 := by omega
  obtain ⟨n, hn⟩ : ∃ n : Nat, n = (w 0 t 1).toNat := ⟨_, rfl⟩
  have hn2 : n < 40 := by omega
  rw [← hcb, ← hf]
  have R : ∀ j : Nat, nv8 v cb s m tk b f h 22 0 j = if j = 9 + h then (b : Int) else if j = 4 + f then tk else if j = 185 + 5 * cb + 4 then m else if j = 185 + 5 * cb + 3 then -9 else if j = 185 + 5 * cb + 2 then -9 else if j = 185 + 5 * cb + 1 then -9 else if j = 185 + 5 * cb then w 0 t 1 + 1 else if j = 0 then w 0 t 1 + 1 else if j = 17 + n then s else v 22 0 j := by
    intro j
    unfold nv8 lays8
    rw [a0, ← hn]
    simp only [up, true_and]
  have Rf : ∀ j : Nat, j ≠ 9 + h → j ≠ 4 + f → (j < 185 + 5 * cb ∨ 185 + 5 * cb + 4 < j) → j ≠ 0 → j ≠ 17 + n → nv8 v cb s m tk b f h 22 0 j = v 22 0 j := fun j h1 h2 h3 h4 h5 => by
    rw [R, if_neg h1, if_neg h2, if_neg (by omega), if_neg (by omega), if_neg (by omega), if_neg (by omega), if_neg (by omega), if_neg h4, if_neg h5]
  have R0 : nv8 v cb s m tk b f h 22 0 0 = w 0 t 1 + 1 := by
    rw [R, if_neg (by omega), if_neg (by omega), if_neg (by omega), if_neg (by omega), if_neg (by omega), if_neg (by omega), if_neg (by omega), if_pos rfl]
  have R4 : nv8 v cb s m tk b f h 22 0 (4 + f) = tk := by rw [R, if_neg (by omega), if_pos rfl]
  have Rn : nv8 v cb s m tk b f h 22 0 (17 + n) = s := by
    rw [R, if_neg (by omega), if_neg (by omega), if_neg (by omega), if_neg (by omega), if_neg (by omega), if_neg (by omega), if_neg (by omega), if_neg (by omega), if_pos rfl]
  have Rc : nv8 v cb s m tk b f h 22 0 (185 + 5 * cb) = w 0 t 1 + 1 ∧ nv8 v cb s m tk b f h 22 0 (185 + 5 * cb + 1) = -9 ∧ nv8 v cb s m tk b f h 22 0 (185 + 5 * cb + 2) = -9 ∧ nv8 v cb s m tk b f h 22 0 (185 + 5 * cb + 3) = -9 ∧ nv8 v cb s m tk b f h 22 0 (185 + 5 * cb + 4) = m := by
    refine ⟨?_, ?_, ?_, ?_, ?_⟩
    · rw [R, if_neg (by omega), if_neg (by omega), if_neg (by omega), if_neg (by omega), if_neg (by omega), if_neg (by omega), if_pos rfl]
    · rw [R, if_neg (by omega), if_neg (by omega), if_neg (by omega), if_neg (by omega), if_neg (by omega), if_pos rfl]
    · rw [R, if_neg (by omega), if_neg (by omega), if_neg (by omega), if_neg (by omega), if_pos rfl]
    · rw [R, if_neg (by omega), if_neg (by omega), if_neg (by omega), if_pos rfl]
    · rw [R, if_neg (by omega), if_neg (by omega), if_pos rfl]
  clear R
  refine ⟨?_, ?_, ?_, ?_, ?_⟩
  · unfold ReA
    rw [nw_01, nw_04]
    simp (disch := decide) only [nw_0, nw_8]
    rw [← hf, R0, R4, Rf 1 (by omega) (by omega) (by omega) (by omega) (by omega), Rf 2 (by omega) (by omega) (by omega) (by omega) (by omega), Rf 3 (by omega) (by omega) (by omega) (by omega) (by omega), Rf (5 - f) (by omega) (by omega) (by omega) (by omega) (by omega), Rf 6 (by omega) (by omega) (by omega) (by omega) (by omega), Rf 7 (by omega) (by omega) (by omega) (by omega) (by omega), Rf 8 (by omega) (by omega) (by omega) (by omega) (by omega)]
    rw [← hf] at a5
    exact ⟨rfl, a1, a2, a3, rfl, a5, a6, a7, a8⟩
  · intro j hj
    rw [nw_1]
    by_cases e : j = h
    · rw [if_pos e, e, nn_ne (by omega)]
      unfold nv8
      rw [up_h rfl]
    · rw [if_neg e, Rf _ (by omega) (by omega) (by omega) (by omega) (by omega)]
      exact hR.2.1 j hj
  · intro j hj
    rw [nw_8, nw_8] at hj
    rw [nw_8, nw_9, Rf _ (by omega) (by omega) (by omega) (by omega) (by omega)]
    exact hR.2.2.1 j hj
  · intro d hd
    rw [nw_4, nw_3]
    by_cases e : d = b
    · subst e
      rw [← hcb, Rc.1, if_pos rfl, if_pos rfl, if_pos (by omega)]
    · have hC := hR.2.2.2.1 d hd
      have hne : (64 * (d / 100) + d % 100) ≠ cb := by omega
      obtain ⟨cd, hcd⟩ : ∃ z : Nat, z = (64 * (d / 100) + d % 100) := ⟨_, rfl⟩
      rw [← hcd] at hne hC ⊢
      rw [if_neg e, if_neg e, Rf _ (by omega) (by omega) (by omega) (by omega) (by omega)]
      exact hC
  · intro d hd hpd
    rw [nw_4] at hpd
    rw [nw_4, nw_3, nw_7, nw_7, nw_5, nw_6]
    by_cases e : d = b
    · subst e
      rw [← hcb, Rc.2.1, Rc.2.2.1, Rc.2.2.2.1, Rc.2.2.2.2, if_pos rfl, if_pos rfl, if_neg (by omega), if_pos rfl, if_pos rfl, if_pos rfl, if_pos rfl, ← hn, Rn]
      exact ⟨rfl, rfl, rfl, rfl, rfl⟩
    · rw [if_neg e] at hpd
      have hD := hR.2.2.2.2 d hd hpd
      have hS2 := ((hI.S d (by omega)).2.2 hpd).2
      have hne : (64 * (d / 100) + d % 100) ≠ cb := by omega
      obtain ⟨cd, hcd⟩ : ∃ z : Nat, z = (64 * (d / 100) + d % 100) := ⟨_, rfl⟩
      rw [← hcd] at hne hD ⊢
      rw [if_neg e, if_neg e, if_neg (by omega), if_neg (by omega), if_neg (by omega), if_neg (by omega), if_neg e, if_neg e]
      rw [Rf _ (by omega) (by omega) (by omega) (by omega) (by omega), Rf _ (by omega) (by omega) (by omega) (by omega) (by omega), Rf _ (by omega) (by omega) (by omega) (by omega) (by omega), Rf _ (by omega) (by omega) (by omega) (by omega) (by omega), Rf _ (by omega) (by omega) (by omega) (by omega) (by omega)]
      exact hD
end MAKE
