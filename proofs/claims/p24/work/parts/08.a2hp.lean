/-! THE BEGINNING: the world out of the constructors' cells -/
def off5 (c : Nat) : Nat := if c = 0 then 0 else if c = 1 then 9 else if c = 2 then 1 else if c = 3 then 2 else if c = 4 then 3 else if c = 5 then 5 else if c = 6 then 4 else if c = 7 then 6 else if c = 8 then 7 else 8
/-- the place of an object in the list -/
def pl (c t : Nat) : Nat := if c < 10 then (if t < 2 then 1 + 10 * t + off5 c else 23 + 10 * (t - 2) + off5 c) else if c = 10 then 0 else if c = 11 then 21 else if c = 12 then 22 else if c < 21 then 70 + c else 61 + c
def gm (ws : va_W) (c t : Nat) : Nat := ((ws[pl c t]?).map (fun x => x.1)).getD 0
theorem pl_lt : ∀ c, c < 37 → ∀ t, t < 8 → okc c t → pl c t < 98 := by decide +kernel
def cof (k : Nat) : Nat := if k = 0 then 0 else if k = 1 then 2 else if k = 2 then 3 else if k = 3 then 4 else if k = 4 then 6 else if k = 5 then 5 else if k = 6 then 7 else if k = 7 then 8 else if k = 8 then 9 else 1
def plv (k : Nat) : Nat × Nat := if k = 0 then (10, 0) else if k < 21 then (cof ((k - 1) % 10), (k - 1) / 10) else if k = 21 then (11, 0) else if k = 22 then (12, 0) else if k < 83 then (cof ((k - 23) % 10), (k - 23) / 10 + 2) else if k < 91 then (k - 70, 0) else (k - 61, 0)
theorem plv_pl : ∀ c, c < 37 → ∀ t, t < 8 → okc c t → plv (pl c t) = (c, t) := by decide +kernel
theorem pl_inj (c : Nat) (hc : c < 37) (t : Nat) (ht : t < 8) (ok : okc c t) (c' : Nat) (hc' : c' < 37) (t' : Nat) (ht' : t' < 8) (ok' : okc c' t') (e : pl c t = pl c' t') : c = c' ∧ t = t' := by
  have h1 := plv_pl c hc t ht ok
  have h2 := plv_pl c' hc' t' ht' ok'
  rw [e, h2] at h1
  exact ⟨(Prod.mk.inj h1).1.symm, (Prod.mk.inj h1).2.symm⟩
abbrev tAll (kI kZ cS kL : ClassId) (h0 : Nat) (x0 : Nat) (v0 : (Nat × Nat × Nat × Nat × Nat × Nat × Nat × Nat × Nat)) (x1 : Nat) (v1 : (Nat × Nat × Nat × Nat × Nat × Nat × Nat × Nat × Nat)) (x2 : Nat) (y2 : Nat) (s0 : Nat) (u0 : (Nat × Nat × Nat × Nat × Nat × Nat × Nat × Nat × Nat)) (s1 : Nat) (u1 : (Nat × Nat × Nat × Nat × Nat × Nat × Nat × Nat × Nat)) (s2 : Nat) (u2 : (Nat × Nat × Nat × Nat × Nat × Nat × Nat × Nat × Nat)) (s3 : Nat) (u3 : (Nat × Nat × Nat × Nat × Nat × Nat × Nat × Nat × Nat)) (s4 : Nat) (u4 : (Nat × Nat × Nat × Nat × Nat × Nat × Nat × Nat × Nat)) (s5 : Nat) (u5 : (Nat × Nat × Nat × Nat × Nat × Nat × Nat × Nat × Nat)) (x3 : Nat) (v3 : (Nat × Nat × Nat)) (x4 : Nat) (v4 : Nat) (x5 : Nat) (v5 : Nat) (m0 : Nat) (m1 : Nat) (m2 : Nat) (m3 : Nat) (m4 : Nat) (m5 : Nat) (m6 : Nat) : va_W := tX7 kI kZ cS h0 x0 v0 x1 v1 x2 y2 s0 u0 s1 u1 s2 u2 s3 u3 s4 u4 s5 u5 x3 v3 x4 v4 x5 v5 ++ tR kI kL m0 m1 m2 m3 m4 m5 m6
set_option maxHeartbeats 8000000 in
set_option maxRecDepth 100000 in
theorem hp_start {D : va_G} {kI kZ cS kL : ClassId} {A : Nat → Prop} {H : Heap} (h0 : Nat) (x0 : Nat) (v0 : (Nat × Nat × Nat × Nat × Nat × Nat × Nat × Nat × Nat)) (x1 : Nat) (v1 : (Nat × Nat × Nat × Nat × Nat × Nat × Nat × Nat × Nat)) (x2 : Nat) (y2 : Nat) (s0 : Nat) (u0 : (Nat × Nat × Nat × Nat × Nat × Nat × Nat × Nat × Nat)) (s1 : Nat) (u1 : (Nat × Nat × Nat × Nat × Nat × Nat × Nat × Nat × Nat)) (s2 : Nat) (u2 : (Nat × Nat × Nat × Nat × Nat × Nat × Nat × Nat × Nat)) (s3 : Nat) (u3 : (Nat × Nat × Nat × Nat × Nat × Nat × Nat × Nat × Nat)) (s4 : Nat) (u4 : (Nat × Nat × Nat × Nat × Nat × Nat × Nat × Nat × Nat)) (s5 : Nat) (u5 : (Nat × Nat × Nat × Nat × Nat × Nat × Nat × Nat × Nat)) (x3 : Nat) (v3 : (Nat × Nat × Nat)) (x4 : Nat) (v4 : Nat) (x5 : Nat) (v5 : Nat) (m0 : Nat) (m1 : Nat) (m2 : Nat) (m3 : Nat) (m4 : Nat) (m5 : Nat) (m6 : Nat) (hP : va_P D vwCl (tAll kI kZ cS kL h0 x0 v0 x1 v1 x2 y2 s0 u0 s1 u1 s2 u2 s3 u3 s4 u4 s5 u5 x3 v3 x4 v4 x5 v5 m0 m1 m2 m3 m4 m5 m6) H) (hD : va_D A (tAll kI kZ cS kL h0 x0 v0 x1 v1 x2 y2 s0 u0 s1 u1 s2 u2 s3 u3 s4 u4 s5 u5 x3 v3 x4 v4 x5 v5 m0 m1 m2 m3 m4 m5 m6)) : HP (gm (tAll kI kZ cS kL h0 x0 v0 x1 v1 x2 y2 s0 u0 s1 u1 s2 u2 s3 u3 s4 u4 s5 u5 x3 v3 x4 v4 x5 v5 m0 m1 m2 m3 m4 m5 m6), D, kI, kZ, cS, kL) wd0 H := by
  have hlen : (tAll kI kZ cS kL h0 x0 v0 x1 v1 x2 y2 s0 u0 s1 u1 s2 u2 s3 u3 s4 u4 s5 u5 x3 v3 x4 v4 x5 v5 m0 m1 m2 m3 m4 m5 m6).length = 98 := rfl
  refine ⟨?_, ?_, wd0_inc⟩
  · intro c t c' t' ok ok' e
    have l1 : pl c t < (tAll kI kZ cS kL h0 x0 v0 x1 v1 x2 y2 s0 u0 s1 u1 s2 u2 s3 u3 s4 u4 s5 u5 x3 v3 x4 v4 x5 v5 m0 m1 m2 m3 m4 m5 m6).length := by rw [hlen]; exact pl_lt c (by omega) t (by omega) ok
    have l2 : pl c' t' < (tAll kI kZ cS kL h0 x0 v0 x1 v1 x2 y2 s0 u0 s1 u1 s2 u2 s3 u3 s4 u4 s5 u5 x3 v3 x4 v4 x5 v5 m0 m1 m2 m3 m4 m5 m6).length := by rw [hlen]; exact pl_lt c' (by omega) t' (by omega) ok'
    have g1 := List.getElem?_eq_getElem l1
    have g2 := List.getElem?_eq_getElem l2
    have e' : gm (tAll kI kZ cS kL h0 x0 v0 x1 v1 x2 y2 s0 u0 s1 u1 s2 u2 s3 u3 s4 u4 s5 u5 x3 v3 x4 v4 x5 v5 m0 m1 m2 m3 m4 m5 m6) c t = gm (tAll kI kZ cS kL h0 x0 v0 x1 v1 x2 y2 s0 u0 s1 u1 s2 u2 s3 u3 s4 u4 s5 u5 x3 v3 x4 v4 x5 v5 m0 m1 m2 m3 m4 m5 m6) c' t' := e
    unfold gm at e'
    rw [g1, g2] at e'
    exact pl_inj c (by omega) t (by omega) ok c' (by omega) t' (by omega) ok' (hD.1 _ _ _ _ g1 g2 e')
  · intro c t ok
    by_cases hc : c < 10
    · rcases (show t = 0 ∨ t = 1 ∨ t = 2 ∨ t = 3 ∨ t = 4 ∨ t = 5 ∨ t = 6 ∨ t = 7 by omega) with rfl | rfl | rfl | rfl | rfl | rfl | rfl | rfl
      · have B := hP.sub (ws' := tX5 kI x0 v0.1 v0.2.1 v0.2.2.1 v0.2.2.2.1 v0.2.2.2.2.1 v0.2.2.2.2.2.1 v0.2.2.2.2.2.2.1 v0.2.2.2.2.2.2.2.1 v0.2.2.2.2.2.2.2.2) [1, 2, 3, 4, 5, 6, 7, 8, 9, 10] rfl
        exact at_sto (G := (gm (tAll kI kZ cS kL h0 x0 v0 x1 v1 x2 y2 s0 u0 s1 u1 s2 u2 s3 u3 s4 u4 s5 u5 x3 v3 x4 v4 x5 v5 m0 m1 m2 m3 m4 m5 m6), D, kI, kZ, cS, kL)) (t := 0) B rfl rfl rfl rfl rfl rfl rfl rfl rfl rfl c hc
      · have B := hP.sub (ws' := tX5 kI x1 v1.1 v1.2.1 v1.2.2.1 v1.2.2.2.1 v1.2.2.2.2.1 v1.2.2.2.2.2.1 v1.2.2.2.2.2.2.1 v1.2.2.2.2.2.2.2.1 v1.2.2.2.2.2.2.2.2) [11, 12, 13, 14, 15, 16, 17, 18, 19, 20] rfl
        exact at_sto (G := (gm (tAll kI kZ cS kL h0 x0 v0 x1 v1 x2 y2 s0 u0 s1 u1 s2 u2 s3 u3 s4 u4 s5 u5 x3 v3 x4 v4 x5 v5 m0 m1 m2 m3 m4 m5 m6), D, kI, kZ, cS, kL)) (t := 1) B rfl rfl rfl rfl rfl rfl rfl rfl rfl rfl c hc
      · have B := hP.sub (ws' := tX5 kI s0 u0.1 u0.2.1 u0.2.2.1 u0.2.2.2.1 u0.2.2.2.2.1 u0.2.2.2.2.2.1 u0.2.2.2.2.2.2.1 u0.2.2.2.2.2.2.2.1 u0.2.2.2.2.2.2.2.2) [23, 24, 25, 26, 27, 28, 29, 30, 31, 32] rfl
        exact at_sto (G := (gm (tAll kI kZ cS kL h0 x0 v0 x1 v1 x2 y2 s0 u0 s1 u1 s2 u2 s3 u3 s4 u4 s5 u5 x3 v3 x4 v4 x5 v5 m0 m1 m2 m3 m4 m5 m6), D, kI, kZ, cS, kL)) (t := 2) B rfl rfl rfl rfl rfl rfl rfl rfl rfl rfl c hc
      · have B := hP.sub (ws' := tX5 kI s1 u1.1 u1.2.1 u1.2.2.1 u1.2.2.2.1 u1.2.2.2.2.1 u1.2.2.2.2.2.1 u1.2.2.2.2.2.2.1 u1.2.2.2.2.2.2.2.1 u1.2.2.2.2.2.2.2.2) [33, 34, 35, 36, 37, 38, 39, 40, 41, 42] rfl
        exact at_sto (G := (gm (tAll kI kZ cS kL h0 x0 v0 x1 v1 x2 y2 s0 u0 s1 u1 s2 u2 s3 u3 s4 u4 s5 u5 x3 v3 x4 v4 x5 v5 m0 m1 m2 m3 m4 m5 m6), D, kI, kZ, cS, kL)) (t := 3) B rfl rfl rfl rfl rfl rfl rfl rfl rfl rfl c hc
      · have B := hP.sub (ws' := tX5 kI s2 u2.1 u2.2.1 u2.2.2.1 u2.2.2.2.1 u2.2.2.2.2.1 u2.2.2.2.2.2.1 u2.2.2.2.2.2.2.1 u2.2.2.2.2.2.2.2.1 u2.2.2.2.2.2.2.2.2) [43, 44, 45, 46, 47, 48, 49, 50, 51, 52] rfl
        exact at_sto (G := (gm (tAll kI kZ cS kL h0 x0 v0 x1 v1 x2 y2 s0 u0 s1 u1 s2 u2 s3 u3 s4 u4 s5 u5 x3 v3 x4 v4 x5 v5 m0 m1 m2 m3 m4 m5 m6), D, kI, kZ, cS, kL)) (t := 4) B rfl rfl rfl rfl rfl rfl rfl rfl rfl rfl c hc
      · have B := hP.sub (ws' := tX5 kI s3 u3.1 u3.2.1 u3.2.2.1 u3.2.2.2.1 u3.2.2.2.2.1 u3.2.2.2.2.2.1 u3.2.2.2.2.2.2.1 u3.2.2.2.2.2.2.2.1 u3.2.2.2.2.2.2.2.2) [53, 54, 55, 56, 57, 58, 59, 60, 61, 62] rfl
        exact at_sto (G := (gm (tAll kI kZ cS kL h0 x0 v0 x1 v1 x2 y2 s0 u0 s1 u1 s2 u2 s3 u3 s4 u4 s5 u5 x3 v3 x4 v4 x5 v5 m0 m1 m2 m3 m4 m5 m6), D, kI, kZ, cS, kL)) (t := 5) B rfl rfl rfl rfl rfl rfl rfl rfl rfl rfl c hc
      · have B := hP.sub (ws' := tX5 kI s4 u4.1 u4.2.1 u4.2.2.1 u4.2.2.2.1 u4.2.2.2.2.1 u4.2.2.2.2.2.1 u4.2.2.2.2.2.2.1 u4.2.2.2.2.2.2.2.1 u4.2.2.2.2.2.2.2.2) [63, 64, 65, 66, 67, 68, 69, 70, 71, 72] rfl
        exact at_sto (G := (gm (tAll kI kZ cS kL h0 x0 v0 x1 v1 x2 y2 s0 u0 s1 u1 s2 u2 s3 u3 s4 u4 s5 u5 x3 v3 x4 v4 x5 v5 m0 m1 m2 m3 m4 m5 m6), D, kI, kZ, cS, kL)) (t := 6) B rfl rfl rfl rfl rfl rfl rfl rfl rfl rfl c hc
      · have B := hP.sub (ws' := tX5 kI s5 u5.1 u5.2.1 u5.2.2.1 u5.2.2.2.1 u5.2.2.2.2.1 u5.2.2.2.2.2.1 u5.2.2.2.2.2.2.1 u5.2.2.2.2.2.2.2.1 u5.2.2.2.2.2.2.2.2) [73, 74, 75, 76, 77, 78, 79, 80, 81, 82] rfl
        exact at_sto (G := (gm (tAll kI kZ cS kL h0 x0 v0 x1 v1 x2 y2 s0 u0 s1 u1 s2 u2 s3 u3 s4 u4 s5 u5 x3 v3 x4 v4 x5 v5 m0 m1 m2 m3 m4 m5 m6), D, kI, kZ, cS, kL)) (t := 7) B rfl rfl rfl rfl rfl rfl rfl rfl rfl rfl c hc
    · have ht : t = 0 := by omega
      subst ht
      by_cases hm : 30 ≤ c
      · have B := hP.sub (ws' := tR kI kL m0 m1 m2 m3 m4 m5 m6) [91, 92, 93, 94, 95, 96, 97] rfl
        exact at_row (G := (gm (tAll kI kZ cS kL h0 x0 v0 x1 v1 x2 y2 s0 u0 s1 u1 s2 u2 s3 u3 s4 u4 s5 u5 x3 v3 x4 v4 x5 v5 m0 m1 m2 m3 m4 m5 m6), D, kI, kZ, cS, kL)) B rfl rfl rfl rfl rfl rfl rfl c hm (by omega)
      · rcases (show c = 10 ∨ c = 11 ∨ c = 12 ∨ c = 13 ∨ c = 14 ∨ c = 15 ∨ c = 16 ∨ c = 17 ∨ c = 18 ∨ c = 19 ∨ c = 20 by omega) with rfl | rfl | rfl | rfl | rfl | rfl | rfl | rfl | rfl | rfl | rfl
        · exact hP 0 _ rfl
        · exact hP 21 _ rfl
        · have B := hP 22 _ rfl
          show H[_]? = some (vp_cell cS (6, .inr (.inr (.inr (.inr _)))))
          rw [← arr_cgq (f := va_up (va_up (va_up (va_up (va_up (va_up (fun _ => none) (0 : Int32).toNatClampNeg (some s0)) (1 : Int32).toNatClampNeg (some s1)) (2 : Int32).toNatClampNeg (some s2)) (3 : Int32).toNatClampNeg (some s3)) (4 : Int32).toNatClampNeg (some s4)) (5 : Int32).toNatClampNeg (some s5)) (fun j hj => by rcases (show j = 0 ∨ j = 1 ∨ j = 2 ∨ j = 3 ∨ j = 4 ∨ j = 5 by omega) with rfl | rfl | rfl | rfl | rfl | rfl <;> rfl)]
          exact B
        · exact hP 83 _ rfl
        · exact at_i (hP 84 _ rfl) (fun j hj => rfl)
        · exact at_i (hP 85 _ rfl) (fun j hj => rfl)
        · exact at_i (hP 86 _ rfl) (fun j hj => rfl)
        · exact hP 87 _ rfl
        · exact at_i (hP 88 _ rfl) (fun j hj => rfl)
        · exact hP 89 _ rfl
        · exact at_i (hP 90 _ rfl) (fun j hj => rfl)
