/-! PURE: the law's rows, and what they have in common with a store of the class -/
def cl (u : Wd) (a : Nat) : Int := if a < 100 then u 34 0 a else if a < 200 then u 35 0 (a - 100) else u 36 0 (a - 200)
def pt (u : Wd) (a : Nat) (z : Int) : Wd := if a < 100 then up u 34 0 a z else if a < 200 then up u 35 0 (a - 100) z else up u 36 0 (a - 200) z
/-- only the law's rows change -/
def FU (u u1 : Wd) : Prop := ∀ c t i, c < 30 → u1 c t i = u c t i
section LW
variable {u u1 u2 : Wd} {a b i c t : Nat} {x z : Int}
theorem FU.rf : FU u u := fun _ _ _ _ => rfl
theorem FU.tr (h1 : FU u u1) (h2 : FU u1 u2) : FU u u2 := fun c t i h => (h2 c t i h).trans (h1 c t i h)
theorem FU.ups (h : FU u u1) (hc : 30 ≤ c) : FU u (up u1 c t i z) := fun c' t' i' h' => by
  rw [up_c (by omega)]
  exact h c' t' i' h'
theorem FU.pts (h : FU u u1) : FU u (pt u1 a z) := by
  unfold pt
  split
  · exact h.ups (by decide)
  split
  · exact h.ups (by decide)
  · exact h.ups (by decide)
theorem pt_o (h : c < 34) : pt u a z c t i = u c t i := by
  unfold pt
  split
  · exact up_c (by omega)
  split
  · exact up_c (by omega)
  · exact up_c (by omega)
theorem cl_up (h : c < 34) : cl (up u c t i z) a = cl u a := by
  unfold cl
  rw [up_c (by omega), up_c (by omega), up_c (by omega)]
theorem cl_pt (ha : (a < 64 ∨ (100 ≤ a ∧ a < 164) ∨ (200 ≤ a ∧ a < 260))) (hb : (b < 64 ∨ (100 ≤ b ∧ b < 164) ∨ (200 ≤ b ∧ b < 260))) : cl (pt u a z) b = if b = a then z else cl u b := by
  unfold cl pt
  by_cases h1 : a < 100
  · rw [if_pos h1]
    by_cases h2 : b < 100
    · rw [if_pos h2, if_pos h2]
      by_cases e : b = a
      · rw [if_pos e, up_h e]
      · rw [if_neg e, up_n e]
    · rw [if_neg h2, if_neg h2, if_neg (show ¬ b = a by omega), up_c (by decide), up_c (by decide)]
  · rw [if_neg h1]
    by_cases h3 : a < 200
    · rw [if_pos h3]
      by_cases h2 : b < 100
      · rw [if_pos h2, if_pos h2, if_neg (show ¬ b = a by omega), up_c (by decide)]
      · rw [if_neg h2, if_neg h2]
        by_cases h4 : b < 200
        · rw [if_pos h4, if_pos h4]
          by_cases e : b = a
          · rw [if_pos e, up_h (by omega)]
          · rw [if_neg e, up_n (by omega)]
        · rw [if_neg h4, if_neg h4, if_neg (show ¬ b = a by omega), up_c (by decide)]
    · rw [if_neg h3]
      by_cases h2 : b < 100
      · rw [if_pos h2, if_pos h2, if_neg (show ¬ b = a by omega), up_c (by decide)]
      · rw [if_neg h2, if_neg h2]
        by_cases h4 : b < 200
        · rw [if_pos h4, if_pos h4, if_neg (show ¬ b = a by omega), up_c (by decide)]
        · rw [if_neg h4, if_neg h4]
          by_cases e : b = a
          · rw [if_pos e, up_h (by omega)]
          · rw [if_neg e, up_n (by omega)]
theorem pt_f (ha : (a < 64 ∨ (100 ≤ a ∧ a < 164) ∨ (200 ≤ a ∧ a < 260))) (hb : 60 ≤ b) : pt u a z 36 0 b = u 36 0 b := by
  unfold pt
  split
  · exact up_c (by decide)
  split
  · exact up_c (by decide)
  · exact up_n (by omega)
theorem at_e (h0 : 0 ≤ x) (h : (x.toNat < 64 ∨ (100 ≤ x.toNat ∧ x.toNat < 164) ∨ (200 ≤ x.toNat ∧ x.toNat < 260))) : L_at x u = some (cl u x.toNat, u) := by
  unfold L_at cl
  by_cases h1 : x < 100
  · rw [if_pos h1, if_pos (show x.toNat < 100 by omega), gd_t ⟨by omega, by omega⟩]
  · rw [if_neg h1, if_neg (show ¬ x.toNat < 100 by omega)]
    by_cases h2 : x < 200
    · rw [if_pos h2, if_pos (show x.toNat < 200 by omega), gd_t ⟨by omega, by omega⟩, gd_t ⟨by omega, by omega⟩, show (x - 100).toNat = x.toNat - 100 by omega]
    · rw [if_neg h2, if_neg (show ¬ x.toNat < 200 by omega), gd_t ⟨by omega, by omega⟩, gd_t ⟨by omega, by omega⟩, show (x - 200).toNat = x.toNat - 200 by omega]
theorem puts_e (h0 : 0 ≤ x) (h : (x.toNat < 64 ∨ (100 ≤ x.toNat ∧ x.toNat < 164) ∨ (200 ≤ x.toNat ∧ x.toNat < 260))) : L_puts x z u = some (0, pt u x.toNat z) := by
  unfold L_puts pt
  by_cases h1 : x < 100
  · rw [if_pos h1, if_pos (show x.toNat < 100 by omega), gd_t ⟨by omega, by omega⟩]
  · rw [if_neg h1, if_neg (show ¬ x.toNat < 100 by omega)]
    by_cases h2 : x < 200
    · rw [if_pos h2, if_pos (show x.toNat < 200 by omega), gd_t ⟨by omega, by omega⟩, gd_t ⟨by omega, by omega⟩, show (x - 100).toNat = x.toNat - 100 by omega]
    · rw [if_neg h2, if_neg (show ¬ x.toNat < 200 by omega), gd_t ⟨by omega, by omega⟩, gd_t ⟨by omega, by omega⟩, show (x - 200).toNat = x.toNat - 200 by omega]
end LW
/-- what the law's cell at an address holds -/
def cv (g : Wd) (a : Nat) : Int := if 0 < g 4 0 a then pk (g 3 0 a) (nn (g 7 0 (2 * a))) (nn (g 7 0 (2 * a + 1))) (nn (g 5 0 a)) (g 6 0 a) else 0
def LbA (g u : Wd) : Prop := u 30 0 0 = g 0 0 1 ∧ u 30 0 1 = g 0 0 0 ∧ u 30 0 2 = g 0 0 2 ∧ u 30 0 3 = g 0 0 3 ∧ u 30 0 (4 + (g 0 0 3).toNat) = g 0 0 4 ∧ (g 0 0 2 = 0 → u 30 0 (5 - (g 0 0 3).toNat) = 0) ∧ u 30 0 6 = g 0 0 5 ∧ u 30 0 7 = g 0 0 6 ∧ u 30 0 8 = g 8 0 1 - g 8 0 0
def LbH (g u : Wd) : Prop := ∀ h : Nat, h < 8 → u 31 0 h = nn (g 1 0 h)
def LbQ (g u : Wd) : Prop := ∀ j : Nat, (j : Int) < g 8 0 1 - g 8 0 0 → u 33 0 j = g 9 0 ((g 8 0 0).toNat + j)
def LbC (g u : Wd) : Prop := (∀ a : Nat, (a < 64 ∨ (100 ≤ a ∧ a < 164) ∨ (200 ≤ a ∧ a < 260)) → cl u a = cv g a) ∧ ∀ k : Nat, 60 ≤ k → k < 64 → u 36 0 k = 0
def LbZ (g u : Wd) : Prop := ∀ a : Nat, (a < 64 ∨ (100 ≤ a ∧ a < 164) ∨ (200 ≤ a ∧ a < 260)) → 0 < g 4 0 a → u 32 0 (g 3 0 a).toNat = g 4 0 a
def Lb (g u : Wd) : Prop := LbA g u ∧ LbH g u ∧ LbQ g u ∧ LbC g u ∧ LbZ g u
section LB
variable {B : Int} {k : Nat} {ex : Int} {g u : Wd} {a i : Nat}
theorem nn_b {y : Int} (h : y = 300 ∨ prs g 0 y) : (-9 ≤ nn y ∧ nn y ≤ 500) ∧ (nn y < 0 ↔ y = 300) := by
  unfold nn
  rcases h with q | q
  · rw [if_pos q]
    exact ⟨by omega, ⟨fun _ => q, fun _ => by decide⟩⟩
  · have := q.lt
    rw [if_neg (by omega)]
    exact ⟨by omega, ⟨fun z => by omega, fun z => by omega⟩⟩
/-- a mark is 0 or 1 -/
theorem Iv.m01 (hI : Iv B k ex g 0) (ha : (a < 64 ∨ (100 ≤ a ∧ a < 164) ∨ (200 ≤ a ∧ a < 260))) (hp : 0 < g 4 0 a) : g 6 0 a = 0 ∨ g 6 0 a = 1 := by
  obtain ⟨e1, e2, e3, e4⟩ := hI.E
  by_cases h : a < 200
  · exact Or.inl (e4 a h hp)
  · have := e1 (a - 200) (by omega)
    rw [show 200 + (a - 200) = a by omega] at this
    exact this
theorem Iv.okp (hI : Iv B k ex g 0) (ha : (a < 64 ∨ (100 ≤ a ∧ a < 164) ∨ (200 ≤ a ∧ a < 260))) (hp : 0 < g 4 0 a) : okP (g 3 0 a) (nn (g 7 0 (2 * a))) (nn (g 7 0 (2 * a + 1))) (nn (g 5 0 a)) (g 6 0 a) := by
  have hA := hI.A
  unfold IvA at hA
  have hS := (hI.S a (by omega)).2.2 hp
  have hN0 := hI.N a (by omega) hp 0 (by decide)
  have hN1 := hI.N a (by omega) hp 1 (by decide)
  have hT := hI.T a (by omega) hp
  have hm := hI.m01 ha hp
  have n0 := (nn_b hN0).1
  have n1 := (nn_b hN1).1
  have n2 := (nn_b (g := g) (hT.imp (fun q => q) (fun q => q.2.2.1))).1
  exact ⟨by omega, n0, n1, n2, by omega⟩
theorem Lb.cp (hL : Lb g u) (ha : (a < 64 ∨ (100 ≤ a ∧ a < 164) ∨ (200 ≤ a ∧ a < 260))) (hp : 0 < g 4 0 a) : cl u a = pk (g 3 0 a) (nn (g 7 0 (2 * a))) (nn (g 7 0 (2 * a + 1))) (nn (g 5 0 a)) (g 6 0 a) := by
  rw [hL.2.2.2.1.1 a ha]
  unfold cv
  rw [if_pos hp]
theorem Lb.no (hL : Lb g u) (ha : (a < 64 ∨ (100 ≤ a ∧ a < 164) ∨ (200 ≤ a ∧ a < 260))) (hp : ¬ 0 < g 4 0 a) : cl u a = 0 := by
  rw [hL.2.2.2.1.1 a ha]
  unfold cv
  rw [if_neg hp]
/-- both worlds may be changed where the relation doesn't look -/
theorem Lb.cg {g1 u1 : Wd} (hL : Lb g u) (hI : Iv B k ex g 0) (hg : Ag g 0 g1 0) (hu : ∀ c i, 30 ≤ c → u1 c 0 i = u c 0 i) : Lb g1 u1 := by
  have hA := hI.A
  unfold IvA at hA
  obtain ⟨q1, q2, q3, q4⟩ := hI.Q
  have z := fun (i : Nat) (hi : i < 7) => hg.r0 hi
  have e8 := fun (i : Nat) (hi : i < 2) => hg.r8 hi
  have hcl : ∀ a, cl u1 a = cl u a := fun a => by unfold cl; rw [hu 34 _ (by decide), hu 35 _ (by decide), hu 36 _ (by decide)]
  refine ⟨?_, ?_, ?_, ?_, ?_⟩
  · unfold LbA
    rw [z 0 (by decide), z 1 (by decide), z 2 (by decide), z 3 (by decide), z 4 (by decide), z 5 (by decide), z 6 (by decide), e8 0 (by decide), e8 1 (by decide)]
    simp only [hu 30 _ (by decide)]
    exact hL.1
  · intro h hh
    rw [hu 31 _ (by decide), hg.r1 hh]
    exact hL.2.1 h hh
  · intro j hj
    rw [e8 0 (by decide), e8 1 (by decide)] at hj
    rw [hu 33 _ (by decide), e8 0 (by decide), hg.r9 (by omega)]
    exact hL.2.2.1 j hj
  · refine ⟨fun a ha => ?_, fun k h1 h2 => ?_⟩
    · rw [hcl, hL.2.2.2.1.1 a ha]
      unfold cv
      rw [hg.rc (c := 3) (by decide) (by omega), hg.rc (c := 4) (by decide) (by omega), hg.rc (c := 5) (by decide) (by omega), hg.rc (c := 6) (by decide) (by omega), hg.r7 (by omega), hg.r7 (by omega)]
    · rw [hu 36 _ (by decide)]
      exact hL.2.2.2.1.2 k h1 h2
  · intro a ha hp
    rw [hg.rc (c := 4) (by decide) (by omega)] at hp
    rw [hg.rc (c := 3) (by decide) (by omega), hg.rc (c := 4) (by decide) (by omega), hu 32 _ (by decide)]
    exact hL.2.2.2.2 a ha hp
/-- a name (0, 1) or the note (2) of a copy is made another -/
def nf (g : Wd) (a j : Nat) : Int := if j = 0 then g 7 0 (2 * a) else if j = 1 then g 7 0 (2 * a + 1) else g 5 0 a
def nfW (g : Wd) (a j : Nat) (r : Int) : Wd := if j = 0 then up g 7 0 (2 * a) r else if j = 1 then up g 7 0 (2 * a + 1) r else up g 5 0 a r
theorem nfW_0 {r : Int} : nfW g a 0 r = up g 7 0 (2 * a) r := rfl
theorem nfW_1 {r : Int} : nfW g a 1 r = up g 7 0 (2 * a + 1) r := rfl
theorem nfW_2 {r : Int} : nfW g a 2 r = up g 5 0 a r := rfl
theorem ren_e {x : Int} (hL : Lb g u) (hI : Iv B k ex g 0) (h0 : 0 ≤ x) (ha : (x.toNat < 64 ∨ (100 ≤ x.toNat ∧ x.toNat < 164) ∨ (200 ≤ x.toNat ∧ x.toNat < 260))) (hp : 0 < g 4 0 x.toNat) {j : Nat} (hj : j < 3) {r : Int} (hr : r = 300 ∨ prs g 0 r) : ∃ z : Int, L_renames x j (nn r) u = some (0, pt u x.toNat z) ∧ z = cv (nfW g x.toNat j r) x.toNat := by
  have ok := hI.okp ha hp
  have hc := hL.cp ha hp
  have hz := (nn_b hr).1
  obtain ⟨p0, p1, p2⟩ := name_p (w := u) ok
  obtain ⟨r0, r1, r2⟩ := ren_0 ok hz
  have hb := pk_b ok
  unfold okP at ok
  unfold L_renames
  rw [at_e h0 ha, bd_t, hc]
  rcases (show j = 0 ∨ j = 1 ∨ j = 2 by omega) with rfl | rfl | rfl
  · have hx : okP (g 3 0 x.toNat) (nn r) (nn (g 7 0 (2 * x.toNat + 1))) (nn (g 5 0 x.toNat)) (g 6 0 x.toNat) := ⟨ok.1, hz, ok.2.2.1, ok.2.2.2.1, ok.2.2.2.2⟩
    have hb2 := pk_b hx
    refine ⟨pk (g 3 0 x.toNat) (nn r) (nn (g 7 0 (2 * x.toNat + 1))) (nn (g 5 0 x.toNat)) (g 6 0 x.toNat), ?_, ?_⟩
    rotate_left
    · rw [nfW_0]
      unfold cv
      rw [up_c (show (4 : Nat) ≠ 7 by decide), if_pos hp, up_c (show (3 : Nat) ≠ 7 by decide), up_c (show (5 : Nat) ≠ 7 by decide), up_c (show (6 : Nat) ≠ 7 by decide), up_h rfl, up_n (by omega)]
    · rw [show ((0 : Nat) : Int) = 0 from rfl, p0, bd_t, gd_t ⟨by omega, by omega⟩, gd_t ⟨by decide, by decide⟩, gd_t ⟨by decide, by decide⟩, show (6 : Int) + 9 * 0 = 6 from rfl, r0, gd_t ⟨by omega, by omega⟩, puts_e h0 ha, bd_t]
  · have hx : okP (g 3 0 x.toNat) (nn (g 7 0 (2 * x.toNat))) (nn r) (nn (g 5 0 x.toNat)) (g 6 0 x.toNat) := ⟨ok.1, ok.2.1, hz, ok.2.2.2.1, ok.2.2.2.2⟩
    have hb2 := pk_b hx
    refine ⟨pk (g 3 0 x.toNat) (nn (g 7 0 (2 * x.toNat))) (nn r) (nn (g 5 0 x.toNat)) (g 6 0 x.toNat), ?_, ?_⟩
    rotate_left
    · rw [nfW_1]
      unfold cv
      rw [up_c (show (4 : Nat) ≠ 7 by decide), if_pos hp, up_c (show (3 : Nat) ≠ 7 by decide), up_c (show (5 : Nat) ≠ 7 by decide), up_c (show (6 : Nat) ≠ 7 by decide), up_h rfl, up_n (by omega)]
    · rw [show ((1 : Nat) : Int) = 1 from rfl, p1, bd_t, gd_t ⟨by omega, by omega⟩, gd_t ⟨by decide, by decide⟩, gd_t ⟨by decide, by decide⟩, show (6 : Int) + 9 * 1 = 15 from rfl, r1, gd_t ⟨by omega, by omega⟩, puts_e h0 ha, bd_t]
  · have hx : okP (g 3 0 x.toNat) (nn (g 7 0 (2 * x.toNat))) (nn (g 7 0 (2 * x.toNat + 1))) (nn r) (g 6 0 x.toNat) := ⟨ok.1, ok.2.1, ok.2.2.1, hz, ok.2.2.2.2⟩
    have hb2 := pk_b hx
    refine ⟨pk (g 3 0 x.toNat) (nn (g 7 0 (2 * x.toNat))) (nn (g 7 0 (2 * x.toNat + 1))) (nn r) (g 6 0 x.toNat), ?_, ?_⟩
    rotate_left
    · rw [nfW_2]
      unfold cv
      rw [up_c (show (4 : Nat) ≠ 5 by decide), if_pos hp, up_c (show (3 : Nat) ≠ 5 by decide), up_h rfl, up_c (show (6 : Nat) ≠ 5 by decide), up_c (show (7 : Nat) ≠ 5 by decide), up_c (show (7 : Nat) ≠ 5 by decide)]
    · rw [show ((2 : Nat) : Int) = 2 from rfl, p2, bd_t, gd_t ⟨by omega, by omega⟩, gd_t ⟨by decide, by decide⟩, gd_t ⟨by decide, by decide⟩, show (6 : Int) + 9 * 2 = 24 from rfl, r2, gd_t ⟨by omega, by omega⟩, puts_e h0 ha, bd_t]
/-- one cell changed on both sides -/
theorem Lb.cell {g1 : Wd} (hL : Lb g u) (ha : (a < 64 ∨ (100 ≤ a ∧ a < 164) ∨ (200 ≤ a ∧ a < 260))) (h0 : ∀ i, g1 0 0 i = g 0 0 i) (h1 : ∀ i, g1 1 0 i = g 1 0 i) (h8 : ∀ i, g1 8 0 i = g 8 0 i) (h9 : ∀ i, g1 9 0 i = g 9 0 i) (hc : ∀ b : Nat, (b < 64 ∨ (100 ≤ b ∧ b < 164) ∨ (200 ≤ b ∧ b < 260)) → b ≠ a → g1 3 0 b = g 3 0 b ∧ g1 4 0 b = g 4 0 b ∧ g1 5 0 b = g 5 0 b ∧ g1 6 0 b = g 6 0 b ∧ g1 7 0 (2 * b) = g 7 0 (2 * b) ∧ g1 7 0 (2 * b + 1) = g 7 0 (2 * b + 1)) (hz : 0 < g1 4 0 a → u 32 0 (g1 3 0 a).toNat = g1 4 0 a) : Lb g1 (pt u a (cv g1 a)) := by
  refine ⟨?_, ?_, ?_, ?_, ?_⟩
  · unfold LbA
    simp only [h0, h8, pt_o (show (30 : Nat) < 34 by decide)]
    exact hL.1
  · intro h hh
    rw [h1, pt_o (by decide)]
    exact hL.2.1 h hh
  · intro j hj
    rw [h8, h8] at hj
    rw [h8, h9, pt_o (by decide)]
    exact hL.2.2.1 j hj
  · refine ⟨fun b hb => ?_, fun k k1 k2 => ?_⟩
    · rw [cl_pt ha hb]
      by_cases e : b = a
      · rw [if_pos e, e]
      · rw [if_neg e, hL.2.2.2.1.1 b hb]
        obtain ⟨z1, z2, z3, z4, z5, z6⟩ := hc b hb e
        unfold cv
        rw [z1, z2, z3, z4, z5, z6]
    · rw [pt_f ha k1]
      exact hL.2.2.2.1.2 k k1 k2
  · intro b hb hp
    rw [pt_o (by decide)]
    by_cases e : b = a
    · rw [e] at hp ⊢
      exact hz hp
    · obtain ⟨z1, z2, -⟩ := hc b hb e
      rw [z2] at hp
      rw [z1, z2]
      exact hL.2.2.2.2 b hb hp
theorem Lb.nf (hL : Lb g u) (hp : 0 < g 4 0 a) (ha : (a < 64 ∨ (100 ≤ a ∧ a < 164) ∨ (200 ≤ a ∧ a < 260))) {j : Nat} (hj : j < 3) {r : Int} : Lb (nfW g a j r) (pt u a (cv (nfW g a j r) a)) := by
  have o : ∀ c i, c ≠ 7 → c ≠ 5 → nfW g a j r c 0 i = g c 0 i := fun c i h7 h5 => by
    unfold nfW
    split
    · exact up_c h7
    split
    · exact up_c h7
    · exact up_c h5
  refine hL.cell ha (fun i => o 0 i (by decide) (by decide)) (fun i => o 1 i (by decide) (by decide)) (fun i => o 8 i (by decide) (by decide)) (fun i => o 9 i (by decide) (by decide)) (fun b hb hne => ?_) (fun _ => ?_)
  · refine ⟨o 3 b (by decide) (by decide), o 4 b (by decide) (by decide), ?_, o 6 b (by decide) (by decide), ?_, ?_⟩
    · unfold nfW
      split
      · exact up_c (by decide)
      split
      · exact up_c (by decide)
      · exact up_n hne
    · unfold nfW
      split
      · exact up_n (by omega)
      split
      · exact up_n (by omega)
      · exact up_c (by decide)
    · unfold nfW
      split
      · exact up_n (by omega)
      split
      · exact up_n (by omega)
      · exact up_c (by decide)
  · rw [o 3 a (by decide) (by decide), o 4 a (by decide) (by decide)]
    exact hL.2.2.2.2 a ha hp
theorem Lb.hw (hL : Lb g u) {j : Nat} (hj : j < 8) {r : Int} : Lb (up g 1 0 j r) (up u 31 0 j (nn r)) := by
  refine ⟨?_, ?_, ?_, ?_, ?_⟩
  · unfold LbA
    simp only [up_c (show (0 : Nat) ≠ 1 by decide), up_c (show (8 : Nat) ≠ 1 by decide), up_c (show (30 : Nat) ≠ 31 by decide)]
    exact hL.1
  · intro h hh
    by_cases e : h = j
    · rw [up_h e, up_h e]
    · rw [up_n e, up_n e]
      exact hL.2.1 h hh
  · intro z hz
    simp only [up_c (show (8 : Nat) ≠ 1 by decide), up_c (show (9 : Nat) ≠ 1 by decide), up_c (show (33 : Nat) ≠ 31 by decide)] at hz ⊢
    exact hL.2.2.1 z hz
  · refine ⟨fun b hb => ?_, fun k k1 k2 => ?_⟩
    · rw [cl_up (by decide), hL.2.2.2.1.1 b hb]
      unfold cv
      simp only [up_c (show (3 : Nat) ≠ 1 by decide), up_c (show (4 : Nat) ≠ 1 by decide), up_c (show (5 : Nat) ≠ 1 by decide), up_c (show (6 : Nat) ≠ 1 by decide), up_c (show (7 : Nat) ≠ 1 by decide)]
    · rw [up_c (by decide)]
      exact hL.2.2.2.1.2 k k1 k2
  · intro b hb hp
    rw [up_c (by decide)] at hp
    rw [up_c (by decide), up_c (by decide), up_c (by decide)]
    exact hL.2.2.2.2 b hb hp
end LB
