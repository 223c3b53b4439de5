/-! PURE: how many wait -/
def fP (g : Wd) (a : Nat) : Int := if 0 < g 4 0 a ∧ g 5 0 a = 300 then 1 else 0
def fL (g : Wd) (a : Nat) : Int := if 0 < g 4 0 a ∧ g 5 0 a = 300 ∧ ¬ (100 * (1 - g 0 0 3) ≤ ((a : Int)) ∧ ((a : Int)) < 100 * (1 - g 0 0 3) + 64) ∧ (200 ≤ a → g 6 0 a = 1) then 1 else 0
/-- copies without a note; those of them that lie where they stay -/
def Phi (g : Wd) : Int := sm (fP g) 260
def Pm (g : Wd) : Int := sm (fL g) 260
def Wt (g : Wd) : Int := g 8 0 1 - g 8 0 0
section CNT
variable {B : Int} {k : Nat} {ex : Int} {g g1 u : Wd} {a i : Nat}
theorem fL_le (a : Nat) : 0 ≤ fL g a ∧ fL g a ≤ fP g a := by
  unfold fL fP
  by_cases h : 0 < g 4 0 a ∧ g 5 0 a = 300
  · rw [if_pos h]
    split <;> omega
  · rw [if_neg h, if_neg (fun q => h ⟨q.1, q.2.1⟩)]
    omega
theorem fP_01 (a : Nat) : 0 ≤ fP g a ∧ fP g a ≤ 1 := by
  unfold fP
  split <;> omega
theorem Pm_le : 0 ≤ Pm g ∧ Pm g ≤ Phi g := ⟨sm_nonneg 260 (fun i _ => (fL_le i).1), sm_mono 260 (fun i _ => (fL_le i).2)⟩
theorem Phi_cg (h : ∀ a, a < 260 → g1 4 0 a = g 4 0 a ∧ g1 5 0 a = g 5 0 a) : Phi g1 = Phi g := sm_congr 260 (fun i hi => by
  unfold fP
  rw [(h i hi).1, (h i hi).2])
theorem Pm_cg (h : ∀ a, a < 260 → g1 4 0 a = g 4 0 a ∧ g1 5 0 a = g 5 0 a ∧ g1 6 0 a = g 6 0 a) (h3 : g1 0 0 3 = g 0 0 3) : Pm g1 = Pm g := sm_congr 260 (fun i hi => by
  unfold fL
  rw [(h i hi).1, (h i hi).2.1, (h i hi).2.2, h3])
/-- one more that isn't read yet -/
theorem Pm_lt (ha : a < 260) (hp : 0 < g 4 0 a ∧ g 5 0 a = 300) (h0 : fL g a = 0) : Pm g + 1 ≤ Phi g := by
  have h1 := sm_chg (f := fun i => if i = a then 1 else fL g i) (g := fL g) (k := a) 260 ha (fun i _ hne => if_neg hne)
  have h2 : sm (fun i => if i = a then 1 else fL g i) 260 ≤ sm (fP g) 260 := sm_mono 260 (fun i _ => by
    show (if i = a then 1 else fL g i) ≤ fP g i
    by_cases e : i = a
    · rw [if_pos e, e]
      unfold fP
      rw [if_pos hp]
      decide
    · rw [if_neg e]
      exact (fL_le i).2)
  simp only [if_true] at h1
  unfold Pm Phi
  omega
theorem cnt_car (hI : Iv B k ex g 0) (hm : g 0 0 2 = 1) {x : Int} (hp : prs g 0 x) (ho : (100 * (1 - g 0 0 3) ≤ x ∧ x < 100 * (1 - g 0 0 3) + 64)) (hn : g 5 0 x.toNat = 300) : Phi (carW g 0 x.toNat) = Phi g ∧ Pm (carW g 0 x.toNat) = Pm g + 1 ∧ Pm g + 1 ≤ Phi g := by
  have hA := hI.A
  unfold IvA at hA
  obtain ⟨c1, c2, c3, c4, c5⟩ := hI.car_ok hm hp ho hn
  obtain ⟨b0, b1, b2, b3, b4⟩ := hI.nb_in c2
  have hb4 : nb g 0 = 100 * g 0 0 3 + g 0 0 4 := rfl
  have hl := hp.lt
  have hne : x.toNat ≠ (nb g 0).toNat := by omega
  have hno : ¬ 0 < g 4 0 (nb g 0).toNat := fun q => hI.nb_free c2 ⟨b0, b3, q⟩ rfl
  have pN : fP g (nb g 0).toNat = 0 := if_neg (fun q => hno q.1)
  have pN1 : fP (carW g 0 x.toNat) (nb g 0).toNat = 1 := by
    unfold fP
    rw [car_4, car_5, if_pos rfl, if_neg (Ne.symm hne), if_pos rfl, if_pos ⟨c3, rfl⟩]
  have pX : fP g x.toNat = 1 := if_pos ⟨c3, hn⟩
  have pX1 : fP (carW g 0 x.toNat) x.toNat = 0 := by
    unfold fP
    rw [car_5, if_pos rfl, if_neg (fun q => by have := q.2; omega)]
  have lN : fL g (nb g 0).toNat = 0 := if_neg (fun q => hno q.1)
  have lN1 : fL (carW g 0 x.toNat) (nb g 0).toNat = 1 := by
    unfold fL
    rw [car_4, car_5, if_pos rfl, if_neg (Ne.symm hne), if_pos rfl, car_0 (by decide), if_pos ⟨c3, rfl, by omega, fun q => by omega⟩]
  have lX : fL g x.toNat = 0 := if_neg (fun q => q.2.2.1 (by omega))
  refine ⟨?_, ?_, Pm_lt (by omega) ⟨c3, hn⟩ lX⟩
  · have h1 := sm_chg (f := fP (carW g 0 x.toNat)) (g := fun i => if i = (nb g 0).toNat then 0 else fP (carW g 0 x.toNat) i) (k := (nb g 0).toNat) 260 (by omega) (fun i _ hne => (if_neg hne).symm)
    have h2 := sm_chg (f := fun i => if i = (nb g 0).toNat then 0 else fP (carW g 0 x.toNat) i) (g := fP g) (k := x.toNat) 260 (by omega) (fun i _ hnx => by
      show (if i = (nb g 0).toNat then 0 else fP (carW g 0 x.toNat) i) = fP g i
      by_cases e : i = (nb g 0).toNat
      · rw [if_pos e, e, pN]
      · rw [if_neg e]
        unfold fP
        rw [car_4, car_5, if_neg e, if_neg hnx, if_neg e])
    simp only [if_true, if_neg hne] at h1 h2
    unfold Phi
    omega
  · have h1 := sm_chg (f := fL (carW g 0 x.toNat)) (g := fL g) (k := (nb g 0).toNat) 260 (by omega) (fun i _ hni => by
      by_cases e : i = x.toNat
      · rw [e, lX]
        unfold fL
        rw [car_5, if_pos rfl, if_neg (fun q => by have := q.2.1; omega)]
      · unfold fL
        rw [car_4, car_5, car_6, if_neg hni, if_neg e, if_neg hni, if_neg hni, car_0 (by decide)])
    unfold Pm
    omega
theorem cnt_mk (hI : Iv B k ex g 0) {x : Int} (hp : prs g 0 x) (h2 : 200 ≤ x) (hz : g 6 0 x.toNat ≠ 1) : Phi (mkW g 0 x.toNat) = Phi g ∧ Pm (mkW g 0 x.toNat) = Pm g + 1 ∧ Pm g + 1 ≤ Phi g := by
  have hA := hI.A
  unfold IvA at hA
  have hl := hp.lt
  have hn : g 5 0 x.toNat = 300 := by
    rcases hI.T x.toNat (by omega) hp.2.2 with q | q
    · exact q
    · have := q.2.1
      omega
  have lX : fL g x.toNat = 0 := if_neg (fun q => hz (q.2.2.2 (by omega)))
  have lX1 : fL (mkW g 0 x.toNat) x.toNat = 1 := by
    unfold fL
    rw [mk_4, mk_5, mk_6, if_pos rfl, mk_0, if_pos ⟨hp.2.2, hn, by omega, fun _ => rfl⟩]
  refine ⟨Phi_cg (fun a _ => ⟨mk_4, mk_5⟩), ?_, Pm_lt (by omega) ⟨hp.2.2, hn⟩ lX⟩
  have h1 := sm_chg (f := fL (mkW g 0 x.toNat)) (g := fL g) (k := x.toNat) 260 (by omega) (fun i _ hni => by
    unfold fL
    rw [mk_4, mk_5, mk_6, if_neg hni, mk_0])
  unfold Pm
  omega
/-- what an act of reading does to the numbers -/
theorem cnt_rd (hI : Iv B k ex g 0) {x : Int} (hx : x = 300 ∨ prs g 0 x) : Phi (rW g 0 x) = Phi g ∧ (Wt g ≤ Pm g → Wt (rW g 0 x) ≤ Pm (rW g 0 x)) ∧ (Wt (rW g 0 x) = Wt g ∨ (Wt (rW g 0 x) = Wt g + 1 ∧ Pm g + 1 ≤ Phi g)) := by
  have hA := hI.A
  unfold IvA at hA
  unfold rW
  by_cases ho : g 0 0 2 = 1 ∧ (100 * (1 - g 0 0 3) ≤ x ∧ x < 100 * (1 - g 0 0 3) + 64)
  · have hp : prs g 0 x := by
      rcases hx with h | h
      · omega
      · exact h
    rw [if_pos ho]
    by_cases hn : g 5 0 x.toNat = 300
    · rw [if_pos hn]
      obtain ⟨c1, c2, c3⟩ := cnt_car hI ho.1 hp ho.2 hn
      have hw : Wt (carW g 0 x.toNat) = Wt g + 1 := by
        unfold Wt
        rw [car_80, car_81]
        omega
      exact ⟨c1, fun q => by omega, Or.inr ⟨hw, c3⟩⟩
    · rw [if_neg hn]
      exact ⟨rfl, fun q => q, Or.inl rfl⟩
  · rw [if_neg ho]
    split
    · rename_i hmk
      have hp : prs g 0 x := by
        rcases hx with h | h
        · omega
        · exact h
      obtain ⟨c1, c2, c3⟩ := cnt_mk hI hp hmk.2.1 hmk.2.2.2
      have hw : Wt (mkW g 0 x.toNat) = Wt g + 1 := by
        unfold Wt
        rw [mk_80, mk_81]
        omega
      exact ⟨c1, fun q => by omega, Or.inr ⟨hw, c3⟩⟩
    · exact ⟨rfl, fun q => q, Or.inl rfl⟩
/-- there is room for so many more to wait -/
def Cap (g : Wd) (n : Int) : Prop := Phi g ≤ 64 ∨ Wt g + n ≤ 64
/-- behind acts of reading: at most so many more wait -/
def Rdn (g g1 : Wd) (n : Int) : Prop := Phi g1 = Phi g ∧ (Wt g ≤ Pm g → Wt g1 ≤ Pm g1) ∧ Wt g1 ≤ Wt g + n
theorem Rdn.tr {g2 : Wd} {n m : Int} (h1 : Rdn g g1 n) (h2 : Rdn g1 g2 m) : Rdn g g2 (n + m) := ⟨h2.1.trans h1.1, fun q => h2.2.1 (h1.2.1 q), by have := h1.2.2; have := h2.2.2; omega⟩
theorem Rdn.cap {n m : Int} (h : Rdn g g1 n) (hC : Cap g (n + m)) : Cap g1 m := by
  unfold Cap at hC ⊢
  rw [h.1]
  exact hC.imp (fun q => q) (fun q => by have := h.2.2; omega)
theorem cap_le {n : Int} (hC : Cap g n) (hP : Wt g ≤ Pm g) (hn : 0 ≤ n) : Wt g ≤ 64 := by
  have := (Pm_le (g := g)).2
  rcases hC with q | q <;> omega
theorem cap_rd (hI : Iv B k ex g 0) {x : Int} (hx : x = 300 ∨ prs g 0 x) (hC : Cap g 1) (hP : Wt g ≤ Pm g) : (rW g 0 x) 8 0 1 - (rW g 0 x) 8 0 0 ≤ 64 := by
  obtain ⟨c1, c2, c3⟩ := cnt_rd hI hx
  show Wt (rW g 0 x) ≤ 64
  rcases c3 with q | q
  · rw [q]
    exact cap_le hC hP (by decide)
  · rcases hC with z | z <;> omega
theorem rdn_rd (hI : Iv B k ex g 0) {x : Int} (hx : x = 300 ∨ prs g 0 x) : Rdn g (rW g 0 x) 1 := by
  obtain ⟨c1, c2, c3⟩ := cnt_rd hI hx
  exact ⟨c1, c2, by rcases c3 with q | q <;> omega⟩
theorem rdn_o (h : ∀ c i, c ≠ 1 → c ≠ 7 → g1 c 0 i = g c 0 i) : Rdn g g1 0 := by
  have e : Wt g1 = Wt g := by
    unfold Wt
    rw [h 8 _ (by decide) (by decide), h 8 _ (by decide) (by decide)]
  have p : Pm g1 = Pm g := Pm_cg (fun a _ => ⟨h 4 a (by decide) (by decide), h 5 a (by decide) (by decide), h 6 a (by decide) (by decide)⟩) (h 0 3 (by decide) (by decide))
  exact ⟨Phi_cg (fun a _ => ⟨h 4 a (by decide) (by decide), h 5 a (by decide) (by decide)⟩), fun q => by omega, by omega⟩
end CNT
/-! PURE: hooks and names are read, the class and the law -/
section RDB
variable {B : Int} {k : Nat} {ex : Int} {g u : Wd} {a i : Nat}
theorem rdh_L (hI : Iv B k ex g 0) (hL : Lb g u) (hC : Cap g 1) (hP : Wt g ≤ Pm g) {h : Nat} (hh : h < 8) {k' : Nat} (hk : ∀ j, j < k' → j < k ∨ j = h) : ∃ (g1 u0 : Wd) (r : Int), X5_readIn_h 0 0 h g = some (r, g1) ∧ L_read (u 31 0 h) u = some (nn r, u0) ∧ Iv B k' ex g1 0 ∧ Lb g1 (up u0 31 0 h (nn r)) ∧ g1 1 0 h = r ∧ ((g 1 0 h = 300 ∧ r = 300) ∨ liv g1 0 r) ∧ Gr2 g g1 0 ∧ (∀ j, j ≠ h → g1 1 0 j = g 1 0 j) ∧ FrC 0 g g1 ∧ FU u u0 ∧ Rdn g g1 1 := by
  have hx : g 1 0 h = 300 ∨ prs g 0 (g 1 0 h) := (hI.H h hh).imp (fun q => q) (fun q => q.1)
  obtain ⟨g1, g2, g3⟩ := hI.rd hx
  have gm := hI.mu_rd hx
  have hE := readH_e hI (x := (h : Int)) (by omega)
  rw [show ((h : Nat) : Int).toNat = h by omega] at hE
  obtain ⟨u0, e1, e2, e3⟩ := read_L hL hI hx (cap_rd hI hx hC hP)
  rw [← hL.2.1 h hh] at e1
  refine ⟨_, u0, _, hE, e1, g1.hw hh hk (g2.imp (fun q => q.2) (fun q => q)), e2.hw hh, up_h rfl, g2.imp (fun q => q) (fun q => liv.hw.mpr q), ⟨fun y hy => prs.hw.mpr (g3.1 y hy), fun y hy => liv.hw.mpr (g3.2.1 y hy), fun j hj => (hw_o (by decide)).trans (g3.2.2.1 j hj), ?_, (hw_o (by decide)).trans gm.2, fun h => (h.rd hI).hw⟩, fun j hj => (up_n hj).trans (g3.2.2.2.1 j), FrC.ups FrC.ofR (by decide), e3, ?_⟩
  · have : mu (up (rW g 0 (g 1 0 h)) 1 0 h (rv g 0 (g 1 0 h))) 0 = mu (rW g 0 (g 1 0 h)) 0 := by
      unfold mu
      simp only [hw_o (show (0 : Nat) ≠ 1 by decide), hw_o (show (6 : Nat) ≠ 1 by decide), hw_o (show (8 : Nat) ≠ 1 by decide)]
    rw [this]
    exact gm.1
  · have := (rdn_rd hI hx).tr (rdn_o (g1 := up (rW g 0 (g 1 0 h)) 1 0 h (rv g 0 (g 1 0 h))) (fun c i h1 _ => up_c h1))
    exact ⟨this.1, this.2.1, by have := this.2.2; omega⟩
theorem nw_nf {j : Nat} (hj : j < 2) {r : Int} : nfW g a j r = up g 7 0 (2 * a + j) r := by
  rcases (show j = 0 ∨ j = 1 by omega) with rfl | rfl <;> rfl
theorem rdn_L (hI : Iv B k ex g 0) (hL : Lb g u) (hC : Cap g 1) (hP : Wt g ≤ Pm g) {b : Int} (hb : prs g 0 b) {j : Nat} (hj : j < 2) : ∃ (g1 u1 : Wd) (r : Int), X5_readIn_n 0 0 (b * 2 + j) g = some (r, g1) ∧ (∀ F : Wd → Option (Int × Wd), (bd (L_at b u) fun r1 w2 => bd (L_name r1 j w2) fun r3 w4 => bd (L_read r3 w4) fun r5 w6 => bd (L_renames b j r5 w6) fun _ w8 => F w8) = F u1) ∧ Iv B k ex g1 0 ∧ Lb g1 u1 ∧ g1 7 0 (2 * b.toNat + j) = r ∧ (r = 300 ∨ liv g1 0 r) ∧ Gr2 g g1 0 ∧ (∀ (y : Int) (z : Nat), prs g 0 y → z < 2 → 2 * y.toNat + z ≠ 2 * b.toNat + j → g1 7 0 (2 * y.toNat + z) = g 7 0 (2 * y.toNat + z)) ∧ (∀ z, g1 1 0 z = g 1 0 z) ∧ FrC 0 g g1 ∧ FU u u1 ∧ Rdn g g1 1 := by
  have hl := hb.lt
  have hN := hI.N b.toNat (by omega) hb.2.2 j hj
  obtain ⟨g1, g2, g3⟩ := hI.rd hN
  have gm := hI.mu_rd hN
  have ei : (b * 2 + (j : Int)).toNat = 2 * b.toNat + j := by omega
  have hE := readN_e hI (x := b * 2 + j) (by omega) (by rw [ei]; exact hN)
  rw [ei] at hE
  have hia := hb.2.1
  have ok := hI.okp hia hb.2.2
  obtain ⟨p0, p1, -⟩ := name_p (w := u) ok
  have hname : L_name (cl u b.toNat) j u = some (nn (g 7 0 (2 * b.toNat + j)), u) := by
    rw [hL.cp hia hb.2.2]
    rcases (show j = 0 ∨ j = 1 by omega) with rfl | rfl
    · exact p0
    · exact p1
  obtain ⟨u0, e1, e2, e3⟩ := read_L hL hI hN (cap_rd hI hN hC hP)
  have hr : rv g 0 (g 7 0 (2 * b.toNat + j)) = 300 ∨ prs (rW g 0 (g 7 0 (2 * b.toNat + j))) 0 (rv g 0 (g 7 0 (2 * b.toNat + j))) := g2.imp (fun q => q.2) (fun q => q.1)
  obtain ⟨u1, f1, f2, f3⟩ := ren_L e2 g1 (g3.1 b hb) (j := j) (by omega) hr
  rw [nw_nf hj] at f2
  refine ⟨_, u1, _, hE, fun F => ?_, g1.nw (g2.imp (fun q => q.2) (fun q => q)), f2, up_h rfl, g2.imp (fun q => q.2) (fun q => liv.nw.mpr q), ⟨fun y hy => prs.nw.mpr (g3.1 y hy), fun y hy => liv.nw.mpr (g3.2.1 y hy), fun j hj => (nw_o (by decide)).trans (g3.2.2.1 j hj), ?_, (nw_o (by decide)).trans gm.2, fun h => (h.rd hI).nw⟩, fun y z hy hz hne => (up_n hne).trans (g3.2.2.2.2 y z hy hz), fun z => (nw_o (by decide)).trans (g3.2.2.2.1 z), FrC.ups FrC.ofR (by decide), e3.tr f3, ?_⟩
  · rw [at_e hb.1 hia, bd_t, hname, bd_t, e1, bd_t, f1, bd_t]
  · have : mu (up (rW g 0 (g 7 0 (2 * b.toNat + j))) 7 0 (2 * b.toNat + j) (rv g 0 (g 7 0 (2 * b.toNat + j)))) 0 = mu (rW g 0 (g 7 0 (2 * b.toNat + j))) 0 := by
      unfold mu
      simp only [nw_o (show (0 : Nat) ≠ 7 by decide), nw_o (show (6 : Nat) ≠ 7 by decide), nw_o (show (8 : Nat) ≠ 7 by decide)]
    rw [this]
    exact gm.1
  · have := (rdn_rd hI hN).tr (rdn_o (g1 := up (rW g 0 (g 7 0 (2 * b.toNat + j))) 7 0 (2 * b.toNat + j) (rv g 0 (g 7 0 (2 * b.toNat + j)))) (fun c i _ h7 => up_c h7))
    exact ⟨this.1, this.2.1, by have := this.2.2; omega⟩
end RDB
/-! PURE: a move ends, the law -/
section EN
variable {B : Int} {k : Nat} {ex : Int} {g u : Wd} {a i : Nat}
def fin8 (z : Int) : Int := if z / 8589934592 % 2 = 0 then 0 else andL z (-8589934593)
theorem lends_l : ∀ (n p : Nat) (u : Wd), p ≤ 64 → 64 - p < n → (∀ i, p ≤ i → i < 64 → 0 ≤ u 36 0 i ∧ u 36 0 i < 17179869184) → ∃ u1, L_ends_b11 n p u = L_ends_b11 1 64 u1 ∧ (∀ c t i, ¬ ((c = 34 ∨ c = 35 ∨ c = 36) ∧ t = 0 ∧ p ≤ i ∧ i < 64) → u1 c t i = u c t i) ∧ ∀ i, p ≤ i → i < 64 → u1 34 0 i = (if u 30 0 3 = 1 then 0 else u 34 0 i) ∧ u1 35 0 i = (if u 30 0 3 = 0 then 0 else u 35 0 i) ∧ u1 36 0 i = fin8 (u 36 0 i) := by
  intro n
  induction n with
  | zero => intro p u h1 h2; omega
  | succ n ih =>
    intro p u h1 h2 hf
    by_cases hp : p < 64
    · obtain ⟨x0, hx0⟩ : ∃ x : Int, x = if u 30 0 3 = 1 then 0 else u 34 0 p := ⟨_, rfl⟩
      obtain ⟨x1, hx1⟩ : ∃ x : Int, x = if u 30 0 3 = 0 then 0 else u 35 0 p := ⟨_, rfl⟩
      have e : L_ends_b11 (n + 1) p u = L_ends_b11 n ((p + 1 : Nat) : Int) (up (up (up u 34 0 p x0) 35 0 p x1) 36 0 p (fin8 (u 36 0 p))) := by
        have eb : ∀ y : Int, L_ends_b54 (L_ends_b11 n) p y p (up u 34 0 p x0) = L_ends_b11 n ((p + 1 : Nat) : Int) (up (up (up u 34 0 p x0) 35 0 p y) 36 0 p (fin8 (u 36 0 p))) := fun y => by
          have e36 : (up (up u 34 0 p x0) 35 0 p y) 36 0 p = u 36 0 p := by rw [up_c (by decide), up_c (by decide)]
          unfold L_ends_b54
          rw [gd_t ⟨by omega, by omega⟩, gd_t ⟨by omega, by omega⟩, show ((p : Nat) : Int).toNat = p from rfl, e36, mark_n (hf p (by omega) hp), bd_t]
          unfold fin8
          by_cases hz : u 36 0 p / 8589934592 % 2 = 0
          · rw [if_pos hz, if_pos hz, gd_t ⟨by omega, by omega⟩]
            rfl
          · rw [if_neg hz, if_neg hz, gd_t ⟨by omega, by omega⟩]
            rfl
        have e30 : ∀ z : Int, (up u 34 0 p z) 30 0 3 = u 30 0 3 := fun z => up_c (by decide)
        have e35 : ∀ z : Int, (up u 34 0 p z) 35 0 p = u 35 0 p := fun z => up_c (by decide)
        rw [L_ends_b11_s, if_pos (by omega)]
        by_cases c1 : u 30 0 3 = 1
        · rw [if_pos c1] at hx0
          rw [if_pos c1, gd_t ⟨by omega, by omega⟩, show ((p : Nat) : Int).toNat = p from rfl, e30, if_neg (by omega), e35, ← hx0, eb]
          rw [if_neg (by omega)] at hx1
          rw [hx1]
        · rw [if_neg c1] at hx0
          rw [if_neg c1, gd_t ⟨by omega, by omega⟩, show ((p : Nat) : Int).toNat = p from rfl, e30, e35, ← hx0, eb, eb, hx1]
          by_cases c0 : u 30 0 3 = 0
          · rw [if_pos c0, if_pos c0]
          · rw [if_neg c0, if_neg c0]
      obtain ⟨u1, f1, f2, f3⟩ := ih (p + 1) (up (up (up u 34 0 p x0) 35 0 p x1) 36 0 p (fin8 (u 36 0 p))) (by omega) (by omega) (fun i i1 i2 => by
        rw [up_n (by omega), up_c (by decide), up_c (by decide)]
        exact hf i (by omega) i2)
      have e30 : (up (up (up u 34 0 p x0) 35 0 p x1) 36 0 p (fin8 (u 36 0 p))) 30 0 3 = u 30 0 3 := by rw [up_c (by decide), up_c (by decide), up_c (by decide)]
      rw [e30] at f3
      refine ⟨u1, e.trans f1, fun c t i h => ?_, fun i i1 i2 => ?_⟩
      · rw [f2 c t i (fun q => h ⟨q.1, q.2.1, by omega, q.2.2.2⟩)]
        unfold up
        rw [if_neg (fun q => h ⟨Or.inr (Or.inr q.1), q.2.1, by omega, by omega⟩), if_neg (fun q => h ⟨Or.inr (Or.inl q.1), q.2.1, by omega, by omega⟩), if_neg (fun q => h ⟨Or.inl q.1, q.2.1, by omega, by omega⟩)]
      · by_cases ei : i = p
        · subst ei
          rw [f2 34 0 i (by omega), f2 35 0 i (by omega), f2 36 0 i (by omega), up_h rfl, up_c (by decide), up_c (by decide), up_h rfl, up_c (by decide), up_h rfl]
          exact ⟨hx0, hx1, rfl⟩
        · have := f3 i (by omega) i2
          rw [up_c (by decide), up_c (by decide), up_n ei, up_c (by decide), up_n ei, up_c (by decide), up_n ei, up_c (by decide), up_c (by decide)] at this
          exact this
    · have : p = 64 := by omega
      subst this
      refine ⟨u, ?_, fun _ _ _ _ => rfl, fun i i1 i2 => by omega⟩
      rw [show ((64 : Nat) : Int) = 64 from rfl, L_ends_b11_s, L_ends_b11_s, if_neg (by decide), if_neg (by decide)]
theorem ends_L (hL : Lb g u) (hI : Iv B 8 (-1) g 0) (hm : g 0 0 2 = 1) (hq : g 8 0 0 = g 8 0 1) (hB : 0 ≤ B ∧ B ≤ 1000000) : ∃ u1, L_ends u = some (0, u1) ∧ Lb (endW g 0) u1 ∧ FU u u1 := by
  obtain ⟨a0, a1, a2, a3, a4, a5, a6, a7, a8⟩ := hL.1
  have hA := hI.A
  unfold IvA at hA
  obtain ⟨f, hf⟩ : ∃ n : Nat, n = (g 0 0 3).toNat := ⟨_, rfl⟩
  have hf2 : f < 2 := by omega
  have hfl : ∀ i, i < 60 → cl u (200 + i) = u 36 0 i := fun i hi => by
    unfold cl
    rw [if_neg (by omega), if_neg (by omega), show 200 + i - 200 = i by omega]
  have hcl : ∀ d : Nat, (d < 64 ∨ (100 ≤ d ∧ d < 164) ∨ (200 ≤ d ∧ d < 260)) → 0 ≤ cv g d ∧ cv g d < 17179869184 := fun d hd => by
    unfold cv
    by_cases h : 0 < g 4 0 d
    · rw [if_pos h]
      have := pk_b (hI.okp hd h)
      omega
    · rw [if_neg h]
      omega
  have hfr : ∀ i, 0 ≤ i → i < 64 → 0 ≤ u 36 0 i ∧ u 36 0 i < 17179869184 := fun i _ hi => by
    by_cases h : i < 60
    · rw [← hfl i h, hL.2.2.2.1.1 (200 + i) (by omega)]
      exact hcl _ (by omega)
    · rw [hL.2.2.2.1.2 i (by omega) hi]
      decide
  obtain ⟨u1, f1, f2, f3⟩ := lends_l LF 0 u (by omega) (by rw [show LF = 10000 from rfl]; omega) (fun i h1 h2 => hfr i h1 h2)
  have z30 : ∀ i, u1 30 0 i = u 30 0 i := fun i => f2 30 0 i (by omega)
  have e5 : (5 - g 0 0 3).toNat = 5 - f := by omega
  have h7 : (up (up u1 30 0 (5 - f) 0) 30 0 2 0) 30 0 7 = g 0 0 6 := by
    rw [up_n (by decide), up_n (by omega), z30, a7]
  have hrun : L_ends u = some (0, up (up (up u1 30 0 (5 - f) 0) 30 0 2 0) 30 0 7 (g 0 0 6 + 1)) := by
    unfold L_ends
    rw [a8, if_neg (by omega)]
    have e0 : ((0 : Nat) : Int) = 0 := rfl
    rw [e0] at f1
    rw [f1, L_ends_b11_s, if_neg (by decide), z30, a3, gd_t ⟨by omega, by omega⟩, gd_t ⟨by omega, by omega⟩, e5, h7, gd_t ⟨by omega, by omega⟩]
  have hO := hI.O
  refine ⟨_, hrun, ⟨?_, ?_, ?_, ⟨fun d hd => ?_, fun z z1 z2 => ?_⟩, fun d hd hp => ?_⟩, ?_⟩
  · unfold LbA
    rw [end_02, end_06]
    simp only [end_8, end_0 (show (0 : Nat) ≠ 2 by decide) (show (0 : Nat) ≠ 6 by decide), end_0 (show (1 : Nat) ≠ 2 by decide) (show (1 : Nat) ≠ 6 by decide), end_0 (show (3 : Nat) ≠ 2 by decide) (show (3 : Nat) ≠ 6 by decide), end_0 (show (4 : Nat) ≠ 2 by decide) (show (4 : Nat) ≠ 6 by decide), end_0 (show (5 : Nat) ≠ 2 by decide) (show (5 : Nat) ≠ 6 by decide)]
    rw [← hf]
    rw [← hf] at a4
    have R : ∀ i, i ≠ 7 → i ≠ 2 → i ≠ 5 - f → up (up (up u1 30 0 (5 - f) 0) 30 0 2 0) 30 0 7 (g 0 0 6 + 1) 30 0 i = u 30 0 i := fun i h7 h2 h5 => by
      rw [up_n h7, up_n h2, up_n h5, z30]
    rw [R 0 (by omega) (by omega) (by omega), R 1 (by omega) (by omega) (by omega), R 3 (by omega) (by omega) (by omega), R (4 + f) (by omega) (by omega) (by omega), R 6 (by omega) (by omega) (by omega), R 8 (by omega) (by omega) (by omega), up_h rfl, up_n (show (2 : Nat) ≠ 7 by decide), up_h rfl]
    refine ⟨a0, a1, rfl, a3, a4, fun _ => ?_, a6, rfl, a8⟩
    rw [up_n (by omega), up_n (by omega), up_h rfl]
  · intro h hh
    rw [end_1, up_c (by decide), up_c (by decide), up_c (by decide), f2 31 0 h (by omega)]
    exact hL.2.1 h hh
  · intro j hj
    rw [end_8, end_8] at hj
    omega
  · rw [cl_up (by decide), cl_up (by decide), cl_up (by decide)]
    have h6 : g 6 0 d = 0 ∨ 200 ≤ d ∨ ¬ 0 < g 4 0 d := by
      by_cases h : 200 ≤ d
      · exact Or.inr (Or.inl h)
      · by_cases h4 : 0 < g 4 0 d
        · exact Or.inl (hI.E.2.2.2 d (by omega) h4)
        · exact Or.inr (Or.inr h4)
    have hd0 := hL.2.2.2.1.1 d hd
    have hEv : cv (endW g 0) d = if ((100 - 100 * (g 0 0 3).toNat) ≤ d ∧ d < (100 - 100 * (g 0 0 3).toNat) + 64) ∨ (200 ≤ d ∧ d < 260 ∧ g 6 0 d = 0) then 0 else if 0 < g 4 0 d then pk (g 3 0 d) (nn (g 7 0 (2 * d))) (nn (g 7 0 (2 * d + 1))) (nn (g 5 0 d)) 0 else 0 := by
      unfold cv
      rw [end_4, end_3, end_5, end_6, end_7, end_7]
      by_cases hc : ((100 - 100 * (g 0 0 3).toNat) ≤ d ∧ d < (100 - 100 * (g 0 0 3).toNat) + 64) ∨ (200 ≤ d ∧ d < 260 ∧ g 6 0 d = 0)
      · rw [if_pos hc, if_pos hc, if_neg (by decide)]
      · rw [if_neg hc, if_neg hc]
        by_cases h4 : 0 < g 4 0 d
        · rw [if_pos h4, if_pos h4]
          by_cases h2 : 200 ≤ d ∧ d < 260
          · rw [if_pos h2]
          · rw [if_neg h2]
            rcases h6 with q | q | q
            · rw [q]
            · omega
            · exact absurd h4 q
        · rw [if_neg h4, if_neg h4]
    rw [hEv]
    unfold cl at hd0 ⊢
    by_cases d1 : d < 100
    · rw [if_pos d1] at hd0 ⊢
      rw [(f3 d (by omega) (by omega)).1, hd0, a3]
      by_cases c1 : g 0 0 3 = 1
      · rw [if_pos c1, if_pos (Or.inl (by omega))]
      · rw [if_neg c1, if_neg (by omega)]
        unfold cv
        rcases h6 with q | q | q
        · rw [q]
        · omega
        · rw [if_neg q, if_neg q]
    · rw [if_neg d1] at hd0 ⊢
      by_cases d2 : d < 200
      · rw [if_pos d2] at hd0 ⊢
        rw [(f3 (d - 100) (by omega) (by omega)).2.1, hd0, a3]
        by_cases c1 : g 0 0 3 = 0
        · rw [if_pos c1, if_pos (Or.inl (by omega))]
        · rw [if_neg c1, if_neg (by omega)]
          unfold cv
          rcases h6 with q | q | q
          · rw [q]
          · omega
          · rw [if_neg q, if_neg q]
      · rw [if_neg d2] at hd0 ⊢
        rw [(f3 (d - 200) (by omega) (by omega)).2.2, hd0]
        by_cases h4 : 0 < g 4 0 d
        · have ok := hI.okp hd h4
          have hcv : cv g d = pk (g 3 0 d) (nn (g 7 0 (2 * d))) (nn (g 7 0 (2 * d + 1))) (nn (g 5 0 d)) (g 6 0 d) := by
            unfold cv
            rw [if_pos h4]
          have hmk : pk (g 3 0 d) (nn (g 7 0 (2 * d))) (nn (g 7 0 (2 * d + 1))) (nn (g 5 0 d)) (g 6 0 d) / 8589934592 % 2 = g 6 0 d := by
            unfold okP at ok
            unfold pk
            omega
          rw [hcv]
          unfold fin8
          rw [hmk]
          rcases hI.m01 hd h4 with q | q
          · rw [if_pos q, if_pos (Or.inr ⟨by omega, by omega, q⟩)]
          · rw [if_neg (show ¬ g 6 0 d = 0 by omega), if_neg (show ¬ (((100 - 100 * (g 0 0 3).toNat) ≤ d ∧ d < (100 - 100 * (g 0 0 3).toNat) + 64) ∨ (200 ≤ d ∧ d < 260 ∧ g 6 0 d = 0)) by omega), if_pos h4]
            rw [q] at ok ⊢
            exact clear_mark ok
        · have hcv : cv g d = 0 := by
            unfold cv
            rw [if_neg h4]
          rw [hcv]
          have e0 : fin8 0 = 0 := by
            unfold fin8
            rw [if_pos (by decide)]
          rw [e0, if_neg h4]
          split <;> rfl
  · rw [up_c (by decide), up_c (by decide), up_c (by decide), (f3 z (by omega) z2).2.2, hL.2.2.2.1.2 z z1 z2]
    unfold fin8
    rw [if_pos (by decide)]
  · rw [end_4] at hp
    rw [end_4, end_3, up_c (by decide), up_c (by decide), up_c (by decide), f2 32 0 _ (by omega)]
    split at hp
    · omega
    · rename_i hc
      rw [if_neg hc]
      exact hL.2.2.2.2 d hd hp
  · exact FU.ups (FU.ups (FU.ups (fun c t i h => f2 c t i (by omega)) (by decide)) (by decide)) (by decide)
end EN
