/-! PURE: a move, both sides -/
section MV
variable {B : Int} {k : Nat} {ex : Int} {w v : Wd} {t a i : Nat}
/-- only the store t of the class changes -/
def FrC (t : Nat) (w w1 : Wd) : Prop := ∀ c t' i, ¬ (c < 10 ∧ t' = t) → w1 c t' i = w c t' i
/-- only the model's row changes -/
def FrM (v v1 : Wd) : Prop := ∀ c t' i, c ≠ 22 → v1 c t' i = v c t' i
theorem FrC.rf : FrC t w w := fun _ _ _ _ => rfl
theorem FrC.tr {w1 w2 : Wd} (h1 : FrC t w w1) (h2 : FrC t w1 w2) : FrC t w w2 := fun c t' i h => (h2 c t' i h).trans (h1 c t' i h)
theorem FrC.ups {w1 : Wd} {c : Nat} {z : Int} (h : FrC t w w1) (hc : c < 10) : FrC t w (up w1 c t i z) := fun c' t' j hn => by
  unfold up
  rw [if_neg (fun q => hn ⟨by omega, q.2.1⟩)]
  exact h c' t' j hn
theorem FrM.rf : FrM v v := fun _ _ _ _ => rfl
theorem FrM.tr {v1 v2 : Wd} (h1 : FrM v v1) (h2 : FrM v1 v2) : FrM v v2 := fun c t' i h => (h2 c t' i h).trans (h1 c t' i h)
theorem FrM.ups {v1 : Wd} {t' : Nat} {z : Int} (h : FrM v v1) : FrM v (up v1 22 t' i z) := fun c' t'' j hn => by
  unfold up
  rw [if_neg (fun q => hn q.1)]
  exact h c' t'' j hn
theorem FrC.ofR {x : Int} : FrC t w (rW w t x) := by
  unfold rW carW lagW mkW
  split
  · split
    · exact FrC.ups (FrC.ups (FrC.ups (FrC.ups (FrC.ups (FrC.ups (FrC.ups (FrC.ups (FrC.ups (FrC.ups FrC.rf (by decide)) (by decide)) (by decide)) (by decide)) (by decide)) (by decide)) (by decide)) (by decide)) (by decide)) (by decide)
    · exact FrC.rf
  · split
    · exact FrC.ups (FrC.ups (FrC.ups FrC.rf (by decide)) (by decide)) (by decide)
    · exact FrC.rf
theorem FrM.of8 {x : Int} : FrM v (r8W w v t x) := by
  unfold r8W c8W m8W joins8 lih8 lays8
  split
  · split
    · exact FrM.ups (FrM.ups (FrM.ups (FrM.ups (FrM.ups (FrM.ups (FrM.ups (FrM.ups (FrM.ups FrM.rf))))))))
    · exact FrM.rf
  · split
    · exact FrM.ups (FrM.ups (FrM.ups FrM.rf))
    · exact FrM.rf
theorem FrC.ofE : FrC t w (endW w t) := by
  unfold endW
  refine FrC.ups (FrC.ups ?_ (by decide)) (by decide)
  intro c t' j hn
  unfold sw zr
  rw [if_neg (fun q => hn ⟨by omega, q.2.1⟩), if_neg (fun q => hn ⟨by omega, q.2.1⟩), if_neg (fun q => hn ⟨by omega, q.2.1⟩)]
theorem FrM.ofE : FrM v (e8W v) := by
  unfold e8W
  refine FrM.ups (FrM.ups (FrM.ups ?_))
  intro c t' j hn
  unfold en8
  rw [if_neg (fun q => hn q.1)]
theorem FrM.ofS {lo q : Nat} {v1 : Wd} (h : FrM v v1) : FrM v (sh8 v1 lo q) := by
  intro c t' j hn
  unfold sh8
  rw [if_neg (fun q => hn q.1)]
  exact h c t' j hn
/-- what is left to do -/
def mu (w : Wd) (t : Nat) : Int := 124 - w 0 t 4 - sm (fun p => w 6 t (200 + p)) 60 + w 8 t 1 - w 8 t 0
theorem Iv.mu_b (h : Iv B k ex w t) (hm : w 0 t 2 = 1) (hq : w 8 t 0 < w 8 t 1) : 1 ≤ mu w t ∧ mu w t ≤ 124 := by
  have hA := h.A
  unfold IvA at hA
  have h1 := h.marks
  have h2 := h.E.2.1 hm
  obtain ⟨q1, q2, q3, q4⟩ := h.Q
  unfold mu
  omega
theorem Iv.mu_rd (hI : Iv B k ex w t) {x : Int} (hx : x = 300 ∨ prs w t x) : mu (rW w t x) t ≤ mu w t ∧ (rW w t x) 8 t 0 = w 8 t 0 := by
  have hA := hI.A
  unfold IvA at hA
  unfold rW
  by_cases ho : w 0 t 2 = 1 ∧ (100 * (1 - w 0 t 3) ≤ x ∧ x < 100 * (1 - w 0 t 3) + 64)
  · rw [if_pos ho]
    have hp : prs w t x := by
      rcases hx with h | h
      · omega
      · exact h
    split
    · rename_i hn
      obtain ⟨c1, c2, c3, c4, c5⟩ := hI.car_ok ho.1 hp ho.2 hn
      have hb := hI.nb_in c2
      unfold mu
      rw [car_04, car_80, car_81, sm_congr (g := fun p => w 6 t (200 + p)) 60 (fun p hp => by rw [car_6, if_neg (by omega)])]
      omega
    · exact ⟨Int.le_refl _, rfl⟩
  · rw [if_neg ho]
    split
    · rename_i hmk
      have hp : prs w t x := by
        rcases hx with h | h
        · omega
        · exact h
      have h6 := hI.E.1 (x.toNat - 200) (by omega)
      rw [show 200 + (x.toNat - 200) = x.toNat by omega] at h6
      have hs := sm_chg (f := fun p => mkW w t x.toNat 6 t (200 + p)) (g := fun p => w 6 t (200 + p)) (k := x.toNat - 200) 60 (by omega) (fun i hi hne => by
        show mkW w t x.toNat 6 t _ = _
        rw [mk_6, if_neg (by omega)])
      simp only [show 200 + (x.toNat - 200) = x.toNat by omega] at hs
      rw [mk_6, if_pos rfl] at hs
      unfold mu
      rw [mk_0, mk_80, mk_81, hs]
      omega
    · exact ⟨Int.le_refl _, rfl⟩
def Gr2 (w w1 : Wd) (t : Nat) : Prop := (∀ y, prs w t y → prs w1 t y) ∧ (∀ y, liv w t y → liv w1 t y) ∧ (∀ j, j ≠ 4 → w1 0 t j = w 0 t j) ∧ mu w1 t ≤ mu w t ∧ w1 8 t 0 = w 8 t 0 ∧ (IvW w t → IvW w1 t)
theorem Gr2.tr {w1 w2 : Wd} (h1 : Gr2 w w1 t) (h2 : Gr2 w1 w2 t) : Gr2 w w2 t := ⟨fun y h => h2.1 y (h1.1 y h), fun y h => h2.2.1 y (h1.2.1 y h), fun j h => (h2.2.2.1 j h).trans (h1.2.2.1 j h), Int.le_trans h2.2.2.2.1 h1.2.2.2.1, h2.2.2.2.2.1.trans h1.2.2.2.2.1, fun h => h2.2.2.2.2.2 (h1.2.2.2.2.2 h)⟩
theorem IvW.rd (hI : Iv B k ex w t) (h : IvW w t) {x : Int} : IvW (rW w t x) t := by
  have hA := hI.A
  unfold IvA at hA
  unfold rW
  split
  · rename_i ho
    split
    · unfold IvW
      rw [car_0 (by decide), car_80, car_81]
      have := h.1 ho.1
      exact ⟨fun _ => by omega, fun q => by omega⟩
    · exact h
  · split
    · rename_i hm
      unfold IvW
      rw [mk_0, mk_80, mk_81]
      have := h.1 hm.1
      exact ⟨fun _ => by omega, fun q => by omega⟩
    · exact h
theorem IvW.hw {r : Int} (h : IvW w t) : IvW (up w 1 t i r) t := by
  unfold IvW
  simp only [hw_o (show (0 : Nat) ≠ 1 by decide), hw_o (show (8 : Nat) ≠ 1 by decide)]
  exact h
theorem IvW.nw {r : Int} (h : IvW w t) : IvW (up w 7 t i r) t := by
  unfold IvW
  simp only [nw_o (show (0 : Nat) ≠ 7 by decide), nw_o (show (8 : Nat) ≠ 7 by decide)]
  exact h
/-- a hook is read -/
theorem rd_hook (hI : Iv B k ex w t) (hR : Re w v t) {h : Nat} (hh : h < 8) {k' : Nat} (hk : ∀ j, j < k' → j < k ∨ j = h) : ∃ (w1 v1 : Wd) (r : Int), X5_readIn_h t t h w = some (r, w1) ∧ X8_reads (9 + (h : Int)) v = some (0, v1) ∧ Iv B k' ex w1 t ∧ Re w1 v1 t ∧ w1 1 t h = r ∧ ((w 1 t h = 300 ∧ r = 300) ∨ liv w1 t r) ∧ Gr2 w w1 t ∧ (∀ j, j ≠ h → w1 1 t j = w 1 t j) ∧ FrC t w w1 ∧ FrM v v1 := by
  have hx : w 1 t h = 300 ∨ prs w t (w 1 t h) := (hI.H h hh).imp (fun q => q) (fun q => q.1)
  obtain ⟨g1, g2, g3⟩ := hI.rd hx
  have gR := hR.rd hI hx
  have gm := hI.mu_rd hx
  have hE := readH_e hI (x := (h : Int)) (by omega)
  rw [show ((h : Nat) : Int).toNat = h by omega] at hE
  have hE8 := reads8_e hR hI hx (z := 9 + (h : Int)) (by omega) (by rw [show (9 + (h : Int)).toNat = 9 + h by omega]; exact hR.2.1 h hh)
  rw [show (9 + (h : Int)).toNat = 9 + h by omega] at hE8
  refine ⟨_, _, _, hE, hE8, g1.hw hh hk (g2.imp (fun q => q.2) (fun q => q)), gR.hw g1 hh _, up_h rfl, g2.imp (fun q => q) (fun q => liv.hw.mpr q), ⟨fun y hy => prs.hw.mpr (g3.1 y hy), fun y hy => liv.hw.mpr (g3.2.1 y hy), fun j hj => (hw_o (by decide)).trans (g3.2.2.1 j hj), ?_, (hw_o (by decide)).trans gm.2, fun h => (h.rd hI).hw⟩, fun j hj => (up_n hj).trans (g3.2.2.2.1 j), FrC.ups FrC.ofR (by decide), FrM.ups FrM.of8⟩
  have : mu (up (rW w t (w 1 t h)) 1 t h (rv w t (w 1 t h))) t = mu (rW w t (w 1 t h)) t := by
    unfold mu
    simp only [hw_o (show (0 : Nat) ≠ 1 by decide), hw_o (show (6 : Nat) ≠ 1 by decide), hw_o (show (8 : Nat) ≠ 1 by decide)]
  rw [this]
  exact gm.1
/-- a name is read -/
theorem rd_name (hI : Iv B k ex w t) (hR : Re w v t) {b : Int} (hb : prs w t b) {j : Nat} (hj : j < 2) : ∃ (w1 v1 : Wd) (r : Int), X5_readIn_n t t (b * 2 + j) w = some (r, w1) ∧ X8_reads (185 + 5 * (64 * (b / 100) + b % 100) + 1 + j) v = some (0, v1) ∧ Iv B k ex w1 t ∧ Re w1 v1 t ∧ w1 7 t (2 * b.toNat + j) = r ∧ (r = 300 ∨ liv w1 t r) ∧ Gr2 w w1 t ∧ (∀ (y : Int) (z : Nat), prs w t y → z < 2 → 2 * y.toNat + z ≠ 2 * b.toNat + j → w1 7 t (2 * y.toNat + z) = w 7 t (2 * y.toNat + z)) ∧ (∀ z, w1 1 t z = w 1 t z) ∧ FrC t w w1 ∧ FrM v v1 := by
  have hl := hb.lt
  have hN := hI.N b.toNat (by omega) hb.2.2 j hj
  obtain ⟨d1, d2, d3, d4, d5, d6, d7, d8, d9, d10, d11⟩ := hR.cell hI hb
  obtain ⟨g1, g2, g3⟩ := hI.rd hN
  have gR := hR.rd hI hN
  have gm := hI.mu_rd hN
  have ei : (b * 2 + (j : Int)).toNat = 2 * b.toNat + j := by omega
  have hE := readN_e hI (x := b * 2 + j) (by omega) (by rw [ei]; exact hN)
  rw [ei] at hE
  have ei8 : (185 + 5 * (64 * (b / 100) + b % 100) + 1 + (j : Int)).toNat = 185 + 5 * (64 * (b.toNat / 100) + b.toNat % 100) + 1 + j := by omega
  have hv : v 22 0 (185 + 5 * (64 * (b.toNat / 100) + b.toNat % 100) + 1 + j) = nn (w 7 t (2 * b.toNat + j)) := by
    rcases (show j = 0 ∨ j = 1 by omega) with rfl | rfl
    · exact d8
    · exact d9
  have hE8 := reads8_e hR hI hN (z := 185 + 5 * (64 * (b / 100) + b % 100) + 1 + j) (Or.inr ⟨by omega, by omega, by omega⟩) (by rw [ei8]; exact hv)
  rw [ei8] at hE8
  refine ⟨_, _, _, hE, hE8, g1.nw (g2.imp (fun q => q.2) (fun q => q)), gR.nw g1 hb.2.1 hj _, up_h rfl, g2.imp (fun q => q.2) (fun q => liv.nw.mpr q), ⟨fun y hy => prs.nw.mpr (g3.1 y hy), fun y hy => liv.nw.mpr (g3.2.1 y hy), fun j hj => (nw_o (by decide)).trans (g3.2.2.1 j hj), ?_, (nw_o (by decide)).trans gm.2, fun h => (h.rd hI).nw⟩, fun y z hy hz hne => (up_n hne).trans (g3.2.2.2.2 y z hy hz), fun z => (nw_o (by decide)).trans (g3.2.2.2.1 z), FrC.ups FrC.ofR (by decide), FrM.ups FrM.of8⟩
  have : mu (up (rW w t (w 7 t (2 * b.toNat + j))) 7 t (2 * b.toNat + j) (rv w t (w 7 t (2 * b.toNat + j)))) t = mu (rW w t (w 7 t (2 * b.toNat + j))) t := by
    unfold mu
    simp only [nw_o (show (0 : Nat) ≠ 7 by decide), nw_o (show (6 : Nat) ≠ 7 by decide), nw_o (show (8 : Nat) ≠ 7 by decide)]
  rw [this]
  exact gm.1
theorem Iv.mono (h : Iv B k ex w t) {B' : Int} (hB : B ≤ B') : Iv B' k ex w t := by
  have hA := h.A
  refine ⟨?_, h.2⟩
  unfold IvA at hA ⊢
  omega
theorem takeFirst_e (h : 0 ≤ w 8 t 0 ∧ w 8 t 0 < w 8 t 1 ∧ w 8 t 1 ≤ 124) : X3_takeFirst t w = some (w 9 t (w 8 t 0).toNat, popW w t) := by
  unfold X3_takeFirst popW
  have e0 : up w 8 t 0 (w 8 t 0 + 1) 8 t 0 = w 8 t 0 + 1 := up_h rfl
  rw [if_neg (by omega), if_pos h.2.1, if_pos (by omega), gd_t ⟨by omega, by omega⟩, e0, gd_t ⟨by omega, by omega⟩, gd_t ⟨by omega, by omega⟩, show w 8 t 0 + 1 - 1 = w 8 t 0 by omega, up_c (by decide)]
/-- where a step leads -/
def StO (B : Int) (w : Wd) (t : Nat) : Prop := (w 0 t 2 = 1 ∧ Iv B 8 (-1) w t) ∨ (w 0 t 2 = 0 ∧ Iv (B + 1) 8 (-1) w t)
theorem fin_b (hI : Iv B 8 (-1) w t) (hR : Re w v t) (hm : w 0 t 2 = 1) (hB : 0 ≤ B ∧ B ≤ 1000000) : ∃ (w' v' : Wd), (∀ F : Wd → Option (Int × Wd), (bd (X3_size t w) fun r20 w21 => if r20 = 0 then (bd (X5_endMove t w21) fun _ w28 => F w28) else F w21) = F w') ∧ X8_ends v = some (0, v') ∧ StO B w' t ∧ IvW w' t ∧ Re w' v' t ∧ FrC t w w' ∧ FrM v v' ∧ (w' 0 t 2 = 1 → mu w' t = mu w t) ∧ w' 8 t 0 = w 8 t 0 ∧ w' 8 t 1 = w 8 t 1 ∧ (∀ F : Int → Wd → Option (Int × Wd), (bd (X3_size t w) fun r20 w21 => if r20 = 0 then (bd (X5_endMove t w21) fun _ w28 => F r20 w28) else F r20 w21) = F (w 8 t 1 - w 8 t 0) w') := by
  obtain ⟨a0, a1, a2, a3, a4, a5, a6, a7, a8⟩ := hR.1
  have hA := hI.A
  unfold IvA at hA
  obtain ⟨q1, q2, q3, q4⟩ := hI.Q
  have hsz : X3_size t w = some (w 8 t 1 - w 8 t 0, w) := by
    unfold X3_size
    rw [gd_t ⟨by omega, by omega⟩]
  have h8 := ends8_e (v := v) (by omega) (by omega)
  by_cases hq : w 8 t 1 - w 8 t 0 = 0
  · refine ⟨endW w t, e8W v, fun F => ?_, ?_, Or.inr ⟨end_02, hI.ended hm (by omega)⟩, ⟨fun q => by rw [end_02] at q; omega, fun _ => by rw [end_8, end_8]; omega⟩, hR.ended hI hm (by omega), FrC.ofE, FrM.ofE, fun q => by rw [end_02] at q; omega, end_8, end_8, fun F => ?_⟩
    · rw [hsz, bd_t, if_pos hq, end_e hA.2.2.2.1 (by omega), bd_t]
    · rw [h8, if_neg (by omega)]
    · rw [hsz, bd_t, if_pos hq, end_e hA.2.2.2.1 (by omega), bd_t]
  · refine ⟨w, v, fun F => ?_, ?_, Or.inl ⟨hm, hI⟩, ⟨fun _ => by omega, fun q => by omega⟩, hR, FrC.rf, FrM.rf, fun _ => rfl, rfl, rfl, fun F => ?_⟩
    · rw [hsz, bd_t, if_neg hq]
    · rw [h8, if_pos (by omega)]
    · rw [hsz, bd_t, if_neg hq]
theorem step_b (hI : Iv B 8 (-1) w t) (hW : IvW w t) (hR : Re w v t) (hm : w 0 t 2 = 1) (hB : 0 ≤ B ∧ B ≤ 1000000) : ∃ (w' v' : Wd), (∀ F : Wd → Option (Int × Wd), (bd (X3_takeFirst t w) fun r2 w3 => gd (InR (r2 * 2)) (bd (X5_readIn_n t t (r2 * 2) w3) fun _ w10 => gd (InR ((r2 * 2) + 1)) (bd (X5_readIn_n t t ((r2 * 2) + 1) w10) fun _ w16 => bd (X3_size t w16) fun r20 w21 => if r20 = 0 then (bd (X5_endMove t w21) fun _ w28 => F w28) else F w21))) = F w') ∧ X8_steps v = some (0, v') ∧ StO B w' t ∧ IvW w' t ∧ Re w' v' t ∧ FrC t w w' ∧ FrM v v' ∧ (w' 0 t 2 = 1 → mu w' t + 1 ≤ mu w t) := by
  obtain ⟨a0, a1, a2, a3, a4, a5, a6, a7, a8⟩ := hR.1
  obtain ⟨q1, q2, q3, q4⟩ := hI.Q
  have hlt := hW.1 hm
  obtain ⟨p1, p2⟩ := hI.pop hlt
  obtain ⟨r1, r2⟩ := hR.pop hI hlt
  obtain ⟨b, hb⟩ : ∃ b : Int, b = w 9 t (w 8 t 0).toNat := ⟨_, rfl⟩
  rw [← hb] at p1 p2 r2
  have hpb : prs (popW w t) t b := prs.pop.mpr p2.1
  have hbl := hpb.lt
  obtain ⟨w1, v1, x1, n1, n2, n3, n4, n5, n6, n7, n8, n9, n10, n11⟩ := rd_name p1 r1 hpb (j := 0) (by decide)
  have hpb1 : prs w1 t b := n7.1 b hpb
  obtain ⟨w2, v2, x2, m1, m2, m3, m4, m5, m6, m7, m8, m9, m10, m11⟩ := rd_name n3 n4 hpb1 (j := 1) (by decide)
  have hdone : Iv B 8 (-1) w2 t := by
    refine m3.done ?_
    intro c hc j hj
    have hcb : b.toNat = c := by omega
    rcases (show j = 0 ∨ j = 1 by omega) with rfl | rfl
    · have := m8 b 0 hpb1 (by decide) (by omega)
      rw [hcb] at this
      rw [this, ← hcb, n5]
      exact n6.imp (fun q => q) (fun q => m7.2.1 _ q)
    · rw [← hcb, m5]
      exact m6
  have hm2 : w2 0 t 2 = 1 := by rw [m7.2.2.1 2 (by decide), n7.2.2.1 2 (by decide), pop_o (by decide)]; exact hm
  obtain ⟨w', v', f1, f2, f3, f4, f5, f6, f7, f8, f9, f10, -⟩ := fin_b hdone m4 hm2 hB
  refine ⟨w', v', fun F => ?_, ?_, f3, f4, f5, ((FrC.ups FrC.rf (by decide)).tr n10).tr (m10.tr f6), ((FrM.ofS (FrM.ups FrM.rf)).tr n11).tr (m11.tr f7), fun q => ?_⟩
  · rw [takeFirst_e ⟨q1, hlt, q3⟩, bd_t, ← hb, gd_t ⟨by omega, by omega⟩]
    rw [show b * 2 = b * 2 + ((0 : Nat) : Int) by omega, n1, bd_t, show b * 2 + ((0 : Nat) : Int) + 1 = b * 2 + ((1 : Nat) : Int) by omega, gd_t ⟨by omega, by omega⟩, m1, bd_t]
    exact f1 F
  · unfold X8_steps
    have e8 : up v 22 0 8 (v 22 0 8 - 1) 22 0 8 = v 22 0 8 - 1 := up_h rfl
    obtain ⟨d1, d2, -⟩ := r1.cell p1 hpb
    rw [gd_t ⟨by omega, by omega⟩, r2, steps_l ⟨d1, d2⟩ LF 0 _ (by rw [e8]; omega) (by rw [e8]; omega) (by rw [e8, show LF = 10000 from rfl]; omega), e8]
    rw [show (0 : Int).toNat = 0 from rfl, show 185 + 5 * (64 * (b / 100) + b % 100) + 1 = 185 + 5 * (64 * (b / 100) + b % 100) + 1 + ((0 : Nat) : Int) by omega, n2, bd_t, show 185 + 5 * (64 * (b / 100) + b % 100) + 1 + ((0 : Nat) : Int) + 1 = 185 + 5 * (64 * (b / 100) + b % 100) + 1 + ((1 : Nat) : Int) by omega, m2, bd_t, f2, bd_t]
  · have h1 := f8 q
    have h2 := m7.2.2.2.1
    have h3 := n7.2.2.2.1
    have h4 : mu (popW w t) t = mu w t - 1 := by
      unfold mu
      rw [pop_0, pop_1]
      simp only [pop_o (show (0 : Nat) ≠ 8 by decide), pop_o (show (6 : Nat) ≠ 8 by decide)]
      omega
    omega
end MV
