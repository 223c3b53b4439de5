/-! PURE: a hook or a name is read, on both sides -/
section RD
variable {B : Int} {k : Nat} {ex : Int} {w v : Wd} {t a i : Nat}
def m8W (v : Wd) (c : Nat) : Wd := joins8 (up v 22 0 (185 + 5 * c + 4) 1) c
theorem m8_r {c q : Nat} (hq : q = (v 22 0 8).toNat) (hq2 : q < 124) : (∀ i : Nat, i ≠ 8 → i ≠ 57 + q → i ≠ 185 + 5 * c + 4 → m8W v c 22 0 i = v 22 0 i) ∧ m8W v c 22 0 8 = v 22 0 8 + 1 ∧ m8W v c 22 0 (57 + q) = c ∧ m8W v c 22 0 (185 + 5 * c + 4) = 1 := by
  have e8 : (up v 22 0 (185 + 5 * c + 4) 1) 22 0 8 = v 22 0 8 := up_n (by omega)
  unfold m8W joins8
  rw [e8, ← hq]
  refine ⟨fun i h1 h2 h3 => ?_, ?_, ?_, ?_⟩
  · rw [up_n h1, up_n h2, up_n h3]
  · rw [up_h rfl]
  · rw [up_n (by omega), up_h rfl]
  · rw [up_n (by omega), up_n (by omega), up_h rfl]
theorem Re.mk (hR : Re w v t) (hI : Iv B k ex w t) (hm : w 0 t 2 = 1) {x : Int} (hp : prs w t x) (h2 : 200 ≤ x) (hz : w 6 t x.toNat ≠ 1) : Re (mkW w t x.toNat) (m8W v (64 * (x.toNat / 100) + x.toNat % 100)) t := by
  obtain ⟨a0, a1, a2, a3, a4, a5, a6, a7, a8⟩ := hR.1
  obtain ⟨q1, q2, q3, q4⟩ := hI.Q
  have hA := hI.A
  unfold IvA at hA
  have hl := hp.lt
  have hr := hI.mark_room hm ⟨h2, hl.2⟩ hz
  obtain ⟨q, hq⟩ : ∃ n : Nat, n = (v 22 0 8).toNat := ⟨_, rfl⟩
  have hqv : (q : Int) = w 8 t 1 - w 8 t 0 := by omega
  obtain ⟨ca, hca⟩ : ∃ n : Nat, n = (64 * (x.toNat / 100) + x.toNat % 100) := ⟨_, rfl⟩
  obtain ⟨R, r1, r2, r3⟩ := m8_r (v := v) (c := ca) hq (by omega)
  have hf : (w 0 t 3).toNat < 2 := by omega
  rw [← hca]
  refine ⟨?_, ?_, ?_, ?_, ?_⟩
  · unfold ReA
    simp only [mk_0, mk_80, mk_81]
    rw [R 0 (by omega) (by omega) (by omega), R 1 (by omega) (by omega) (by omega), R 2 (by omega) (by omega) (by omega), R 3 (by omega) (by omega) (by omega), R (4 + (w 0 t 3).toNat) (by omega) (by omega) (by omega), R 6 (by omega) (by omega) (by omega), R 7 (by omega) (by omega) (by omega), r1]
    exact ⟨a0, a1, a2, a3, a4, fun q => by omega, a6, a7, by omega⟩
  · intro h hh
    rw [mk_1, R _ (by omega) (by omega) (by omega)]
    exact hR.2.1 h hh
  · intro j hj
    rw [mk_80, mk_81] at hj
    rw [mk_80, mk_9]
    by_cases e : j = q
    · rw [if_pos (by omega), e, r2]
      omega
    · rw [if_neg (by omega), R _ (by omega) (by omega) (by omega)]
      exact hR.2.2.1 j (by omega)
  · intro d hd
    rw [mk_4, mk_3]
    have hC := hR.2.2.2.1 d hd
    rw [R _ (by omega) (by omega) (by omega)]
    exact hC
  · intro d hd hpd
    rw [mk_4] at hpd
    have hD := hR.2.2.2.2 d hd hpd
    have hS2 := ((hI.S d (by omega)).2.2 hpd).2
    rw [mk_4, mk_3, mk_7, mk_7, mk_5, mk_6]
    rw [R _ (by omega) (by omega) (by omega), R _ (by omega) (by omega) (by omega), R _ (by omega) (by omega) (by omega), R _ (by omega) (by omega) (by omega)]
    refine ⟨hD.1, hD.2.1, hD.2.2.1, hD.2.2.2.1, ?_⟩
    by_cases e : d = x.toNat
    · rw [if_pos e, e, ← hca, r3]
    · rw [if_neg e, R _ (by omega) (by omega) (by omega)]
      exact hD.2.2.2.2
theorem Re.hw (hR : Re w v t) (hI : Iv B k ex w t) {j : Nat} (hj : j < 8) (r : Int) : Re (up w 1 t j r) (up v 22 0 (9 + j) (nn r)) t := by
  obtain ⟨a0, a1, a2, a3, a4, a5, a6, a7, a8⟩ := hR.1
  have hA := hI.A
  unfold IvA at hA
  have hf : (w 0 t 3).toNat < 2 := by omega
  obtain ⟨q1, q2, q3, q4⟩ := hI.Q
  have R : ∀ i, i ≠ 9 + j → up v 22 0 (9 + j) (nn r) 22 0 i = v 22 0 i := fun i h => up_n h
  refine ⟨?_, ?_, ?_, ?_, ?_⟩
  · unfold ReA
    simp only [hw_o (show (0 : Nat) ≠ 1 by decide), hw_o (show (8 : Nat) ≠ 1 by decide)]
    rw [R 0 (by omega), R 1 (by omega), R 2 (by omega), R 3 (by omega), R (4 + _) (by omega), R (5 - _) (by omega), R 6 (by omega), R 7 (by omega), R 8 (by omega)]
    exact hR.1
  · intro h hh
    by_cases e : h = j
    · subst e
      rw [up_h rfl, up_h rfl]
    · rw [up_n e, R _ (by omega)]
      exact hR.2.1 h hh
  · intro z hz
    simp only [hw_o (show (9 : Nat) ≠ 1 by decide), hw_o (show (8 : Nat) ≠ 1 by decide)] at hz ⊢
    rw [R _ (by omega)]
    exact hR.2.2.1 z hz
  · intro d hd
    rw [hw_o (by decide), hw_o (by decide), R _ (by omega)]
    exact hR.2.2.2.1 d hd
  · intro d hd hpd
    rw [hw_o (by decide)] at hpd
    have hS2 := ((hI.S d (by omega)).2.2 hpd).2
    simp only [hw_o (show (3 : Nat) ≠ 1 by decide), hw_o (show (4 : Nat) ≠ 1 by decide), hw_o (show (5 : Nat) ≠ 1 by decide), hw_o (show (6 : Nat) ≠ 1 by decide), hw_o (show (7 : Nat) ≠ 1 by decide)]
    rw [R _ (by omega), R _ (by omega), R _ (by omega), R _ (by omega), R _ (by omega)]
    exact hR.2.2.2.2 d hd hpd
theorem Re.nw (hR : Re w v t) (hI : Iv B k ex w t) {b j : Nat} (hb : (b < 64 ∨ (100 ≤ b ∧ b < 164) ∨ (200 ≤ b ∧ b < 260))) (hj : j < 2) (r : Int) : Re (up w 7 t (2 * b + j) r) (up v 22 0 (185 + 5 * (64 * (b / 100) + b % 100) + 1 + j) (nn r)) t := by
  obtain ⟨a0, a1, a2, a3, a4, a5, a6, a7, a8⟩ := hR.1
  have hA := hI.A
  unfold IvA at hA
  have hf : (w 0 t 3).toNat < 2 := by omega
  obtain ⟨q1, q2, q3, q4⟩ := hI.Q
  have R : ∀ i, i ≠ 185 + 5 * (64 * (b / 100) + b % 100) + 1 + j → up v 22 0 (185 + 5 * (64 * (b / 100) + b % 100) + 1 + j) (nn r) 22 0 i = v 22 0 i := fun i h => up_n h
  refine ⟨?_, ?_, ?_, ?_, ?_⟩
  · unfold ReA
    simp only [nw_o (show (0 : Nat) ≠ 7 by decide), nw_o (show (8 : Nat) ≠ 7 by decide)]
    rw [R 0 (by omega), R 1 (by omega), R 2 (by omega), R 3 (by omega), R (4 + _) (by omega), R (5 - _) (by omega), R 6 (by omega), R 7 (by omega), R 8 (by omega)]
    exact hR.1
  · intro h hh
    rw [nw_o (by decide), R _ (by omega)]
    exact hR.2.1 h hh
  · intro z hz
    simp only [nw_o (show (9 : Nat) ≠ 7 by decide), nw_o (show (8 : Nat) ≠ 7 by decide)] at hz ⊢
    rw [R _ (by omega)]
    exact hR.2.2.1 z hz
  · intro d hd
    have hC := hR.2.2.2.1 d hd
    rw [nw_o (by decide), nw_o (by decide), R _ (by omega)]
    exact hC
  · intro d hd hpd
    rw [nw_o (by decide)] at hpd
    have hS2 := ((hI.S d (by omega)).2.2 hpd).2
    have hD := hR.2.2.2.2 d hd hpd
    simp only [nw_o (show (3 : Nat) ≠ 7 by decide), nw_o (show (4 : Nat) ≠ 7 by decide), nw_o (show (5 : Nat) ≠ 7 by decide), nw_o (show (6 : Nat) ≠ 7 by decide)]
    rw [R _ (by omega), R (185 + 5 * (64 * (d / 100) + d % 100) + 3) (by omega), R (185 + 5 * (64 * (d / 100) + d % 100) + 4) (by omega)]
    refine ⟨hD.1, ?_, ?_, hD.2.2.2⟩
    · by_cases e : 2 * d = 2 * b + j
      · rw [up_h e, show d = b by omega, show j = 0 by omega]
        exact up_h rfl
      · rw [up_n e, R _ (by omega)]
        exact hD.2.1
    · by_cases e : 2 * d + 1 = 2 * b + j
      · rw [up_h e, show d = b by omega, show j = 1 by omega]
        exact up_h rfl
      · rw [up_n e, R _ (by omega)]
        exact hD.2.2.1
def r8W (w v : Wd) (t : Nat) (x : Int) : Wd := if w 0 t 2 = 1 ∧ (100 * (1 - w 0 t 3) ≤ x ∧ x < 100 * (1 - w 0 t 3) + 64) then (if w 5 t x.toNat = 300 then c8W v (64 * (x.toNat / 100) + x.toNat % 100) else v) else if w 0 t 2 = 1 ∧ 200 ≤ x ∧ x < 260 ∧ w 6 t x.toNat ≠ 1 then m8W v (64 * (x.toNat / 100) + x.toNat % 100) else v
/-- nothing that was there goes while hooks and names are read -/
def Gr (w w1 : Wd) (t : Nat) : Prop := (∀ y, prs w t y → prs w1 t y) ∧ (∀ y, liv w t y → liv w1 t y) ∧ (∀ j, j ≠ 4 → w1 0 t j = w 0 t j) ∧ (∀ j, w1 1 t j = w 1 t j) ∧ ∀ (y : Int) (j : Nat), prs w t y → j < 2 → w1 7 t (2 * y.toNat + j) = w 7 t (2 * y.toNat + j)
theorem Gr.rf : Gr w w t := ⟨fun _ h => h, fun _ h => h, fun _ _ => rfl, fun _ => rfl, fun _ _ _ _ => rfl⟩
theorem Iv.rd (hI : Iv B k ex w t) {x : Int} (hx : x = 300 ∨ prs w t x) : Iv B k ex (rW w t x) t ∧ ((x = 300 ∧ rv w t x = 300) ∨ liv (rW w t x) t (rv w t x)) ∧ Gr w (rW w t x) t := by
  have hA := hI.A
  unfold IvA at hA
  have hl : w 0 t 2 = 1 ∨ x = 300 ∨ liv w t x := by
    rcases hA.2.2.1 with q | q
    · exact Or.inr (hx.imp (fun q => q) (fun q2 => ⟨q2, fun q3 => by omega⟩))
    · exact Or.inl q
  unfold rv rW
  by_cases ho : w 0 t 2 = 1 ∧ (100 * (1 - w 0 t 3) ≤ x ∧ x < 100 * (1 - w 0 t 3) + 64)
  · have hp : prs w t x := by
      rcases hx with h | h
      · omega
      · exact h
    have hlx := hp.lt
    rw [if_pos ho, if_pos ho]
    by_cases hn : w 5 t x.toNat = 300
    · rw [if_pos hn, if_pos hn]
      obtain ⟨c1, c2, c3, c4, c5⟩ := hI.car_ok ho.1 hp ho.2 hn
      have hc := hI.car ho.1 hp ho.2 hn
      refine ⟨hc.1, Or.inr hc.2, fun y hy => hy.car hI c3, fun y hy => hy.car hI c2 c3, fun j hj => car_0 hj, fun j => car_1, fun y j hy hj => ?_⟩
      have hne := hI.nb_free c2 hy
      have hb := hI.nb_in c2
      have hb4 : nb w t = 100 * w 0 t 3 + w 0 t 4 := rfl
      have hyl := hy.lt
      rw [car_7, if_neg (by omega), if_neg (by omega)]
    · rw [if_neg hn, if_neg hn]
      refine ⟨hI, ?_, Gr.rf⟩
      rcases hI.T x.toNat (by omega) hp.2.2 with q | q
      · exact absurd q hn
      · obtain ⟨-, -, q3, q4, q5⟩ := q
        exact Or.inr ⟨q3, fun _ => ⟨by omega, fun q6 => by omega⟩⟩
  · rw [if_neg ho, if_neg ho]
    by_cases hmk : w 0 t 2 = 1 ∧ 200 ≤ x ∧ x < 260 ∧ w 6 t x.toNat ≠ 1
    · rw [if_pos hmk]
      have hp : prs w t x := by
        rcases hx with h | h
        · omega
        · exact h
      have hc := hI.mk hmk.1 hp hmk.2.1 hmk.2.2.2
      exact ⟨hc.1, Or.inr hc.2, fun y hy => prs.mk.mpr hy, fun y hy => hy.mk, fun j _ => mk_0, fun j => mk_1, fun y j _ _ => mk_7⟩
    · rw [if_neg hmk]
      refine ⟨hI, ?_, Gr.rf⟩
      rcases hl with q | q
      · rcases hx with h | h
        · exact Or.inl ⟨h, h⟩
        · have hlx := h.lt
          refine Or.inr ⟨h, fun _ => ⟨by omega, fun q2 => ?_⟩⟩
          by_cases z : w 6 t x.toNat = 1
          · exact z
          · exact absurd ⟨q, q2, hlx.2, z⟩ hmk
      · exact q.imp (fun h => ⟨h, h⟩) (fun h => h)
theorem Re.rd (hR : Re w v t) (hI : Iv B k ex w t) {x : Int} (hx : x = 300 ∨ prs w t x) : Re (rW w t x) (r8W w v t x) t := by
  unfold rW r8W
  by_cases ho : w 0 t 2 = 1 ∧ (100 * (1 - w 0 t 3) ≤ x ∧ x < 100 * (1 - w 0 t 3) + 64)
  · have hA := hI.A
    unfold IvA at hA
    have hp : prs w t x := by
      rcases hx with h | h
      · omega
      · exact h
    rw [if_pos ho, if_pos ho]
    by_cases hn : w 5 t x.toNat = 300
    · rw [if_pos hn, if_pos hn]
      exact hR.car hI ho.1 hp ho.2 hn
    · rw [if_neg hn, if_neg hn]
      exact hR
  · rw [if_neg ho, if_neg ho]
    by_cases hmk : w 0 t 2 = 1 ∧ 200 ≤ x ∧ x < 260 ∧ w 6 t x.toNat ≠ 1
    · rw [if_pos hmk, if_pos hmk]
      have hp : prs w t x := by
        rcases hx with h | h
        · omega
        · exact h
      exact hR.mk hI hmk.1 hp hmk.2.1 hmk.2.2.2
    · rw [if_neg hmk, if_neg hmk]
      exact hR
theorem reads8_e (hR : Re w v t) (hI : Iv B k ex w t) {x : Int} (hx : x = 300 ∨ prs w t x) {z : Int} (hz : (9 ≤ z ∧ z < 17) ∨ (185 ≤ z ∧ z < 1125 ∧ ((z - 185) % 5 = 1 ∨ (z - 185) % 5 = 2))) (hv : v 22 0 z.toNat = nn x) : X8_reads z v = some (0, up (r8W w v t x) 22 0 z.toNat (nn (rv w t x))) := by
  obtain ⟨a0, a1, a2, a3, a4, a5, a6, a7, a8⟩ := hR.1
  have hA := hI.A
  unfold IvA at hA
  have hself : up v 22 0 z.toNat (nn x) = v := by rw [← hv]; exact up_self
  unfold X8_reads
  rw [gd_t ⟨by omega, by omega⟩, hv]
  rcases hx with rfl | hp
  · rw [nn_300, if_pos rfl]
    unfold r8W rv
    rw [if_neg (by omega), if_neg (by omega), if_neg (by omega)]
    rw [hself]
  · have hl := hp.lt
    have hia := hp.2.1
    obtain ⟨d1, d2, d3, d4, d5, d6, d7, d8, d9, d10, d11⟩ := hR.cell hI hp
    obtain ⟨q1, q2, q3, q4⟩ := hI.Q
    rw [nn_ne (by omega), if_neg (by omega), isMoving8_e, a2, bd_t]
    rw [nn_ne (show x ≠ 300 by omega)] at hself
    by_cases hm : w 0 t 2 = 1
    · rw [if_pos hm, if_neg (by decide), cell8_e (by omega), bd_t, gd_t (by omega), old8_e (by omega), bd_t, a3]
      by_cases ho : (100 * (1 - w 0 t 3) ≤ x ∧ x < 100 * (1 - w 0 t 3) + 64)
      · have e1 : r8W w v t x = if w 5 t x.toNat = 300 then c8W v (64 * (x.toNat / 100) + x.toNat % 100) else v := by unfold r8W; rw [if_pos ⟨hm, ho⟩]
        have e2 : rv w t x = if w 5 t x.toNat = 300 then nb w t else w 5 t x.toNat := by unfold rv; rw [if_pos ⟨hm, ho⟩]
        rw [e1, e2, if_pos (by omega), ofCopy8_e ⟨d1, d2⟩ (by omega), bd_t, d3]
        simp only [show (3 : Int).toNat = 3 from rfl]
        rw [d10]
        by_cases hn : w 5 t x.toNat = 300
        · obtain ⟨c1, c2, c3, c4, c5⟩ := hI.car_ok hm hp ho hn
          obtain ⟨b0, b1, b2, b3, b4⟩ := hI.nb_in c2
          have hb4 : nb w t = 100 * w 0 t 3 + w 0 t 4 := rfl
          rw [if_pos hn, if_pos hn, hn, nn_300, if_pos rfl, carries8_e ⟨d1, d2⟩ (by omega) (by rw [a3, a4]; omega) (by rw [d3, d4]; omega) (by rw [d3, d4, show (w 3 t x.toNat + 1 - 1).toNat = (w 3 t x.toNat).toNat by omega, d7]; have := hI.S x.toNat (by omega); omega) (by omega), bd_t, a3, a4, d3]
          rw [nn_ne (by omega), show 100 * ((64 * w 0 t 3 + w 0 t 4) / 64) + (64 * w 0 t 3 + w 0 t 4) % 64 = nb w t by omega]
        · rw [if_neg hn, if_neg hn]
          have hT := hI.T x.toNat (by omega) hp.2.2
          have h9 : ¬ nn (w 5 t x.toNat) = -9 := by
            rcases hT with q | q
            · exact absurd q hn
            · have := q.2.2.1.1
              rw [nn_eq (by omega)]
              exact hn
          rw [if_neg h9, ofCopy8_e ⟨d1, d2⟩ (by omega), bd_t, d3]
          simp only [show (3 : Int).toNat = 3 from rfl]
          rw [d10]
      · have e1 : r8W w v t x = if w 0 t 2 = 1 ∧ 200 ≤ x ∧ x < 260 ∧ w 6 t x.toNat ≠ 1 then m8W v (64 * (x.toNat / 100) + x.toNat % 100) else v := by unfold r8W; rw [if_neg (fun q => ho q.2)]
        have e2 : rv w t x = x := by unfold rv; rw [if_neg (fun q => ho q.2)]
        rw [e1, e2, if_neg (by omega)]
        by_cases h2 : x / 100 = 2
        · rw [if_pos h2, ofCopy8_e ⟨d1, d2⟩ (by omega), bd_t, d3]
          simp only [show (4 : Int).toNat = 4 from rfl]
          rw [d11]
          by_cases hmk : w 6 t x.toNat = 0
          · have hr := hI.mark_room hm ⟨by omega, hl.2⟩ (by omega)
            rw [if_pos hmk, if_pos ⟨hm, by omega, hl.2, by omega⟩]
            rw [show (185 + 5 * (64 * (x / 100) + x % 100) + 4).toNat = 185 + 5 * (64 * (x.toNat / 100) + x.toNat % 100) + 4 by omega]
            have e8 : (up v 22 0 (185 + 5 * (64 * (x.toNat / 100) + x.toNat % 100) + 4) 1) 22 0 8 = v 22 0 8 := up_n (by omega)
            clear hA
            simp (disch := omega) only [gd_t]
            rw [joins8_e (by rw [e8]; omega), bd_t]
            have hc : (64 * (x / 100) + x % 100) = (((64 * (x.toNat / 100) + x.toNat % 100) : Nat) : Int) := by omega
            rw [hc]
            show _ = some (0, up (m8W v (64 * (x.toNat / 100) + x.toNat % 100)) 22 0 z.toNat (nn x))
            have hmr := (m8_r (v := v) (c := (64 * (x.toNat / 100) + x.toNat % 100)) (q := (v 22 0 8).toNat) rfl (by omega)).1 z.toNat (by omega) (by omega) (by omega)
            rw [hv] at hmr
            rw [← hmr, up_self]
            rfl
          · rw [if_neg hmk]
            have h6 := hI.E.1 (x.toNat - 200) (by omega)
            rw [show 200 + (x.toNat - 200) = x.toNat by omega] at h6
            rw [if_neg (by omega), nn_ne (by omega), hself]
        · rw [if_neg h2, if_neg (by omega), nn_ne (by omega), hself]
    · unfold r8W rv
      rw [if_neg hm, if_pos rfl, if_neg (fun q => hm q.1), if_neg (fun q => hm q.1), if_neg (fun q => hm q.1), nn_ne (by omega), hself]
end RD
