/-! PURE: the class's store and the model's row hold the same -/
def nn (x : Int) : Int := if x = 300 then -9 else x
def ReA (w v : Wd) (t : Nat) : Prop := v 22 0 0 = w 0 t 1 ∧ v 22 0 1 = w 0 t 0 ∧ v 22 0 2 = w 0 t 2 ∧ v 22 0 3 = w 0 t 3 ∧ v 22 0 (4 + (w 0 t 3).toNat) = w 0 t 4 ∧ (w 0 t 2 = 0 → v 22 0 (5 - (w 0 t 3).toNat) = 0) ∧ v 22 0 6 = w 0 t 5 ∧ v 22 0 7 = w 0 t 6 ∧ v 22 0 8 = w 8 t 1 - w 8 t 0
def ReH (w v : Wd) (t : Nat) : Prop := ∀ h : Nat, h < 8 → v 22 0 (9 + h) = nn (w 1 t h)
def ReQ (w v : Wd) (t : Nat) : Prop := ∀ j : Nat, (j : Int) < w 8 t 1 - w 8 t 0 → v 22 0 (57 + j) = (64 * ((w 9 t ((w 8 t 0).toNat + j)) / 100) + (w 9 t ((w 8 t 0).toNat + j)) % 100)
def ReC (w v : Wd) (t : Nat) : Prop := ∀ a : Nat, (a < 64 ∨ (100 ≤ a ∧ a < 164) ∨ (200 ≤ a ∧ a < 260)) → v 22 0 (185 + 5 * (64 * (a / 100) + a % 100)) = if 0 < w 4 t a then w 3 t a + 1 else 0
def ReD (w v : Wd) (t : Nat) : Prop := ∀ a : Nat, (a < 64 ∨ (100 ≤ a ∧ a < 164) ∨ (200 ≤ a ∧ a < 260)) → 0 < w 4 t a → v 22 0 (17 + (w 3 t a).toNat) = w 4 t a ∧ v 22 0 (185 + 5 * (64 * (a / 100) + a % 100) + 1) = nn (w 7 t (2 * a)) ∧ v 22 0 (185 + 5 * (64 * (a / 100) + a % 100) + 2) = nn (w 7 t (2 * a + 1)) ∧ v 22 0 (185 + 5 * (64 * (a / 100) + a % 100) + 3) = nn (w 5 t a) ∧ v 22 0 (185 + 5 * (64 * (a / 100) + a % 100) + 4) = w 6 t a
def Re (w v : Wd) (t : Nat) : Prop := ReA w v t ∧ ReH w v t ∧ ReQ w v t ∧ ReC w v t ∧ ReD w v t
theorem nn_300 : nn 300 = -9 := rfl
theorem nn_ne {x : Int} (h : x ≠ 300) : nn x = x := if_neg h
theorem nn_eq {x : Int} (h : 0 ≤ x) : nn x = -9 ↔ x = 300 := by
  unfold nn
  split <;> omega
section REL
variable {B : Int} {k : Nat} {ex : Int} {w v : Wd} {t a i : Nat}
/-- the copy at an address, in the model -/
theorem Re.cell (hR : Re w v t) (hI : Iv B k ex w t) {x : Int} (hp : prs w t x) : 0 ≤ (64 * (x / 100) + x % 100) ∧ (64 * (x / 100) + x % 100) < 188 ∧ ((64 * (x / 100) + x % 100)).toNat = (64 * (x.toNat / 100) + x.toNat % 100) ∧ v 22 0 (185 + 5 * (64 * (x.toNat / 100) + x.toNat % 100)) = w 3 t x.toNat + 1 ∧ 0 ≤ w 3 t x.toNat ∧ w 3 t x.toNat < 40 ∧ v 22 0 (17 + (w 3 t x.toNat).toNat) = w 4 t x.toNat ∧ v 22 0 (185 + 5 * (64 * (x.toNat / 100) + x.toNat % 100) + 1) = nn (w 7 t (2 * x.toNat)) ∧ v 22 0 (185 + 5 * (64 * (x.toNat / 100) + x.toNat % 100) + 2) = nn (w 7 t (2 * x.toNat + 1)) ∧ v 22 0 (185 + 5 * (64 * (x.toNat / 100) + x.toNat % 100) + 3) = nn (w 5 t x.toNat) ∧ v 22 0 (185 + 5 * (64 * (x.toNat / 100) + x.toNat % 100) + 4) = w 6 t x.toNat := by
  have hl := hp.lt
  have hA := hI.A
  unfold IvA at hA
  have hS := hI.S x.toNat (by omega)
  have hC := hR.2.2.2.1 x.toNat hp.2.1
  rw [if_pos hp.2.2] at hC
  have hD := hR.2.2.2.2 x.toNat hp.2.1 hp.2.2
  have h2 := hp.2.1
  have h3 := hS.2.2 hp.2.2
  refine ⟨by omega, by omega, by omega, hC, h3.2.1, by omega, hD⟩
def c8W (v : Wd) (c : Nat) : Wd := up (joins8 (lih8 v (v 22 0 (185 + 5 * c) - 1) (v 22 0 (185 + 5 * c + 1)) (v 22 0 (185 + 5 * c + 2))) (64 * v 22 0 3 + v 22 0 (4 + (v 22 0 3).toNat))) 22 0 (185 + 5 * c + 3) (100 * ((64 * v 22 0 3 + v 22 0 (4 + (v 22 0 3).toNat)) / 64) + (64 * v 22 0 3 + v 22 0 (4 + (v 22 0 3).toNat)) % 64)
theorem carries8_e {x : Int} (h : 0 ≤ x ∧ x < 188) (hh : v 22 0 3 = 0 ∨ v 22 0 3 = 1) (hb : 0 ≤ v 22 0 (4 + (v 22 0 3).toNat) ∧ v 22 0 (4 + (v 22 0 3).toNat) < 64) (ht : 1 ≤ v 22 0 (185 + 5 * x.toNat) ∧ v 22 0 (185 + 5 * x.toNat) ≤ 40) (hs : 0 ≤ v 22 0 (17 + (v 22 0 (185 + 5 * x.toNat) - 1).toNat) ∧ v 22 0 (17 + (v 22 0 (185 + 5 * x.toNat) - 1).toNat) ≤ 12) (hq : 0 ≤ v 22 0 8 ∧ v 22 0 8 < 128) : X8_carries x v = some (100 * ((64 * v 22 0 3 + v 22 0 (4 + (v 22 0 3).toNat)) / 64) + (64 * v 22 0 3 + v 22 0 (4 + (v 22 0 3).toNat)) % 64, c8W v x.toNat) := by
  unfold X8_carries c8W
  rw [ofCopy8_e h (by omega), bd_t]
  simp only [show (0 : Int).toNat = 0 from rfl, show (1 : Int).toNat = 1 from rfl, show (2 : Int).toNat = 2 from rfl, Nat.add_zero]
  rw [gd_t ⟨by omega, by omega⟩, ofCopy8_e h (by omega), bd_t, ofCopy8_e h (by omega), bd_t]
  simp only [show (0 : Int).toNat = 0 from rfl, show (1 : Int).toNat = 1 from rfl, show (2 : Int).toNat = 2 from rfl, Nat.add_zero]
  rw [lih8_e hh hb (by omega) hs, bd_t]
  have e8 : (lih8 v (v 22 0 (185 + 5 * x.toNat) - 1) (v 22 0 (185 + 5 * x.toNat + 1)) (v 22 0 (185 + 5 * x.toNat + 2))) 22 0 8 = v 22 0 8 := by
    unfold lih8 lays8
    simp (disch := omega) only [up_n]
  rw [joins8_e (by rw [e8]; exact hq), bd_t]
  simp (disch := omega) only [gd_t, address8_e, bd_t]
  rw [show (185 + 5 * x + 3).toNat = 185 + 5 * x.toNat + 3 by omega]
/-- what the model's row holds behind the carrying, in the class's words -/
theorem c8_r (hR : Re w v t) (hI : Iv B k ex w t) (hm : w 0 t 2 = 1) {x : Int} (hp : prs w t x) (ho : (100 * (1 - w 0 t 3) ≤ x ∧ x < 100 * (1 - w 0 t 3) + 64)) (hn : w 5 t x.toNat = 300) {ca cb q f : Nat} (hca : ca = (64 * (x.toNat / 100) + x.toNat % 100)) (hcb : cb = (64 * (((nb w t).toNat) / 100) + ((nb w t).toNat) % 100)) (hq : q = (w 8 t 1 - w 8 t 0).toNat) (hf : f = (w 0 t 3).toNat) :
    ca ≠ cb ∧ ca < 188 ∧ cb < 128 ∧ q < 124 ∧ f < 2 ∧ (∀ i : Nat, i ≠ 185 + 5 * ca + 3 → i ≠ 8 → i ≠ 57 + q → i ≠ 4 + f → (i < 185 + 5 * cb ∨ 185 + 5 * cb + 4 < i) → c8W v ca 22 0 i = v 22 0 i) ∧ c8W v ca 22 0 (185 + 5 * ca + 3) = nb w t ∧ c8W v ca 22 0 8 = w 8 t 1 - w 8 t 0 + 1 ∧ c8W v ca 22 0 (57 + q) = (64 * ((nb w t) / 100) + (nb w t) % 100) ∧ c8W v ca 22 0 (4 + f) = w 0 t 4 + w 4 t x.toNat ∧ c8W v ca 22 0 (185 + 5 * cb + 4) = 0 ∧ c8W v ca 22 0 (185 + 5 * cb + 3) = -9 ∧ c8W v ca 22 0 (185 + 5 * cb + 2) = nn (w 7 t (2 * x.toNat + 1)) ∧ c8W v ca 22 0 (185 + 5 * cb + 1) = nn (w 7 t (2 * x.toNat)) ∧ c8W v ca 22 0 (185 + 5 * cb) = w 3 t x.toNat + 1 := by
  have hA := hI.A
  unfold IvA at hA
  obtain ⟨a0, a1, a2, a3, a4, a5, a6, a7, a8⟩ := hR.1
  obtain ⟨d1, d2, d3, d4, d5, d6, d7, d8, d9, d10, d11⟩ := hR.cell hI hp
  obtain ⟨c1, c2, c3, c4, c5⟩ := hI.car_ok hm hp ho hn
  obtain ⟨b0, b1, b2, b3, b4⟩ := hI.nb_in c2
  obtain ⟨q1, q2, q3, q4⟩ := hI.Q
  have hb4 : nb w t = 100 * w 0 t 3 + w 0 t 4 := rfl
  have hl := hp.lt
  have hia := hp.2.1
  have hto : (64 * w 0 t 3 + w 0 t 4).toNat = cb := by omega
  have hto2 : 64 * w 0 t 3 + w 0 t 4 = (64 * ((nb w t) / 100) + (nb w t) % 100) := by omega
  have hto3 : 100 * ((64 * w 0 t 3 + w 0 t 4) / 64) + (64 * w 0 t 3 + w 0 t 4) % 64 = nb w t := by omega
  have htn : (w 3 t x.toNat + 1 - 1).toNat = (w 3 t x.toNat).toNat := by omega
  have n1 : ca ≠ cb := by omega
  have n2 : ca < 188 := by omega
  have n3 : cb < 128 := by omega
  have n4 : q < 124 := by omega
  have n5 : f < 2 := by omega
  rw [← hca] at d4 d8 d9 d10 d11
  rw [← hf] at a4
  have e8 : (lih8 v (w 3 t x.toNat + 1 - 1) (nn (w 7 t (2 * x.toNat))) (nn (w 7 t (2 * x.toNat + 1)))) 22 0 8 = w 8 t 1 - w 8 t 0 := by
    unfold lih8 lays8
    rw [a3, ← hf, a4, hto]
    clear hA b3 hia a5
    simp (disch := omega) only [up_n]
    exact a8
  have R : ∀ i : Nat, c8W v ca 22 0 i = if i = 185 + 5 * ca + 3 then nb w t else if i = 8 then w 8 t 1 - w 8 t 0 + 1 else if i = 57 + q then (64 * ((nb w t) / 100) + (nb w t) % 100) else if i = 4 + f then w 0 t 4 + w 4 t x.toNat else if i = 185 + 5 * cb + 4 then 0 else if i = 185 + 5 * cb + 3 then -9 else if i = 185 + 5 * cb + 2 then nn (w 7 t (2 * x.toNat + 1)) else if i = 185 + 5 * cb + 1 then nn (w 7 t (2 * x.toNat)) else if i = 185 + 5 * cb then w 3 t x.toNat + 1 else v 22 0 i := by
    intro i
    unfold c8W joins8
    rw [d4, d8, d9, a3, ← hf, a4, e8]
    unfold lih8 lays8
    rw [a3, ← hf, a4, htn, d7, hto, hto3, hto2, ← hq]
    simp only [up, true_and]
    rw [show w 3 t x.toNat + 1 - 1 + 1 = w 3 t x.toNat + 1 by omega]
  clear hA b3 hia a5 hR hI a0 a1 a2 a3 a4 a6 a7 a8 d1 d2 d3 d4 d5 d6 d7 d8 d9 d10 d11 e8 hto hto2 hto3 htn c1 c2 c3 c4 c5 b0 b1 b2 b4 hb4 hca hcb hq hf q1 q2 q3 q4
  refine ⟨n1, n2, n3, n4, n5, fun i h1 h2 h3 h4 h5 => ?_, ?_, ?_, ?_, ?_, ?_, ?_, ?_, ?_, ?_⟩
  · rw [R, if_neg h1, if_neg h2, if_neg h3, if_neg h4, if_neg (by omega), if_neg (by omega), if_neg (by omega), if_neg (by omega), if_neg (by omega)]
  · rw [R, if_pos rfl]
  · rw [R, if_neg (by omega), if_pos rfl]
  · rw [R, if_neg (by omega), if_neg (by omega), if_pos rfl]
  · rw [R, if_neg (by omega), if_neg (by omega), if_neg (by omega), if_pos rfl]
  · rw [R, if_neg (by omega), if_neg (by omega), if_neg (by omega), if_neg (by omega), if_pos rfl]
  · rw [R, if_neg (by omega), if_neg (by omega), if_neg (by omega), if_neg (by omega), if_neg (by omega), if_pos rfl]
  · rw [R, if_neg (by omega), if_neg (by omega), if_neg (by omega), if_neg (by omega), if_neg (by omega), if_neg (by omega), if_pos rfl]
  · rw [R, if_neg (by omega), if_neg (by omega), if_neg (by omega), if_neg (by omega), if_neg (by omega), if_neg (by omega), if_neg (by omega), if_pos rfl]
  · rw [R, if_neg (by omega), if_neg (by omega), if_neg (by omega), if_neg (by omega), if_neg (by omega), if_neg (by omega), if_neg (by omega), if_neg (by omega), if_pos rfl]
theorem Re.car (hR : Re w v t) (hI : Iv B k ex w t) (hm : w 0 t 2 = 1) {x : Int} (hp : prs w t x) (ho : (100 * (1 - w 0 t 3) ≤ x ∧ x < 100 * (1 - w 0 t 3) + 64)) (hn : w 5 t x.toNat = 300) : Re (carW w t x.toNat) (c8W v (64 * (x.toNat / 100) + x.toNat % 100)) t := by
  obtain ⟨a0, a1, a2, a3, a4, a5, a6, a7, a8⟩ := hR.1
  obtain ⟨d1, d2, d3, d4, d5, d6, d7, d8, d9, d10, d11⟩ := hR.cell hI hp
  obtain ⟨c1, c2, c3, c4, c5⟩ := hI.car_ok hm hp ho hn
  obtain ⟨b0, b1, b2, b3, b4⟩ := hI.nb_in c2
  obtain ⟨q1, q2, q3, q4⟩ := hI.Q
  obtain ⟨ca, hca⟩ : ∃ n : Nat, n = (64 * (x.toNat / 100) + x.toNat % 100) := ⟨_, rfl⟩
  obtain ⟨cb, hcb⟩ : ∃ n : Nat, n = (64 * (((nb w t).toNat) / 100) + ((nb w t).toNat) % 100) := ⟨_, rfl⟩
  obtain ⟨q, hq⟩ : ∃ n : Nat, n = (w 8 t 1 - w 8 t 0).toNat := ⟨_, rfl⟩
  obtain ⟨f, hf⟩ : ∃ n : Nat, n = (w 0 t 3).toNat := ⟨_, rfl⟩
  obtain ⟨n1, n2, n3, n4, n5, R, r1, r2, r3, r4, r5, r6, r7, r8, r9⟩ := c8_r hR hI hm hp ho hn hca hcb hq hf
  have hl := hp.lt
  have hia := hp.2.1
  rw [← hca]
  refine ⟨?_, ?_, ?_, ?_, ?_⟩
  · unfold ReA
    rw [car_04, car_80, car_81]
    simp only [car_0 (show (0 : Nat) ≠ 4 by decide), car_0 (show (1 : Nat) ≠ 4 by decide), car_0 (show (2 : Nat) ≠ 4 by decide), car_0 (show (3 : Nat) ≠ 4 by decide), car_0 (show (5 : Nat) ≠ 4 by decide), car_0 (show (6 : Nat) ≠ 4 by decide)]
    rw [← hf]
    clear hia b3
    rw [R 0 (by omega) (by omega) (by omega) (by omega) (by omega), R 1 (by omega) (by omega) (by omega) (by omega) (by omega), R 2 (by omega) (by omega) (by omega) (by omega) (by omega), R 3 (by omega) (by omega) (by omega) (by omega) (by omega), r4, R 6 (by omega) (by omega) (by omega) (by omega) (by omega), R 7 (by omega) (by omega) (by omega) (by omega) (by omega), r2]
    exact ⟨a0, a1, a2, a3, rfl, fun q => by omega, a6, a7, by omega⟩
  · intro h hh
    clear hia b3
    rw [car_1, R _ (by omega) (by omega) (by omega) (by omega) (by omega)]
    exact hR.2.1 h hh
  · intro j hj
    clear hia b3
    rw [car_80, car_81] at hj
    rw [car_80, car_9]
    by_cases e : (j : Int) = w 8 t 1 - w 8 t 0
    · rw [if_pos (by omega), show j = q by omega, r3]
    · rw [if_neg (by omega), R _ (by omega) (by omega) (by omega) (by omega) (by omega)]
      exact hR.2.2.1 j (by omega)
  · intro d hd
    rw [car_4, car_3]
    by_cases e : d = (nb w t).toNat
    · subst e
      rw [if_pos rfl, if_pos rfl, ← hcb, r9, if_pos c3]
    · have hC := hR.2.2.2.1 d hd
      have hne : (64 * (d / 100) + d % 100) ≠ cb := by omega
      obtain ⟨cd, hcd⟩ : ∃ n : Nat, n = (64 * (d / 100) + d % 100) := ⟨_, rfl⟩
      rw [← hcd] at hne hC ⊢
      clear hia b3 hd
      rw [if_neg e, if_neg e, R _ (by omega) (by omega) (by omega) (by omega) (by omega)]
      exact hC
  · intro d hd hpd
    rw [car_4] at hpd
    rw [car_4, car_3, car_7, car_7, car_5, car_6]
    by_cases e : d = (nb w t).toNat
    · subst e
      rw [if_pos rfl, if_pos rfl, if_pos rfl, if_neg (by omega), if_pos rfl, if_pos rfl, if_neg (by omega), if_pos rfl, ← hcb, r5, r6, r7, r8]
      clear hia b3 hd
      rw [R _ (by omega) (by omega) (by omega) (by omega) (by omega)]
      exact ⟨d7, rfl, rfl, rfl, rfl⟩
    · rw [if_neg e] at hpd
      have hD := hR.2.2.2.2 d hd hpd
      have hS2 := (hI.S d (by omega)).2.2 hpd
      have hA1 := hI.A.1.2
      have hne : (64 * (d / 100) + d % 100) ≠ cb := by omega
      by_cases e2 : d = x.toNat
      · subst e2
        rw [← hca] at hD hne ⊢
        clear hd b3
        rw [if_neg e, if_neg e, if_neg (by omega), if_neg (by omega), if_neg (by omega), if_neg (by omega), if_pos rfl, if_neg e, r1]
        clear hS2 hia
        rw [R _ (by omega) (by omega) (by omega) (by omega) (by omega), R _ (by omega) (by omega) (by omega) (by omega) (by omega), R _ (by omega) (by omega) (by omega) (by omega) (by omega), R _ (by omega) (by omega) (by omega) (by omega) (by omega)]
        refine ⟨hD.1, hD.2.1, hD.2.2.1, ?_, hD.2.2.2.2⟩
        rw [nn_ne (by omega)]
        omega
      · have hne2 : (64 * (d / 100) + d % 100) ≠ ca := by omega
        obtain ⟨cd, hcd⟩ : ∃ n : Nat, n = (64 * (d / 100) + d % 100) := ⟨_, rfl⟩
        rw [← hcd] at hne hne2 hD ⊢
        have hS3 := hS2.2
        clear hd b3 hia hS2
        rw [if_neg e, if_neg e, if_neg (by omega), if_neg (by omega), if_neg (by omega), if_neg (by omega), if_neg e2, if_neg e, if_neg e]
        rw [R _ (by omega) (by omega) (by omega) (by omega) (by omega), R _ (by omega) (by omega) (by omega) (by omega) (by omega), R _ (by omega) (by omega) (by omega) (by omega) (by omega), R _ (by omega) (by omega) (by omega) (by omega) (by omega), R _ (by omega) (by omega) (by omega) (by omega) (by omega)]
        exact hD
end REL
