/-! PURE: the model's end of a move and its queue -/
section EN8
variable {B : Int} {k : Nat} {ex : Int} {w v : Wd} {t a i : Nat}
def en8 (v : Wd) (lo : Nat) : Wd := fun c t' i => if c = 22 ∧ t' = 0 ∧ 185 + 5 * lo ≤ i ∧ i < 1125 then (if (i - 185) % 5 = 4 then 0 else if (i - 185) % 5 = 0 ∧ ((i - 185) / 5 / 64 = (1 - v 22 0 3).toNat ∨ (640 + 185 ≤ i ∧ v 22 0 (i + 4) = 0)) then 0 else v c t' i) else v c t' i
theorem en8_none : en8 v 188 = v := by
  funext c t' j
  unfold en8
  rw [if_neg (by omega)]
theorem en8_step {lo : Nat} {val : Int} (h : lo < 188) (hval : val = if lo / 64 = (1 - v 22 0 3).toNat ∨ (128 ≤ lo ∧ v 22 0 (185 + 5 * lo + 4) = 0) then 0 else v 22 0 (185 + 5 * lo)) : en8 (up (up v 22 0 (185 + 5 * lo) val) 22 0 (185 + 5 * lo + 4) 0) (lo + 1) = en8 v lo := by
  funext c t' j
  by_cases hc : c = 22 ∧ t' = 0
  · obtain ⟨rfl, rfl⟩ := hc
    have e3 : up (up v 22 0 (185 + 5 * lo) val) 22 0 (185 + 5 * lo + 4) 0 22 0 3 = v 22 0 3 := by rw [up_n (by omega), up_n (by omega)]
    unfold en8
    rw [e3]
    by_cases h1 : j < 185 + 5 * lo
    · rw [if_neg (by omega), if_neg (by omega), up_n (by omega), up_n (by omega)]
    · by_cases h2 : 185 + 5 * (lo + 1) ≤ j
      · rw [up_n (show j ≠ 185 + 5 * lo + 4 by omega), up_n (show j ≠ 185 + 5 * lo by omega), up_n (show j + 4 ≠ 185 + 5 * lo + 4 by omega), up_n (show j + 4 ≠ 185 + 5 * lo by omega)]
        by_cases h3 : j < 1125
        · rw [if_pos (show 22 = 22 ∧ 0 = 0 ∧ 185 + 5 * (lo + 1) ≤ j ∧ j < 1125 from ⟨rfl, rfl, h2, h3⟩), if_pos (show 22 = 22 ∧ 0 = 0 ∧ 185 + 5 * lo ≤ j ∧ j < 1125 from ⟨rfl, rfl, by omega, h3⟩)]
        · rw [if_neg (by omega), if_neg (by omega)]
      · rw [if_neg (by omega), if_pos ⟨rfl, rfl, by omega, by omega⟩]
        by_cases h4 : j = 185 + 5 * lo + 4
        · rw [up_h h4, if_pos (by omega)]
        · rw [if_neg (by omega), up_n h4]
          by_cases h5 : j = 185 + 5 * lo
          · subst h5
            rw [up_h rfl, hval]
            have e1 : (185 + 5 * lo - 185) / 5 = lo := by omega
            rw [e1]
            by_cases h6 : lo / 64 = (1 - v 22 0 3).toNat ∨ (128 ≤ lo ∧ v 22 0 (185 + 5 * lo + 4) = 0)
            · rw [if_pos h6, if_pos ⟨by omega, h6.imp (fun q => q) (fun q => ⟨by omega, q.2⟩)⟩]
            · rw [if_neg h6, if_neg (fun q => h6 (q.2.imp (fun q => q) (fun q => ⟨by omega, q.2⟩)))]
          · rw [up_n h5, if_neg (by omega)]
  · unfold en8 up
    rw [if_neg (fun q => hc ⟨q.1, q.2.1⟩), if_neg (fun q => hc ⟨q.1, q.2.1⟩), if_neg (fun q => hc ⟨q.1, q.2.1⟩), if_neg (fun q => hc ⟨q.1, q.2.1⟩)]
def e8W (v : Wd) : Wd := up (up (up (en8 v 0) 22 0 (4 + (1 - v 22 0 3).toNat) 0) 22 0 2 0) 22 0 7 (v 22 0 7 + 1)
theorem e8_body {K : Int → Wd → Option (Int × Wd)} {x g : Int} (h : 0 ≤ x ∧ x < 188) : X8_ends_b52 K x g v = K (x + 1) (up (up v 22 0 (185 + 5 * x.toNat) (if g = 0 then v 22 0 (185 + 5 * x.toNat) else 0)) 22 0 (185 + 5 * x.toNat + 4) 0) := by
  have h80 : ∀ (y : Int) (u : Wd), X8_ends_b80 K x y (185 + 5 * x + 0) u = K (x + 1) (up (up u 22 0 (185 + 5 * x.toNat) y) 22 0 (185 + 5 * x.toNat + 4) 0) := by
    intro y u
    unfold X8_ends_b80
    simp (disch := omega) only [gd_t]
    rw [show (185 + 5 * x + 0).toNat = 185 + 5 * x.toNat by omega, show (185 + 5 * x + 4).toNat = 185 + 5 * x.toNat + 4 by omega]
  unfold X8_ends_b52
  rw [gd_t ⟨by omega, by omega⟩, gd_t ⟨by omega, by omega⟩, gd_t ⟨by omega, by omega⟩]
  by_cases hg : g = 0
  · rw [if_pos hg, ofCopy8_e h (by omega), bd_t, h80, if_pos hg]
    rfl
  · rw [if_neg hg, h80, if_neg hg]
theorem ends_l : ∀ (n : Nat) (x : Int) (v : Wd), 0 ≤ x ∧ x ≤ 188 → 188 - x < n → (v 22 0 3 = 0 ∨ v 22 0 3 = 1) → 0 ≤ v 22 0 7 ∧ v 22 0 7 ≤ 1000000 → X8_ends_b13 n x v = some (0, up (up (up (en8 v x.toNat) 22 0 (4 + (1 - v 22 0 3).toNat) 0) 22 0 2 0) 22 0 7 (v 22 0 7 + 1)) := by
  intro n
  induction n with
  | zero => intro x v h1 h2; omega
  | succ n ih =>
    intro x v h1 h2 h3 h7
    rw [X8_ends_b13_s]
    by_cases h4 : x < 188
    · have key : ∀ g : Int, (g = 0 ↔ ¬ (x.toNat / 64 = (1 - v 22 0 3).toNat ∨ (128 ≤ x.toNat ∧ v 22 0 (185 + 5 * x.toNat + 4) = 0))) → X8_ends_b52 (X8_ends_b13 n) x g v = some (0, up (up (up (en8 v x.toNat) 22 0 (4 + (1 - v 22 0 3).toNat) 0) 22 0 2 0) 22 0 7 (v 22 0 7 + 1)) := by
        intro g hg
        have e3 : ∀ val : Int, up (up v 22 0 (185 + 5 * x.toNat) val) 22 0 (185 + 5 * x.toNat + 4) 0 22 0 3 = v 22 0 3 := fun val => by rw [up_n (by omega), up_n (by omega)]
        have e7 : ∀ val : Int, up (up v 22 0 (185 + 5 * x.toNat) val) 22 0 (185 + 5 * x.toNat + 4) 0 22 0 7 = v 22 0 7 := fun val => by rw [up_n (by omega), up_n (by omega)]
        rw [e8_body ⟨h1.1, h4⟩, ih (x + 1) _ (by omega) (by omega) (by rw [e3]; exact h3) (by rw [e7]; exact h7), e3, e7, show (x + 1).toNat = x.toNat + 1 by omega, en8_step (by omega) ?_]
        by_cases g0 : g = 0
        · rw [if_pos g0, if_neg (hg.mp g0)]
        · rw [if_neg g0]
          by_cases q : x.toNat / 64 = (1 - v 22 0 3).toNat ∨ (128 ≤ x.toNat ∧ v 22 0 (185 + 5 * x.toNat + 4) = 0)
          · rw [if_pos q]
          · exact absurd (hg.mpr q) g0
      rw [if_pos h4, gd_t h1.1, old8_e h3, bd_t]
      by_cases h5 : x / 64 = 1 - v 22 0 3
      · rw [if_pos h5]
        exact key 1 ⟨fun q => by omega, fun q => absurd (Or.inl (by omega)) q⟩
      · rw [if_neg h5]
        by_cases h6 : x < 128
        · rw [if_pos h6]
          exact key 0 ⟨fun _ q => by omega, fun _ => rfl⟩
        · rw [if_neg h6, ofCopy8_e ⟨h1.1, h4⟩ (by omega), bd_t]
          simp only [show (4 : Int).toNat = 4 from rfl]
          by_cases h8 : v 22 0 (185 + 5 * x.toNat + 4) = 0
          · rw [if_pos h8]
            exact key 1 ⟨fun q => by omega, fun q => absurd (Or.inr ⟨by omega, h8⟩) q⟩
          · rw [if_neg h8]
            exact key 0 ⟨fun _ q => by omega, fun _ => rfl⟩
    · rw [if_neg h4, old8_e h3, bd_t, show x = 188 by omega, show (188 : Int).toNat = 188 from rfl, en8_none]
      rw [show (4 + (1 - v 22 0 3)).toNat = 4 + (1 - v 22 0 3).toNat by omega]
      have e7 : up (up v 22 0 (4 + (1 - v 22 0 3).toNat) 0) 22 0 2 0 22 0 7 = v 22 0 7 := by rw [up_n (by omega), up_n (by omega)]
      rw [e7]
      simp (disch := omega) only [gd_t]
theorem ends8_e (h3 : v 22 0 3 = 0 ∨ v 22 0 3 = 1) (h7 : 0 ≤ v 22 0 7 ∧ v 22 0 7 ≤ 1000000) : X8_ends v = some (0, if 0 < v 22 0 8 then v else e8W v) := by
  unfold X8_ends
  by_cases h : 0 < v 22 0 8
  · rw [if_pos h, if_pos h]
  · rw [if_neg h, if_neg h, ends_l LF 0 v (by omega) (by rw [show LF = 10000 from rfl]; omega) h3 h7]
    rfl
theorem e8_far {j : Nat} (h : j < 185) (h2 : j ≠ 2) (h7 : j ≠ 7) (h4 : j ≠ 4 + (1 - v 22 0 3).toNat) : e8W v 22 0 j = v 22 0 j := by
  unfold e8W
  rw [up_n h7, up_n h2, up_n h4]
  unfold en8
  rw [if_neg (by omega)]
theorem e8_cell {c : Nat} (hc : c < 188) (h3 : v 22 0 3 = 0 ∨ v 22 0 3 = 1) : e8W v 22 0 (185 + 5 * c) = (if c / 64 = (1 - v 22 0 3).toNat ∨ (128 ≤ c ∧ v 22 0 (185 + 5 * c + 4) = 0) then 0 else v 22 0 (185 + 5 * c)) ∧ e8W v 22 0 (185 + 5 * c + 1) = v 22 0 (185 + 5 * c + 1) ∧ e8W v 22 0 (185 + 5 * c + 2) = v 22 0 (185 + 5 * c + 2) ∧ e8W v 22 0 (185 + 5 * c + 3) = v 22 0 (185 + 5 * c + 3) ∧ e8W v 22 0 (185 + 5 * c + 4) = 0 := by
  have R : ∀ j, 185 ≤ j → e8W v 22 0 j = en8 v 0 22 0 j := fun j hj => by
    unfold e8W
    rw [up_n (by omega), up_n (by omega), up_n (by omega)]
  rw [R _ (by omega), R _ (by omega), R _ (by omega), R _ (by omega), R _ (by omega)]
  unfold en8
  refine ⟨?_, ?_, ?_, ?_, ?_⟩
  · rw [if_pos ⟨rfl, rfl, by omega, by omega⟩, if_neg (by omega)]
    have e1 : (185 + 5 * c - 185) / 5 = c := by omega
    rw [e1]
    by_cases h6 : c / 64 = (1 - v 22 0 3).toNat ∨ (128 ≤ c ∧ v 22 0 (185 + 5 * c + 4) = 0)
    · rw [if_pos h6, if_pos ⟨by omega, h6.imp (fun q => q) (fun q => ⟨by omega, q.2⟩)⟩]
    · rw [if_neg h6, if_neg (fun q => h6 (q.2.imp (fun q => q) (fun q => ⟨by omega, q.2⟩)))]
  · rw [if_pos ⟨rfl, rfl, by omega, by omega⟩, if_neg (by omega), if_neg (by omega)]
  · rw [if_pos ⟨rfl, rfl, by omega, by omega⟩, if_neg (by omega), if_neg (by omega)]
  · rw [if_pos ⟨rfl, rfl, by omega, by omega⟩, if_neg (by omega), if_neg (by omega)]
  · rw [if_pos ⟨rfl, rfl, by omega, by omega⟩, if_pos (by omega)]
theorem Re.ended (hR : Re w v t) (hI : Iv B 8 (-1) w t) (hm : w 0 t 2 = 1) (hq : w 8 t 0 = w 8 t 1) : Re (endW w t) (e8W v) t := by
  obtain ⟨a0, a1, a2, a3, a4, a5, a6, a7, a8⟩ := hR.1
  have hA := hI.A
  unfold IvA at hA
  have hf : (w 0 t 3).toNat < 2 := by omega
  have ho : (1 - v 22 0 3).toNat = 1 - (w 0 t 3).toNat := by omega
  obtain ⟨q1, q2, q3, q4⟩ := hI.Q
  refine ⟨?_, ?_, ?_, ?_, ?_⟩
  · unfold ReA
    rw [end_02, end_06]
    simp (disch := decide) only [end_0, end_8]
    rw [e8_far (by omega) (by omega) (by omega) (by omega), e8_far (by omega) (by omega) (by omega) (by omega), e8_far (j := 3) (by omega) (by omega) (by omega) (by omega), e8_far (j := 4 + (w 0 t 3).toNat) (by omega) (by omega) (by omega) (by omega), e8_far (j := 6) (by omega) (by omega) (by omega) (by omega), e8_far (j := 8) (by omega) (by omega) (by omega) (by omega)]
    refine ⟨a0, a1, ?_, a3, a4, fun _ => ?_, a6, ?_, a8⟩
    · unfold e8W; rw [up_n (by decide), up_h rfl]
    · unfold e8W; rw [up_n (by omega), up_n (by omega), up_h (by omega)]
    · unfold e8W; rw [up_h rfl, a7]
  · intro h hh
    rw [end_1, e8_far (by omega) (by omega) (by omega) (by omega)]
    exact hR.2.1 h hh
  · intro j hj
    rw [end_8, end_8] at hj
    omega
  · intro d hd
    have hC := hR.2.2.2.1 d hd
    obtain ⟨c0, -, -, -, -⟩ := e8_cell (v := v) (c := (64 * (d / 100) + d % 100)) (by omega) (by omega)
    have hA4 := end_4 (w := w) (t := t) (i := d)
    rw [c0, end_3, hC]
    by_cases h1 : (100 - 100 * (w 0 t 3).toNat) ≤ d ∧ d < (100 - 100 * (w 0 t 3).toNat) + 64
    · rw [if_pos (Or.inl h1)] at hA4
      rw [hA4, if_pos (Or.inl (by omega)), if_neg (by omega)]
    · by_cases h2 : 200 ≤ d
      · by_cases hp : 0 < w 4 t d
        · have hD := hR.2.2.2.2 d hd hp
          rw [hD.2.2.2.2]
          by_cases h6 : w 6 t d = 0
          · rw [if_pos (Or.inr ⟨h2, by omega, h6⟩)] at hA4
            rw [hA4, if_pos (Or.inr ⟨by omega, h6⟩), if_neg (by omega)]
          · rw [if_neg (by omega)] at hA4
            rw [hA4, if_neg (by omega)]
        · have h0 := (hI.S d (by omega)).1
          have hz : endW w t 4 t d = 0 := by rw [hA4]; split <;> omega
          rw [hz, if_neg hp, if_neg (show ¬ (0 : Int) < 0 by decide)]
          split <;> rfl
      · rw [if_neg (by omega)] at hA4
        rw [hA4, if_neg (by omega)]
  · intro d hd hpd
    rw [end_4] at hpd
    have hg : ¬ (((100 - 100 * (w 0 t 3).toNat) ≤ d ∧ d < (100 - 100 * (w 0 t 3).toNat) + 64) ∨ (200 ≤ d ∧ d < 260 ∧ w 6 t d = 0)) := by
      intro q
      rw [if_pos q] at hpd
      omega
    rw [if_neg hg] at hpd
    have hD := hR.2.2.2.2 d hd hpd
    have hS2 := ((hI.S d (by omega)).2.2 hpd).2
    obtain ⟨-, c1, c2, c3, c4⟩ := e8_cell (v := v) (c := (64 * (d / 100) + d % 100)) (by omega) (by omega)
    rw [c1, c2, c3, c4, end_4, if_neg hg, end_3, end_7, end_7, end_5, end_6, e8_far (by omega) (by omega) (by omega) (by omega)]
    refine ⟨hD.1, hD.2.1, hD.2.2.1, hD.2.2.2.1, ?_⟩
    by_cases h2 : 200 ≤ d
    · rw [if_pos (by omega)]
    · rw [if_neg (by omega), hI.E.2.2.2 d (by omega) hpd]
/-- the queue moves up -/
def sh8 (v : Wd) (lo q : Nat) : Wd := fun c t' i => if c = 22 ∧ t' = 0 ∧ 57 + lo ≤ i ∧ i < 57 + q then v 22 0 (i + 1) else v c t' i
theorem sh8_none {q : Nat} : sh8 v q q = v := by
  funext c t' j
  unfold sh8
  rw [if_neg (by omega)]
theorem sh8_step {lo q : Nat} (h : lo < q) : sh8 (up v 22 0 (57 + lo) (v 22 0 (57 + lo + 1))) (lo + 1) q = sh8 v lo q := by
  funext c t' j
  by_cases hc : c = 22 ∧ t' = 0
  · obtain ⟨rfl, rfl⟩ := hc
    unfold sh8
    by_cases h1 : j = 57 + lo
    · rw [if_neg (by omega), if_pos (by omega), up_h h1, h1]
    · by_cases h2 : 57 + lo ≤ j ∧ j < 57 + q
      · rw [if_pos ⟨rfl, rfl, by omega, h2.2⟩, if_pos ⟨rfl, rfl, h2⟩, up_n (by omega)]
      · rw [if_neg (by omega), if_neg (by omega), up_n h1]
  · unfold sh8 up
    rw [if_neg (fun q => hc ⟨q.1, q.2.1⟩), if_neg (fun q => hc ⟨q.1, q.2.1⟩), if_neg (fun q => hc ⟨q.1, q.2.1⟩)]
theorem steps_l {x : Int} (hx : 0 ≤ x ∧ x < 188) : ∀ (n : Nat) (z : Int) (v : Wd), 0 ≤ z ∧ z ≤ v 22 0 8 → v 22 0 8 ≤ 127 → v 22 0 8 - z < n → X8_steps_b21 n x z v = (bd (X8_reads (185 + 5 * x + 1) (sh8 v z.toNat (v 22 0 8).toNat)) fun r8 w9 => bd (X8_reads (185 + 5 * x + 1 + 1) w9) fun r14 w15 => bd (X8_ends w15) fun r19 w20 => some (0, w20)) := by
  intro n
  induction n with
  | zero => intro z v h1 h2; omega
  | succ n ih =>
    intro z v h1 h2 h3
    rw [X8_steps_b21_s]
    by_cases h4 : z < v 22 0 8
    · have e8 : ∀ y : Int, up v 22 0 (57 + z).toNat y 22 0 8 = v 22 0 8 := fun y => up_n (by omega)
      rw [if_pos h4]
      simp (disch := omega) only [gd_t]
      rw [ih (z + 1) _ (by rw [e8]; omega) (by rw [e8]; omega) (by rw [e8]; omega), e8, show (57 + z).toNat = 57 + z.toNat by omega, show (57 + z + 1).toNat = 57 + z.toNat + 1 by omega, show (z + 1).toNat = z.toNat + 1 by omega, sh8_step (by omega)]
    · rw [if_neg h4, show z = v 22 0 8 by omega, sh8_none]
      simp (disch := omega) only [gd_t]
theorem Re.pop (hR : Re w v t) (hI : Iv B k ex w t) (hq : w 8 t 0 < w 8 t 1) : Re (popW w t) (sh8 (up v 22 0 8 (v 22 0 8 - 1)) 0 (v 22 0 8 - 1).toNat) t ∧ v 22 0 57 = (64 * ((w 9 t (w 8 t 0).toNat) / 100) + (w 9 t (w 8 t 0).toNat) % 100) := by
  obtain ⟨a0, a1, a2, a3, a4, a5, a6, a7, a8⟩ := hR.1
  have hA := hI.A
  unfold IvA at hA
  have hf : (w 0 t 3).toNat < 2 := by omega
  obtain ⟨q1, q2, q3, q4⟩ := hI.Q
  have hQ := hR.2.2.1
  have R : ∀ j, (j < 57 ∨ 57 + (v 22 0 8 - 1).toNat ≤ j) → j ≠ 8 → sh8 (up v 22 0 8 (v 22 0 8 - 1)) 0 (v 22 0 8 - 1).toNat 22 0 j = v 22 0 j := fun j h1 h2 => by
    unfold sh8
    rw [if_neg (by omega), up_n h2]
  have R8 : sh8 (up v 22 0 8 (v 22 0 8 - 1)) 0 (v 22 0 8 - 1).toNat 22 0 8 = v 22 0 8 - 1 := by
    unfold sh8
    rw [if_neg (by omega), up_h rfl]
  refine ⟨⟨?_, ?_, ?_, ?_, ?_⟩, ?_⟩
  · unfold ReA
    rw [pop_0, pop_1]
    simp only [pop_o (show (0 : Nat) ≠ 8 by decide)]
    rw [R 0 (by omega) (by omega), R 1 (by omega) (by omega), R 2 (by omega) (by omega), R 3 (by omega) (by omega), R (4 + (w 0 t 3).toNat) (by omega) (by omega), R (5 - (w 0 t 3).toNat) (by omega) (by omega), R 6 (by omega) (by omega), R 7 (by omega) (by omega), R8]
    exact ⟨a0, a1, a2, a3, a4, a5, a6, a7, by omega⟩
  · intro h hh
    rw [pop_o (by decide), R _ (by omega) (by omega)]
    exact hR.2.1 h hh
  · intro j hj
    rw [pop_0, pop_1] at hj
    rw [pop_0, pop_o (by decide)]
    have := hQ (j + 1) (by omega)
    have e : sh8 (up v 22 0 8 (v 22 0 8 - 1)) 0 (v 22 0 8 - 1).toNat 22 0 (57 + j) = v 22 0 (57 + j + 1) := by
      unfold sh8
      rw [if_pos ⟨rfl, rfl, by omega, by omega⟩, up_n (by omega)]
    rw [e, show (w 8 t 0 + 1).toNat + j = (w 8 t 0).toNat + (j + 1) by omega]
    exact this
  · intro d hd
    rw [pop_o (by decide), pop_o (by decide), R _ (by omega) (by omega)]
    exact hR.2.2.2.1 d hd
  · intro d hd hpd
    rw [pop_o (by decide)] at hpd
    have hS2 := ((hI.S d (by omega)).2.2 hpd).2
    have hD := hR.2.2.2.2 d hd hpd
    simp only [pop_o (show (3 : Nat) ≠ 8 by decide), pop_o (show (4 : Nat) ≠ 8 by decide), pop_o (show (5 : Nat) ≠ 8 by decide), pop_o (show (6 : Nat) ≠ 8 by decide), pop_o (show (7 : Nat) ≠ 8 by decide)]
    rw [R _ (by omega) (by omega), R _ (by omega) (by omega), R _ (by omega) (by omega), R _ (by omega) (by omega), R _ (by omega) (by omega)]
    exact hD
  · have := hQ 0 (by omega)
    rw [Nat.add_zero, Nat.add_zero] at this
    exact this
end EN8
