/-! PURE: the counts, both sides -/
section CNT
variable {B : Int} {k : Nat} {ex : Int} {w v va w1 : Wd} {t a i : Nat}
def al (w : Wd) (t d : Nat) : Int := if 0 < w 4 t d then 1 else 0
theorem al_01 (d : Nat) : 0 ≤ al w t d ∧ al w t d ≤ 1 := by
  unfold al
  split <;> omega
theorem sm_al (n : Nat) : 0 ≤ sm (al w t) n ∧ sm (al w t) n ≤ n := by
  refine ⟨sm_nonneg n (fun i _ => (al_01 i).1), ?_⟩
  have := sm_le (f := al w t) (b := 1) n (fun i _ => (al_01 i).2)
  omega
theorem number_l : ∀ (n p : Nat), p ≤ 260 → 260 - p < n → X0_number_b4 t n (sm (al w t) p) p w = some (sm (al w t) 260, w) := by
  intro n
  induction n with
  | zero => intro p h1 h2; omega
  | succ n ih =>
    intro p h1 h2
    have hb := sm_al (w := w) (t := t) p
    have hs : sm (al w t) (p + 1) = sm (al w t) p + al w t p := rfl
    rw [X0_number_b4]
    by_cases h3 : p < 260
    · have ih2 := ih (p + 1) (by omega) (by omega)
      rw [show ((p + 1 : Nat) : Int) = (p : Int) + 1 by omega, hs] at ih2
      rw [if_pos (by omega)]
      by_cases h4 : 0 < w 4 t p
      · rw [show al w t p = 1 from if_pos h4] at ih2
        rw [isAt_1 ⟨by omega, by omega⟩ h4, bd_t, if_neg (by decide), gd_t ⟨by omega, by omega⟩, gd_t ⟨by omega, by omega⟩]
        exact ih2
      · rw [show al w t p = 0 from if_neg h4, Int.add_zero] at ih2
        rw [isAt_0 (fun q => h4 q.2.2), bd_t, if_pos rfl, gd_t ⟨by omega, by omega⟩]
        exact ih2
    · rw [if_neg (by omega), show p = 260 by omega]
theorem copy8 (hR : Re w v t) (hI : Iv B k ex w t) {c : Nat} (hc : c < 188) : X8_sizeAt c v = some (w 4 t (100 * (c / 64) + c % 64), v) ∧ X8_isCopy c v = some (if 0 < w 4 t (100 * (c / 64) + c % 64) then 1 else 0, v) := by
  have := size8 hR hI (d := 100 * (c / 64) + c % 64) (by omega)
  rw [show 64 * (((100 * (c / 64) + c % 64 : Nat) : Int) / 100) + ((100 * (c / 64) + c % 64 : Nat) : Int) % 100 = c by omega] at this
  exact this
theorem allCopies_l (hR : Re w v t) (hI : Iv B k ex w t) : ∀ (n c : Nat), c ≤ 188 → 188 - c < n → X8_allCopies_b4 n (sm (fun c => al w t (100 * (c / 64) + c % 64)) c) c v = some (sm (fun c => al w t (100 * (c / 64) + c % 64)) 188, v) := by
  intro n
  induction n with
  | zero => intro c h1 h2; omega
  | succ n ih =>
    intro c h1 h2
    have hb1 := sm_nonneg (f := fun c => al w t (100 * (c / 64) + c % 64)) c (fun i _ => (al_01 _).1)
    have hb2 := sm_le (f := fun c => al w t (100 * (c / 64) + c % 64)) (b := 1) c (fun i _ => (al_01 _).2)
    have hs : sm (fun c => al w t (100 * (c / 64) + c % 64)) (c + 1) = sm (fun c => al w t (100 * (c / 64) + c % 64)) c + al w t (100 * (c / 64) + c % 64) := rfl
    rw [X8_allCopies_b4]
    by_cases h3 : c < 188
    · have ih2 := ih (c + 1) (by omega) (by omega)
      rw [show ((c + 1 : Nat) : Int) = (c : Int) + 1 by omega, hs] at ih2
      rw [if_pos (by omega), (copy8 hR hI h3).2, bd_t]
      by_cases h4 : 0 < w 4 t (100 * (c / 64) + c % 64)
      · rw [show al w t (100 * (c / 64) + c % 64) = 1 from if_pos h4] at ih2
        rw [if_pos h4, if_neg (by decide), gd_t ⟨by omega, by omega⟩, gd_t ⟨by omega, by omega⟩]
        exact ih2
      · rw [show al w t (100 * (c / 64) + c % 64) = 0 from if_neg h4] at ih2
        rw [if_neg h4, if_pos rfl, gd_t ⟨by omega, by omega⟩, gd_t ⟨by omega, by omega⟩]
        exact ih2
    · rw [if_neg (by omega), show c = 188 by omega]
theorem floor_s (hI : Iv B k ex w t) (n : Nat) (hn : n ≤ 60) : 0 ≤ sm (fun p => w 4 t (200 + p)) n ∧ sm (fun p => w 4 t (200 + p)) n ≤ 12 * n := by
  refine ⟨sm_nonneg n (fun p hp => (hI.S (200 + p) (by omega)).1), ?_⟩
  exact sm_le (f := fun p => w 4 t (200 + p)) (b := 12) n (fun p hp => (hI.S (200 + p) (by omega)).2.1)
theorem floorTaken_l (hI : Iv B k ex w t) : ∀ (n p : Nat), p ≤ 60 → 60 - p < n → X0_floorTaken_b4 t n (sm (fun p => w 4 t (200 + p)) p) p w = some (sm (fun p => w 4 t (200 + p)) 60, w) := by
  intro n
  induction n with
  | zero => intro p h1 h2; omega
  | succ n ih =>
    intro p h1 h2
    have hb := floor_s hI p h1
    have hs : sm (fun p => w 4 t (200 + p)) (p + 1) = sm (fun p => w 4 t (200 + p)) p + w 4 t (200 + p) := rfl
    rw [X0_floorTaken_b4]
    by_cases h3 : p < 60
    · have hS := hI.S (200 + p) (by omega)
      have ih2 := ih (p + 1) (by omega) (by omega)
      rw [show ((p + 1 : Nat) : Int) = (p : Int) + 1 by omega, hs] at ih2
      have e : (200 + (p : Int)).toNat = 200 + p := by omega
      rw [if_pos (by omega), gd_t ⟨by omega, by omega⟩, sizeAt_e ⟨by omega, by omega⟩ (by rw [e]; exact hS.1), bd_t, e, gd_t ⟨by omega, by omega⟩, gd_t ⟨by omega, by omega⟩]
      exact ih2
    · rw [if_neg (by omega), show p = 60 by omega]
theorem freeFloor_l (hR : Re w v t) (hI : Iv B k ex w t) : ∀ (n p : Nat), p ≤ 60 → 60 - p < n → X8_freeFloor_b7 n (60 - sm (fun p => w 4 t (200 + p)) p) (128 + p) v = some (60 - sm (fun p => w 4 t (200 + p)) 60, v) := by
  intro n
  induction n with
  | zero => intro p h1 h2; omega
  | succ n ih =>
    intro p h1 h2
    have hb := floor_s hI p h1
    have hs : sm (fun p => w 4 t (200 + p)) (p + 1) = sm (fun p => w 4 t (200 + p)) p + w 4 t (200 + p) := rfl
    rw [X8_freeFloor_b7]
    by_cases h3 : p < 60
    · have hS := hI.S (200 + p) (by omega)
      have ih2 := ih (p + 1) (by omega) (by omega)
      rw [hs] at ih2
      have z := (copy8 hR hI (c := 128 + p) (by omega)).1
      rw [show 100 * ((128 + p) / 64) + (128 + p) % 64 = 200 + p by omega, show ((128 + p : Nat) : Int) = 128 + (p : Int) by omega] at z
      rw [if_pos (by omega), z, bd_t, gd_t ⟨by omega, by omega⟩, gd_t ⟨by omega, by omega⟩]
      rw [show 60 - sm (fun p => w 4 t (200 + p)) p - w 4 t (200 + p) = 60 - (sm (fun p => w 4 t (200 + p)) p + w 4 t (200 + p)) by omega, show 128 + (p : Int) + 1 = 128 + ((p + 1 : Nat) : Int) by omega]
      exact ih2
    · rw [if_neg (by omega), show p = 60 by omega]
def tws (w : Wd) (t x : Nat) : Int := if 1 < sm (tw w t x) 260 then 1 else 0
theorem tws_01 (d : Nat) : 0 ≤ tws w t d ∧ tws w t d ≤ 1 := by
  unfold tws
  split <;> omega
theorem sm_tws (n : Nat) : 0 ≤ sm (tws w t) n ∧ sm (tws w t) n ≤ n := by
  refine ⟨sm_nonneg n (fun i _ => (tws_01 i).1), ?_⟩
  have := sm_le (f := tws w t) (b := 1) n (fun i _ => (tws_01 i).2)
  omega
theorem twins_l (hR : Re w v t) (hI : Iv B k ex w t) {m : Nat} (hm : w 0 t 1 = m) : ∀ (n p : Nat), p ≤ m → m - p < n → X5_thingsWithTwins_b4 t n (sm (tws w t) p) p w = some (sm (tws w t) m, w) ∧ X8_twins_b4 n (sm (tws w t) p) p v = some (sm (tws w t) m, v) := by
  have hA := hI.A
  unfold IvA at hA
  have a0 := hR.1.1
  intro n
  induction n with
  | zero => intro p h1 h2; omega
  | succ n ih =>
    intro p h1 h2
    have hb := sm_tws (w := w) (t := t) p
    have hs : sm (tws w t) (p + 1) = sm (tws w t) p + tws w t p := rfl
    rw [X5_thingsWithTwins_b4, X8_twins_b4]
    by_cases h3 : p < m
    · obtain ⟨i1, i2⟩ := ih (p + 1) (by omega) (by omega)
      rw [show ((p + 1 : Nat) : Int) = (p : Int) + 1 by omega, hs] at i1 i2
      have hc := sm_tw (w := w) (t := t) p 260
      by_cases h4 : 1 < sm (tw w t p) 260
      · rw [show tws w t p = 1 from if_pos h4] at i1 i2
        refine ⟨?_, ?_⟩
        · rw [if_pos (by omega), hasTwins_e hI, if_pos h4, bd_t, if_neg (by decide), gd_t ⟨by omega, by omega⟩, gd_t ⟨by omega, by omega⟩]
          exact i1
        · rw [if_pos (by omega), copies8_e hR hI (by omega), bd_t, if_pos h4, gd_t ⟨by omega, by omega⟩, gd_t ⟨by omega, by omega⟩]
          exact i2
      · rw [show tws w t p = 0 from if_neg h4] at i1 i2
        refine ⟨?_, ?_⟩
        · rw [if_pos (by omega), hasTwins_e hI, if_neg h4, bd_t, if_pos rfl, gd_t ⟨by omega, by omega⟩]
          rw [Int.add_zero] at i1
          exact i1
        · rw [if_pos (by omega), copies8_e hR hI (by omega), bd_t, if_neg h4, gd_t ⟨by omega, by omega⟩, gd_t ⟨by omega, by omega⟩]
          exact i2
    · rw [if_neg (by omega), if_neg (by omega), show p = m by omega]
      exact ⟨rfl, rfl⟩
theorem count_g (hG : GR B w) (hB : B ≤ 1000000) (x : Int) : ∃ r, X7_count x w = some (r, w) ∧ X8_count x w = some (r, w) ∧ InR r := by
  obtain ⟨⟨hI, hW, hR⟩, ⟨h0, h1, h2, h3⟩, ⟨t1, t2, t3⟩, hr⟩ := hG
  have hA := hI.A
  unfold IvA at hA
  obtain ⟨a0, a1, a2, a3, a4, a5, a6, a7, a8⟩ := hR.1
  obtain ⟨q1, q2, q3, q4⟩ := hI.Q
  unfold X7_count X8_count X5_numberOf
  by_cases e12 : x = 12
  · subst e12
    refine ⟨w 11 0 1, ?_, ?_, ⟨by omega, by omega⟩⟩
    · rw [if_pos rfl]
      rfl
    · simp
      exact h2
  by_cases e13 : x = 13
  · subst e13
    refine ⟨w 17 0 0, ?_, ?_, ⟨by omega, by omega⟩⟩
    · rw [if_neg (by decide), if_pos rfl]
      rfl
    · simp
      exact t2
  rw [if_neg e12, if_neg e13, if_neg e12, if_neg e13]
  by_cases e : x = 0
  · rw [if_pos e, if_pos e]
    exact ⟨w 0 0 1, rfl, by rw [a0], ⟨by omega, by omega⟩⟩
  rw [if_neg e, if_neg e]
  by_cases e : x = 1
  · rw [if_pos e, if_pos e]
    have hn : X0_number 0 w = some (sm (al w 0) 260, w) := number_l (w := w) (t := 0) LF 0 (by omega) (by rw [show LF = 10000 from rfl]; omega)
    have hm : X8_allCopies w = some (sm (fun c => al w 0 (100 * (c / 64) + c % 64)) 188, w) := allCopies_l hR hI LF 0 (by omega) (by rw [show LF = 10000 from rfl]; omega)
    rw [← sm_cells (f := al w 0) (fun d hd hn => if_neg (fun q => hn ((hI.S d hd).2.2 q).1))] at hm
    have hb := sm_al (w := w) (t := 0) 260
    refine ⟨sm (al w 0) 260, ?_, ?_, ⟨by omega, by omega⟩⟩
    · rw [hn, bd_t, bd_t]
    · rw [hm, bd_t]
  rw [if_neg e, if_neg e]
  by_cases e : x = 2
  · rw [if_pos e, if_pos e]
    refine ⟨w 0 0 2, ?_, by rw [a2], ⟨by omega, by omega⟩⟩
    by_cases hm : w 0 0 2 = 0
    · rw [if_pos hm, bd_t, hm]
    · rw [if_neg hm, bd_t, show w 0 0 2 = 1 by omega]
  rw [if_neg e, if_neg e]
  by_cases e : x = 3
  · rw [if_pos e, if_pos e]
    exact ⟨w 0 0 3, rfl, by rw [a3], ⟨by omega, by omega⟩⟩
  rw [if_neg e, if_neg e]
  by_cases e : x = 4
  · rw [if_pos e, if_pos e]
    refine ⟨64 - w 0 0 4, ?_, ?_, ⟨by omega, by omega⟩⟩
    · rw [free_e hA.2.2.2.2.1, bd_t, bd_t]
    · rw [a3, free8_e hA.2.2.2.1 (by rw [a4]; omega), bd_t, a4]
  rw [if_neg e, if_neg e]
  by_cases e : x = 5
  · rw [if_pos e, if_pos e]
    have hb := floor_s hI 60 (by omega)
    have hn : X0_floorTaken 0 w = some (sm (fun p => w 4 0 (200 + p)) 60, w) := floorTaken_l hI LF 0 (by omega) (by rw [show LF = 10000 from rfl]; omega)
    have hm : X8_freeFloor w = some (60 - sm (fun p => w 4 0 (200 + p)) 60, w) := freeFloor_l hR hI LF 0 (by omega) (by rw [show LF = 10000 from rfl]; omega)
    refine ⟨60 - sm (fun p => w 4 0 (200 + p)) 60, ?_, ?_, ⟨by omega, by omega⟩⟩
    · rw [hn, bd_t, gd_t ⟨by omega, by omega⟩, bd_t]
    · rw [hm, bd_t]
  rw [if_neg e, if_neg e]
  by_cases e : x = 6
  · rw [if_pos e, if_pos e]
    refine ⟨w 8 0 1 - w 8 0 0, ?_, by rw [a8], ⟨by omega, by omega⟩⟩
    unfold X3_size
    rw [gd_t ⟨by omega, by omega⟩, bd_t, bd_t]
  rw [if_neg e, if_neg e]
  by_cases e : x = 7
  · rw [if_pos e, if_pos e]
    have hk := hI.kp_nn
    refine ⟨if w 0 0 2 = 1 then kp w 0 else 0, ?_, ?_, ?_⟩
    · rw [roomKept_e hI, bd_t, bd_t]
    · rw [kept8_e hR hI, bd_t]
    · split
      · exact ⟨by omega, by omega⟩
      · exact ⟨by decide, by decide⟩
  rw [if_neg e, if_neg e]
  by_cases e : x = 8
  · rw [if_pos e, if_pos e]
    exact ⟨w 0 0 5, rfl, by rw [a6], ⟨by omega, by omega⟩⟩
  rw [if_neg e, if_neg e]
  by_cases e : x = 9
  · rw [if_pos e, if_pos e]
    exact ⟨w 0 0 6, rfl, by rw [a7], ⟨by omega, by omega⟩⟩
  rw [if_neg e, if_neg e]
  by_cases e : x = 10
  · rw [if_pos e, if_pos e]
    obtain ⟨m, hm⟩ : ∃ m : Nat, w 0 0 1 = m := ⟨(w 0 0 1).toNat, by omega⟩
    obtain ⟨i1, i2⟩ := twins_l hR hI hm LF 0 (by omega) (by rw [show LF = 10000 from rfl]; omega)
    have hb := sm_tws (w := w) (t := 0) m
    refine ⟨sm (tws w 0) m, ?_, ?_, ⟨by omega, by omega⟩⟩
    · have i1' : X5_thingsWithTwins 0 w = some (sm (tws w 0) m, w) := i1
      rw [i1', bd_t, bd_t]
    · have i2' : X8_twins w = some (sm (tws w 0) m, w) := i2
      rw [i2', bd_t]
  rw [if_neg e, if_neg e]
  by_cases e : x = 11
  · rw [if_pos e, if_pos e]
    exact ⟨w 0 0 0, rfl, by rw [a1], ⟨by omega, by omega⟩⟩
  rw [if_neg e, if_neg e]
  exact ⟨-1, rfl, rfl, ⟨by decide, by decide⟩⟩
end CNT
