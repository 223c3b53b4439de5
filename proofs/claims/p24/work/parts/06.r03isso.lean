/-! PURE: what the class shows is what the law's rows say -/
section IS
variable {n : Int} {w : Wd} {a i h o j d c : Nat} {x y : Int}
theorem hook_C (hI : Iv n 8 (-1) w 0) (hh : h < 8) : X7_hook h w = some (nn (w 1 0 h), w) := by
  have hx : 0 ≤ (h : Int) ∧ (h : Int) < 8 := by omega
  unfold X7_hook
  rw [isHook_e, if_pos hx, bd_t, if_neg (by decide), hungOn_e, if_pos hx, bd_t, orNone_e, bd_t]
  rfl
theorem hook_no (hx : ¬ (0 ≤ x ∧ x < 8)) : X7_hook x w = some (-1, w) := by
  unfold X7_hook
  rw [isHook_e, if_neg hx, bd_t, if_pos rfl]
theorem copy_no (hx : ¬ (0 ≤ x ∧ x < 260 ∧ 0 < w 4 0 x.toNat)) : X7_copy x y w = some (-1, w) := by
  unfold X7_copy
  rw [isAt_0 hx, bd_t, if_pos rfl]
theorem copy_C (hI : Iv n 8 (-1) w 0) (hd : (d < 64 ∨ (100 ≤ d ∧ d < 164) ∨ (200 ≤ d ∧ d < 260))) (hp : 0 < w 4 0 d) : X7_copy d y w = some (if y = 0 then w 3 0 d else if y = 1 then w 4 0 d else if y = 2 then nn (w 5 0 d) else if y = 3 then w 6 0 d else if y = 4 then nn (w 7 0 (2 * d)) else if y = 5 then nn (w 7 0 (2 * d + 1)) else -1, w) := by
  have hxl : 0 ≤ (d : Int) ∧ (d : Int) < 260 := by omega
  have hp' : 0 < w 4 0 ((d : Int)).toNat := hp
  have h6 := hI.m01 hd hp
  have ed : ((d : Int)).toNat = d := rfl
  unfold X7_copy
  rw [isAt_1 hxl hp', bd_t, if_neg (by decide)]
  by_cases y0 : y = 0
  · rw [if_pos y0, if_pos y0, thingAt_1 hxl hp', bd_t]
    rfl
  by_cases y1 : y = 1
  · rw [if_neg y0, if_neg y0, if_pos y1, if_pos y1, sizeAt_e hxl (by omega), bd_t]
    rfl
  by_cases y2 : y = 2
  · rw [if_neg y0, if_neg y0, if_neg y1, if_neg y1, if_pos y2, if_pos y2, noteAt_1 hxl hp', bd_t, orNone_e, bd_t]
    rfl
  by_cases y3 : y = 3
  · rw [if_neg y0, if_neg y0, if_neg y1, if_neg y1, if_neg y2, if_neg y2, if_pos y3, if_pos y3, isMarked_1 hxl hp', bd_t, ed]
    rcases h6 with e | e
    · rw [e, if_neg (show ¬ (0 : Int) = 1 by decide), if_pos rfl]
    · rw [e, if_pos (show (1 : Int) = 1 by decide), if_neg (by decide)]
  by_cases y4 : y = 4
  · rw [if_neg y0, if_neg y0, if_neg y1, if_neg y1, if_neg y2, if_neg y2, if_neg y3, if_neg y3, if_pos y4, if_pos y4, nameAt_1 hxl hp' (by decide), bd_t, orNone_e, bd_t]
    rfl
  by_cases y5 : y = 5
  · rw [if_neg y0, if_neg y0, if_neg y1, if_neg y1, if_neg y2, if_neg y2, if_neg y3, if_neg y3, if_neg y4, if_neg y4, if_pos y5, if_pos y5, nameAt_1 hxl hp' (by decide), bd_t, orNone_e, bd_t]
    rfl
  rw [if_neg y0, if_neg y0, if_neg y1, if_neg y1, if_neg y2, if_neg y2, if_neg y3, if_neg y3, if_neg y4, if_neg y4, if_neg y5, if_neg y5]
theorem where_no (hx : ¬ (0 ≤ x ∧ x < w 0 0 1) ∨ y < 0) : X7_where x y w = some (-1, w) := by
  unfold X7_where
  rw [isThing_e]
  by_cases h : 0 ≤ x ∧ x < w 0 0 1
  · rw [if_pos h, bd_t, if_neg (by decide), if_pos (hx.resolve_left (fun q => q h))]
  · rw [if_neg h, bd_t, if_pos rfl]
theorem where_at (hI : Iv n 8 (-1) w 0) (hx : 0 ≤ x ∧ x < w 0 0 1) (hd : d < 260) (hc : 0 < w 4 0 d ∧ w 3 0 d = x) : X7_where x (sm (cp w 0 x) d) w = some ((d : Int), w) := by
  have hb := sm_cp (w := w) (t := 0) x d
  obtain ⟨r, g1, g2⟩ := addressOf_e (w := w) (t := 0) (x := x) (y := sm (cp w 0 x) d) hb.1
  have hr : r = d := by
    rcases g2 with q | ⟨q1, q2, q3, q4, q5⟩
    · exfalso
      have e : sm (cp w 0 x) (d + 1) = sm (cp w 0 x) d + cp w 0 x d := rfl
      rw [show cp w 0 x d = 1 from if_pos hc] at e
      have := sm_mn (f := cp w 0 x) (n := d + 1) (m := 260) (by omega) (fun i _ => (cp_01 x i).1)
      omega
    · have := cp_one ⟨q3, q4⟩ hc q5
      omega
  unfold X7_where
  rw [isThing_e, if_pos hx, bd_t, if_neg (by decide), if_neg (by omega), g1, bd_t, orNone_e, bd_t, hr, nn_ne (by omega)]
theorem where_end (hI : Iv n 8 (-1) w 0) (hx : 0 ≤ x ∧ x < w 0 0 1) : X7_where x (sm (cp w 0 x) 260) w = some (-9, w) := by
  have hb := sm_cp (w := w) (t := 0) x 260
  obtain ⟨r, g1, g2⟩ := addressOf_e (w := w) (t := 0) (x := x) (y := sm (cp w 0 x) 260) hb.1
  have hr : r = 300 := by
    rcases g2 with q | ⟨q1, q2, q3, q4, q5⟩
    · exact q.1
    · exfalso
      have e : sm (cp w 0 x) (r.toNat + 1) = sm (cp w 0 x) r.toNat + cp w 0 x r.toNat := rfl
      rw [show cp w 0 x r.toNat = 1 from if_pos ⟨q3, q4⟩] at e
      have := sm_mn (f := cp w 0 x) (n := r.toNat + 1) (m := 260) (by omega) (fun i _ => (cp_01 x i).1)
      omega
  unfold X7_where
  rw [isThing_e, if_pos hx, bd_t, if_neg (by decide), if_neg (by omega), g1, bd_t, orNone_e, bd_t, hr, nn_300]
/-! the counts -/
theorem twins_C (hI : Iv n 8 (-1) w 0) {m : Nat} (hm : w 0 0 1 = m) : ∀ (k p : Nat), p ≤ m → m - p < k → X5_thingsWithTwins_b4 0 k (sm (tws w 0) p) p w = some (sm (tws w 0) m, w) := by
  have hA := hI.A
  unfold IvA at hA
  intro k
  induction k with
  | zero => intro p h1 h2; omega
  | succ k ih =>
    intro p h1 h2
    have hsp := sm_tws (w := w) (t := 0) p
    rw [X5_thingsWithTwins_b4_s, hm]
    by_cases hp : p < m
    · have hnx : sm (tws w 0) (p + 1) = sm (tws w 0) p + tws w 0 p := rfl
      have hnext := ih (p + 1) (by omega) (by omega)
      rw [hnx] at hnext
      rw [if_pos (by omega), hasTwins_e hI, bd_t]
      unfold tws at hnext
      by_cases h2 : 1 < sm (tw w 0 (p : Int)) 260
      · rw [if_pos h2] at hnext ⊢
        rw [if_neg (by decide), gd_t ⟨by omega, by omega⟩, gd_t ⟨by omega, by omega⟩]
        exact hnext
      · rw [if_neg h2, Int.add_zero] at hnext
        rw [if_neg h2, if_pos rfl, gd_t ⟨by omega, by omega⟩]
        exact hnext
    · rw [if_neg (by omega), show p = m by omega]
theorem count_C (hI : Iv n 8 (-1) w 0) (h17 : w 17 0 0 = 0) : X7_count 0 w = some (w 0 0 1, w) ∧ X7_count 1 w = some (sm (al w 0) 260, w) ∧ X7_count 2 w = some (w 0 0 2, w) ∧ X7_count 3 w = some (w 0 0 3, w) ∧ X7_count 4 w = some (64 - w 0 0 4, w) ∧ X7_count 5 w = some (60 - sm (fun p => w 4 0 (200 + p)) 60, w) ∧ X7_count 6 w = some (w 8 0 1 - w 8 0 0, w) ∧ X7_count 7 w = some (if w 0 0 2 = 1 then kp w 0 else 0, w) ∧ X7_count 8 w = some (w 0 0 5, w) ∧ X7_count 9 w = some (w 0 0 6, w) ∧ X7_count 10 w = some (sm (tws w 0) (w 0 0 1).toNat, w) ∧ X7_count 11 w = some (w 0 0 0, w) ∧ X7_count 13 w = some (0, w) ∧ X7_count 14 w = some (-1, w) ∧ X7_count (-1) w = some (-1, w) := by
  have hA := hI.A
  unfold IvA at hA
  obtain ⟨q1, q2, q3, q4⟩ := hI.Q
  have hb := floor_s hI 60 (by omega)
  have hn1 : X0_number 0 w = some (sm (al w 0) 260, w) := number_l (w := w) (t := 0) LF 0 (by omega) (by rw [show LF = 10000 from rfl]; omega)
  have hn5 : X0_floorTaken 0 w = some (sm (fun p => w 4 0 (200 + p)) 60, w) := floorTaken_l hI LF 0 (by omega) (by rw [show LF = 10000 from rfl]; omega)
  have hn10 : X5_thingsWithTwins 0 w = some (sm (tws w 0) (w 0 0 1).toNat, w) := twins_C hI (m := (w 0 0 1).toNat) (by omega) LF 0 (by omega) (by rw [show LF = 10000 from rfl]; omega)
  refine ⟨rfl, ?_, ?_, rfl, ?_, ?_, ?_, ?_, rfl, rfl, ?_, rfl, ?_, rfl, rfl⟩
  · show (bd (bd (X0_number 0 w) fun r1 w2 => some (r1, w2)) fun r11 w12 => some (r11, w12)) = _
    rw [hn1]
    rfl
  · show (bd (if w 0 0 2 = 0 then (some ((0 : Int), w)) else (some (1, w))) fun r11 w12 => some (r11, w12)) = _
    by_cases hm : w 0 0 2 = 0
    · rw [if_pos hm, bd_t, hm]
    · rw [if_neg hm, bd_t, show w 0 0 2 = 1 by omega]
  · show (bd (bd (X5_freeInHalf 0 w) fun r1 w2 => some (r1, w2)) fun r11 w12 => some (r11, w12)) = _
    rw [free_e hA.2.2.2.2.1]
    rfl
  · show (bd (bd (X0_floorTaken 0 w) fun r11 w12 => gd (InR (60 - r11)) (some (60 - r11, w12))) fun r11 w12 => some (r11, w12)) = _
    rw [hn5, bd_t, gd_t ⟨by omega, by omega⟩]
    rfl
  · show (bd (bd (X3_size 0 w) fun r1 w2 => some (r1, w2)) fun r11 w12 => some (r11, w12)) = _
    unfold X3_size
    rw [gd_t ⟨by omega, by omega⟩]
    rfl
  · show (bd (bd (X5_roomKept 0 w) fun r1 w2 => some (r1, w2)) fun r11 w12 => some (r11, w12)) = _
    rw [roomKept_e hI]
    rfl
  · show (bd (bd (X5_thingsWithTwins 0 w) fun r1 w2 => some (r1, w2)) fun r11 w12 => some (r11, w12)) = _
    rw [hn10]
    rfl
  · show (bd (some (w 17 0 0, w)) fun r6 w7 => some (r6, w7)) = _
    rw [h17]
    rfl
/-! the law's look, part by part -/
def alc (w : Wd) (c : Nat) : Int := al w 0 (ad c)
def flc (w : Wd) (c : Nat) : Int := if 128 ≤ c then w 4 0 (ad c) else 0
def twc (w : Wd) (x : Int) (c : Nat) : Int := tw w 0 x (ad c)
theorem so_504 (hS : SK n w) (hn : 0 ≤ n ∧ n ≤ 1000000) : L_isSo_b504 (sm (al w 0) 260) (60 - sm (fun p => w 4 0 (200 + p)) 60) (sm (tws w 0) (w 0 0 1).toNat) 1 w = some (1, w) := by
  obtain ⟨⟨hI, hW, h0, h1, h17⟩, hL, hC⟩ := hS
  obtain ⟨a0, a1, a2, a3, a4, a5, a6, a7, a8⟩ := hL.1
  have hA := hI.A
  unfold IvA at hA
  obtain ⟨k0, k1, k2, k3, k4, k5, k6, k7, k8, k9, k10, k11, k13, -, -⟩ := count_C hI h17
  have e4 : (4 + w 0 0 3).toNat = 4 + (w 0 0 3).toNat := by omega
  have hS64 := hI.S 64 (by omega)
  have f0 : X7_where (w 0 0 1) 0 w = some (-1, w) := where_no (Or.inl (by omega))
  have f1 : X7_where 0 (-1) w = some (-1, w) := where_no (Or.inr (by decide))
  have f2 : X7_copy 64 0 w = some (-1, w) := copy_no (fun q => by
    have := hS64.2.2 q.2.2
    omega)
  have f3 : X7_copy 260 0 w = some (-1, w) := copy_no (fun q => by omega)
  have f4 : X7_copy (-1) 0 w = some (-1, w) := copy_no (fun q => by omega)
  unfold L_isSo_b504
  rw [if_neg (by decide), k0, bd_t, if_pos a0.symm, k1, bd_t, if_pos rfl, k2, bd_t, if_pos a2.symm, k3, bd_t, if_pos a3.symm, k4, bd_t, a3, gd_t ⟨by omega, by omega⟩, gd_t ⟨by omega, by omega⟩, e4, a4, gd_t ⟨by omega, by omega⟩, if_pos rfl, k5, bd_t, if_pos rfl, k6, bd_t, if_pos a8.symm, k7, bd_t, kept_L hL hI, bd_t, if_pos rfl, k8, bd_t, if_pos a6.symm, k9, bd_t, if_pos a7.symm, k10, bd_t, if_pos rfl, k11, bd_t, if_pos a1.symm, k13, bd_t, if_pos rfl, a0, f0, bd_t, if_pos rfl, f1, bd_t, if_pos rfl, f2, bd_t, if_pos rfl, f3, bd_t, if_pos rfl, f4, bd_t, if_pos rfl]
theorem so_360 (hS : SK n w) {K : Int → Int → Int → Int → Int → Wd → Option (Int × Wd)} {x7 x8 x9 : Int} (hx9 : 0 ≤ x9 ∧ x9 ≤ 100) {t : Nat} (ht : (t : Int) < w 0 0 1) : ∀ (k p : Nat), p ≤ 188 → 188 - p < k → L_isSo_b360 K k x7 x8 x9 1 t (sm (cpc w t) p) (sm (twc w t) p) p w = K x7 x8 (x9 + tws w 0 t) 1 ((t + 1 : Nat) : Int) w := by
  obtain ⟨⟨hI, hW, h0, h1, h17⟩, hL, hC⟩ := hS
  obtain ⟨a0, a1, a2, a3, a4, a5, a6, a7, a8⟩ := hL.1
  have hA := hI.A
  unfold IvA at hA
  have hx : 0 ≤ (t : Int) ∧ (t : Int) < w 0 0 1 := ⟨by omega, ht⟩
  intro k
  induction k with
  | zero => intro p h1 h2; omega
  | succ k ih =>
    intro p h1 h2
    rw [L_isSo_b360_s]
    by_cases hp : p < 188
    · have hia := ad_ia hp
      have hcb := sm_cpc (g := w) (t : Int) p
      have htb : 0 ≤ sm (twc w t) p ∧ sm (twc w t) p ≤ p := by
        refine ⟨sm_nonneg p (fun i _ => (tw_01 (t : Int) (ad i)).1), ?_⟩
        have := sm_le (f := twc w t) (b := 1) p (fun i _ => (tw_01 (t : Int) (ad i)).2)
        omega
      have hn1 : sm (cpc w t) (p + 1) = sm (cpc w t) p + cpc w t p := rfl
      have hn2 : sm (twc w t) (p + 1) = sm (twc w t) p + twc w t p := rfl
      have hnx := ih (p + 1) (by omega) (by omega)
      rw [hn1, hn2] at hnx
      rw [if_pos (by omega), if_neg (by decide), address_e hp, bd_t, at_e (x := (ad p : Int)) (by omega) hia.1, bd_t, show ((ad p : Nat) : Int).toNat = ad p from rfl, thg_e hL hI hia.1, bd_t]
      by_cases hc : 0 < w 4 0 (ad p) ∧ w 3 0 (ad p) = t
      · have e1 : cpc w t p = 1 := if_pos hc
        have hsu : sm (cpc w t) p = sm (cp w 0 t) (ad p) := (sm_upto (f := cp w 0 t) (cp_out hI t) p (by omega)).symm
        rw [if_pos ((thg_x hI hx.1).mpr hc), hsu, where_at hI hx (by omega) hc, bd_t, address_e hp, bd_t, if_pos rfl]
        rw [← hsu]
        rw [e1] at hnx
        unfold L_isSo_b416
        rw [gd_t ⟨by omega, by omega⟩, a2]
        have hold : p / 64 = (1 - w 0 0 3).toNat ↔ (100 * (1 - w 0 0 3) ≤ ((ad p : Int)) ∧ ((ad p : Int)) < 100 * (1 - w 0 0 3) + 64) := by
          unfold ad
          omega
        by_cases hm : w 0 0 2 = 1
        · rw [if_pos hm, gd_t (by omega), a3, gd_t ⟨by omega, by omega⟩]
          by_cases hq : (p : Int) / 64 = 1 - w 0 0 3
          · have e2 : twc w t p = 0 := if_neg (fun q => q.2.2 ⟨hm, hold.mp (by omega)⟩)
            rw [e2] at hnx
            rw [if_pos hq, gd_t ⟨by omega, by omega⟩, gd_t ⟨by omega, by omega⟩]
            exact hnx
          · have e2 : twc w t p = 1 := if_pos ⟨hc.1, hc.2, fun q => hq (by have := hold.mpr q.2; omega)⟩
            rw [e2] at hnx
            rw [if_neg hq, gd_t ⟨by omega, by omega⟩, gd_t ⟨by omega, by omega⟩]
            exact hnx
        · have e2 : twc w t p = 1 := if_pos ⟨hc.1, hc.2, fun q => hm q.1⟩
          rw [e2] at hnx
          rw [if_neg hm, gd_t ⟨by omega, by omega⟩, gd_t ⟨by omega, by omega⟩]
          exact hnx
      · have e1 : cpc w t p = 0 := if_neg hc
        have e2 : twc w t p = 0 := if_neg (fun q => hc ⟨q.1, q.2.1⟩)
        rw [e1, e2, Int.add_zero, Int.add_zero] at hnx
        rw [if_neg (fun q => hc ((thg_x hI hx.1).mp q)), gd_t ⟨by omega, by omega⟩]
        exact hnx
    · have hp8 : p = 188 := by omega
      subst hp8
      have et : sm (twc w t) 188 = sm (tw w 0 t) 260 := (sm_cells (f := tw w 0 t) (tw_out hI t)).symm
      have ec : sm (cpc w t) 188 = sm (cp w 0 t) 260 := (sm_cells (f := cp w 0 t) (cp_out hI t)).symm
      have ew : ∀ s0 : Int, (s0 = 0 ∨ s0 = 1) → L_isSo_b470 K x7 x8 1 t (sm (cpc w t) 188) s0 x9 w = K x7 x8 (x9 + s0) 1 ((t + 1 : Nat) : Int) w := fun s0 hs => by
        unfold L_isSo_b470
        rw [gd_t ⟨by omega, by omega⟩, if_neg (by decide), ec, where_end hI hx, bd_t, if_pos rfl, gd_t ⟨by omega, by omega⟩]
        rfl
      rw [if_neg (by omega), et]
      unfold tws
      by_cases h2 : 1 < sm (tw w 0 (t : Int)) 260
      · rw [if_pos h2, if_pos h2, ew 1 (Or.inr rfl)]
      · rw [if_neg h2, if_neg h2, ew 0 (Or.inl rfl)]
theorem so_338 (hS : SK n w) (hn : 0 ≤ n ∧ n ≤ 1000000) : ∀ (k t : Nat), (t : Int) ≤ w 0 0 1 → w 0 0 1 - t < k → L_isSo_b338 k (sm (al w 0) 260) (60 - sm (fun p => w 4 0 (200 + p)) 60) (sm (tws w 0) t) 1 t w = some (1, w) := by
  have a0 := hS.2.1.1.1
  have hA := hS.1.1.A
  unfold IvA at hA
  intro k
  induction k with
  | zero => intro t h1 h2; omega
  | succ k ih =>
    intro t h1 h2
    have hsp := sm_tws (w := w) (t := 0) t
    rw [L_isSo_b338_s, a0]
    by_cases ht : (t : Int) < w 0 0 1
    · have h := so_360 hS (K := L_isSo_b338 k) (x7 := sm (al w 0) 260) (x8 := 60 - sm (fun p => w 4 0 (200 + p)) 60) (x9 := sm (tws w 0) t) (by omega) ht LF 0 (by omega) (by rw [show LF = 10000 from rfl]; omega)
      rw [if_pos ht, if_neg (by decide)]
      refine h.trans ?_
      exact ih (t + 1) (by omega) (by omega)
    · rw [if_neg ht]
      have : t = (w 0 0 1).toNat := by omega
      rw [this]
      exact so_504 hS hn
theorem so_57 (hS : SK n w) (hn : 0 ≤ n ∧ n ≤ 1000000) : ∀ (k p : Nat), p ≤ 188 → 188 - p < k → L_isSo_b57 k (sm (alc w) p) (60 - sm (flc w) p) 0 1 p w = some (1, w) := by
  have hS0 := hS
  obtain ⟨⟨hI, hW, h0, h1, h17⟩, hL, hC⟩ := hS
  obtain ⟨a0, a1, a2, a3, a4, a5, a6, a7, a8⟩ := hL.1
  have hA := hI.A
  unfold IvA at hA
  intro k
  induction k with
  | zero => intro p h1 h2; omega
  | succ k ih =>
    intro p h1 h2
    rw [L_isSo_b57_s]
    by_cases hp : p < 188
    · have hia := ad_ia hp
      obtain ⟨d, hd⟩ : ∃ d : Nat, d = ad p := ⟨_, rfl⟩
      have hdp : 200 ≤ d ↔ 128 ≤ p := by rw [hd]; unfold ad; omega
      rw [← hd] at hia
      have hia := hia.1
      have hab : 0 ≤ sm (alc w) p ∧ sm (alc w) p ≤ p := by
        refine ⟨sm_nonneg p (fun i _ => (al_01 (ad i)).1), ?_⟩
        have := sm_le (f := alc w) (b := 1) p (fun i _ => (al_01 (ad i)).2)
        omega
      have hfb : 0 ≤ sm (flc w) p ∧ sm (flc w) p ≤ 12 * p := by
        have hz : ∀ i, i < p → 0 ≤ flc w i ∧ flc w i ≤ 12 := fun i hi => by
          have := hI.S (ad i) (by unfold ad; omega)
          unfold flc
          split <;> omega
        exact ⟨sm_nonneg p (fun i hi => (hz i hi).1), sm_le (f := flc w) (b := 12) p (fun i hi => (hz i hi).2)⟩
      have hn1 : sm (alc w) (p + 1) = sm (alc w) p + alc w p := rfl
      have hn2 : sm (flc w) (p + 1) = sm (flc w) p + flc w p := rfl
      have hnx := ih (p + 1) (by omega) (by omega)
      rw [hn1, hn2] at hnx
      rw [if_pos (by omega), if_neg (by decide), address_e hp, bd_t, ← hd, at_e (x := (d : Int)) (by omega) hia, bd_t, show ((d : Nat) : Int).toNat = d from rfl]
      by_cases h4 : 0 < w 4 0 d
      · have ok := hI.okp hia h4
        have hpb := pk_b ok
        have hSd := hI.S d (by omega)
        have hz := hL.2.2.2.2 d hia h4
        have e1 : alc w p = 1 := by
          unfold alc
          rw [← hd]
          exact if_pos h4
        have hcp := fun y => copy_C (y := y) hI hia h4
        obtain ⟨p0, p1, p2⟩ := name_p (w := w) ok
        have hth := (hSd.2.2 h4).2
        have hmore : ∀ f : Int, flc w p = f → InR (60 - sm (flc w) p - f) → L_isSo_b142 (L_isSo_b57 k) (sm (alc w) p + 1) 0 p d (cl w d) f (60 - sm (flc w) p) w = some (1, w) := fun f hf hr => by
          have hN0 : w 7 0 (2 * d) = 300 ∨ prs w 0 (w 7 0 (2 * d)) := hI.N d (by omega) h4 0 (by decide)
          have hN1 : w 7 0 (2 * d + 1) = 300 ∨ prs w 0 (w 7 0 (2 * d + 1)) := hI.N d (by omega) h4 1 (by decide)
          have hat : ∀ y : Int, prs w 0 y → L_at y w = some (cl w y.toNat, w) ∧ cmpL (cl w y.toNat) 0 ≠ 0 := fun y hy => by
            have oky := hI.okp hy.2.1 hy.2.2
            have := pk_b oky
            refine ⟨at_e hy.1 hy.2.1, fun q => ?_⟩
            rw [hL.cp hy.2.1 hy.2.2, cmp_e (pk_l oky) ⟨by decide, by decide⟩] at q
            omega
          have hend : L_isSo_b293 (L_isSo_b57 k) (sm (alc w) p + 1) (60 - sm (flc w) p - f) 0 p (cl w d) w = some (1, w) := by
            have hgo : (gd (InR ((p : Int) + 1)) (L_isSo_b57 k (sm (alc w) p + 1) (60 - sm (flc w) p - f) 0 1 ((p : Int) + 1) w)) = some (1, w) := by
              rw [gd_t ⟨by omega, by omega⟩]
              rw [e1, hf, show 60 - (sm (flc w) p + f) = 60 - sm (flc w) p - f by omega] at hnx
              exact hnx
            unfold L_isSo_b293
            rw [hL.cp hia h4, p1, bd_t]
            rcases hN1 with q | q
            · rw [if_pos (show nn (w 7 0 (2 * d + 1)) < 0 by rw [q, nn_300]; decide)]
              exact hgo
            · have hl := q.lt
              obtain ⟨t1, t2⟩ := hat _ q
              rw [if_neg (show ¬ nn (w 7 0 (2 * d + 1)) < 0 by rw [nn_ne (by omega)]; omega), p1, bd_t, nn_ne (show w 7 0 (2 * d + 1) ≠ 300 by omega), t1, bd_t, if_neg t2]
              exact hgo
          unfold L_isSo_b142
          rw [gd_t hr, hcp 0, bd_t, if_pos rfl, hL.cp hia h4, thing_p ok, bd_t, if_pos rfl, hcp 1, bd_t, if_neg (show ¬ (1 : Int) = 0 by decide), if_pos rfl, thing_p ok, bd_t, gd_t ⟨hth.1, by omega⟩, hz, if_pos rfl, hcp 2, bd_t, if_neg (show ¬ (2 : Int) = 0 by decide), if_neg (show ¬ (2 : Int) = 1 by decide), if_pos rfl, p2, bd_t, if_pos rfl, hcp 3, bd_t, if_neg (show ¬ (3 : Int) = 0 by decide), if_neg (show ¬ (3 : Int) = 1 by decide), if_neg (show ¬ (3 : Int) = 2 by decide), if_pos rfl, mark_p ok, bd_t, if_pos rfl, hcp 4, bd_t, if_neg (show ¬ (4 : Int) = 0 by decide), if_neg (show ¬ (4 : Int) = 1 by decide), if_neg (show ¬ (4 : Int) = 2 by decide), if_neg (show ¬ (4 : Int) = 3 by decide), if_pos rfl, p0, bd_t, if_pos rfl, hcp 5, bd_t, if_neg (show ¬ (5 : Int) = 0 by decide), if_neg (show ¬ (5 : Int) = 1 by decide), if_neg (show ¬ (5 : Int) = 2 by decide), if_neg (show ¬ (5 : Int) = 3 by decide), if_neg (show ¬ (5 : Int) = 4 by decide), if_pos rfl, p1, bd_t, if_pos rfl, hcp 6, bd_t, if_neg (show ¬ (6 : Int) = 0 by decide), if_neg (show ¬ (6 : Int) = 1 by decide), if_neg (show ¬ (6 : Int) = 2 by decide), if_neg (show ¬ (6 : Int) = 3 by decide), if_neg (show ¬ (6 : Int) = 4 by decide), if_neg (show ¬ (6 : Int) = 5 by decide), if_pos rfl]
          unfold L_isSo_b257
          rw [if_neg (by decide), p0, bd_t]
          rw [hL.cp hia h4] at hend
          rcases hN0 with q | q
          · rw [if_pos (show nn (w 7 0 (2 * d)) < 0 by rw [q, nn_300]; decide)]
            exact hend
          · have hl := q.lt
            obtain ⟨t1, t2⟩ := hat _ q
            rw [if_neg (show ¬ nn (w 7 0 (2 * d)) < 0 by rw [nn_ne (by omega)]; omega), p0, bd_t, nn_ne (show w 7 0 (2 * d) ≠ 300 by omega), t1, bd_t, if_neg t2]
            rw [nn_ne (show w 7 0 (2 * d) ≠ 300 by omega)] at hend
            exact hend
        rw [if_neg (fun q => by rw [hL.cp hia h4, cmp_e (pk_l ok) ⟨by decide, by decide⟩] at q; omega), gd_t ⟨by omega, by omega⟩]
        by_cases h200 : (d : Int) < 200
        · rw [if_pos h200]
          exact hmore 0 (if_neg (fun q => by omega)) ⟨by omega, by omega⟩
        · rw [if_neg h200, thg_e hL hI hia, bd_t, if_pos h4, gd_t ⟨hth.1, by omega⟩, hz]
          exact hmore (w 4 0 d) (by unfold flc; rw [if_pos (by omega), ← hd]) ⟨by omega, by omega⟩
      · have e1 : alc w p = 0 := by
          unfold alc
          rw [← hd]
          exact if_neg h4
        have h40 := (hI.S d (by omega)).1
        have e2 : flc w p = 0 := by
          unfold flc
          rw [← hd]
          split <;> omega
        rw [e1, e2, Int.add_zero, Int.add_zero] at hnx
        rw [hL.no hia h4, if_pos ((cmp_e ⟨by decide, by decide⟩ ⟨by decide, by decide⟩).mpr rfl), copy_no (fun q => h4 q.2.2), bd_t, if_pos rfl, gd_t ⟨by omega, by omega⟩]
        exact hnx
    · have hp8 : p = 188 := by omega
      subst hp8
      have ea : sm (alc w) 188 = sm (al w 0) 260 := (sm_cells (f := al w 0) (fun d hd hn => if_neg (fun q => hn ((hI.S d hd).2.2 q).1))).symm
      have ef : sm (flc w) 188 = sm (fun p => w 4 0 (200 + p)) 60 := by
        have h1 : sm (flc w) (128 + 60) = sm (flc w) 128 + sm (fun i => flc w (128 + i)) 60 := sm_add 128 60
        have h2 : sm (flc w) 128 = 0 := sm_zero 128 (fun i hi => if_neg (by omega))
        have h3 : sm (fun i => flc w (128 + i)) 60 = sm (fun p => w 4 0 (200 + p)) 60 := sm_congr 60 (fun i hi => by
          show (if 128 ≤ 128 + i then w 4 0 (ad (128 + i)) else 0) = w 4 0 (200 + i)
          rw [if_pos (by omega), show ad (128 + i) = 200 + i by unfold ad; omega])
        rw [show (188 : Nat) = 128 + 60 from rfl, h1, h2, h3]
        omega
      rw [if_neg (by omega), ea, ef]
      exact so_338 hS0 hn LF 0 (by omega) (by rw [show LF = 10000 from rfl]; omega)
theorem so_16 (hS : SK n w) (hn : 0 ≤ n ∧ n ≤ 1000000) : ∀ (k h : Nat), h ≤ 8 → 8 - h < k → L_isSo_b16 k 0 60 0 1 h w = some (1, w) := by
  intro k
  induction k with
  | zero => intro p h1 h2; omega
  | succ k ih =>
    intro h h1 h2
    rw [L_isSo_b16_s]
    by_cases hh : h < 8
    · rw [if_pos (by omega), if_neg (by decide), hook_C hS.1.1 hh, bd_t, gd_t ⟨by omega, by omega⟩, show ((h : Nat) : Int).toNat = h from rfl, if_pos (hS.2.1.2.1 h hh).symm, gd_t ⟨by omega, by omega⟩]
      exact ih (h + 1) (by omega) (by omega)
    · rw [if_neg (by omega)]
      exact so_57 hS hn LF 0 (by omega) (by rw [show LF = 10000 from rfl]; omega)
theorem isSo_K (hS : SK n w) (hn : 0 ≤ n ∧ n ≤ 1000000) : L_isSo w = some (1, w) := so_16 hS hn LF 0 (by omega) (by rw [show LF = 10000 from rfl]; omega)
end IS
