/-! PURE: make, both sides -/
section MAKE2
variable {B : Int} {k : Nat} {ex : Int} {w v va : Wd} {t a i b h : Nat} {s m tk : Int}
theorem up_id {c i : Nat} {x : Int} (h : w c t i = x) : up w c t i x = w := by
  rw [← h]
  exact up_self
theorem half_e (hI : Iv B k ex w t) (hs : 1 ≤ s ∧ s ≤ 12) : X5_halfAddressFor t s w = some (if 64 - w 0 t 4 - s < (if w 0 t 2 = 1 then kp w t else 0) then 300 else nb w t, w) := by
  have hA := hI.A
  unfold IvA at hA
  unfold X5_halfAddressFor
  rw [free_e hA.2.2.2.2.1, bd_t, gd_t ⟨by omega, by omega⟩, roomKept_e hI, bd_t]
  by_cases h : 64 - w 0 t 4 - s < (if w 0 t 2 = 1 then kp w t else 0)
  · rw [if_pos h, if_pos h]
  · rw [if_neg h, if_neg h, aoh_e hA.2.2.2.1, bd_t, gd_t ⟨by omega, by omega⟩]
    rfl
/-- behind the laying -/
theorem b124_e {w1 : Wd} (hy : h < 8) (h1 : w1 0 t 1 = w 0 t 1) (hb : 0 ≤ w 0 t 1 ∧ w 0 t 1 ≤ 40) : X5_makeThing_b124 t h s w1 = some (w 0 t 1, up (up w1 1 t h s) 0 t 1 (w 0 t 1 + 1)) := by
  unfold X5_makeThing_b124
  have e1 : (up w1 1 t ((h : Int)).toNat s) 0 t 1 = w 0 t 1 := by rw [up_c (by decide), h1]
  rw [e1, up_h rfl, gd_t ⟨by omega, by omega⟩, gd_t ⟨by omega, by omega⟩, gd_t ⟨by omega, by omega⟩, show w 0 t 1 + 1 - 1 = w 0 t 1 by omega]
  rfl
theorem b193_e {c : Int} (hy : h < 8) (hc : 0 ≤ c ∧ c < 188) : X8_make_b193 h m c v = some (m, up v 22 0 (9 + h) (100 * (c / 64) + c % 64)) := by
  unfold X8_make_b193
  rw [gd_t ⟨by omega, by omega⟩, address8_e (by omega), bd_t, gd_t ⟨by omega, by omega⟩]
  rw [show (9 + (h : Int)).toNat = 9 + h by omega]
theorem c54_l (hI : Iv B 8 (-1) w t) (hF : Fit w t b s m tk) (hh : h < 8) (hl : (b : Int) = nb w t) (hz : m = 0 ∧ tk = w 0 t 4 + s) : X5_makeThing_b54 t s h 0 b w = some (w 0 t 1, nwW w t b s m tk h) := by
  have hA := hI.A
  unfold IvA at hA
  obtain ⟨hs, hmd, hF⟩ := hF
  unfold nb at hl
  have hb : (b : Int) < 260 := by omega
  unfold X5_makeThing_b54
  rw [if_pos hmd, if_neg (by omega), lay_e ⟨by omega, hb⟩, bd_t, if_pos rfl]
  have e4 : (layW w t ((b : Int)).toNat (w 0 t 1) s) 0 t 4 = w 0 t 4 := by unfold layW; simp (disch := decide) only [up_c]
  rw [e4, gd_t ⟨by omega, by omega⟩]
  rw [b124_e (w := w) hh (by unfold layW; simp (disch := decide) only [up_c, up_n]) (by omega)]
  unfold nwW
  rw [hz.1, hz.2, up_id (w := layW w t b (w 0 t 1) s) (c := 6) (x := 0) (by unfold layW; simp [up])]
  rfl
theorem c54_h (hI : Iv B 8 (-1) w t) (hF : Fit w t b s m tk) (hh : h < 8) (hl : 200 ≤ b) (hz : m = w 0 t 2 ∧ tk = w 0 t 4) : X5_makeThing_b54 t s h 1 b w = some (w 0 t 1, nwW w t b s m tk h) := by
  have hA := hI.A
  unfold IvA at hA
  obtain ⟨hs, hmd, hF⟩ := hF
  have hb : (b : Int) < 260 := by omega
  unfold X5_makeThing_b54
  rw [if_pos hmd, if_neg (by omega), lay_e ⟨by omega, hb⟩, bd_t, if_neg (by decide)]
  have e2 : (layW w t ((b : Int)).toNat (w 0 t 1) s) 0 t 2 = w 0 t 2 := by unfold layW; simp (disch := decide) only [up_c]
  have e6 : (layW w t b (w 0 t 1) s) 6 t b = 0 := by unfold layW; simp [up]
  rw [e2]
  unfold nwW
  by_cases hm : w 0 t 2 = 0
  · rw [if_pos hm, b124_e (w := w) hh (by unfold layW; simp (disch := decide) only [up_c, up_n]) (by omega)]
    rw [hz.1, hz.2, hm, up_id (w := layW w t b (w 0 t 1) s) (c := 6) (x := 0) e6, up_id (w := layW w t b (w 0 t 1) s) (c := 0) (x := w 0 t 4) (by unfold layW; simp [up])]
    rfl
  · have e6' : (layW w t ((b : Int)).toNat (w 0 t 1) s) 6 t ((b : Int)).toNat = 0 := e6
    rw [if_neg hm, mark_e ⟨by omega, hb⟩ (by unfold layW; simp [up]; omega), if_neg (by rw [e6']; decide), bd_t, b124_e (w := w) hh (by unfold layW; simp (disch := decide) only [up_c, up_n]) (by omega)]
    rw [hz.1, hz.2, show w 0 t 2 = 1 by omega, up_id (c := 0) (x := w 0 t 4) (by unfold layW; simp [up])]
    rfl
/-- the model's row behind the new size -/
def ns8 (v : Wd) (s : Int) : Wd := up (up v 22 0 (17 + (v 22 0 0).toNat) s) 22 0 0 (v 22 0 0 + 1)
theorem m94_l (hR : Re w va t) (ha : X8_acts v = some (0, va)) (hra : ∀ i, va 22 0 i = v 22 0 i) (hI : Iv B 8 (-1) w t) (hF : Fit w t b s m tk) (hh : h < 8) (hl : (b : Int) = nb w t) (hz : m = 0 ∧ tk = w 0 t 4 + s) : X8_make_b94 s h 0 (-9) 1 v = some (w 0 t 1, nv8 va (64 * (b / 100) + b % 100) s m tk b (w 0 t 3).toNat h) := by
  have hA := hI.A
  unfold IvA at hA
  obtain ⟨a0, a1, a2, a3, a4, a5, a6, a7, a8⟩ := hR.1
  obtain ⟨hs, hmd, hF⟩ := hF
  unfold nb at hl
  have hb : (b : Int) < 260 := by omega
  have hf : (w 0 t 3).toNat < 2 := by omega
  unfold X8_make_b94
  rw [if_neg (by rw [← hra, a0]; omega), if_neg (by decide), ha, bd_t, show (17 + va 22 0 0).toNat = 17 + (va 22 0 0).toNat by omega]
  rw [up_n (show (0 : Nat) ≠ 17 + (va 22 0 0).toNat by omega)]
  rw [gd_t ⟨by omega, by omega⟩, gd_t ⟨by omega, by omega⟩, gd_t ⟨by omega, by omega⟩, gd_t ⟨by omega, by omega⟩, if_pos rfl]
  show (bd (X8_laysInHalf (va 22 0 0) (-9) (-9) (ns8 va s)) fun r38 w39 => X8_make_b193 h (va 22 0 0) r38 w39) = _
  have n3 : (ns8 va s) 22 0 3 = w 0 t 3 := by unfold ns8; rw [up_n (by decide), up_n (by omega), a3]
  have n4 : (ns8 va s) 22 0 (4 + (w 0 t 3).toNat) = w 0 t 4 := by unfold ns8; rw [up_n (by omega), up_n (by omega), a4]
  have n17 : (ns8 va s) 22 0 (17 + (va 22 0 0).toNat) = s := by unfold ns8; rw [up_n (by omega), up_h rfl]
  have hr := hF
  rw [lih8_e (by rw [n3]; exact hA.2.2.2.1) (by rw [n3, n4]; omega) (by omega) (by rw [n17]; omega), bd_t, n3, n4, b193_e hh (by omega), a0]
  have ec : (64 * w 0 t 3 + w 0 t 4).toNat = (64 * (b / 100) + b % 100) := by omega
  have ead : 100 * ((64 * w 0 t 3 + w 0 t 4) / 64) + (64 * w 0 t 3 + w 0 t 4) % 64 = (b : Int) := by omega
  rw [ead]
  unfold lih8 nv8
  rw [n3, n4, ec, ← a0, n17, hz.1, hz.2]
  rfl
theorem m94_h (hR : Re w va t) (ha : X8_acts v = some (0, va)) (hra : ∀ i, va 22 0 i = v 22 0 i) (hI : Iv B 8 (-1) w t) (hF : Fit w t b s m tk) (hh : h < 8) (hl : 200 ≤ b) (hz : m = w 0 t 2 ∧ tk = w 0 t 4) : X8_make_b94 s h 1 (b - 200) 1 v = some (w 0 t 1, nv8 va (64 * (b / 100) + b % 100) s m tk b (w 0 t 3).toNat h) := by
  have hA := hI.A
  unfold IvA at hA
  obtain ⟨a0, a1, a2, a3, a4, a5, a6, a7, a8⟩ := hR.1
  obtain ⟨hs, hmd, hF⟩ := hF
  have hb : (b : Int) < 260 := by omega
  have hf : (w 0 t 3).toNat < 2 := by omega
  unfold X8_make_b94
  rw [if_neg (by rw [← hra, a0]; omega), if_neg (by decide), ha, bd_t, show (17 + va 22 0 0).toNat = 17 + (va 22 0 0).toNat by omega]
  rw [up_n (show (0 : Nat) ≠ 17 + (va 22 0 0).toNat by omega)]
  rw [gd_t ⟨by omega, by omega⟩, gd_t ⟨by omega, by omega⟩, gd_t ⟨by omega, by omega⟩, gd_t ⟨by omega, by omega⟩, if_neg (by decide)]
  have n2 : (ns8 va s) 22 0 2 = w 0 t 2 := by unfold ns8; rw [up_n (by decide), up_n (by omega), a2]
  show (bd (X8_lays (128 + ((b : Int) - 200)) (va 22 0 0) (-9) (-9) ((ns8 va s) 22 0 2) (ns8 va s)) fun r52 w53 => X8_make_b193 h (va 22 0 0) (128 + ((b : Int) - 200)) w53) = _
  rw [lays8_e (by omega) (by omega), bd_t, b193_e hh (by omega), a0]
  have ec : (128 + ((b : Int) - 200)).toNat = (64 * (b / 100) + b % 100) := by omega
  have ead : 100 * ((128 + ((b : Int) - 200)) / 64) + (128 + ((b : Int) - 200)) % 64 = (b : Int) := by omega
  rw [ead, ec, n2]
  unfold nv8
  have e4 : (lays8 (up (up va 22 0 (17 + (va 22 0 0).toNat) s) 22 0 0 (va 22 0 0 + 1)) (64 * (b / 100) + b % 100) (va 22 0 0) (-9) (-9) m) 22 0 (4 + (w 0 t 3).toNat) = w 0 t 4 := by
    unfold lays8
    rw [up_n (by omega), up_n (by omega), up_n (by omega), up_n (by omega), up_n (by omega), up_n (by omega), up_n (by omega), a4]
  rw [hz.2, up_id e4, ← hz.1, ← a0]
  rfl
theorem IvW.nwm (hW : IvW w t) : IvW (nwW w t b s m tk h) t := by
  unfold IvW
  rw [nw_0 (by decide) (by decide), nw_8, nw_8]
  exact hW
theorem FrC.nwm : FrC t w (nwW w t b s m tk h) := by
  unfold nwW layW
  exact ((((((((((FrC.rf.ups (by decide)).ups (by decide)).ups (by decide)).ups (by decide)).ups (by decide)).ups (by decide)).ups (by decide)).ups (by decide)).ups (by decide)).ups (by decide))
theorem FrM.nwm {c f : Nat} {ad : Int} : FrM v (nv8 v c s m tk ad f h) := by
  unfold nv8 lays8
  exact FrM.rf.ups.ups.ups.ups.ups.ups.ups.ups.ups
theorem make_fit (hS : Si B w v t) (hra : ∀ i, va 22 0 i = v 22 0 i) (hF : Fit w t b s m tk) (hh : h < 8) {cl md : Option (Int × Wd)} (hc : cl = some (w 0 t 1, nwW w t b s m tk h)) (hm : md = some (w 0 t 1, nv8 va (64 * (b / 100) + b % 100) s m tk b (w 0 t 3).toNat h)) : OpR B w v va t cl md := by
  obtain ⟨hI, hW, hR⟩ := hS
  have hA := hI.A
  unfold IvA at hA
  exact ⟨_, _, _, hc, hm, ⟨by omega, by omega⟩, Or.inr ⟨by omega, ⟨(hI.nwm hF hh).1.mono (by omega), hW.nwm, (hR.same hra).nwm hI hF hh⟩, FrC.nwm, FrM.nwm⟩⟩
theorem make_b (hS : Si B w v t) (ha : X8_acts v = some (0, va)) (hra : ∀ i, va 22 0 i = v 22 0 i) (x y : Int) : OpR B w v va t (X5_makeThing t x y w) (X8_make x y v) := by
  obtain ⟨hI, hW, hR⟩ := hS
  have hA := hI.A
  unfold IvA at hA
  have hRa := hR.same hra
  by_cases hx : 1 ≤ x ∧ x ≤ 12
  case neg =>
    refine OpR.err (r := -1) ?_ ?_ (by decide)
    · unfold X5_makeThing
      by_cases h1 : x < 1
      · rw [if_pos h1]
      · rw [if_neg h1, if_pos (by omega)]
    · unfold X8_make
      rw [in8_e, if_neg hx, bd_t, if_pos rfl]
  by_cases hy : 0 ≤ y ∧ y < 8
  case neg =>
    refine OpR.err (r := -1) ?_ ?_ (by decide)
    · unfold X5_makeThing
      rw [if_neg (by omega), if_neg (by omega), isHook_e, if_neg hy, bd_t, if_pos rfl]
    · unfold X8_make
      rw [in8_e, if_pos hx, bd_t, if_neg (by decide), isHook8_e, if_neg hy, bd_t, if_pos rfl]
  obtain ⟨h, rfl⟩ : ∃ h : Nat, y = h := ⟨y.toNat, by omega⟩
  have hh : h < 8 := by omega
  obtain ⟨a0, a1, a2, a3, a4, a5, a6, a7, a8⟩ := hR.1
  by_cases hl : x < w 0 t 0
  · have hc : X5_makeThing t x h w = X5_makeThing_b54 t x h 0 (if 64 - w 0 t 4 - x < (if w 0 t 2 = 1 then kp w t else 0) then 300 else nb w t) w := by
      unfold X5_makeThing X5_makeThing_b33
      rw [if_neg (by omega), if_neg (by omega), isHook_e, if_pos hy, bd_t, if_neg (by decide), if_pos hl, if_pos rfl, half_e hI hx, bd_t]
    have hkn := hI.kp_nn
    have hm : X8_make x h v = X8_make_b94 x h 0 (-9) (if 64 - w 0 t 4 - x < (if w 0 t 2 = 1 then kp w t else 0) then 0 else 1) v := by
      unfold X8_make X8_make_b34 X8_make_b49
      rw [in8_e, if_pos hx, bd_t, if_neg (by decide), isHook8_e, if_pos hy, bd_t, if_neg (by decide), a1, if_pos hl, if_pos rfl, if_pos rfl, a3, free8_e hA.2.2.2.1 (by rw [a4]; omega), bd_t, kept8_e hR hI, bd_t, a4, gd_t ⟨by split <;> omega, by split <;> omega⟩]
      by_cases hq : 64 - w 0 t 4 - x < (if w 0 t 2 = 1 then kp w t else 0)
      · rw [if_pos hq, if_pos (by omega)]
      · rw [if_neg hq, if_neg (by omega)]
    rw [hc, hm]
    by_cases h40 : w 0 t 1 < 40
    case neg =>
      refine OpR.err (r := -3) ?_ ?_ (by decide)
      · unfold X5_makeThing_b54
        rw [if_neg h40]
      · unfold X8_make_b94
        rw [a0, if_pos (by omega)]
    by_cases hq : 64 - w 0 t 4 - x < (if w 0 t 2 = 1 then kp w t else 0)
    · rw [if_pos hq, if_pos hq]
      refine OpR.err (r := -3) ?_ ?_ (by decide)
      · unfold X5_makeThing_b54
        rw [if_pos h40, if_pos rfl]
      · unfold X8_make_b94
        rw [a0, if_neg (by omega), if_pos rfl]
    · rw [if_neg hq, if_neg hq]
      have hq0 : 0 ≤ (if w 0 t 2 = 1 then kp w t else 0) := by split <;> omega
      obtain ⟨b, hb⟩ : ∃ b : Nat, (b : Int) = nb w t := ⟨(nb w t).toNat, by unfold nb; omega⟩
      have hF : Fit w t b x 0 (w 0 t 4 + x) := ⟨hx, h40, Or.inl ⟨hb, rfl, rfl, by omega, fun q => by rw [if_pos q] at hq; omega⟩⟩
      exact make_fit ⟨hI, hW, hR⟩ hra hF hh (by rw [← hb]; exact c54_l hI hF hh hb ⟨rfl, rfl⟩) (m94_l hRa ha hra hI hF hh hb ⟨rfl, rfl⟩)
  · obtain ⟨r, f1, f2, f3⟩ := floor_b hR hI hx
    have hc : X5_makeThing t x h w = X5_makeThing_b54 t x h 1 r w := by
      unfold X5_makeThing X5_makeThing_b33
      rw [if_neg (by omega), if_neg (by omega), isHook_e, if_pos hy, bd_t, if_neg (by decide), if_neg hl, if_neg (by decide), f1, bd_t]
    have hm : X8_make x h v = X8_make_b94 x h 1 (if r = 300 then -9 else r - 200) (if r = 300 then 0 else 1) v := by
      unfold X8_make X8_make_b34 X8_make_b49
      rw [in8_e, if_pos hx, bd_t, if_neg (by decide), isHook8_e, if_pos hy, bd_t, if_neg (by decide), a1, if_neg hl, if_neg (by decide), f2, bd_t, if_neg (by decide)]
      by_cases hq : r = 300
      · rw [if_pos hq, if_pos rfl, if_pos hq]
      · rw [if_neg hq, if_neg (by omega), if_neg hq]
    rw [hc, hm]
    by_cases h40 : w 0 t 1 < 40
    case neg =>
      refine OpR.err (r := -3) ?_ ?_ (by decide)
      · unfold X5_makeThing_b54
        rw [if_neg h40]
      · unfold X8_make_b94
        rw [a0, if_pos (by omega)]
    by_cases hq : r = 300
    · rw [if_pos hq, if_pos hq]
      refine OpR.err (r := -3) ?_ ?_ (by decide)
      · unfold X5_makeThing_b54
        rw [if_pos h40, if_pos hq]
      · unfold X8_make_b94
        rw [a0, if_neg (by omega), if_pos rfl]
    · rw [if_neg hq, if_neg hq]
      have f4 := f3.resolve_left hq
      obtain ⟨b, rfl⟩ : ∃ b : Nat, r = b := ⟨r.toNat, by omega⟩
      have hF : Fit w t b x (w 0 t 2) (w 0 t 4) := ⟨hx, h40, Or.inr ⟨by omega, by omega, rfl, rfl, fun q q1 q2 => f4.2.2.1 q (by omega) q2, fun q q1 q2 => f4.2.2.2 q (by omega) q2⟩⟩
      exact make_fit ⟨hI, hW, hR⟩ hra hF hh (c54_h hI hF hh (by omega) ⟨rfl, rfl⟩) (m94_h hRa ha hra hI hF hh (by omega) ⟨rfl, rfl⟩)
end MAKE2
