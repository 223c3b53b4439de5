/-! PURE: a thing is made, the class and the law -/
/-- behind an act that makes a copy, or loses a note: the numbers -/
def Mkd (g g1 : Wd) (a b : Int) : Prop := Phi g1 ≤ Phi g + 1 ∧ (Wt g ≤ Pm g → Wt g1 ≤ Pm g1) ∧ Wt g1 = Wt g ∧ g1 0 0 1 = g 0 0 1 + a ∧ g1 0 0 5 = g 0 0 5 + b
section MKL
variable {B : Int} {k : Nat} {ex : Int} {g u : Wd} {a i b h : Nat} {s m tk : Int}
theorem fit_free (hI : Iv B 8 (-1) g 0) (hF : Fit g 0 b s m tk) : b < 260 ∧ ¬ 0 < g 4 0 b ∧ (m = 0 ∨ m = 1) := by
  have hA := hI.A
  unfold IvA at hA
  obtain ⟨hs, hmd, hF⟩ := hF
  rcases hF with q | q
  · refine ⟨by omega, fun h4 => ?_, Or.inl q.2.1⟩
    exact hI.nb_free (y := (b : Int)) (by omega) ⟨by omega, by omega, h4⟩ q.1
  · refine ⟨by omega, fun h4 => ?_, by omega⟩
    have := q.2.2.2.2.1 (b - 200) (by omega) (by omega)
    rw [show 200 + (b - 200) = b by omega] at this
    omega
theorem cnt_nwm (hI : Iv B 8 (-1) g 0) (hF : Fit g 0 b s m tk) : Mkd g (nwW g 0 b s m tk h) 1 0 := by
  obtain ⟨hb, hno, hm⟩ := fit_free hI hF
  have h1 := sm_chg (f := fP (nwW g 0 b s m tk h)) (g := fP g) (k := b) 260 hb (fun i _ hne => by
    unfold fP
    rw [nw_4, nw_5, if_neg hne, if_neg hne])
  have h2 := sm_chg (f := fL (nwW g 0 b s m tk h)) (g := fL g) (k := b) 260 hb (fun i _ hne => by
    unfold fL
    rw [nw_4, nw_5, nw_6, if_neg hne, if_neg hne, if_neg hne, nw_0 (by decide) (by decide)])
  have p0 := fP_01 (g := nwW g 0 b s m tk h) b
  have p1 := fP_01 (g := g) b
  have l0 : fL g b = 0 := if_neg (fun q => hno q.1)
  have l1 := (fL_le (g := nwW g 0 b s m tk h) b).1
  have hw : Wt (nwW g 0 b s m tk h) = Wt g := by
    unfold Wt
    rw [nw_8, nw_8]
  refine ⟨?_, fun q => ?_, hw, nw_01, ?_⟩
  · unfold Phi
    omega
  · rw [hw]
    unfold Pm at q ⊢
    omega
  · rw [nw_0 (by decide) (by decide)]
    omega
theorem Lb.nwm {u1 : Wd} {f : Nat} (hL : Lb g u) (hI : Iv B 8 (-1) g 0) (hF : Fit g 0 b s m tk) (hh : h < 8) (hf : f = (g 0 0 3).toNat) (z30 : ∀ i, i ≠ 0 → i ≠ 4 + f → u1 30 0 i = u 30 0 i) (z0 : u1 30 0 0 = g 0 0 1 + 1) (z4 : u1 30 0 (4 + f) = tk) (z31 : ∀ i, u1 31 0 i = if i = h then (b : Int) else u 31 0 i) (z32 : ∀ i, u1 32 0 i = if i = (g 0 0 1).toNat then s else u 32 0 i) (z33 : ∀ i, u1 33 0 i = u 33 0 i) (zc : ∀ d : Nat, (d < 64 ∨ (100 ≤ d ∧ d < 164) ∨ (200 ≤ d ∧ d < 260)) → cl u1 d = if d = b then pk (g 0 0 1) (-9) (-9) (-9) m else cl u d) (z36 : ∀ i, 60 ≤ i → i < 64 → u1 36 0 i = u 36 0 i) : Lb (nwW g 0 b s m tk h) u1 := by
  obtain ⟨a0, a1, a2, a3, a4, a5, a6, a7, a8⟩ := hL.1
  have hA := hI.A
  unfold IvA at hA
  obtain ⟨hb, hno, hm⟩ := fit_free hI hF
  have hs := hF.1
  have hf2 : f < 2 := by omega
  refine ⟨?_, ?_, ?_, ⟨fun d hd => ?_, fun z z1 z2 => ?_⟩, fun d hd hp => ?_⟩
  · unfold LbA
    rw [nw_01, nw_04, nw_8, nw_8]
    simp only [nw_0 (show (0 : Nat) ≠ 1 by decide) (show (0 : Nat) ≠ 4 by decide), nw_0 (show (2 : Nat) ≠ 1 by decide) (show (2 : Nat) ≠ 4 by decide), nw_0 (show (3 : Nat) ≠ 1 by decide) (show (3 : Nat) ≠ 4 by decide), nw_0 (show (5 : Nat) ≠ 1 by decide) (show (5 : Nat) ≠ 4 by decide), nw_0 (show (6 : Nat) ≠ 1 by decide) (show (6 : Nat) ≠ 4 by decide)]
    rw [← hf]
    rw [← hf] at a5
    rw [z0, z4, z30 1 (by omega) (by omega), z30 2 (by omega) (by omega), z30 3 (by omega) (by omega), z30 (5 - f) (by omega) (by omega), z30 6 (by omega) (by omega), z30 7 (by omega) (by omega), z30 8 (by omega) (by omega)]
    exact ⟨rfl, a1, a2, a3, rfl, a5, a6, a7, a8⟩
  · intro j hj
    rw [z31, nw_1]
    by_cases e : j = h
    · rw [if_pos e, if_pos e, nn_ne (by omega)]
    · rw [if_neg e, if_neg e]
      exact hL.2.1 j hj
  · intro j hj
    rw [nw_8, nw_8] at hj
    rw [z33, nw_8, nw_9]
    exact hL.2.2.1 j hj
  · rw [zc d hd]
    unfold cv
    rw [nw_4, nw_3, nw_5, nw_6, nw_7, nw_7]
    by_cases e : d = b
    · subst e
      rw [if_pos rfl, if_pos rfl, if_pos rfl, if_pos rfl, if_pos rfl, if_pos (show 0 < s by omega), if_neg (show ¬ 2 * d = 2 * d + 1 by clear hd; omega), if_pos rfl, if_pos rfl, nn_300]
    · rw [if_neg e, if_neg e, if_neg e, if_neg e, if_neg e, if_neg (show ¬ 2 * d = 2 * b + 1 by clear hd; omega), if_neg (show ¬ 2 * d = 2 * b by clear hd; omega), if_neg (show ¬ 2 * d + 1 = 2 * b + 1 by clear hd; omega), if_neg (show ¬ 2 * d + 1 = 2 * b by clear hd; omega), hL.2.2.2.1.1 d hd]
      rfl
  · rw [z36 z z1 z2]
    exact hL.2.2.2.1.2 z z1 z2
  · rw [nw_4] at hp
    rw [nw_4, nw_3, z32]
    by_cases e : d = b
    · rw [if_pos e, if_pos e, if_pos rfl]
    · rw [if_neg e] at hp
      have hS := (hI.S d (by omega)).2.2 hp
      rw [if_neg e, if_neg e, if_neg (by omega)]
      exact hL.2.2.2.2 d hd hp
theorem make_L (hI : Iv B 8 (-1) g 0) (hW : IvW g 0) (hL : Lb g u) {x : Int} (hx : 1 ≤ x ∧ x ≤ 12) (hh : h < 8) : (X5_makeThing 0 x h g = some (-3, g) ∧ L_makes_b52 x h (if x < g 0 0 0 then 0 else 1) u = L_makes_b108 x h u) ∨ ∃ (g' u' : Wd), X5_makeThing 0 x h g = some (g 0 0 1, g') ∧ L_makes_b52 x h (if x < g 0 0 0 then 0 else 1) u = L_makes_b194 x h u' ∧ Iv (B + 1) 8 (-1) g' 0 ∧ IvW g' 0 ∧ FrC 0 g g' ∧ FU u u' ∧ u' 30 0 0 = g 0 0 1 ∧ g 0 0 1 < 40 ∧ Lb g' (up u' 30 0 0 (g 0 0 1 + 1)) ∧ Mkd g g' 1 0 := by
  obtain ⟨a0, a1, a2, a3, a4, a5, a6, a7, a8⟩ := hL.1
  have hA := hI.A
  unfold IvA at hA
  have hkn := hI.kp_nn
  have hy : 0 ≤ (h : Int) ∧ (h : Int) < 8 := by omega
  obtain ⟨f, hf⟩ : ∃ n : Nat, n = (g 0 0 3).toNat := ⟨_, rfl⟩
  have hf2 : f < 2 := by omega
  have e4 : (4 + g 0 0 3).toNat = 4 + f := by omega
  rw [← hf] at a4
  obtain ⟨n, hn⟩ : ∃ n : Nat, n = (g 0 0 1).toNat := ⟨_, rfl⟩
  by_cases hl : x < g 0 0 0
  · have hc : X5_makeThing 0 x h g = X5_makeThing_b54 0 x h 0 (if 64 - g 0 0 4 - x < (if g 0 0 2 = 1 then kp g 0 else 0) then 300 else nb g 0) g := by
      unfold X5_makeThing X5_makeThing_b33
      rw [if_neg (by omega), if_neg (by omega), isHook_e, if_pos hy, bd_t, if_neg (by decide), if_pos hl, if_pos rfl, half_e hI hx, bd_t]
    obtain ⟨K, hK⟩ : ∃ K : Int, K = if g 0 0 2 = 1 then kp g 0 else 0 := ⟨_, rfl⟩
    have hKb : 0 ≤ K ∧ K ≤ 768 := by
      rw [hK]
      split <;> omega
    have hlw : L_makes_b52 x h (if x < g 0 0 0 then 0 else 1) u = L_makes_b93 x h 0 (64 - g 0 0 4 - K - x) u := by
      unfold L_makes_b52
      rw [if_pos hl, if_pos rfl, a3, gd_t ⟨by omega, by omega⟩, gd_t ⟨by omega, by omega⟩, e4, a4, gd_t ⟨by omega, by omega⟩, kept_L hL hI, bd_t, ← hK, gd_t ⟨by omega, by omega⟩, gd_t ⟨by omega, by omega⟩]
    rw [hc, hlw, ← hK]
    unfold L_makes_b93
    rw [a0]
    by_cases h40 : g 0 0 1 < 40
    case neg =>
      refine Or.inl ⟨?_, by rw [if_pos (by omega)]⟩
      unfold X5_makeThing_b54
      rw [if_neg h40]
    by_cases hq : 64 - g 0 0 4 - x < K
    · refine Or.inl ⟨?_, by rw [if_neg (by omega), if_pos (by omega)]⟩
      rw [if_pos hq]
      unfold X5_makeThing_b54
      rw [if_pos h40, if_pos rfl]
    · obtain ⟨b, hb⟩ : ∃ b : Nat, (b : Int) = nb g 0 := ⟨(nb g 0).toNat, by unfold nb; omega⟩
      have hnb : nb g 0 = 100 * g 0 0 3 + g 0 0 4 := rfl
      have hF : Fit g 0 b x 0 (g 0 0 4 + x) := ⟨hx, h40, Or.inl ⟨hb, rfl, rfl, by omega, fun q => by rw [if_pos q] at hK; omega⟩⟩
      have hia : (b < 64 ∨ (100 ≤ b ∧ b < 164) ∨ (200 ≤ b ∧ b < 260)) := by omega
      have e32 : (up u 32 0 n x) 30 0 0 = g 0 0 1 := by rw [up_c (by decide), a0]
      have hla := lays_e (u := up u 32 0 n x) (th := g 0 0 1) (n0 := -9) (n1 := -9) (T := g 0 0 4) (f := f) (by rw [up_c (by decide), a3]; omega) hf2 (by rw [up_c (by decide)]; exact a4) (by omega) (by omega) (by rw [← hn, up_h rfl]; omega) (by omega) (by omega)
      rw [← hn, up_h rfl, show 100 * (f : Int) + g 0 0 4 = b by omega, show ((b : Nat) : Int).toNat = b from rfl] at hla
      refine Or.inr ⟨nwW g 0 b x 0 (g 0 0 4 + x) h, up (up (pt (up u 32 0 n x) b (pk (g 0 0 1) (-9) (-9) (-9) 0)) 30 0 (4 + f) (g 0 0 4 + x)) 31 0 h b, ?_, ?_, (hI.nwm hF hh).1.mono (by omega), hW.nwm, FrC.nwm, FU.ups (FU.ups (FU.pts (FU.ups FU.rf (by decide))) (by decide)) (by decide), ?_, h40, ?_, cnt_nwm hI hF⟩
      · rw [if_neg hq, ← hb]
        exact c54_l hI hF hh hb ⟨rfl, rfl⟩
      · rw [if_neg (by omega), if_neg (by omega), gd_t ⟨by omega, h40⟩, if_pos rfl, ← hn, e32, hla, bd_t, gd_t hy]
        rfl
      · rw [up_c (by decide), up_n (by omega), pt_o (by decide), up_c (by decide), a0]
      · refine hL.nwm hI hF hh hf (fun i i0 i4 => ?_) (up_h rfl) ?_ (fun i => ?_) (fun i => ?_) (fun i => ?_) (fun d hd => ?_) (fun i i1 i2 => ?_)
        · rw [up_n i0, up_c (by decide), up_n i4, pt_o (by decide), up_c (by decide)]
        · rw [up_n (by omega), up_c (by decide), up_h rfl]
        · rw [up_c (by decide)]
          by_cases e : i = h
          · rw [if_pos e, up_h e]
          · rw [if_neg e, up_n e, up_c (by decide), pt_o (by decide), up_c (by decide)]
        · rw [up_c (by decide), up_c (by decide), up_c (by decide), pt_o (by decide), ← hn]
          by_cases e : i = n
          · rw [if_pos e, up_h e]
          · rw [if_neg e, up_n e]
        · rw [up_c (by decide), up_c (by decide), up_c (by decide), pt_o (by decide), up_c (by decide)]
        · rw [cl_up (by decide), cl_up (by decide), cl_up (by decide), cl_pt hia hd, cl_up (by decide)]
        · rw [up_c (by decide), up_c (by decide), up_c (by decide), pt_f hia i1, up_c (by decide)]
  · obtain ⟨r, f1, f2, f3⟩ := floor_L hL hI hx
    have hc : X5_makeThing 0 x h g = X5_makeThing_b54 0 x h 1 r g := by
      unfold X5_makeThing X5_makeThing_b33
      rw [if_neg (by omega), if_neg (by omega), isHook_e, if_pos hy, bd_t, if_neg (by decide), if_neg hl, if_neg (by decide), f1, bd_t]
    have hlw : L_makes_b52 x h (if x < g 0 0 0 then 0 else 1) u = L_makes_b93 x h 1 (if r = 300 then -1 else r - 200) u := by
      unfold L_makes_b52
      rw [if_neg hl, if_neg (by decide), f2, bd_t]
    rw [hc, hlw]
    unfold L_makes_b93
    rw [a0]
    by_cases h40 : g 0 0 1 < 40
    case neg =>
      refine Or.inl ⟨?_, by rw [if_pos (by omega)]⟩
      unfold X5_makeThing_b54
      rw [if_neg h40]
    by_cases hq : r = 300
    · refine Or.inl ⟨?_, by rw [if_neg (by omega), if_pos hq, if_pos (by decide)]⟩
      unfold X5_makeThing_b54
      rw [if_pos h40, if_pos hq]
    · have f3 := f3.resolve_left hq
      obtain ⟨b, rfl⟩ : ∃ b : Nat, r = b := ⟨r.toNat, by omega⟩
      have hF : Fit g 0 b x (g 0 0 2) (g 0 0 4) := ⟨hx, h40, Or.inr ⟨by omega, by omega, rfl, rfl, fun q q1 q2 => f3.2.2.1 q (by omega) (by omega), fun q q1 q2 => by have := f3.2.2.2 q (by omega) q2; omega⟩⟩
      have hia : (b < 64 ∨ (100 ≤ b ∧ b < 164) ∨ (200 ≤ b ∧ b < 260)) := by omega
      have e32 : ∀ i, (up u 32 0 n x) 30 0 i = u 30 0 i := fun i => up_c (by decide)
      have ok : okP (g 0 0 1) (-9) (-9) (-9) (g 0 0 2) := ⟨by omega, by omega, by omega, by omega, by omega⟩
      have hpt : pt (up u 32 0 n x) b (pk (g 0 0 1) (-9) (-9) (-9) (g 0 0 2)) = up (up u 32 0 n x) 36 0 (b - 200) (pk (g 0 0 1) (-9) (-9) (-9) (g 0 0 2)) := by
        unfold pt
        rw [if_neg (by omega), if_neg (by omega)]
      refine Or.inr ⟨nwW g 0 b x (g 0 0 2) (g 0 0 4) h, up (pt (up u 32 0 n x) b (pk (g 0 0 1) (-9) (-9) (-9) (g 0 0 2))) 31 0 h b, ?_, ?_, (hI.nwm hF hh).1.mono (by omega), hW.nwm, FrC.nwm, FU.ups (FU.pts (FU.ups FU.rf (by decide))) (by decide), ?_, h40, ?_, cnt_nwm hI hF⟩
      · exact c54_h hI hF hh (by omega) ⟨rfl, rfl⟩
      · rw [if_neg (by omega), if_neg hq, if_neg (by omega), gd_t ⟨by omega, h40⟩, if_neg (by decide), ← hn, e32, e32, a0, a2, pack_e ok, bd_t, gd_t ⟨by omega, by omega⟩, gd_t ⟨by omega, by omega⟩, gd_t hy, hpt, show ((b : Int) - 200).toNat = b - 200 by omega, show 200 + ((b : Int) - 200) = b by omega]
        rfl
      · rw [up_c (by decide), pt_o (by decide), up_c (by decide), a0]
      · refine hL.nwm hI hF hh hf (fun i i0 i4 => ?_) (up_h rfl) ?_ (fun i => ?_) (fun i => ?_) (fun i => ?_) (fun d hd => ?_) (fun i i1 i2 => ?_)
        · rw [up_n i0, up_c (by decide), pt_o (by decide), up_c (by decide)]
        · rw [up_n (by omega), up_c (by decide), pt_o (by decide), up_c (by decide), a4]
        · rw [up_c (by decide)]
          by_cases e : i = h
          · rw [if_pos e, up_h e]
          · rw [if_neg e, up_n e, pt_o (by decide), up_c (by decide)]
        · rw [up_c (by decide), up_c (by decide), pt_o (by decide), ← hn]
          by_cases e : i = n
          · rw [if_pos e, up_h e]
          · rw [if_neg e, up_n e]
        · rw [up_c (by decide), up_c (by decide), pt_o (by decide), up_c (by decide)]
        · rw [cl_up (by decide), cl_up (by decide), cl_pt hia hd, cl_up (by decide)]
        · rw [up_c (by decide), up_c (by decide), pt_f hia i1, up_c (by decide)]
end MKL
