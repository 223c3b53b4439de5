/-! PURE: the law reads an address -/
section RDL
variable {B : Int} {k : Nat} {ex : Int} {g u : Wd} {a i : Nat}
theorem lays_e {th n0 n1 T : Int} {f : Nat} (hh : u 30 0 3 = f) (hf : f < 2) (hT : u 30 0 (4 + f) = T) (hb : 0 ≤ T ∧ T < 64) (ht : 0 ≤ th ∧ th < 40) (hs : 0 ≤ u 32 0 th.toNat ∧ u 32 0 th.toNat ≤ 12) (h0 : -9 ≤ n0 ∧ n0 ≤ 500) (h1 : -9 ≤ n1 ∧ n1 ≤ 500) : L_lays th n0 n1 u = some (100 * f + T, up (pt u (100 * f + T).toNat (pk th n0 n1 (-9) 0)) 30 0 (4 + f) (T + u 32 0 th.toNat)) := by
  have ok : okP th n0 n1 (-9) 0 := ⟨by omega, h0, h1, by omega, by omega⟩
  have e4 : (4 + (f : Int)).toNat = 4 + f := by omega
  unfold L_lays
  simp only [hh, e4, hT]
  rw [gd_t ⟨by omega, by omega⟩, gd_t ⟨by omega, by omega⟩, gd_t ⟨by omega, by omega⟩, gd_t ⟨by omega, by omega⟩, pack_e ok, bd_t, puts_e (by omega) (by omega), bd_t]
  simp only [pt_o (show (30 : Nat) < 34 by decide), pt_o (show (32 : Nat) < 34 by decide), hh, e4, hT]
  rw [gd_t ⟨by omega, by omega⟩, gd_t ⟨by omega, by omega⟩, gd_t ht, gd_t ⟨by omega, by omega⟩]
/-- the law's rows behind the carrying -/
def carU (u : Wd) (x : Nat) (f : Nat) (T n : Int) (q : Nat) (p1 p2 : Int) : Wd := pt (up (up (up (pt u (100 * f + T).toNat p1) 30 0 (4 + f) n) 33 0 q (100 * f + T)) 30 0 8 (q + 1)) x p2
theorem Lb.car (hL : Lb g u) (hI : Iv B k ex g 0) (hm : g 0 0 2 = 1) {x : Int} (hp : prs g 0 x) (ho : (100 * (1 - g 0 0 3) ≤ x ∧ x < 100 * (1 - g 0 0 3) + 64)) (hn : g 5 0 x.toNat = 300) {f q : Nat} (hf : f = (g 0 0 3).toNat) (hq : q = (g 8 0 1 - g 8 0 0).toNat) : Lb (carW g 0 x.toNat) (carU u x.toNat f (g 0 0 4) (g 0 0 4 + g 4 0 x.toNat) q (pk (g 3 0 x.toNat) (nn (g 7 0 (2 * x.toNat))) (nn (g 7 0 (2 * x.toNat + 1))) (-9) 0) (pk (g 3 0 x.toNat) (nn (g 7 0 (2 * x.toNat))) (nn (g 7 0 (2 * x.toNat + 1))) (nb g 0) 0)) := by
  obtain ⟨a0, a1, a2, a3, a4, a5, a6, a7, a8⟩ := hL.1
  have hA := hI.A
  unfold IvA at hA
  obtain ⟨c1, c2, c3, c4, c5⟩ := hI.car_ok hm hp ho hn
  obtain ⟨b0, b1, b2, b3, b4⟩ := hI.nb_in c2
  obtain ⟨q1, q2, q3, q4⟩ := hI.Q
  have hb4 : nb g 0 = 100 * g 0 0 3 + g 0 0 4 := rfl
  have hl := hp.lt
  have hia := hp.2.1
  have hf2 : f < 2 := by omega
  have enb : 100 * (f : Int) + g 0 0 4 = nb g 0 := by omega
  have hne : x.toNat ≠ (nb g 0).toNat := by omega
  have h6 : g 6 0 x.toNat = 0 := hI.E.2.2.2 x.toNat (by omega) hp.2.2
  unfold carU
  rw [enb]
  rw [← hf] at a4
  refine ⟨?_, ?_, ?_, ?_, ?_⟩
  · unfold LbA
    rw [car_04, car_80, car_81]
    simp only [car_0 (show (0 : Nat) ≠ 4 by decide), car_0 (show (1 : Nat) ≠ 4 by decide), car_0 (show (2 : Nat) ≠ 4 by decide), car_0 (show (3 : Nat) ≠ 4 by decide), car_0 (show (5 : Nat) ≠ 4 by decide), car_0 (show (6 : Nat) ≠ 4 by decide)]
    rw [← hf]
    clear hia b3
    have R : ∀ i, i ≠ 8 → i ≠ 4 + f → pt (up (up (up (pt u (nb g 0).toNat (pk (g 3 0 x.toNat) (nn (g 7 0 (2 * x.toNat))) (nn (g 7 0 (2 * x.toNat + 1))) (-9) 0)) 30 0 (4 + f) (g 0 0 4 + g 4 0 x.toNat)) 33 0 q (nb g 0)) 30 0 8 (q + 1)) x.toNat (pk (g 3 0 x.toNat) (nn (g 7 0 (2 * x.toNat))) (nn (g 7 0 (2 * x.toNat + 1))) (nb g 0) 0) 30 0 i = u 30 0 i := fun i h8 h4 => by
      rw [pt_o (by decide), up_n h8, up_c (by decide), up_n h4, pt_o (by decide)]
    rw [R 0 (by omega) (by omega), R 1 (by omega) (by omega), R 2 (by omega) (by omega), R 3 (by omega) (by omega), R 6 (by omega) (by omega), R 7 (by omega) (by omega)]
    refine ⟨a0, a1, a2, a3, ?_, fun z => by omega, a6, a7, ?_⟩
    · rw [pt_o (by decide), up_n (by omega), up_c (by decide), up_h rfl]
    · rw [pt_o (by decide), up_h rfl]
      omega
  · intro h hh
    rw [pt_o (by decide), up_c (by decide), up_c (by decide), up_c (by decide), pt_o (by decide), car_1]
    exact hL.2.1 h hh
  · intro j hj
    rw [car_80, car_81] at hj
    rw [car_80, car_9, pt_o (by decide), up_c (by decide)]
    by_cases e : j = q
    · rw [up_h e, if_pos (by omega)]
    · rw [up_n e, if_neg (by omega), up_c (by decide), pt_o (by decide)]
      exact hL.2.2.1 j (by omega)
  · refine ⟨fun d hd => ?_, fun z z1 z2 => ?_⟩
    · rw [cl_pt hia hd]
      unfold cv
      rw [car_4, car_3, car_5, car_6, car_7, car_7]
      by_cases e2 : d = x.toNat
      · subst e2
        clear hd b3 hia
        rw [if_pos rfl, if_neg hne, if_pos c3, if_neg hne, if_neg (by omega), if_neg (by omega), if_neg (by omega), if_neg (by omega), if_pos rfl, if_neg hne, h6]
        rw [show ((nb g 0).toNat : Int) = nb g 0 by omega, nn_ne (x := nb g 0) (by omega)]
      · rw [if_neg e2, cl_up (by decide), cl_up (by decide), cl_up (by decide), cl_pt b3 hd]
        have f1 : ¬ 2 * d = 2 * (nb g 0).toNat + 1 := by clear hia hd b3; omega
        have f2 : ¬ 2 * d + 1 = 2 * (nb g 0).toNat := by clear hia hd b3; omega
        by_cases e : d = (nb g 0).toNat
        · have f3 : 2 * d = 2 * (nb g 0).toNat := by rw [e]
          have f4 : 2 * d + 1 = 2 * (nb g 0).toNat + 1 := by rw [e]
          simp only [if_pos e, if_neg e2, if_pos c3, if_neg f1, if_pos f3, if_pos f4, nn_300]
        · have f3 : ¬ 2 * d = 2 * (nb g 0).toNat := by clear hia hd b3; omega
          have f4 : ¬ 2 * d + 1 = 2 * (nb g 0).toNat + 1 := by clear hia hd b3; omega
          simp only [if_neg e, if_neg e2, if_neg f1, if_neg f2, if_neg f3, if_neg f4]
          rw [hL.2.2.2.1.1 d hd]
          rfl
    · rw [pt_f hia z1, up_c (by decide), up_c (by decide), up_c (by decide), pt_f b3 z1]
      exact hL.2.2.2.1.2 z z1 z2
  · intro d hd hpd
    rw [car_4] at hpd
    rw [car_4, car_3, pt_o (by decide), up_c (by decide), up_c (by decide), up_c (by decide), pt_o (by decide)]
    by_cases e : d = (nb g 0).toNat
    · rw [if_pos e, if_pos e]
      exact hL.2.2.2.2 x.toNat hia hp.2.2
    · rw [if_neg e] at hpd
      rw [if_neg e, if_neg e]
      exact hL.2.2.2.2 d hd hpd
theorem Lb.mk (hL : Lb g u) (hI : Iv B k ex g 0) (hm : g 0 0 2 = 1) {x : Int} (hp : prs g 0 x) (h2 : 200 ≤ x) (hz : g 6 0 x.toNat ≠ 1) {q : Nat} (hq : q = (g 8 0 1 - g 8 0 0).toNat) : Lb (mkW g 0 x.toNat) (up (up (pt u x.toNat (pk (g 3 0 x.toNat) (nn (g 7 0 (2 * x.toNat))) (nn (g 7 0 (2 * x.toNat + 1))) (nn (g 5 0 x.toNat)) 1)) 33 0 q x) 30 0 8 (q + 1)) := by
  obtain ⟨a0, a1, a2, a3, a4, a5, a6, a7, a8⟩ := hL.1
  have hA := hI.A
  unfold IvA at hA
  obtain ⟨q1, q2, q3, q4⟩ := hI.Q
  have hl := hp.lt
  have hia := hp.2.1
  have hf2 : (g 0 0 3).toNat < 2 := by omega
  refine ⟨?_, ?_, ?_, ?_, ?_⟩
  · unfold LbA
    simp only [mk_0, mk_80, mk_81]
    have R : ∀ i, i ≠ 8 → up (up (pt u x.toNat (pk (g 3 0 x.toNat) (nn (g 7 0 (2 * x.toNat))) (nn (g 7 0 (2 * x.toNat + 1))) (nn (g 5 0 x.toNat)) 1)) 33 0 q x) 30 0 8 (q + 1) 30 0 i = u 30 0 i := fun i h8 => by
      rw [up_n h8, up_c (by decide), pt_o (by decide)]
    rw [R 0 (by omega), R 1 (by omega), R 2 (by omega), R 3 (by omega), R (4 + (g 0 0 3).toNat) (by omega), R 6 (by omega), R 7 (by omega), up_h rfl]
    exact ⟨a0, a1, a2, a3, a4, fun z => by omega, a6, a7, by omega⟩
  · intro h hh
    rw [up_c (by decide), up_c (by decide), pt_o (by decide), mk_1]
    exact hL.2.1 h hh
  · intro j hj
    rw [mk_80, mk_81] at hj
    rw [mk_80, mk_9, up_c (by decide)]
    by_cases e : j = q
    · rw [up_h e, if_pos (by omega)]
      omega
    · rw [up_n e, if_neg (by omega), pt_o (by decide)]
      exact hL.2.2.1 j (by omega)
  · refine ⟨fun d hd => ?_, fun z z1 z2 => ?_⟩
    · rw [cl_up (by decide), cl_up (by decide), cl_pt hia hd]
      unfold cv
      rw [mk_4, mk_3, mk_5, mk_6, mk_7, mk_7]
      by_cases e : d = x.toNat
      · subst e
        rw [if_pos rfl, if_pos hp.2.2, if_pos rfl]
      · rw [if_neg e, if_neg e, hL.2.2.2.1.1 d hd]
        rfl
    · rw [up_c (by decide), up_c (by decide), pt_f hia z1]
      exact hL.2.2.2.1.2 z z1 z2
  · intro d hd hpd
    rw [mk_4] at hpd
    rw [mk_4, mk_3, up_c (by decide), up_c (by decide), pt_o (by decide)]
    exact hL.2.2.2.2 d hd hpd
/-- the law reads an address -/
theorem read_L (hL : Lb g u) (hI : Iv B k ex g 0) {x : Int} (hx : x = 300 ∨ prs g 0 x) (hq : (rW g 0 x) 8 0 1 - (rW g 0 x) 8 0 0 ≤ 64) : ∃ u1, L_read (nn x) u = some (nn (rv g 0 x), u1) ∧ Lb (rW g 0 x) u1 ∧ FU u u1 := by
  obtain ⟨a0, a1, a2, a3, a4, a5, a6, a7, a8⟩ := hL.1
  have hA := hI.A
  unfold IvA at hA
  obtain ⟨q1, q2, q3, q4⟩ := hI.Q
  rcases hx with rfl | hp
  · refine ⟨u, ?_, ?_, FU.rf⟩
    · unfold L_read rv
      rw [nn_300, if_pos (by decide), if_neg (by omega), nn_300]
    · unfold rW
      rw [if_neg (by omega), if_neg (by omega)]
      exact hL
  have hl := hp.lt
  have hia := hp.2.1
  have ok := hI.okp hia hp.2.2
  have hc := hL.cp hia hp.2.2
  unfold L_read
  rw [nn_ne (show x ≠ 300 by omega), if_neg (by omega), a2]
  by_cases hm : g 0 0 2 = 1
  case neg =>
    refine ⟨u, ?_, ?_, FU.rf⟩
    · unfold rv
      rw [if_pos (by omega), if_neg (by omega), nn_ne (by omega)]
    · unfold rW
      rw [if_neg (by omega), if_neg (by omega)]
      exact hL
  rw [if_neg (by omega), gd_t (by omega), a3]
  obtain ⟨p0, p1, p2⟩ := name_p (w := u) ok
  by_cases ho : (100 * (1 - g 0 0 3) ≤ x ∧ x < 100 * (1 - g 0 0 3) + 64)
  · have e1 : rW g 0 x = if g 5 0 x.toNat = 300 then carW g 0 x.toNat else g := by unfold rW; rw [if_pos ⟨hm, ho⟩]
    have e2 : rv g 0 x = if g 5 0 x.toNat = 300 then nb g 0 else g 5 0 x.toNat := by unfold rv; rw [if_pos ⟨hm, ho⟩]
    rw [e1] at hq
    rw [e1, e2, if_neg (by omega), at_e (by omega) hia, bd_t, if_pos (by omega), hc, p2, bd_t]
    by_cases hn : g 5 0 x.toNat = 300
    · obtain ⟨c1, c2, c3, c4, c5⟩ := hI.car_ok hm hp ho hn
      obtain ⟨b0, b1, b2, b3, b4⟩ := hI.nb_in c2
      have hb4 : nb g 0 = 100 * g 0 0 3 + g 0 0 4 := rfl
      obtain ⟨f, hf⟩ : ∃ n : Nat, n = (g 0 0 3).toNat := ⟨_, rfl⟩
      obtain ⟨q, hqq⟩ : ∃ n : Nat, n = (g 8 0 1 - g 8 0 0).toNat := ⟨_, rfl⟩
      have h40 : g 3 0 x.toNat < 40 := by have := (hI.S x.toNat (by omega)).2.2 hp.2.2; omega
      have hS := hI.S x.toNat (by omega)
      have hz := hL.2.2.2.2 x.toNat hia hp.2.2
      rw [if_pos hn, car_80, car_81] at hq
      have okc : okP (g 3 0 x.toNat) (nn (g 7 0 (2 * x.toNat))) (nn (g 7 0 (2 * x.toNat + 1))) (nb g 0) 0 := by
        unfold okP at ok ⊢
        exact ⟨ok.1, ok.2.1, ok.2.2.1, by omega, by omega⟩
      have enb : 100 * (f : Int) + g 0 0 4 = nb g 0 := by omega
      have hla := lays_e (u := u) (th := g 3 0 x.toNat) (n0 := nn (g 7 0 (2 * x.toNat))) (n1 := nn (g 7 0 (2 * x.toNat + 1))) (T := g 0 0 4) (f := f) (by rw [a3]; omega) (by omega) (by rw [hf]; exact a4) (by omega) ⟨hS.2.2 hp.2.2 |>.2.1, h40⟩ (by rw [hz]; omega) ok.2.1 ok.2.2.1
      obtain ⟨p0', p1', -⟩ := name_p (w := up (up (up (pt u (nb g 0).toNat (pk (g 3 0 x.toNat) (nn (g 7 0 (2 * x.toNat))) (nn (g 7 0 (2 * x.toNat + 1))) (-9) 0)) 30 0 (4 + f) (g 0 0 4 + g 4 0 x.toNat)) 33 0 q (nb g 0)) 30 0 8 (q + 1)) ok
      refine ⟨_, ?_, by rw [if_pos hn]; exact hL.car hI hm hp ho hn hf hqq, ?_⟩
      · rw [hz, enb] at hla
        rw [hn, nn_300, if_pos (by decide), if_pos rfl, nn_ne (x := nb g 0) (by omega)]
        rw [hn, nn_300] at ok p0 p1 p0' p1'
        rw [thing_p ok, bd_t, p0, bd_t, p1, bd_t, hla, bd_t]
        have e8 : (up (pt u (nb g 0).toNat (pk (g 3 0 x.toNat) (nn (g 7 0 (2 * x.toNat))) (nn (g 7 0 (2 * x.toNat + 1))) (-9) 0)) 30 0 (4 + f) (g 0 0 4 + g 4 0 x.toNat)) 30 0 8 = (q : Int) := by
          rw [up_n (by omega), pt_o (by decide), a8]
          omega
        have e33 : ∀ z : Int, (up (up (pt u (nb g 0).toNat (pk (g 3 0 x.toNat) (nn (g 7 0 (2 * x.toNat))) (nn (g 7 0 (2 * x.toNat + 1))) (-9) 0)) 30 0 (4 + f) (g 0 0 4 + g 4 0 x.toNat)) 33 0 ((q : Int)).toNat z) 30 0 8 = (q : Int) := fun z => by
          rw [up_c (by decide), e8]
        rw [e8, gd_t ⟨by omega, by omega⟩, e33, gd_t ⟨by omega, by omega⟩, show ((q : Int)).toNat = q from rfl, thing_p ok, bd_t, p0', bd_t, p1', bd_t, pack_e okc, bd_t, puts_e (by omega) hia, bd_t]
        unfold carU
        rw [enb]
      · unfold carU
        exact FU.pts (FU.ups (FU.ups (FU.ups (FU.pts FU.rf) (by decide)) (by decide)) (by decide))
    · refine ⟨u, ?_, by rw [if_neg hn]; exact hL, FU.rf⟩
      have hT := (hI.T x.toNat (by omega) hp.2.2).resolve_left hn
      have := hT.2.2.1.lt
      rw [if_neg (show ¬ nn (g 5 0 x.toNat) < 0 by rw [nn_ne hn]; omega), p2, bd_t, if_neg hn]
  · have e2 : rv g 0 x = x := by unfold rv; rw [if_neg (fun q => ho q.2)]
    have e1 : rW g 0 x = if g 0 0 2 = 1 ∧ 200 ≤ x ∧ x < 260 ∧ g 6 0 x.toNat ≠ 1 then mkW g 0 x.toNat else g := by unfold rW; rw [if_neg (fun q => ho q.2)]
    rw [e1] at hq
    rw [e1, e2, nn_ne (show x ≠ 300 by omega)]
    by_cases h2 : 200 ≤ x
    · rw [if_neg (by omega), at_e (by omega) hia, bd_t, if_neg (by omega), hc, mark_p ok, bd_t]
      have h6 := hI.m01 hia hp.2.2
      by_cases hz : g 6 0 x.toNat = 0
      · have hmk : g 0 0 2 = 1 ∧ 200 ≤ x ∧ x < 260 ∧ g 6 0 x.toNat ≠ 1 := ⟨hm, h2, hl.2, by omega⟩
        obtain ⟨q, hqq⟩ : ∃ n : Nat, n = (g 8 0 1 - g 8 0 0).toNat := ⟨_, rfl⟩
        rw [if_pos hmk, mk_80, mk_81] at hq
        rw [if_pos hmk, if_pos hz]
        refine ⟨_, ?_, hL.mk hI hm hp h2 (by omega) hqq, ?_⟩
        · rw [hz] at ok
          rw [hz, set_mark ok, puts_e (by omega) hia, bd_t]
          have e8 : (pt u x.toNat (pk (g 3 0 x.toNat) (nn (g 7 0 (2 * x.toNat))) (nn (g 7 0 (2 * x.toNat + 1))) (nn (g 5 0 x.toNat)) 1)) 30 0 8 = (q : Int) := by
            rw [pt_o (by decide), a8]
            omega
          have e33 : ∀ z : Int, (up (pt u x.toNat (pk (g 3 0 x.toNat) (nn (g 7 0 (2 * x.toNat))) (nn (g 7 0 (2 * x.toNat + 1))) (nn (g 5 0 x.toNat)) 1)) 33 0 ((q : Int)).toNat z) 30 0 8 = (q : Int) := fun z => by
            rw [up_c (by decide), e8]
          rw [e8, gd_t ⟨by omega, by omega⟩, e33, gd_t ⟨by omega, by omega⟩]
          rfl
        · exact FU.ups (FU.ups (FU.pts FU.rf) (by decide)) (by decide)
      · rw [if_neg hz, if_neg (show ¬ (g 0 0 2 = 1 ∧ 200 ≤ x ∧ x < 260 ∧ g 6 0 x.toNat ≠ 1) from fun q => q.2.2.2 (by omega))]
        exact ⟨u, rfl, hL, FU.rf⟩
    · rw [if_pos (by omega), if_neg (fun q => h2 q.2.1)]
      exact ⟨u, rfl, hL, FU.rf⟩
theorem ren_L (hL : Lb g u) (hI : Iv B k ex g 0) {x : Int} (hp : prs g 0 x) {j : Nat} (hj : j < 3) {r : Int} (hr : r = 300 ∨ prs g 0 r) : ∃ u1, L_renames x j (nn r) u = some (0, u1) ∧ Lb (nfW g x.toNat j r) u1 ∧ FU u u1 := by
  obtain ⟨z, h1, h2⟩ := ren_e hL hI hp.1 hp.2.1 hp.2.2 hj hr
  refine ⟨_, h1, ?_, FU.pts FU.rf⟩
  rw [h2]
  exact hL.nf hp.2.2 hp.2.1 hj
end RDL
