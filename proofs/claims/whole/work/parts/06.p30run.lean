/-! PURE: a text runs, both sides -/
section RUN
variable {B : Int} {w v va w1 : Wd} {t a i : Nat} {T : Nat → Int} {L q : Nat}
theorem GR.kept2 {F : Wd} (hG : GR B w) (hD : Ag w 0 w1 (sl w (w 11 0 1).toNat)) (hF : FrC (sl w (w 11 0 1).toNat) w w1) {B' : Int} (hB : B ≤ B') (hS' : Si B' F F 0)
    (k110 : F 11 0 0 = if w 11 0 1 < 5 then w 11 0 0 else (w 11 0 0 + 1) % 6) (k111 : F 11 0 1 = if w 11 0 1 < 5 then w 11 0 1 + 1 else 5)
    (hs : ∀ c t i, c < 10 → 2 ≤ t → F c t i = w1 c t i)
    (g3 : w 11 0 1 < 5 → F 21 0 0 = w 11 0 1 + 1 ∧ (∀ j : Nat, (j : Int) < w 11 0 1 → ∀ i, i < 1125 → F 23 0 (1125 * j + i) = w 23 0 (1125 * j + i)) ∧ ∀ i, i < 1125 → F 23 0 (1125 * (w 11 0 1).toNat + i) = w 22 0 i)
    (g4 : w 11 0 1 = 5 → F 21 0 0 = 5 ∧ (∀ j : Nat, j < 4 → ∀ i, i < 1125 → F 23 0 (1125 * j + i) = w 23 0 (1125 * (j + 1) + i)) ∧ ∀ i, i < 1125 → F 23 0 (1125 * 4 + i) = w 22 0 i)
    (hT : GrT F) (hr : F 21 0 1 = 0) : GR B' F := by
  obtain ⟨hS, ⟨h0, h1, h2, h3⟩, _, _⟩ := hG
  have old : ∀ j q : Nat, (j : Int) < w 11 0 1 → (∀ i, i < 1125 → F 23 0 (1125 * q + i) = w 23 0 (1125 * j + i)) → Si B' F (pst F q) (sl w j) := fun j q hj hq => by
    have hne : sl w j ≠ sl w (w 11 0 1).toNat := by unfold sl; omega
    refine ((h3 j hj).mono hB).cg (Ag.of (fun c hc i => ?_)) hq
    rw [hs c _ i hc (by unfold sl; omega), hF c _ i (by omega)]
  have new : ∀ q : Nat, (∀ i, i < 1125 → F 23 0 (1125 * q + i) = w 22 0 i) → Si B' F (pst F q) (sl w (w 11 0 1).toNat) := fun q hq => by
    refine (hS.mono hB).cg (hD.tr (Ag.of (fun c hc i => ?_))) hq
    rw [hs c _ i hc (by unfold sl; omega)]
  refine ⟨hS', ?_, hT, hr⟩
  by_cases h5 : w 11 0 1 < 5
  · obtain ⟨z1, z2, z3⟩ := g3 h5
    rw [if_pos h5] at k110 k111
    have esl : ∀ j, sl F j = sl w j := fun j => by unfold sl; rw [k110]
    refine ⟨by rw [k110]; exact h0, by rw [k111]; omega, by rw [z1, k111], fun j hj => ?_⟩
    rw [k111] at hj
    rw [esl]
    by_cases e : (j : Int) < w 11 0 1
    · exact old j j e (z2 j e)
    · have ej : j = (w 11 0 1).toNat := by omega
      rw [ej]
      exact new _ z3
  · obtain ⟨z1, z2, z3⟩ := g4 (by omega)
    rw [if_neg h5] at k110 k111
    refine ⟨by rw [k110]; omega, by rw [k111]; decide, by rw [z1, k111], fun j hj => ?_⟩
    rw [k111] at hj
    have esl : sl F j = sl w (j + 1) := by unfold sl; rw [k110]; omega
    rw [esl]
    by_cases e : j < 4
    · exact old (j + 1) j (by omega) (z2 j e)
    · have ej : j = 4 := by omega
      subst ej
      have e5 : (w 11 0 1).toNat = 5 := by omega
      have := new 4 z3
      rw [e5] at this
      exact this
/-- the class's run from behind the draft, and the model's loop -/
theorem run_k (hG : GR B w) (hB : 0 ≤ B ∧ B ≤ 999000) (hD : Ag w 0 w1 (sl w (w 11 0 1).toNat)) (hF : FrC (sl w (w 11 0 1).toNat) w w1) (hv : ∀ i, v 22 0 i = w 22 0 i) (h25 : ∀ i, v 25 0 i = w 25 0 i) (h212 : v 21 0 2 = w 21 0 2) (h211 : v 21 0 1 = 1) (h213 : v 21 0 3 = 0) : ∃ (r : Int) (w2 v' : Wd), X7_run_b15 LF 0 0 w1 = some (r, w2) ∧ FrU v v' ∧ InR r ∧ ((0 ≤ r ∧ X8_run_b19 LF 0 (-9) v = X8_run_b47 r (-9) v' ∧ ∃ w', FrL w1 w' ∧ w2 = kpW (up w' 17 0 0 0) ∧ Si (B + 80) w' v' 0) ∨ (r < 0 ∧ (∃ x e : Int, 0 ≤ e ∧ r = -1000 - e ∧ X8_run_b19 LF 0 (-9) v = X8_run_b47 x e v') ∧ Ag w 0 w2 0 ∧ FrL w1 w2)) := by
  have hG1 := hG.dr hF
  obtain ⟨hS, ⟨h0, h1, h2, h3⟩, ⟨t1, t2, t3⟩, hr⟩ := hG
  have f : ∀ c t i, 10 ≤ c → w1 c t i = w c t i := fun c t i hc => hF c t i (by omega)
  obtain ⟨L, hL⟩ : ∃ L : Nat, w 17 0 0 = L := ⟨(w 17 0 0).toNat, by omega⟩
  obtain ⟨T, hTd⟩ : ∃ T : Nat → Int, T = fun i => if i < L then w 18 0 i else 0 := ⟨_, rfl⟩
  have hTi : ∀ i, i < L → T i = w 18 0 i := fun i hi => by rw [hTd]; exact if_pos hi
  have hT : TT T L := ⟨by omega, fun i hi => by rw [hTi i hi]; exact (t3 i (by omega)).2, fun i hi => by rw [hTd]; exact if_neg (by omega)⟩
  have hX : TX w1 T L := ⟨by rw [f 17 0 0 (by decide)]; exact hL, fun i hi => by rw [f 18 0 i (by decide), hTi i hi]⟩
  have hM : TM v T L := ⟨by rw [h212, t2, hL], fun i hi => by rw [h25, hTi i hi, (t3 i (by omega)).1]⟩
  have hSv : Si (B + (0 : Nat)) w1 v 0 := (hG1.1.mono (by omega)).cg Ag.rf (fun i _ => by rw [hv, f 22 0 i (by decide)])
  obtain ⟨w', v', k1, k2, k3⟩ := run_l hT hB LF LF 0 0 w1 v hSv hX hM h213 h211 (by omega) (by omega) (by rw [show LF = 10000 from rfl]; omega) (by rw [show LF = 10000 from rfl]; omega)
  have e0 : ((0 : Nat) : Int) = 0 := rfl
  rw [e0] at k3
  have g110 : w' 11 0 0 = w 11 0 0 := by rw [k1 11 0 0 (by decide) (by decide) (by decide), f 11 0 0 (by decide)]
  have g111 : w' 11 0 1 = w 11 0 1 := by rw [k1 11 0 1 (by decide) (by decide) (by decide), f 11 0 1 (by decide)]
  rcases k3 with ⟨r, y0, y1, y2, y3⟩ | ⟨e, x, y0, y1, y2⟩
  · refine ⟨r, kpW (up w' 17 0 0 0), v', ?_, k2, ⟨by omega, by omega⟩, Or.inl ⟨by omega, y2, w', k1, rfl, y3⟩⟩
    rw [y1]
    unfold X7_run_b93 X6_empty X7_recorded
    rw [bd_t, if_neg (by omega), keep_e (by rw [up_c (by decide), g110]; exact h0) (by rw [up_c (by decide), g111]; exact h1), bd_t, bd_t]
    rfl
  · have es : ((w' 11 0 0 + w' 11 0 1) % 6).toNat + 2 = sl w (w 11 0 1).toNat := by
      unfold sl
      rw [g110, g111]
      omega
    have hsl : sl w (w 11 0 1).toNat ≠ 0 := by unfold sl; omega
    have hag : Ag w 0 w' (sl w (w 11 0 1).toNat) := hD.tr (Ag.of (fun c hc i => k1 c _ i (by omega) (by omega) (by omega)))
    obtain ⟨w2, b1, b2, b3⟩ := become_e (w := w') (t := 0) (t1 := sl w (w 11 0 1).toNat) (fun h => hsl h.symm) (hS.1.cg hag).A.2.2.1
    refine ⟨-1000 - e, w2, v', ?_, k2, ⟨by omega, by omega⟩, Or.inr ⟨by omega, ⟨x, e, by omega, rfl, y2⟩, hag.tr b2, k1.tr b3.l⟩⟩
    rw [y1]
    unfold X7_textFailed X2_restoreDraft
    rw [slot_e (by rw [g110]; exact h0) (by rw [g111]; omega), bd_t, gd_t ⟨by omega, by omega⟩, es, b1, bd_t, bd_t, gd_t ⟨by omega, by omega⟩]
theorem run_g (hG : GR B w) (hB : 0 ≤ B ∧ B ≤ 999000) : ∃ (r : Int) (w2 w3 : Wd), X7_run w = some (r, w2) ∧ X8_run w2 = some (r, w3) ∧ InR r ∧ GR (B + 80) w3 := by
  have hG0 := hG
  obtain ⟨hS, ⟨h0, h1, h2, h3⟩, ⟨t1, t2, t3⟩, hr⟩ := hG
  obtain ⟨w1, d1, d2, d3⟩ := draft_e hS h0 h1
  have f : ∀ c t i, 10 ≤ c → w1 c t i = w c t i := fun c t i hc => d3 c t i (by omega)
  obtain ⟨r, w2, _, c1, _, c2, c3⟩ := run_k hG0 hB d2 d3 (v := up (up w 21 0 1 1) 21 0 3 0) (fun i => by rw [up_c (by decide), up_c (by decide)]) (fun i => by rw [up_c (by decide), up_c (by decide)]) (by rw [up_n (by decide), up_n (by decide)]) (by rw [up_n (by decide), up_h rfl]) (up_h rfl)
  have hcl : X7_run w = some (r, w2) := by
    unfold X7_run
    rw [d1, bd_t, c1]
  -- what the class's run leaves of the rest
  have fw : ∀ c t i, 10 ≤ c → c ≠ 11 → c ≠ 17 → c ≠ 19 → c ≠ 20 → w2 c t i = w c t i := fun c t i hc n1 n2 n3 n4 => by
    rcases c3 with ⟨_, _, w', z1, z2, _⟩ | ⟨_, _, _, z⟩
    · rw [z2, kpW_c n1, up_c n2, z1 c t i (by omega) n3 n4, f c t i hc]
    · rw [z c t i (by omega) n3 n4, f c t i hc]
  obtain ⟨v1, q1, q2, q3⟩ := holds_e w2
  obtain ⟨v2, hv2⟩ : ∃ v2, v2 = up (up v1 21 0 1 1) 21 0 3 0 := ⟨_, rfl⟩
  have fv : ∀ c t i, ¬ (c = 24 ∧ t = 0) → ¬ (c = 21 ∧ t = 0 ∧ i = 1) → ¬ (c = 21 ∧ t = 0 ∧ i = 3) → v2 c t i = w2 c t i := fun c t i n1 n2 n3 => by
    rw [hv2]
    unfold up
    rw [if_neg n3, if_neg n2, q2 c t i n1]
  obtain ⟨r', w2', v', m1, m2, m3, m4⟩ := run_k hG0 hB d2 d3 (v := v2) (fun i => by rw [fv 22 0 i (by omega) (by omega) (by omega), fw 22 0 i (by decide) (by decide) (by decide) (by decide) (by decide)]) (fun i => by rw [fv 25 0 i (by omega) (by omega) (by omega), fw 25 0 i (by decide) (by decide) (by decide) (by decide) (by decide)]) (by rw [fv 21 0 2 (by decide) (by decide) (by decide), fw 21 0 2 (by decide) (by decide) (by decide) (by decide) (by decide)]) (by rw [hv2, up_n (by decide), up_h rfl]) (by rw [hv2, up_h rfl])
  rw [c1] at m1
  obtain ⟨er, ew⟩ := Prod.mk.inj (Option.some.inj m1)
  subst er ew
  have hst : X8_run w2 = X8_run_b19 LF 0 (-9) v2 := by
    unfold X8_run
    rw [q1, bd_t, ← hv2]
  -- the model's world behind the exchange
  obtain ⟨u2, x1, x2, x3, x4⟩ := exch_e (up v' 21 0 1 0)
  have v24 : ∀ i, i < 1125 → v' 24 0 i = w 22 0 i := fun i hi => by
    rw [m2 24 0 i (by decide) (by decide) (by omega), hv2, up_c (by decide), up_c (by decide), q3 i hi, fw 22 0 i (by decide) (by decide) (by decide) (by decide) (by decide)]
  have u22 : ∀ i, i < 1125 → u2 22 0 i = w 22 0 i := fun i hi => by rw [x4 i hi, up_c (by decide), v24 i hi]
  have fu : ∀ c t i, c ≠ 22 → c ≠ 24 → c ≠ 26 → ¬ (c = 21 ∧ t = 0 ∧ i = 1) → ¬ (c = 21 ∧ t = 0 ∧ i = 3) → u2 c t i = w2 c t i := fun c t i n1 n2 n3 n4 n5 => by
    rw [x2 c t i (by omega) (by omega)]
    unfold up
    rw [if_neg n4, m2 c t i n1 n3 n5, fv c t i (by omega) n4 n5]
  have u211 : u2 21 0 1 = 0 := by rw [x2 21 0 1 (by decide) (by decide), up_h rfl]
  rcases m4 with ⟨y1, y2, w', y3, y4, y5⟩ | ⟨y1, ⟨x, e, ye, y2, y3⟩, y4, y5⟩
  · have u23 : ∀ i, u2 23 0 i = w 23 0 i := fun i => by rw [fu 23 0 i (by decide) (by decide) (by decide) (by omega) (by omega), fw 23 0 i (by decide) (by decide) (by decide) (by decide) (by decide)]
    have u210 : u2 21 0 0 = w 11 0 1 := by rw [fu 21 0 0 (by decide) (by decide) (by decide) (by decide) (by decide), fw 21 0 0 (by decide) (by decide) (by decide) (by decide) (by decide), h2]
    obtain ⟨u3, a1, a2, a3, a4⟩ := acts_e (v := u2) u211 (by rw [u210]; exact h1)
    rw [u210] at a3 a4
    obtain ⟨u4, b1, b2, b3, b4⟩ := exch_e u3
    have hmd : X8_run w2 = some (r, up u4 21 0 2 0) := by
      rw [hst, y2]
      unfold X8_run_b47
      rw [x1, bd_t, if_pos rfl, a1, bd_t, b1, bd_t]
    have G : ∀ c t i, c ≠ 22 → c ≠ 24 → c ≠ 26 → c ≠ 23 → c ≠ 21 → up u4 21 0 2 0 c t i = w2 c t i := fun c t i n1 n2 n3 n4 n5 => by
      rw [up_c n5, b2 c t i (by omega) (by omega), a2 c t i (by omega) (by omega), fu c t i n1 n2 n3 (by omega) (by omega)]
    have G23 : ∀ i, up u4 21 0 2 0 23 0 i = u3 23 0 i := fun i => by rw [up_c (by decide), b2 23 0 i (by decide) (by decide)]
    have G210 : up u4 21 0 2 0 21 0 0 = u3 21 0 0 := by rw [up_n (by decide), b2 21 0 0 (by decide) (by decide)]
    have g110 : w' 11 0 0 = w 11 0 0 := by rw [y3 11 0 0 (by decide) (by decide) (by decide), f 11 0 0 (by decide)]
    have g111 : w' 11 0 1 = w 11 0 1 := by rw [y3 11 0 1 (by decide) (by decide) (by decide), f 11 0 1 (by decide)]
    refine ⟨r, w2, _, hcl, hmd, c2, hG0.kept2 d2 d3 (by omega) ?_ ?_ ?_ (fun c t i hc ht => ?_) (fun h5 => ?_) (fun h5 => ?_) ?_ ?_⟩
    · refine y5.cg (Ag.of (fun c hc i => ?_)) (fun i hi => ?_)
      · rw [G c 0 i (by omega) (by omega) (by omega) (by omega) (by omega), y4, kpW_c (by omega), up_c (by omega)]
      · rw [up_c (by decide), b4 i hi, a2 24 0 i (by decide) (by omega), x3 i hi, up_c (by decide)]
    · rw [G 11 0 0 (by decide) (by decide) (by decide) (by decide) (by decide), y4]
      unfold kpW
      rw [up_c (show (11 : Nat) ≠ 17 by decide), up_c (show (11 : Nat) ≠ 17 by decide), g110, g111]
      by_cases h : w 11 0 1 < 5
      · rw [if_pos h, if_pos h, up_n (by decide), up_c (by decide), g110]
      · rw [if_neg h, if_neg h, up_h rfl]
    · rw [G 11 0 1 (by decide) (by decide) (by decide) (by decide) (by decide), y4]
      unfold kpW
      rw [up_c (show (11 : Nat) ≠ 17 by decide), up_c (show (11 : Nat) ≠ 17 by decide), g110, g111]
      by_cases h : w 11 0 1 < 5
      · rw [if_pos h, if_pos h, up_h rfl]
      · rw [if_neg h, if_neg h, up_n (by decide), up_c (by decide), g111]
        omega
    · rw [G c t i (by omega) (by omega) (by omega) (by omega) (by omega), y4, kpW_c (by omega), up_c (by omega), y3 c t i (by omega) (by omega) (by omega)]
    · obtain ⟨z1, z2, z3⟩ := a3 h5
      refine ⟨by rw [G210, z1], fun j hj i hi => by rw [G23, z2 j hj i hi, u23], fun i hi => by rw [G23, z3 i hi, u22 i hi]⟩
    · obtain ⟨z1, z2, z3⟩ := a4 h5
      refine ⟨by rw [G210, z1], fun j hj i hi => by rw [G23, z2 j hj i hi, u23], fun i hi => by rw [G23, z3 i hi, u22 i hi]⟩
    · have e17 : up u4 21 0 2 0 17 0 0 = 0 := by rw [G 17 0 0 (by decide) (by decide) (by decide) (by decide) (by decide), y4, kpW_c (by decide), up_h rfl]
      unfold GrT
      rw [e17]
      exact ⟨by decide, up_h rfl, fun i hi => by omega⟩
    · rw [up_n (by decide), b2 21 0 1 (by decide) (by decide), a2 21 0 1 (by decide) (by decide), u211]
  · have hmd : X8_run w2 = some (r, u2) := by
      rw [hst, y3]
      unfold X8_run_b47
      rw [x1, bd_t, if_neg (by omega), gd_t ⟨by omega, by omega⟩, ← y2]
    refine ⟨r, w2, u2, hcl, hmd, c2, ?_⟩
    have G : ∀ c t i, 10 ≤ c → c ≠ 19 → c ≠ 20 → c ≠ 22 → c ≠ 24 → c ≠ 26 → ¬ (c = 21 ∧ t = 0 ∧ i = 1) → ¬ (c = 21 ∧ t = 0 ∧ i = 3) → u2 c t i = w c t i := fun c t i hc n1 n2 n3 n4 n5 n6 n7 => by
      rw [fu c t i n3 n4 n5 n6 n7, y5 c t i (by omega) n1 n2, f c t i hc]
    have g110 : u2 11 0 0 = w 11 0 0 := G 11 0 0 (by decide) (by decide) (by decide) (by decide) (by decide) (by decide) (by decide) (by decide)
    have g111 : u2 11 0 1 = w 11 0 1 := G 11 0 1 (by decide) (by decide) (by decide) (by decide) (by decide) (by decide) (by decide) (by decide)
    refine GR.mono (B := B) ⟨?_, ⟨?_, ?_, ?_, ?_⟩, ?_, u211⟩ (by omega)
    · exact hS.cg (y4.tr (Ag.of (fun c hc i => fu c 0 i (by omega) (by omega) (by omega) (by omega) (by omega)))) u22
    · rw [g110]; exact h0
    · rw [g111]; exact h1
    · rw [g111, G 21 0 0 (by decide) (by decide) (by decide) (by decide) (by decide) (by decide) (by decide) (by decide)]; exact h2
    · intro j hj
      rw [g111] at hj
      have e : sl u2 j = sl w j := by unfold sl; rw [g110]
      rw [e]
      refine (h3 j hj).cg (Ag.of (fun c hc i => ?_)) (fun i hi => G 23 0 _ (by decide) (by decide) (by decide) (by decide) (by decide) (by decide) (by omega) (by omega))
      rw [fu c _ i (by omega) (by omega) (by omega) (by omega) (by omega), y5 c _ i (by unfold sl; omega) (by omega) (by omega), d3 c _ i (by unfold sl; omega)]
    · unfold GrT
      rw [G 17 0 0 (by decide) (by decide) (by decide) (by decide) (by decide) (by decide) (by decide) (by decide), G 21 0 2 (by decide) (by decide) (by decide) (by decide) (by decide) (by decide) (by decide) (by decide)]
      refine ⟨t1, t2, fun i hi => ?_⟩
      rw [G 18 0 i (by decide) (by decide) (by decide) (by decide) (by decide) (by decide) (by omega) (by omega), G 25 0 i (by decide) (by decide) (by decide) (by decide) (by decide) (by decide) (by omega) (by omega)]
      exact t3 i hi
end RUN
