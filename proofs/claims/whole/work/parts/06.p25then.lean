/-! PURE: steps left, and free then -/
section THEN
variable {B : Int} {w v va w1 : Wd} {t a i : Nat}
theorem holds_l : ∀ (n p : Nat) (v : Wd), p ≤ 1125 → 1125 - p < n → ∃ v1, X8_holds_b2 n p v = some (0, v1) ∧ (∀ c t i, ¬ (c = 24 ∧ t = 0) → v1 c t i = v c t i) ∧ ∀ i, v1 24 0 i = if p ≤ i ∧ i < 1125 then v 22 0 i else v 24 0 i := by
  intro n
  induction n with
  | zero => intro p v h1 h2; omega
  | succ n ih =>
    intro p v h1 h2
    rw [X8_holds_b2]
    by_cases h3 : p < 1125
    · obtain ⟨v1, g1, g2, g3⟩ := ih (p + 1) (up v 24 0 p (v 22 0 p)) (by omega) (by omega)
      refine ⟨v1, ?_, fun c t i hn => ?_, fun i => ?_⟩
      · rw [if_pos (by omega), gd_t ⟨by omega, by omega⟩, gd_t ⟨by omega, by omega⟩]
        exact g1
      · rw [g2 c t i hn]
        unfold up
        rw [if_neg (by omega)]
      · rw [g3]
        by_cases e : p + 1 ≤ i ∧ i < 1125
        · rw [if_pos e, if_pos ⟨by omega, e.2⟩, up_c (by decide)]
        · rw [if_neg e]
          by_cases e2 : i = p
          · rw [up_h e2, if_pos (by omega), e2]
          · rw [up_n e2, if_neg (by omega)]
    · refine ⟨v, ?_, fun _ _ _ _ => rfl, fun i => ?_⟩
      · rw [if_neg (by omega)]
      · rw [if_neg (by omega)]
theorem holds_e (v : Wd) : ∃ v1, X8_holds v = some (0, v1) ∧ (∀ c t i, ¬ (c = 24 ∧ t = 0) → v1 c t i = v c t i) ∧ ∀ i, i < 1125 → v1 24 0 i = v 22 0 i := by
  obtain ⟨v1, g1, g2, g3⟩ := holds_l LF 0 v (by omega) (by rw [show LF = 10000 from rfl]; omega)
  exact ⟨v1, g1, g2, fun i hi => by rw [g3, if_pos ⟨by omega, hi⟩]⟩
theorem exch_l : ∀ (n p : Nat) (v : Wd), p ≤ 1125 → 1125 - p < n → ∃ v1, X8_exchanges_b2 n p v = some (0, v1) ∧ (∀ c t i, ¬ (c = 24 ∧ t = 0) → ¬ (c = 22 ∧ t = 0) → v1 c t i = v c t i) ∧ (∀ i, v1 24 0 i = if p ≤ i ∧ i < 1125 then v 22 0 i else v 24 0 i) ∧ ∀ i, v1 22 0 i = if p ≤ i ∧ i < 1125 then v 24 0 i else v 22 0 i := by
  intro n
  induction n with
  | zero => intro p v h1 h2; omega
  | succ n ih =>
    intro p v h1 h2
    rw [X8_exchanges_b2]
    by_cases h3 : p < 1125
    · obtain ⟨v1, g1, g2, g3, g4⟩ := ih (p + 1) (up (up v 22 0 p (v 24 0 p)) 24 0 p (v 22 0 p)) (by omega) (by omega)
      refine ⟨v1, ?_, fun c t i h1 h2 => ?_, fun i => ?_, fun i => ?_⟩
      · rw [if_pos (by omega), gd_t ⟨by omega, by omega⟩, gd_t ⟨by omega, by omega⟩]
        exact g1
      · rw [g2 c t i h1 h2]
        unfold up
        rw [if_neg (by omega), if_neg (by omega)]
      · rw [g3]
        by_cases e : p + 1 ≤ i ∧ i < 1125
        · rw [if_pos e, if_pos ⟨by omega, e.2⟩, up_c (by decide), up_n (by omega)]
        · rw [if_neg e]
          by_cases e2 : i = p
          · rw [up_h e2, if_pos (by omega), e2]
          · rw [up_n e2, up_c (by decide), if_neg (by omega)]
      · rw [g4]
        by_cases e : p + 1 ≤ i ∧ i < 1125
        · rw [if_pos e, if_pos ⟨by omega, e.2⟩, up_n (by omega), up_c (by decide)]
        · rw [if_neg e, up_c (by decide)]
          by_cases e2 : i = p
          · rw [up_h e2, if_pos (by omega), e2]
          · rw [up_n e2, if_neg (by omega)]
    · refine ⟨v, ?_, fun _ _ _ _ _ => rfl, fun i => ?_, fun i => ?_⟩
      · rw [if_neg (by omega)]
      · rw [if_neg (by omega)]
      · rw [if_neg (by omega)]
theorem exch_e (v : Wd) : ∃ v1, X8_exchanges v = some (0, v1) ∧ (∀ c t i, ¬ (c = 24 ∧ t = 0) → ¬ (c = 22 ∧ t = 0) → v1 c t i = v c t i) ∧ (∀ i, i < 1125 → v1 24 0 i = v 22 0 i) ∧ ∀ i, i < 1125 → v1 22 0 i = v 24 0 i := by
  obtain ⟨v1, g1, g2, g3, g4⟩ := exch_l LF 0 v (by omega) (by rw [show LF = 10000 from rfl]; omega)
  exact ⟨v1, g1, g2, fun i hi => by rw [g3, if_pos ⟨by omega, hi⟩], fun i hi => by rw [g4, if_pos ⟨by omega, hi⟩]⟩
theorem Si.st (hS : Si B w v t) : StO B w t := by
  have hm := hS.1.A.2.2.1
  by_cases h : w 0 t 2 = 1
  · exact Or.inl ⟨h, hS.1⟩
  · exact Or.inr ⟨by omega, hS.1.mono (by omega)⟩
/-- the forecast, from a world held -/
theorem back_g (hG : GR B w) {w2 v1 v' w3 : Wd} (hC : FrC 1 w w2) (hH : ∀ c t i, ¬ (c = 24 ∧ t = 0) → v1 c t i = w2 c t i) (hH2 : ∀ i, i < 1125 → v1 24 0 i = w2 22 0 i) (hM : FrM v1 v') (hE : ∀ c t i, ¬ (c = 24 ∧ t = 0) → ¬ (c = 22 ∧ t = 0) → w3 c t i = v' c t i) (hE2 : ∀ i, i < 1125 → w3 22 0 i = v' 24 0 i) : GR B w3 := by
  refine hG.fr (fun c t i hn => ?_)
  unfold Ir at hn
  by_cases e : c = 22
  · subst e
    have et : t = 0 := by omega
    subst et
    rw [hE2 i (by omega), hM 24 0 i (by decide), hH2 i (by omega), hC 22 0 i (by decide)]
  · rw [hE c t i (by omega) (by omega), hM c t i e, hH c t i (by omega), hC c t i (by omega)]
theorem stepsLeft_g (hG : GR B w) (hB : 0 ≤ B ∧ B ≤ 999990) : ∃ (r : Int) (w2 w3 : Wd), X7_stepsLeft w = some (r, w2) ∧ X8_stepsLeft w2 = some (r, w3) ∧ InR r ∧ GR B w3 := by
  have hS := hG.1
  obtain ⟨hI, hW, hR⟩ := hG.1
  have hA := hI.A
  unfold IvA at hA
  have a2 := hR.1.2.2.1
  by_cases hm : w 0 0 2 = 0
  · refine ⟨-2, w, w, ?_, ?_, ⟨by decide, by decide⟩, hG⟩
    · unfold X7_stepsLeft
      rw [if_pos hm]
    · unfold X8_stepsLeft
      rw [isMoving8_e, a2, if_neg (by omega), bd_t, if_pos rfl]
  obtain ⟨w1, b1, b2, b3⟩ := become_e (w := w) (t := 1) (t1 := 0) (by decide) hA.2.2.1
  have hS1 : Si B w1 w 1 := hS.cg b2 (fun i _ => rfl)
  obtain ⟨r, w2, x1, c1, _, _, _, _, _, c2, _, c3⟩ := toend_b hS1.st hS1.2.1 hS1.2.2 (by omega)
  have hC : FrC 1 w w2 := b3.tr c2
  obtain ⟨v1, h1, h2, h3⟩ := holds_e w2
  have hR1 : Re w1 v1 1 := hS1.2.2.cg hS1.1 Ag.rf (fun i _ => by rw [h2 22 0 i (by decide), hC 22 0 i (by decide)])
  obtain ⟨r', w2', v', m1, m2, _, _, _, _, _, m3, m4⟩ := toend_b hS1.st hS1.2.1 hR1 (by omega)
  rw [c1] at m1
  obtain ⟨er, ew⟩ := Prod.mk.inj (Option.some.inj m1)
  subst er ew
  obtain ⟨w3, e1, e2, _, e3⟩ := exch_e v'
  refine ⟨r, w2, w3, ?_, ?_, ⟨by omega, by omega⟩, back_g hG hC h2 h3 m3 e2 e3⟩
  · unfold X7_stepsLeft
    rw [if_neg hm, b1, bd_t, c1, bd_t]
  · unfold X8_stepsLeft
    rw [isMoving8_e, hC 22 0 2 (by decide), a2, if_pos (by omega), bd_t, if_neg (by decide), h1, bd_t, m2, bd_t, e1, bd_t]
theorem freeThen_g (hG : GR B w) (hB : 0 ≤ B ∧ B ≤ 999990) : ∃ (r : Int) (w2 w3 : Wd), X7_freeThen w = some (r, w2) ∧ X8_freeThen w2 = some (r, w3) ∧ InR r ∧ GR B w3 := by
  have hS := hG.1
  obtain ⟨hI, hW, hR⟩ := hG.1
  have hA := hI.A
  unfold IvA at hA
  obtain ⟨w1, b1, b2, b3⟩ := become_e (w := w) (t := 1) (t1 := 0) (by decide) hA.2.2.1
  have hS1 : Si B w1 w 1 := hS.cg b2 (fun i _ => rfl)
  have key : ∀ v1 : Wd, (∀ i, v1 22 0 i = w 22 0 i) → ∃ (r1 r2 r3 : Int) (wa wb wc va vb vc : Wd), X5_stepsUpTo 1 124 w1 = some (r1, wa) ∧ X8_stepsToEnd v1 = some (r1, va) ∧ X5_beginMove 1 wa = some (r2, wb) ∧ X8_begins va = some (0, vb) ∧ X5_stepsUpTo 1 124 wb = some (r3, wc) ∧ X8_stepsToEnd vb = some (r3, vc) ∧ FrC 1 w1 wc ∧ FrM v1 vc ∧ Iv (B + 1 + 1) 8 (-1) wc 1 ∧ Re wc vc 1 ∧ (0 ≤ r1 ∧ r1 ≤ 124) ∧ (0 ≤ r3 ∧ r3 ≤ 124) := by
    intro v1 hv
    have hR1 : Re w1 v1 1 := hS1.2.2.cg hS1.1 Ag.rf (fun i _ => hv i)
    obtain ⟨r1, wa, va, m1, m2, m3, m4, m5, m6, m7, m8, m9⟩ := toend_b hS1.st hS1.2.1 hR1 (by omega)
    obtain ⟨r2, wb, vb, n1, n2, n3, n4, n5, n6, n7, n8⟩ := begin_b m4 m5 m6 m3 (by omega)
    obtain ⟨r3, wc, vc, p1, p2, p3, p4, p5, p6, p7, p8, p9⟩ := toend_b n3 n4 n5 (by omega)
    exact ⟨r1, r2, r3, wa, wb, wc, va, vb, vc, m1, m2, n1, n2, p1, p2, m7.tr (n6.tr p7), m8.tr (n7.tr p8), p4, p6, m9, p9⟩
  obtain ⟨r1, r2, r3, wa, wb, wc, _, _, _, m1, _, n1, _, p1, _, c2, _, cI, _⟩ := key w (fun _ => rfl)
  have hC : FrC 1 w wc := b3.tr c2
  obtain ⟨v1, h1, h2, h3⟩ := holds_e wc
  obtain ⟨r1', r2', r3', wa', wb', wc', va, vb, vc, q1, q2, q3, q4, q5, q6, q7, q8, q9, q10, q11, q12⟩ := key v1 (fun i => by rw [h2 22 0 i (by omega), hC 22 0 i (by omega)])
  rw [m1] at q1
  obtain ⟨er, ew⟩ := Prod.mk.inj (Option.some.inj q1)
  subst er ew
  rw [n1] at q3
  obtain ⟨er, ew⟩ := Prod.mk.inj (Option.some.inj q3)
  subst er ew
  rw [p1] at q5
  obtain ⟨er, ew⟩ := Prod.mk.inj (Option.some.inj q5)
  subst er ew
  have hA2 := q9.A
  unfold IvA at hA2
  have z3 := q10.1.2.2.2.1
  have z4 := q10.1.2.2.2.2.1
  obtain ⟨w3, e1, e2, _, e3⟩ := exch_e vc
  refine ⟨64 - wc 0 1 4, wc, w3, ?_, ?_, ⟨by omega, by omega⟩, back_g hG hC h2 h3 q8 e2 e3⟩
  · unfold X7_freeThen
    rw [b1, bd_t, m1, bd_t, n1, bd_t, p1, bd_t, free_e hA2.2.2.2.2.1, bd_t]
  · unfold X8_freeThen
    rw [h1, bd_t, q2, bd_t, q4, bd_t, q6, bd_t, gd_t ⟨by omega, by omega⟩, if_neg (by omega), z3, free8_e hA2.2.2.2.1 (by rw [z4]; omega), bd_t, e1, bd_t, z4]
end THEN
