/-! PURE: undo and the text, both sides -/
section UNDO
variable {B : Int} {w v w1 : Wd} {t a i : Nat}
theorem undo_l : ∀ (n p : Nat) (v : Wd), p ≤ 1125 → 1125 - p < n → 0 ≤ v 21 0 0 ∧ v 21 0 0 ≤ 4 → ∃ v1, X8_undo_b22 n p v = some (v 21 0 0, v1) ∧ FrM v v1 ∧ ∀ i, v1 22 0 i = if p ≤ i ∧ i < 1125 then v 23 0 (1125 * (v 21 0 0).toNat + i) else v 22 0 i := by
  intro n
  induction n with
  | zero => intro p v h1 h2; omega
  | succ n ih =>
    intro p v h1 h2 hq
    rw [X8_undo_b22]
    by_cases h3 : p < 1125
    · have ei : (1125 * (v 21 0 0) + (p : Int)).toNat = 1125 * (v 21 0 0).toNat + p := by omega
      have e21 : ∀ z j, up v 22 0 j z 21 0 0 = v 21 0 0 := fun z j => up_c (by decide)
      obtain ⟨v1, g1, g2, g3⟩ := ih (p + 1) (up v 22 0 p (v 23 0 (1125 * (v 21 0 0).toNat + p))) (by omega) (by omega) (by rw [e21]; exact hq)
      rw [e21] at g1 g3
      refine ⟨v1, ?_, FrM.tr FrM.rf.ups g2, fun i => ?_⟩
      · rw [if_pos (by omega), gd_t ⟨by omega, by omega⟩, gd_t ⟨by omega, by omega⟩, gd_t ⟨by omega, by omega⟩, gd_t ⟨by omega, by omega⟩, gd_t ⟨by omega, by omega⟩, ei]
        exact g1
      · rw [g3]
        by_cases e : p + 1 ≤ i ∧ i < 1125
        · rw [if_pos e, if_pos ⟨by omega, e.2⟩, up_c (by decide)]
        · rw [if_neg e]
          by_cases e2 : i = p
          · rw [up_h e2, if_pos (by omega), e2]
          · rw [up_n e2, if_neg (by omega)]
    · refine ⟨v, ?_, FrM.rf, fun i => ?_⟩
      · rw [if_neg (by omega)]
      · rw [if_neg (by omega)]
theorem undo_g (hG : GR B w) : ∃ (r : Int) (w2 w3 : Wd), X7_undo w = some (r, w2) ∧ X8_undo w2 = some (r, w3) ∧ InR r ∧ GR B w3 := by
  have hG0 := hG
  obtain ⟨hS, ⟨h0, h1, h2, h3⟩, hT, hr⟩ := hG
  by_cases hz : w 11 0 1 = 0
  · refine ⟨-2, w, w, ?_, ?_, ⟨by decide, by decide⟩, hG0⟩
    · unfold X7_undo X2_size
      rw [bd_t, if_pos hz]
    · unfold X8_undo
      rw [if_pos (by omega)]
  · obtain ⟨j, hj⟩ : ∃ j : Nat, (j : Int) = w 11 0 1 - 1 := ⟨(w 11 0 1 - 1).toNat, by omega⟩
    obtain ⟨wa, hwa⟩ : ∃ wa, wa = up w 11 0 1 (w 11 0 1 - 1) := ⟨_, rfl⟩
    have ea0 : wa 11 0 0 = w 11 0 0 := by rw [hwa, up_n (by decide)]
    have ea1 : wa 11 0 1 = j := by rw [hwa, up_h rfl, hj]
    have hSj := h3 j (by omega)
    have es : ((wa 11 0 0 + wa 11 0 1) % 6).toNat + 2 = sl w j := by
      unfold sl
      rw [ea0, ea1]
      omega
    have hal : Ag w (sl w j) wa (sl w j) := Ag.of (fun c hc i => by rw [hwa, up_c (by omega)])
    obtain ⟨w2, g1, g2, g3⟩ := become_e (w := wa) (t := 0) (t1 := sl w j) (by unfold sl; omega) (hSj.1.cg hal).A.2.2.1
    have c1 : X7_undo w = some (w 11 0 1 - 1, w2) := by
      unfold X7_undo X2_size X2_restoreLatest X2_restoreDraft
      rw [bd_t, if_neg hz, if_pos (by omega), gd_t ⟨by omega, by omega⟩, ← hwa, slot_e (by rw [ea0]; exact h0) (by rw [ea1]; omega), bd_t, gd_t ⟨by omega, by omega⟩, es, g1, bd_t, bd_t, bd_t, bd_t]
      have : w2 11 0 1 = w 11 0 1 - 1 := by rw [g3 11 0 1 (by decide), ea1, hj]
      rw [this]
    have f : ∀ c t i, 10 ≤ c → c ≠ 11 → w2 c t i = w c t i := fun c t i hc hn => by rw [g3 c t i (by omega), hwa, up_c hn]
    obtain ⟨va, hva⟩ : ∃ va, va = up w2 21 0 0 (w 11 0 1 - 1) := ⟨_, rfl⟩
    have e21 : va 21 0 0 = w 11 0 1 - 1 := by rw [hva, up_h rfl]
    obtain ⟨F, k1, k2, k3⟩ := undo_l LF 0 va (by omega) (by rw [show LF = 10000 from rfl]; omega) (by omega)
    rw [e21] at k1 k3
    have m1 : X8_undo w2 = some (w 11 0 1 - 1, F) := by
      unfold X8_undo
      rw [f 21 0 0 (by decide) (by decide), h2, if_neg hz, gd_t ⟨by omega, by omega⟩, ← hva]
      exact k1
    have G : ∀ c t i, c ≠ 22 → ¬ (c = 21 ∧ t = 0 ∧ i = 0) → F c t i = w2 c t i := fun c t i h1 h2 => by
      rw [k2 c t i h1, hva]
      unfold up
      rw [if_neg h2]
    have G2 : ∀ c t i, 10 ≤ c → c ≠ 11 → c ≠ 22 → ¬ (c = 21 ∧ t = 0 ∧ i = 0) → F c t i = w c t i := fun c t i h1 h2 h3 h4 => by rw [G c t i h3 h4, f c t i h1 h2]
    have g110 : F 11 0 0 = w 11 0 0 := by rw [G 11 0 0 (by decide) (by decide), g3 11 0 0 (by decide), ea0]
    have g111 : F 11 0 1 = w 11 0 1 - 1 := by rw [G 11 0 1 (by decide) (by decide), g3 11 0 1 (by decide), ea1, hj]
    have g21 : F 21 0 0 = w 11 0 1 - 1 := by rw [k2 21 0 0 (by decide), e21]
    refine ⟨_, _, _, c1, m1, ⟨by omega, by omega⟩, ?_, ⟨?_, ?_, ?_, ?_⟩, ?_, ?_⟩
    · refine hSj.cg (hal.tr (g2.tr (Ag.of (fun c hc i => G c 0 i (by omega) (by omega))))) (fun i hi => ?_)
      rw [k3, if_pos (by omega), hva, up_c (by decide), f 23 0 _ (by decide) (by decide)]
      show w 23 0 _ = w 23 0 (1125 * j + i)
      rw [show (w 11 0 1 - 1).toNat = j by omega]
    · rw [g110]; exact h0
    · rw [g111]; omega
    · rw [g21, g111]
    · intro q hq
      rw [g111] at hq
      have e : sl F q = sl w q := by unfold sl; rw [g110]
      rw [e]
      refine (h3 q (by omega)).cg (Ag.of (fun c hc i => ?_)) (fun i hi => G2 23 0 _ (by decide) (by decide) (by decide) (by omega))
      rw [G c _ i (by omega) (by omega), g3 c _ i (by unfold sl; omega), hwa, up_c (by omega)]
    · unfold GrT
      rw [G2 17 0 0 (by decide) (by decide) (by decide) (by decide), G2 21 0 2 (by decide) (by decide) (by decide) (by decide)]
      refine ⟨hT.1, hT.2.1, fun i hi => ?_⟩
      rw [G2 18 0 i (by decide) (by decide) (by decide) (by omega), G2 25 0 i (by decide) (by decide) (by decide) (by omega)]
      exact hT.2.2 i hi
    · rw [G2 21 0 1 (by decide) (by decide) (by decide) (by decide)]
      exact hr
/-- what the whole does not speak of -/
def Ir (c t i : Nat) : Prop := (c < 10 ∧ t = 1) ∨ (13 ≤ c ∧ c ≤ 16) ∨ c = 19 ∨ c = 20 ∨ c = 24 ∨ c = 26 ∨ c = 27 ∨ c = 28 ∨ (c = 21 ∧ 3 ≤ i) ∨ (c = 22 ∧ (1125 ≤ i ∨ t ≠ 0))
theorem GR.fr (hG : GR B w) (h : ∀ c t i, ¬ Ir c t i → w1 c t i = w c t i) : GR B w1 := by
  obtain ⟨hS, ⟨h0, h1, h2, h3⟩, hT, hr⟩ := hG
  have f : ∀ c t i, ¬ Ir c t i → w1 c t i = w c t i := h
  unfold Ir at h
  have g110 := h 11 0 0 (by decide)
  have g111 := h 11 0 1 (by decide)
  refine ⟨?_, ⟨?_, ?_, ?_, ?_⟩, ?_, ?_⟩
  · exact hS.cg (Ag.of (fun c hc i => h c 0 i (by omega))) (fun i hi => h 22 0 i (by omega))
  · rw [g110]; exact h0
  · rw [g111]; exact h1
  · rw [g111, h 21 0 0 (by decide)]; exact h2
  · intro j hj
    rw [g111] at hj
    have e : sl w1 j = sl w j := by unfold sl; rw [g110]
    rw [e]
    exact (h3 j hj).cg (Ag.of (fun c hc i => h c _ i (by unfold sl; omega))) (fun i hi => h 23 0 _ (by omega))
  · unfold GrT
    rw [h 17 0 0 (by decide), h 21 0 2 (by decide)]
    refine ⟨hT.1, hT.2.1, fun i hi => ?_⟩
    rw [h 18 0 i (by omega), h 25 0 i (by omega)]
    exact hT.2.2 i hi
  · rw [h 21 0 1 (by decide)]; exact hr
/-- a change of the texts alone -/
theorem GR.tx (hG : GR B w) (h : ∀ c t i, ¬ (c = 17 ∨ c = 18 ∨ c = 25 ∨ (c = 21 ∧ i = 2)) → w1 c t i = w c t i) (hT : GrT w1) : GR B w1 := by
  obtain ⟨hS, ⟨h0, h1, h2, h3⟩, _, hr⟩ := hG
  have g110 := h 11 0 0 (by decide)
  have g111 := h 11 0 1 (by decide)
  refine ⟨?_, ⟨?_, ?_, ?_, ?_⟩, hT, ?_⟩
  · exact hS.cg (Ag.of (fun c hc i => h c 0 i (by omega))) (fun i _ => h 22 0 i (by omega))
  · rw [g110]; exact h0
  · rw [g111]; exact h1
  · rw [g111, h 21 0 0 (by decide)]; exact h2
  · intro j hj
    rw [g111] at hj
    have e : sl w1 j = sl w j := by unfold sl; rw [g110]
    rw [e]
    exact (h3 j hj).cg (Ag.of (fun c hc i => h c _ i (by omega))) (fun i hi => h 23 0 _ (by omega))
  · rw [h 21 0 1 (by decide)]; exact hr
theorem clear_g (hG : GR B w) : ∃ (r : Int) (w2 w3 : Wd), X7_clearText w = some (r, w2) ∧ X8_clearText w2 = some (r, w3) ∧ InR r ∧ GR B w3 := by
  have hT := hG.2.2.1
  have hT1 := hT.1
  have e : (up w 17 0 0 0) 21 0 2 = w 17 0 0 := by rw [up_c (by decide), hT.2.1]
  refine ⟨w 17 0 0, up w 17 0 0 0, up (up w 17 0 0 0) 21 0 2 0, ?_, ?_, ⟨by omega, by omega⟩, hG.tx (fun c t i hn => ?_) ?_⟩
  · unfold X7_clearText X6_size X6_empty
    rw [bd_t, bd_t]
  · unfold X8_clearText
    rw [e]
  · unfold up
    rw [if_neg (by omega), if_neg (by omega)]
  · unfold GrT
    rw [up_c (by decide), up_h rfl, up_h rfl]
    exact ⟨by decide, rfl, fun i hi => by omega⟩
theorem append_g (hG : GR B w) (x : Int) : ∃ (r : Int) (w2 w3 : Wd), X7_append x w = some (r, w2) ∧ X8_append x w2 = some (r, w3) ∧ InR r ∧ GR B w3 := by
  have hT := hG.2.2.1
  obtain ⟨t1, t2, t3⟩ := hT
  by_cases hx : 1 ≤ x ∧ x ≤ 255
  case neg =>
    refine ⟨-1, w, w, ?_, ?_, ⟨by decide, by decide⟩, hG⟩
    · unfold X7_append X6_addCharacter
      by_cases h1 : x < 1
      · rw [if_pos h1, bd_t]
      · rw [if_neg h1, if_pos (by omega), bd_t]
    · unfold X8_append
      rw [in8_e, if_neg hx, bd_t, if_pos rfl]
  by_cases h80 : w 17 0 0 < 80
  case neg =>
    refine ⟨-3, w, w, ?_, ?_, ⟨by decide, by decide⟩, hG⟩
    · unfold X7_append X6_addCharacter
      rw [if_neg (by omega), if_neg (by omega), if_neg (by omega), if_neg h80, bd_t]
    · unfold X8_append
      rw [in8_e, if_pos hx, bd_t, if_neg (by decide), if_pos (by omega)]
  obtain ⟨n, hn⟩ : ∃ n : Nat, (n : Int) = w 17 0 0 := ⟨(w 17 0 0).toNat, by omega⟩
  have en : (w 17 0 0).toNat = n := by omega
  obtain ⟨w2, hw2⟩ : ∃ w2, w2 = up (up w 18 0 n x) 17 0 0 (n + 1) := ⟨_, rfl⟩
  have e21 : w2 21 0 2 = n := by rw [hw2, up_c (by decide), up_c (by decide), t2, hn]
  obtain ⟨w3, hw3⟩ : ∃ w3, w3 = up (up w2 25 0 n x) 21 0 2 (n + 1) := ⟨_, rfl⟩
  refine ⟨n + 1, w2, w3, ?_, ?_, ⟨by omega, by omega⟩, hG.tx (fun c t i hc => ?_) ⟨?_, ?_, fun i hi => ?_⟩⟩
  · unfold X7_append X6_addCharacter
    have e17 : (up w 18 0 n x) 17 0 0 = n := by rw [up_c (by decide), hn]
    rw [if_neg (by omega), if_neg (by omega), if_neg (by omega), if_pos h80, gd_t ⟨by omega, by omega⟩, en, e17, gd_t ⟨by omega, by omega⟩, up_h rfl, bd_t, ← hw2]
  · unfold X8_append
    have e25 : (up w2 25 0 n x) 21 0 2 = n := by rw [up_c (by decide), e21]
    rw [in8_e, if_pos hx, bd_t, if_neg (by decide), e21, if_neg (by omega), gd_t ⟨by omega, by omega⟩, show ((n : Nat) : Int).toNat = n from rfl, e25, gd_t ⟨by omega, by omega⟩, up_h rfl, ← hw3]
  · rw [hw3, hw2]
    unfold up
    rw [if_neg (by omega), if_neg (by omega), if_neg (by omega), if_neg (by omega)]
  · have : w3 17 0 0 = n + 1 := by rw [hw3, up_c (by decide), up_c (by decide), hw2, up_h rfl]
    rw [this]; omega
  · rw [hw3, up_h rfl, up_c (by decide), up_c (by decide), hw2, up_h rfl]
  · have e17 : w3 17 0 0 = n + 1 := by rw [hw3, up_c (by decide), up_c (by decide), hw2, up_h rfl]
    have e18 : w3 18 0 i = if i = n then x else w 18 0 i := by
      rw [hw3, up_c (by decide), up_c (by decide), hw2, up_c (by decide)]
      by_cases e : i = n
      · rw [up_h e, if_pos e]
      · rw [up_n e, if_neg e]
    have e25 : w3 25 0 i = if i = n then x else w 25 0 i := by
      rw [hw3, up_c (by decide)]
      by_cases e : i = n
      · rw [up_h e, if_pos e]
      · rw [up_n e, if_neg e, hw2, up_c (by decide), up_c (by decide)]
    rw [e17] at hi
    rw [e18, e25]
    by_cases e : i = n
    · rw [if_pos e, if_pos e]
      exact ⟨rfl, hx.1, hx.2⟩
    · rw [if_neg e, if_neg e]
      exact t3 i (by omega)
end UNDO
