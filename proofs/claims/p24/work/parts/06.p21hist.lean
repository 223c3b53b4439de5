/-! PURE: the history, both sides -/
section HIST
variable {B : Int} {k : Nat} {ex : Int} {w v va w1 : Wd} {t a i : Nat}
/-- only the pasts change -/
def FrH (v va : Wd) : Prop := ∀ c t i, ¬ (c = 23 ∧ t = 0) → ¬ (c = 21 ∧ t = 0 ∧ i = 0) → va c t i = v c t i
theorem acts59_l : ∀ (n p : Nat) (v : Wd), p ≤ 1125 → 1125 - p < n → 0 ≤ v 21 0 0 ∧ v 21 0 0 ≤ 4 → ∃ v1, X8_acts_b59 n p v = some (0, v1) ∧ v1 21 0 0 = v 21 0 0 + 1 ∧ FrH v v1 ∧ ∀ i, v1 23 0 i = if 1125 * (v 21 0 0).toNat + p ≤ i ∧ i < 1125 * (v 21 0 0).toNat + 1125 then v 22 0 (i - 1125 * (v 21 0 0).toNat) else v 23 0 i := by
  intro n
  induction n with
  | zero => intro p v h1 h2; omega
  | succ n ih =>
    intro p v h1 h2 hq
    rw [X8_acts_b59]
    by_cases h3 : p < 1125
    · have ei : (1125 * (v 21 0 0) + (p : Int)).toNat = 1125 * (v 21 0 0).toNat + p := by omega
      have e21 : ∀ z j, up v 23 0 j z 21 0 0 = v 21 0 0 := fun z j => up_c (by decide)
      obtain ⟨v1, g1, g2, g3, g4⟩ := ih (p + 1) (up v 23 0 (1125 * (v 21 0 0).toNat + p) (v 22 0 p)) (by omega) (by omega) (by rw [e21]; exact hq)
      rw [e21] at g2 g4
      refine ⟨v1, ?_, g2, fun c t i h1 h2 => ?_, fun i => ?_⟩
      · rw [if_pos (by omega), gd_t ⟨by omega, by omega⟩, gd_t ⟨by omega, by omega⟩, gd_t ⟨by omega, by omega⟩, gd_t ⟨by omega, by omega⟩, gd_t ⟨by omega, by omega⟩, ei]
        exact g1
      · rw [g3 c t i h1 h2]
        unfold up
        rw [if_neg (by omega)]
      · rw [g4]
        by_cases e : 1125 * (v 21 0 0).toNat + (p + 1) ≤ i ∧ i < 1125 * (v 21 0 0).toNat + 1125
        · rw [if_pos e, if_pos ⟨by omega, e.2⟩, up_c (by decide)]
        · rw [if_neg e]
          by_cases e2 : i = 1125 * (v 21 0 0).toNat + p
          · rw [up_h e2, if_pos (by omega), show i - 1125 * (v 21 0 0).toNat = p by omega]
          · rw [up_n e2, if_neg (by omega)]
    · refine ⟨up v 21 0 0 (v 21 0 0 + 1), ?_, up_h rfl, fun c t i h1 h2 => ?_, fun i => ?_⟩
      · rw [if_neg (by omega), gd_t ⟨by omega, by omega⟩]
      · unfold up
        rw [if_neg h2]
      · rw [if_neg (by omega), up_c (by decide)]
theorem acts18_l : ∀ (n p : Nat) (v : Wd), p ≤ 4500 → 4500 - p < n → v 21 0 0 = 5 → ∃ v1, X8_acts_b18 n p v = X8_acts_b59 LF 0 v1 ∧ v1 21 0 0 = 4 ∧ FrH v v1 ∧ ∀ i, v1 23 0 i = if p ≤ i ∧ i < 4500 then v 23 0 (i + 1125) else v 23 0 i := by
  intro n
  induction n with
  | zero => intro p v h1 h2; omega
  | succ n ih =>
    intro p v h1 h2 hq
    rw [X8_acts_b18]
    by_cases h3 : p < 4500
    · have ei : ((p : Int) + 1125).toNat = p + 1125 := by omega
      have e21 : ∀ z j, up v 23 0 j z 21 0 0 = v 21 0 0 := fun z j => up_c (by decide)
      obtain ⟨v1, g1, g2, g3, g4⟩ := ih (p + 1) (up v 23 0 p (v 23 0 (p + 1125))) (by omega) (by omega) (by rw [e21]; exact hq)
      refine ⟨v1, ?_, g2, fun c t i h1 h2 => ?_, fun i => ?_⟩
      · rw [if_pos (by omega), gd_t ⟨by omega, by omega⟩, gd_t ⟨by omega, by omega⟩, gd_t ⟨by omega, by omega⟩, gd_t ⟨by omega, by omega⟩, ei]
        exact g1
      · rw [g3 c t i h1 h2]
        unfold up
        rw [if_neg (by omega)]
      · rw [g4]
        by_cases e : p + 1 ≤ i ∧ i < 4500
        · rw [if_pos e, if_pos ⟨by omega, e.2⟩, up_n (by omega)]
        · rw [if_neg e]
          by_cases e2 : i = p
          · rw [up_h e2, if_pos (by omega), e2]
          · rw [up_n e2, if_neg (by omega)]
    · refine ⟨up v 21 0 0 (v 21 0 0 - 1), ?_, by rw [up_h rfl, hq]; rfl, fun c t i h1 h2 => ?_, fun i => ?_⟩
      · rw [if_neg (by omega), gd_t ⟨by omega, by omega⟩]
      · unfold up
        rw [if_neg h2]
      · rw [if_neg (by omega), up_c (by decide)]
theorem acts_e (hr : v 21 0 1 = 0) (hp : 0 ≤ v 21 0 0 ∧ v 21 0 0 ≤ 5) : ∃ va, X8_acts v = some (0, va) ∧ FrH v va ∧ (v 21 0 0 < 5 → va 21 0 0 = v 21 0 0 + 1 ∧ (∀ j : Nat, (j : Int) < v 21 0 0 → ∀ i, i < 1125 → va 23 0 (1125 * j + i) = v 23 0 (1125 * j + i)) ∧ ∀ i, i < 1125 → va 23 0 (1125 * (v 21 0 0).toNat + i) = v 22 0 i) ∧ (v 21 0 0 = 5 → va 21 0 0 = 5 ∧ (∀ j : Nat, j < 4 → ∀ i, i < 1125 → va 23 0 (1125 * j + i) = v 23 0 (1125 * (j + 1) + i)) ∧ ∀ i, i < 1125 → va 23 0 (1125 * 4 + i) = v 22 0 i) := by
  unfold X8_acts
  rw [if_pos hr]
  by_cases h5 : v 21 0 0 = 5
  · obtain ⟨v1, g1, g2, g3, g4⟩ := acts18_l LF 0 v (by omega) (by rw [show LF = 10000 from rfl]; omega) h5
    obtain ⟨v2, k1, k2, k3, k4⟩ := acts59_l LF 0 v1 (by omega) (by rw [show LF = 10000 from rfl]; omega) (by omega)
    rw [g2, show (4 : Int).toNat = 4 from rfl] at k4
    refine ⟨v2, ?_, fun c t i h1 h2 => (k3 c t i h1 h2).trans (g3 c t i h1 h2), fun q => by omega, fun _ => ⟨by omega, fun j hj i hi => ?_, fun i hi => ?_⟩⟩
    · rw [if_pos h5]
      have e0 : ((0 : Nat) : Int) = 0 := rfl
      rw [e0] at g1 k1
      rw [g1, k1]
    · rw [k4, if_neg (by omega), g4, if_pos (by omega), show 1125 * j + i + 1125 = 1125 * (j + 1) + i by omega]
    · rw [k4, if_pos (by omega), g3 22 0 _ (by decide) (by omega), show 1125 * 4 + i - 1125 * 4 = i by omega]
  · obtain ⟨v2, k1, k2, k3, k4⟩ := acts59_l LF 0 v (by omega) (by rw [show LF = 10000 from rfl]; omega) (by omega)
    refine ⟨v2, ?_, k3, fun _ => ⟨k2, fun j hj i hi => ?_, fun i hi => ?_⟩, fun q => absurd q h5⟩
    · rw [if_neg h5]
      exact k1
    · rw [k4, if_neg (by omega)]
    · rw [k4, if_pos (by omega), show 1125 * (v 21 0 0).toNat + i - 1125 * (v 21 0 0).toNat = i by omega]
/-- a past of the model as its row -/
def pst (w : Wd) (j : Nat) : Wd := fun _ _ i => w 23 0 (1125 * j + i)
/-- where the class keeps it -/
def sl (w : Wd) (j : Nat) : Nat := ((w 11 0 0).toNat + j) % 6 + 2
def GrH (B : Int) (w : Wd) : Prop := (0 ≤ w 11 0 0 ∧ w 11 0 0 < 6) ∧ (0 ≤ w 11 0 1 ∧ w 11 0 1 ≤ 5) ∧ w 21 0 0 = w 11 0 1 ∧ ∀ j : Nat, (j : Int) < w 11 0 1 → Si B w (pst w j) (sl w j)
def GrT (w : Wd) : Prop := (0 ≤ w 17 0 0 ∧ w 17 0 0 ≤ 80) ∧ w 21 0 2 = w 17 0 0 ∧ ∀ i : Nat, (i : Int) < w 17 0 0 → w 25 0 i = w 18 0 i ∧ 1 ≤ w 18 0 i ∧ w 18 0 i ≤ 255
/-- the whole: the class's world and the model's -/
def GR (B : Int) (w : Wd) : Prop := Si B w w 0 ∧ GrH B w ∧ GrT w ∧ w 21 0 1 = 0
theorem GR.mono {B' : Int} (h : GR B w) (hB : B ≤ B') : GR B' w := ⟨h.1.mono hB, ⟨h.2.1.1, h.2.1.2.1, h.2.1.2.2.1, fun j hj => (h.2.1.2.2.2 j hj).mono hB⟩, h.2.2⟩
theorem slot_e (h0 : 0 ≤ w 11 0 0 ∧ w 11 0 0 < 6) (h1 : 0 ≤ w 11 0 1 ∧ w 11 0 1 ≤ 6) : X2_slotOfDraft w = some ((w 11 0 0 + w 11 0 1) % 6, w) := by
  unfold X2_slotOfDraft
  rw [gd_t ⟨by omega, by omega⟩, floorMod_e (by omega) (by decide), bd_t]
theorem draft_e (hS : Si B w w 0) (h0 : 0 ≤ w 11 0 0 ∧ w 11 0 0 < 6) (h1 : 0 ≤ w 11 0 1 ∧ w 11 0 1 ≤ 5) : ∃ w1, X2_draft 0 w = some (0, w1) ∧ Ag w 0 w1 (sl w (w 11 0 1).toNat) ∧ FrC (sl w (w 11 0 1).toNat) w w1 := by
  have hm := hS.1.A.2.2.1
  have es : ((w 11 0 0 + w 11 0 1) % 6).toNat + 2 = sl w (w 11 0 1).toNat := by
    unfold sl
    omega
  obtain ⟨w1, g1, g2, g3⟩ := become_e (w := w) (t := sl w (w 11 0 1).toNat) (t1 := 0) (by unfold sl; omega) hm
  refine ⟨w1, ?_, g2, g3⟩
  unfold X2_draft
  rw [slot_e h0 (by omega), bd_t, gd_t ⟨by omega, by omega⟩, es, g1, bd_t]
theorem FrH.r22 (h : FrH v va) : ∀ i, va 22 0 i = v 22 0 i := fun i => h 22 0 i (by decide) (by omega)
/-- behind a draft all holds as before -/
theorem GR.dr (hG : GR B w) (hF : FrC (sl w (w 11 0 1).toNat) w w1) : GR B w1 := by
  obtain ⟨hS, ⟨h0, h1, h2, h3⟩, hT, hr⟩ := hG
  have f : ∀ c t i, 10 ≤ c → w1 c t i = w c t i := fun c t i hc => hF c t i (by omega)
  refine ⟨?_, ⟨?_, ?_, ?_, ?_⟩, ?_, ?_⟩
  · exact hS.cg (Ag.of (fun c hc i => hF c 0 i (by unfold sl; omega))) (fun i _ => f 22 0 i (by decide))
  · rw [f 11 0 0 (by decide)]; exact h0
  · rw [f 11 0 1 (by decide)]; exact h1
  · rw [f 11 0 1 (by decide), f 21 0 0 (by decide)]; exact h2
  · intro j hj
    rw [f 11 0 1 (by decide)] at hj
    have e : sl w1 j = sl w j := by unfold sl; rw [f 11 0 0 (by decide)]
    rw [e]
    refine (h3 j hj).cg (Ag.of (fun c hc i => hF c _ i (by unfold sl; omega))) (fun i hi => f 23 0 _ (by decide))
  · unfold GrT
    rw [f 17 0 0 (by decide), f 21 0 2 (by decide)]
    refine ⟨hT.1, hT.2.1, fun i hi => ?_⟩
    rw [f 18 0 i (by decide), f 25 0 i (by decide)]
    exact hT.2.2 i hi
  · rw [f 21 0 1 (by decide)]; exact hr
/-- kept: the draft is the newest past -/
theorem keep_e (h0 : 0 ≤ w 11 0 0 ∧ w 11 0 0 < 6) (h1 : 0 ≤ w 11 0 1 ∧ w 11 0 1 ≤ 5) : X2_keepDraft w = some (0, if w 11 0 1 < 5 then up w 11 0 1 (w 11 0 1 + 1) else up w 11 0 0 ((w 11 0 0 + 1) % 6)) := by
  unfold X2_keepDraft
  by_cases h : w 11 0 1 < 5
  · rw [if_pos h, if_pos h, gd_t ⟨by omega, by omega⟩]
  · rw [if_neg h, if_neg h, gd_t ⟨by omega, by omega⟩, floorMod_e (by omega) (by decide), bd_t]
def kpW (w : Wd) : Wd := if w 11 0 1 < 5 then up w 11 0 1 (w 11 0 1 + 1) else up w 11 0 0 ((w 11 0 0 + 1) % 6)
theorem kpW_c {c : Nat} (h : c ≠ 11) : kpW w c t i = w c t i := by
  unfold kpW
  split <;> rw [up_c h]
/-- a call that is recorded on both sides: w before, w1 behind the draft, w' behind the call, va the model behind its note of the past, F at last -/
theorem GR.kept {F w' : Wd} (hG : GR B w) (hD : Ag w 0 w1 (sl w (w 11 0 1).toNat)) (hF : FrC (sl w (w 11 0 1).toNat) w w1) (hC : FrC 0 w1 w') (ha : X8_acts (kpW w') = some (0, va)) (hM : FrM va F) (hS' : Si B w' F 0) (hB : True) : GR B F := by
  obtain ⟨hS, ⟨h0, h1, h2, h3⟩, hT, hr⟩ := hG
  have f : ∀ c t i, 10 ≤ c → w' c t i = w c t i := fun c t i hc => (hC c t i (by omega)).trans (hF c t i (by omega))
  have e110 : w' 11 0 0 = w 11 0 0 := f 11 0 0 (by decide)
  have e111 : w' 11 0 1 = w 11 0 1 := f 11 0 1 (by decide)
  have fk : ∀ c t i, 10 ≤ c → c ≠ 11 → kpW w' c t i = w c t i := fun c t i hc hn => by rw [kpW_c hn, f c t i hc]
  obtain ⟨va', g1, g2, g3, g4⟩ := acts_e (v := kpW w') (by rw [fk 21 0 1 (by decide) (by decide)]; exact hr) (by rw [fk 21 0 0 (by decide) (by decide), h2]; exact h1)
  rw [g1] at ha
  have ha := (Prod.mk.inj (Option.some.inj ha)).2
  subst ha
  rw [fk 21 0 0 (by decide) (by decide), h2] at g3 g4
  have G : ∀ c t i, c ≠ 22 → ¬ (c = 23 ∧ t = 0) → ¬ (c = 21 ∧ t = 0 ∧ i = 0) → F c t i = kpW w' c t i := fun c t i h1 h2 h3 => (hM c t i h1).trans (g2 c t i h2 h3)
  have G' : ∀ c t i, c ≠ 22 → ¬ (c = 23 ∧ t = 0) → ¬ (c = 21 ∧ t = 0 ∧ i = 0) → 10 ≤ c → c ≠ 11 → F c t i = w c t i := fun c t i h1 h2 h3 h4 h5 => (G c t i h1 h2 h3).trans (fk c t i h4 h5)
  have Gs : ∀ c t i, c < 10 → F c t i = w' c t i := fun c t i hc => (G c t i (by omega) (by omega) (by omega)).trans (kpW_c (by omega))
  have G23 : ∀ i, F 23 0 i = va' 23 0 i := fun i => hM 23 0 i (by decide)
  have G21 : F 21 0 0 = va' 21 0 0 := hM 21 0 0 (by decide)
  have k110 : F 11 0 0 = if w 11 0 1 < 5 then w 11 0 0 else (w 11 0 0 + 1) % 6 := by
    rw [G 11 0 0 (by decide) (by decide) (by decide)]
    unfold kpW
    rw [e110, e111]
    by_cases h : w 11 0 1 < 5
    · rw [if_pos h, if_pos h, up_n (by decide), e110]
    · rw [if_neg h, if_neg h, up_h rfl]
  have k111 : F 11 0 1 = if w 11 0 1 < 5 then w 11 0 1 + 1 else 5 := by
    rw [G 11 0 1 (by decide) (by decide) (by decide)]
    unfold kpW
    rw [e110, e111]
    by_cases h : w 11 0 1 < 5
    · rw [if_pos h, if_pos h, up_h rfl]
    · rw [if_neg h, if_neg h, up_n (by decide), e111]
      omega
  have old : ∀ j q : Nat, (j : Int) < w 11 0 1 → (∀ i, i < 1125 → F 23 0 (1125 * q + i) = w 23 0 (1125 * j + i)) → Si B F (pst F q) (sl w j) := fun j q hj hq => by
    have hne : sl w j ≠ sl w (w 11 0 1).toNat := by unfold sl; omega
    refine (h3 j hj).cg (Ag.of (fun c hc i => ?_)) hq
    rw [Gs c _ i hc, hC c _ i (by unfold sl; omega), hF c _ i (by omega)]
  have new : ∀ q : Nat, (∀ i, i < 1125 → F 23 0 (1125 * q + i) = w 22 0 i) → Si B F (pst F q) (sl w (w 11 0 1).toNat) := fun q hq => by
    refine hS.cg (hD.tr (Ag.of (fun c hc i => ?_))) hq
    rw [Gs c _ i hc, hC c _ i (by unfold sl; omega)]
  refine ⟨?_, ?_, ?_, ?_⟩
  · exact hS'.cg (Ag.of (fun c hc i => Gs c 0 i hc)) (fun i _ => rfl)
  · by_cases h5 : w 11 0 1 < 5
    · obtain ⟨z1, z2, z3⟩ := g3 h5
      rw [if_pos h5] at k110 k111
      have esl : ∀ j, sl F j = sl w j := fun j => by unfold sl; rw [k110]
      refine ⟨by rw [k110]; exact h0, by rw [k111]; omega, by rw [G21, z1, k111], fun j hj => ?_⟩
      rw [k111] at hj
      rw [esl]
      by_cases e : (j : Int) < w 11 0 1
      · exact old j j e (fun i hi => by rw [G23, z2 j e i hi, fk 23 0 _ (by decide) (by decide)])
      · have ej : j = (w 11 0 1).toNat := by omega
        rw [ej]
        exact new _ (fun i hi => by rw [G23, z3 i hi, fk 22 0 _ (by decide) (by decide)])
    · obtain ⟨z1, z2, z3⟩ := g4 (by omega)
      rw [if_neg h5] at k110 k111
      refine ⟨by rw [k110]; omega, by rw [k111]; decide, by rw [G21, z1, k111], fun j hj => ?_⟩
      rw [k111] at hj
      have esl : sl F j = sl w (j + 1) := by unfold sl; rw [k110]; omega
      rw [esl]
      by_cases e : j < 4
      · exact old (j + 1) j (by omega) (fun i hi => by rw [G23, z2 j e i hi, fk 23 0 _ (by decide) (by decide)])
      · have ej : j = 4 := by omega
        subst ej
        have e5 : (w 11 0 1).toNat = 5 := by omega
        have := new 4 (fun i hi => by rw [G23, z3 i hi, fk 22 0 _ (by decide) (by decide)])
        rw [e5] at this
        exact this
  · unfold GrT
    rw [G' 17 0 0 (by decide) (by decide) (by decide) (by decide) (by decide), G' 21 0 2 (by decide) (by decide) (by decide) (by decide) (by decide)]
    refine ⟨hT.1, hT.2.1, fun i hi => ?_⟩
    rw [G' 18 0 i (by omega) (by omega) (by omega) (by omega) (by omega), G' 25 0 i (by omega) (by omega) (by omega) (by omega) (by omega)]
    exact hT.2.2 i hi
  · rw [G' 21 0 1 (by decide) (by decide) (by decide) (by decide) (by decide)]
    exact hr
theorem op_g (hG : GR B w) {cl md : Wd → Option (Int × Wd)} (hop : ∀ w1 v va : Wd, Si B w1 v 0 → X8_acts v = some (0, va) → (∀ i, va 22 0 i = v 22 0 i) → OpR B w1 v va 0 (cl w1) (md v)) : ∃ (r : Int) (w2 w3 : Wd), (bd (X2_draft 0 w) fun _ w2 => bd (cl w2) fun r6 w7 => bd (X7_recorded r6 w7) fun r11 w12 => some (r11, w12)) = some (r, w2) ∧ md w2 = some (r, w3) ∧ InR r ∧ GR (B + 1) w3 := by
  have hG0 := hG
  obtain ⟨hS, ⟨h0, h1, h2, h3⟩, hT, hr⟩ := hG
  obtain ⟨w1, d1, d2, d3⟩ := draft_e hS h0 h1
  have hG1 := hG0.dr d3
  have f : ∀ c t i, 10 ≤ c → w1 c t i = w c t i := fun c t i hc => d3 c t i (by omega)
  obtain ⟨va1, a1, a2, _⟩ := acts_e (v := w1) hG1.2.2.2 (by have := hG1.2.1; rw [this.2.2.1]; exact this.2.1)
  obtain ⟨r, w', v', c1, c2, c3, c4⟩ := hop w1 w1 va1 hG1.1 a1 a2.r22
  rcases c4 with ⟨n1, n2, n3⟩ | ⟨n1, n2, n3, n4⟩
  · subst n2 n3
    refine ⟨r, _, _, ?_, c2, c3, hG1.mono (by omega)⟩
    rw [d1, bd_t, c1, bd_t]
    unfold X7_recorded
    rw [if_pos n1, bd_t]
  · have e : ∀ c t i, 10 ≤ c → w' c t i = w c t i := fun c t i hc => (n3 c t i (by omega)).trans (f c t i hc)
    have hk := keep_e (w := w') (by rw [e 11 0 0 (by decide)]; exact h0) (by rw [e 11 0 1 (by decide)]; exact h1)
    have ek : ∀ c t i, 10 ≤ c → c ≠ 11 → kpW w' c t i = w c t i := fun c t i hc hn => by rw [kpW_c hn, e c t i hc]
    obtain ⟨va, b1, b2, _⟩ := acts_e (v := kpW w') (by rw [ek 21 0 1 (by decide) (by decide)]; exact hr) (by rw [ek 21 0 0 (by decide) (by decide), h2]; exact h1)
    have hSv : Si B w1 (kpW w') 0 := hG1.1.cg Ag.rf (fun i _ => by rw [ek 22 0 i (by decide) (by decide), f 22 0 i (by decide)])
    obtain ⟨r2, w2, F, m1, m2, m3, m4⟩ := hop w1 (kpW w') va hSv b1 b2.r22
    rw [c1] at m1
    obtain ⟨er, ew⟩ := Prod.mk.inj (Option.some.inj m1)
    subst er ew
    rcases m4 with ⟨y1, _⟩ | ⟨_, y2, _, y4⟩
    · omega
    refine ⟨r, kpW w', F, ?_, m2, c3, GR.kept (hG0.mono (by omega)) d2 d3 n3 b1 y4 y2 trivial⟩
    rw [d1, bd_t, c1, bd_t]
    unfold X7_recorded
    rw [if_neg (by omega), hk, bd_t]
    rfl
end HIST
