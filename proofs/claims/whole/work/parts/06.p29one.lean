/-! PURE: one call out of a text, both sides -/
section ONE
variable {B : Int} {w v va w1 : Wd} {t a i : Nat} {T : Nat → Int} {L q : Nat}
def nd (c : Int) : Int := if c = 98 then 0 else if c = 100 then 1 else if c = 102 then 3 else if c = 108 then 3 else if c = 109 then 2 else if c = 115 then 1 else -1
theorem nd_b (c : Int) : -1 ≤ nd c ∧ nd c ≤ 3 := by
  unfold nd
  split
  · decide
  split
  · decide
  split
  · decide
  split
  · decide
  split
  · decide
  split
  · decide
  · decide
theorem due_e : X1_numbersDue w = some (nd (w 19 0 0), w) := by
  unfold X1_numbersDue nd
  split
  · rfl
  split
  · rfl
  split
  · rfl
  split
  · rfl
  split
  · rfl
  split
  · rfl
  · rfl
theorem numbersOf_e {c : Int} : X8_numbersOf c v = some (if nd c < 0 then -9 else nd c, v) := by
  unfold X8_numbersOf nd
  by_cases h : c = 98
  · simp [h]
  by_cases h1 : c = 100
  · simp [h1]
  by_cases h2 : c = 102
  · simp [h2]
  by_cases h3 : c = 108
  · simp [h3]
  by_cases h4 : c = 109
  · simp [h4]
  by_cases h5 : c = 115
  · simp [h5]
  · simp [h, h1, h2, h3, h4, h5]
theorem one_l (hT : TT T L) (hX : TX w T L) (hM : TM v T L) (hq : v 21 0 3 = q) (hqL : q < L) : ∃ (w' v' : Wd) (e : Nat), FrP w w' ∧ FrQ v v' ∧ w' 19 0 1 = e ∧ v' 21 0 3 = e ∧ e ≤ L ∧ ((X1_readFrom q w = some (0, w') ∧ X8_doesOne v = some ((e : Int), v')) ∨ (X1_readFrom q w = some (1, w') ∧ X8_doesOne v = dW q (T q) v' ∧ q < e ∧ w' 19 0 0 = T q ∧ 0 ≤ nd (T q) ∧ ∀ j : Nat, (j : Int) < nd (T q) → v' 26 0 j = w' 20 0 j)) := by
  have h80 := hT.1
  have hnd := nd_b (T q)
  obtain ⟨w2, hw2⟩ : ∃ w2, w2 = up (up w 19 0 1 q) 19 0 0 (T q) := ⟨_, rfl⟩
  have f2 : FrP w w2 := by rw [hw2]; exact (FrP.rf.ups (Or.inl rfl)).ups (Or.inl rfl)
  have e20 : w2 19 0 0 = T q := by rw [hw2, up_h rfl]
  have e21 : w2 19 0 1 = q := by rw [hw2, up_n (by decide), up_h rfl]
  have hc0 : X1_readFrom q w = if nd (T q) < 0 then some (0, w2) else X1_readFrom_b38 LF (nd (T q)) 0 (up w2 19 0 1 (q + 1)) := by
    unfold X1_readFrom
    rw [at_e hT (hX.fr (FrP.rf.ups (Or.inl rfl))), bd_t, ← hw2, due_e, bd_t, e20, e21]
    by_cases h : nd (T q) < 0
    · rw [if_pos h, if_pos h]
    · rw [if_neg h, if_neg h, gd_t ⟨by omega, by omega⟩]
  have hm0 : X8_doesOne v = if nd (T q) < 0 then some ((q : Int), v) else if nd (T q) = 0 then (bd (X8_isAt 59 59 (up v 21 0 3 (q + 1))) fun r33 w34 => if r33 = 0 then (some (w34 21 0 3, w34)) else (gd (InR ((w34 21 0 3) + 1)) (X8_doesOne_b71 LF q (T q) (nd (T q)) 0 (up w34 21 0 3 ((w34 21 0 3) + 1))))) else X8_doesOne_b71 LF q (T q) (nd (T q)) 0 (up v 21 0 3 (q + 1)) := by
    unfold X8_doesOne
    rw [hq, gd_t ⟨by omega, by omega⟩, show ((q : Nat) : Int).toNat = q from rfl, hM.2 q hqL, numbersOf_e, bd_t]
    by_cases h : nd (T q) < 0
    · rw [if_pos h, if_pos rfl, if_pos h]
    · rw [if_neg h, if_neg (by omega), if_neg h, hq, gd_t ⟨by omega, by omega⟩]
  rw [hc0, hm0]
  by_cases h : nd (T q) < 0
  · refine ⟨w2, v, q, f2, FrQ.rf, e21, hq, by omega, Or.inl ⟨by rw [if_pos h], by rw [if_pos h]⟩⟩
  rw [if_neg h, if_neg h]
  obtain ⟨w3, hw3⟩ : ∃ w3, w3 = up w2 19 0 1 (q + 1) := ⟨_, rfl⟩
  have f3 : FrP w w3 := by rw [hw3]; exact f2.ups (Or.inl rfl)
  have e30 : w3 19 0 0 = T q := by rw [hw3, up_n (by decide), e20]
  have e31 : w3 19 0 1 = ((q + 1 : Nat) : Int) := by rw [hw3, up_h rfl]; rfl
  obtain ⟨v3, hv3⟩ : ∃ v3, v3 = up v 21 0 3 (q + 1) := ⟨_, rfl⟩
  have k3 : FrQ v v3 := by rw [hv3]; exact FrQ.rf.u3
  have g3 : v3 21 0 3 = ((q + 1 : Nat) : Int) := by rw [hv3, up_h rfl]; rfl
  rw [← hw3, ← hv3]
  have hX3 := hX.fr f3
  have hM3 := hM.fr k3
  by_cases h0 : nd (T q) = 0
  · rw [if_pos h0, isAt8_e hT hM3 g3 (by decide), bd_t]
    have hc : X1_readFrom_b38 LF (nd (T q)) 0 w3 = if T (q + 1) = 59 then some (1, up w3 19 0 1 (((q + 1 : Nat) : Int) + 1)) else some (0, w3) := by
      rw [show LF = 9999 + 1 from rfl, X1_readFrom_b38, if_neg (by omega), passes_e hT hX3 e31 (by omega)]
      by_cases h : T (q + 1) = 59
      · rw [if_pos h, bd_t, gd_t (Or.inr rfl)]
      · rw [if_neg h, bd_t, gd_t (Or.inl rfl)]
    rw [hc]
    by_cases h59 : T (q + 1) = 59
    · have hin := hT.in (q := q + 1) (by omega)
      refine ⟨up w3 19 0 1 (((q + 1 : Nat) : Int) + 1), up v3 21 0 3 (((q + 1 : Nat) : Int) + 1), q + 2, f3.ups (Or.inl rfl), k3.u3, by rw [up_h rfl]; omega, by rw [up_h rfl]; omega, by omega, Or.inr ⟨by rw [if_pos h59], ?_, by omega, by rw [up_n (by decide), e30], by omega, fun j hj => by omega⟩⟩
      rw [if_pos (show (59 : Int) ≤ T (q + 1) ∧ T (q + 1) ≤ 59 by omega), if_neg (by decide), g3, gd_t ⟨by omega, by omega⟩, show LF = 9999 + 1 from rfl, X8_doesOne_b71, if_neg (by omega)]
      rfl
    · refine ⟨w3, v3, q + 1, f3, k3, e31, g3, by omega, Or.inl ⟨by rw [if_neg h59], ?_⟩⟩
      rw [if_neg (show ¬ ((59 : Int) ≤ T (q + 1) ∧ T (q + 1) ≤ 59) by omega), if_pos rfl, g3]
  · rw [if_neg h0]
    obtain ⟨x3, hx3⟩ : ∃ x3 : Nat, nd (T q) = x3 := ⟨(nd (T q)).toNat, by omega⟩
    rw [hx3]
    have hc : X1_readFrom_b38 LF x3 0 w3 = X1_readFrom_b67 (X1_readFrom_b38 9999) x3 ((0 : Nat) : Int) w3 := by
      rw [show LF = 9999 + 1 from rfl, X1_readFrom_b38, if_pos (by omega), if_pos (by decide), if_neg (by decide)]
      rfl
    rw [hc]
    obtain ⟨w', v', e, n1, n2, n3, n4, n5, n6, n7, n8⟩ := nums_l hT (st := q) (lt := T q) (x3 := x3) (by omega) (x3 - 1) 9999 LF 0 (q + 1) w3 v3 (by omega) (by omega) (by rw [show LF = 10000 from rfl]; omega) hX3 hM3 e31 g3 (by omega) (fun j hj => by omega)
    refine ⟨w', v', e, f3.tr n1, k3.tr n2, n3, n4, n7, ?_⟩
    rcases n8 with z | ⟨z1, z2, z3, z4⟩
    · exact Or.inl z
    · exact Or.inr ⟨z1, z2, by omega, by rw [n5, e30], by omega, fun j hj => z4 j (by omega)⟩
theorem bd_id {x : Option (Int × Wd)} : (bd x fun r w => some (r, w)) = x := by
  unfold bd
  cases x with
  | none => rfl
  | some p => rfl
theorem acts1_e (h : v 21 0 1 = 1) : X8_acts v = some (0, v) := by
  unfold X8_acts
  rw [if_neg (by omega)]
theorem call_b (hS : Si B w v 0) (hr : v 21 0 1 = 1) (hB : 0 ≤ B ∧ B ≤ 999990) {c : Int} (hc : w 19 0 0 = c) (hn : 0 ≤ nd c) (hj : ∀ j : Nat, (j : Int) < nd c → v 26 0 j = w 20 0 j) : OpR B w v v 0 (X1_callOn 0 w) (X8_does c v) := by
  have ha := acts1_e hr
  have hra : ∀ i, v 22 0 i = v 22 0 i := fun _ => rfl
  unfold X1_callOn X8_does
  simp only [bd_id]
  rw [hc]
  by_cases h : c = 98
  · subst h
    rw [if_pos rfl, if_neg (by decide), if_neg (by decide), if_neg (by decide), if_neg (by decide), if_neg (by decide)]
    exact begin_op hS ha hra (by omega)
  rw [if_neg h]
  by_cases h1 : c = 100
  · subst h1
    rw [if_pos rfl, if_pos rfl, hj 0 (by decide)]
    exact drop_b hS ha hra _
  rw [if_neg h1, if_neg h1]
  by_cases h2 : c = 102
  · subst h2
    rw [if_pos rfl, if_pos rfl, hj 0 (by decide), hj 1 (by decide), hj 2 (by decide)]
    exact follow_b hS ha hra _ _ _
  rw [if_neg h2, if_neg h2]
  by_cases h3 : c = 108
  · subst h3
    rw [if_pos rfl, if_pos rfl, hj 0 (by decide), hj 1 (by decide), hj 2 (by decide)]
    exact link_b hS ha hra _ _ _
  rw [if_neg h3, if_neg h3]
  by_cases h4 : c = 109
  · subst h4
    rw [if_pos rfl, if_pos rfl, hj 0 (by decide), hj 1 (by decide)]
    exact make_b hS ha hra _ _
  rw [if_neg h4, if_neg h4]
  by_cases h5 : c = 115
  · subst h5
    rw [if_pos rfl, if_pos rfl, hj 0 (by decide)]
    exact carry_op hS ha hra (by omega) _
  · exfalso
    unfold nd at hn
    rw [if_neg h, if_neg h1, if_neg h2, if_neg h3, if_neg h4, if_neg h5] at hn
    omega
/-- frames of a run -/
def FrL (w w' : Wd) : Prop := ∀ c t i, ¬ (c < 10 ∧ t = 0) → c ≠ 19 → c ≠ 20 → w' c t i = w c t i
def FrU (v v' : Wd) : Prop := ∀ c t i, c ≠ 22 → c ≠ 26 → ¬ (c = 21 ∧ t = 0 ∧ i = 3) → v' c t i = v c t i
theorem FrL.rf : FrL w w := fun _ _ _ _ _ _ => rfl
theorem FrU.rf : FrU w w := fun _ _ _ _ _ _ => rfl
theorem FrL.tr {w2 : Wd} (h1 : FrL w w1) (h2 : FrL w1 w2) : FrL w w2 := fun c t i h h' h'' => (h2 c t i h h' h'').trans (h1 c t i h h' h'')
theorem FrU.tr {w2 : Wd} (h1 : FrU w w1) (h2 : FrU w1 w2) : FrU w w2 := fun c t i h h' h'' => (h2 c t i h h' h'').trans (h1 c t i h h' h'')
theorem FrP.l (h : FrP w w1) : FrL w w1 := fun c t i _ h1 h2 => h c t i h1 h2
theorem FrC.l (h : FrC 0 w w1) : FrL w w1 := fun c t i h0 _ _ => h c t i h0
theorem FrQ.u (h : FrQ w w1) : FrU w w1 := fun c t i _ h1 h2 => h c t i h1 h2
theorem FrM.u (h : FrM w w1) : FrU w w1 := fun c t i h0 _ _ => h c t i h0
theorem run_l (hT : TT T L) (hB : 0 ≤ B ∧ B ≤ 999000) : ∀ (n n' x1 q : Nat) (w v : Wd), Si (B + x1) w v 0 → TX w T L → TM v T L → v 21 0 3 = q → v 21 0 1 = 1 → x1 ≤ q → q ≤ L → L - q < n → L - q < n' → ∃ (w' v' : Wd), FrL w w' ∧ FrU v v' ∧ ((∃ r : Nat, r ≤ 80 ∧ X7_run_b15 n x1 q w = X7_run_b93 r w' ∧ X8_run_b19 n' x1 (-9) v = X8_run_b47 r (-9) v' ∧ Si (B + 80) w' v' 0) ∨ (∃ e x : Nat, e ≤ 80 ∧ X7_run_b15 n x1 q w = X7_textFailed e w' ∧ X8_run_b19 n' x1 (-9) v = X8_run_b47 x e v')) := by
  have h80 := hT.1
  intro n
  induction n with
  | zero => intro n' x1 q w v hS hX hM hq hr hx hqL hn hn'; omega
  | succ n ih =>
    intro n' x1 q w v hS hX hM hq hr hx hqL hn hn'
    match n', hn' with
    | 0, hn' => omega
    | n' + 1, hn' =>
      rw [X7_run_b15, X8_run_b19]
      unfold X6_size
      rw [bd_t, hX.1, if_pos rfl, hq, hM.1]
      by_cases h : q < L
      · rw [if_pos (show (q : Int) < L by omega), if_pos (show (x1 : Int) < 80 by omega), if_pos (show (q : Int) < L by omega)]
        obtain ⟨wa, va, e, o1, o2, o3, o4, o5, o6⟩ := one_l hT hX hM hq h
        match n', hn' with
        | 0, hn' => omega
        | n' + 1, hn' =>
          rcases o6 with ⟨y1, y2⟩ | ⟨y1, y2, y3, y4, y5, y6⟩
          · refine ⟨wa, va, o1.l, o2.u, Or.inr ⟨e, x1 + 1, by omega, ?_, ?_⟩⟩
            · rw [y1, bd_t, if_pos rfl]
              unfold X1_end
              rw [bd_t, o3, bd_id]
            · rw [y2, bd_t, gd_t ⟨by omega, by omega⟩, X8_run_b19, if_neg (by omega)]
              rfl
          · have hSa : Si (B + x1) wa va 0 := hS.cg (Ag.of (fun c hc i => o1 c 0 i (by omega) (by omega))) (fun i _ => o2 22 0 i (by decide) (by omega))
            have hra : va 21 0 1 = 1 := by rw [o2 21 0 1 (by decide) (by decide)]; exact hr
            obtain ⟨r, wb, vb, c1, c2, c3, c4⟩ := call_b hSa hra (by omega) y4 y5 y6
            rcases c4 with ⟨z1, z2, z3⟩ | ⟨z1, z2, z3, z4⟩
            · subst z2 z3
              refine ⟨_, _, o1.l, o2.u, Or.inr ⟨q, x1 + 1, by omega, ?_, ?_⟩⟩
              · rw [y1, bd_t, if_neg (by decide), c1, bd_t, if_pos z1, bd_id]
              · rw [y2]
                unfold dW
                rw [c2, bd_t, if_pos z1, bd_t, gd_t ⟨by omega, by omega⟩, X8_run_b19, if_neg (by omega)]
                rfl
            · have eb : wb 19 0 1 = e := by rw [z3 19 0 1 (by decide), o3]
              have vb3 : vb 21 0 3 = e := by rw [z4 21 0 3 (by decide), o4]
              obtain ⟨wc, vc, k1, k2, k3⟩ := ih (n' + 1) (x1 + 1) e wb vb (by rw [show B + ((x1 + 1 : Nat) : Int) = B + x1 + 1 by omega]; exact z2) ⟨by rw [z3 17 0 0 (by decide), o1 17 0 0 (by decide) (by decide)]; exact hX.1, fun i hi => by rw [z3 18 0 i (by omega), o1 18 0 i (by decide) (by decide)]; exact hX.2 i hi⟩ ⟨by rw [z4 21 0 2 (by decide), o2 21 0 2 (by decide) (by decide)]; exact hM.1, fun i hi => by rw [z4 25 0 i (by decide), o2 25 0 i (by decide) (by omega)]; exact hM.2 i hi⟩ vb3 (by rw [z4 21 0 1 (by decide)]; exact hra) (by omega) o5 (by omega) (by omega)
              refine ⟨wc, vc, o1.l.tr (z3.l.tr k1), o2.u.tr (z4.u.tr k2), ?_⟩
              have hc : (if (1 : Int) = 0 then (bd (X1_end wa) fun r46 w47 => bd (X7_textFailed r46 w47) fun r51 w52 => some (r51, w52)) else (bd (X1_callOn 0 wa) fun r28 w29 => if r28 < 0 then (bd (X7_textFailed q w29) fun r41 w42 => some (r41, w42)) else (bd (X1_end w29) fun r33 w34 => gd (InR ((x1 : Int) + 1)) (X7_run_b15 n (x1 + 1) r33 w34)))) = X7_run_b15 n ((x1 + 1 : Nat) : Int) e wb := by
                rw [if_neg (by decide), c1, bd_t, if_neg (by omega)]
                unfold X1_end
                rw [bd_t, eb, gd_t ⟨by omega, by omega⟩]
                rfl
              rw [y1, bd_t, hc, y2]
              unfold dW
              rw [c2, bd_t, if_neg (by omega), bd_t, gd_t ⟨by omega, by omega⟩]
              exact k3
      · rw [if_neg (show ¬ (q : Int) < L by omega), if_neg (show ¬ (q : Int) < L by omega)]
        exact ⟨w, v, FrL.rf, FrU.rf, Or.inl ⟨x1, by omega, rfl, rfl, hS.mono (by omega)⟩⟩
end ONE
