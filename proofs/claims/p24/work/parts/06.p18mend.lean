/-! PURE: mend, both sides -/
section MEND
variable {B : Int} {k : Nat} {ex : Int} {w v va : Wd} {t a i b h : Nat}
theorem some_eq {x y : Int} (h : x = y) : (some (x, w) : Option (Int × Wd)) = some (y, w) := by rw [h]
theorem repN_l {x y : Int} : ∀ (n p : Nat) (w : Wd), p ≤ 520 → 520 - p < n → ∃ w1, X0_replaceNames_b2 t n x y p w = some (0, w1) ∧ (∀ c t' i, ¬ (c = 7 ∧ t' = t ∧ p ≤ i ∧ i < 520) → w1 c t' i = w c t' i) ∧ ∀ i, p ≤ i → i < 520 → w1 7 t i = if w 7 t i = x then y else w 7 t i := by
  intro n
  induction n with
  | zero => intro p w h1 h2; omega
  | succ n ih =>
    intro p w h1 h2
    rw [X0_replaceNames_b2]
    by_cases h3 : p < 520
    · rw [if_pos (by omega), gd_t ⟨by omega, by omega⟩, show ((p : Nat) : Int).toNat = p from rfl]
      by_cases h4 : w 7 t p = x
      · obtain ⟨w1, g1, g2, g3⟩ := ih (p + 1) (up w 7 t p y) (by omega) (by omega)
        refine ⟨w1, ?_, fun c t' i hn => ?_, fun i i1 i2 => ?_⟩
        · rw [if_pos h4, gd_t ⟨by omega, by omega⟩]
          exact g1
        · rw [g2 c t' i (by omega)]
          unfold up
          rw [if_neg (by omega)]
        · by_cases e : i = p
          · rw [g2 7 t i (by omega), up_h e, e, if_pos h4]
          · rw [g3 i (by omega) i2, up_n e]
      · obtain ⟨w1, g1, g2, g3⟩ := ih (p + 1) w (by omega) (by omega)
        refine ⟨w1, ?_, fun c t' i hn => g2 c t' i (by omega), fun i i1 i2 => ?_⟩
        · rw [if_neg h4, gd_t ⟨by omega, by omega⟩]
          exact g1
        · by_cases e : i = p
          · rw [g2 7 t i (by omega), e, if_neg h4]
          · exact g3 i (by omega) i2
    · exact ⟨w, by rw [if_neg (by omega)], fun _ _ _ _ => rfl, fun i i1 i2 => by omega⟩
theorem repH_l {x y : Int} : ∀ (n p : Nat) (w : Wd), p ≤ 8 → 8 - p < n → ∃ w1, X5_replaceHooks_b2 t n x y p w = some (0, w1) ∧ (∀ c t' i, ¬ (c = 1 ∧ t' = t ∧ p ≤ i ∧ i < 8) → w1 c t' i = w c t' i) ∧ ∀ i, p ≤ i → i < 8 → w1 1 t i = if w 1 t i = x then y else w 1 t i := by
  intro n
  induction n with
  | zero => intro p w h1 h2; omega
  | succ n ih =>
    intro p w h1 h2
    rw [X5_replaceHooks_b2]
    by_cases h3 : p < 8
    · rw [if_pos (by omega), gd_t ⟨by omega, by omega⟩, show ((p : Nat) : Int).toNat = p from rfl]
      by_cases h4 : w 1 t p = x
      · obtain ⟨w1, g1, g2, g3⟩ := ih (p + 1) (up w 1 t p y) (by omega) (by omega)
        refine ⟨w1, ?_, fun c t' i hn => ?_, fun i i1 i2 => ?_⟩
        · rw [if_pos h4, gd_t ⟨by omega, by omega⟩]
          exact g1
        · rw [g2 c t' i (by omega)]
          unfold up
          rw [if_neg (by omega)]
        · by_cases e : i = p
          · rw [g2 1 t i (by omega), up_h e, e, if_pos h4]
          · rw [g3 i (by omega) i2, up_n e]
      · obtain ⟨w1, g1, g2, g3⟩ := ih (p + 1) w (by omega) (by omega)
        refine ⟨w1, ?_, fun c t' i hn => g2 c t' i (by omega), fun i i1 i2 => ?_⟩
        · rw [if_neg h4, gd_t ⟨by omega, by omega⟩]
          exact g1
        · by_cases e : i = p
          · rw [g2 1 t i (by omega), e, if_neg h4]
          · exact g3 i (by omega) i2
    · exact ⟨w, by rw [if_neg (by omega)], fun _ _ _ _ => rfl, fun i i1 i2 => by omega⟩
/-- a copy of x, from p on, turns to a -/
def rp (w : Wd) (t : Nat) (x : Int) (p : Nat) (a y : Int) : Int := if p ≤ y ∧ y < 260 ∧ 0 < w 4 t y.toNat ∧ w 3 t y.toNat = x then a else y
theorem mend_l {x : Int} : ∀ (n p : Nat) (acc : Int) (w : Wd), p ≤ 260 → 260 - p < n → 0 ≤ acc ∧ acc ≤ p → a < p → ∃ w1, X5_mendTwins_b45 t n x a acc p w = some (acc + (sm (cp w t x) 260 - sm (cp w t x) p), w1) ∧ (∀ c t' i, ¬ ((c = 4 ∨ c = 7 ∨ c = 1) ∧ t' = t) → w1 c t' i = w c t' i) ∧ (∀ d, w1 4 t d = if p ≤ d ∧ d < 260 ∧ 0 < w 4 t d ∧ w 3 t d = x then 0 else w 4 t d) ∧ (∀ h, h < 8 → w1 1 t h = rp w t x p a (w 1 t h)) ∧ (∀ i, i < 520 → w1 7 t i = rp w t x p a (w 7 t i)) := by
  intro n
  induction n with
  | zero => intro p acc w h1 h2; omega
  | succ n ih =>
    intro p acc w h1 h2 h3 h4
    have hs : sm (cp w t x) (p + 1) = sm (cp w t x) p + cp w t x p := rfl
    rw [X5_mendTwins_b45]
    by_cases h5 : p < 260
    · rw [if_pos (by omega), isOf_e ⟨by omega, by omega⟩, show ((p : Nat) : Int).toNat = p from rfl]
      by_cases h6 : 0 < w 4 t p ∧ w 3 t p = x
      · have e1 : cp w t x p = 1 := if_pos h6
        have hrm : X0_remove t p w = some (0, up w 4 t p 0) := by
          unfold X0_remove
          rw [if_neg (by omega), if_pos (by omega), gd_t ⟨by omega, by omega⟩]
          rfl
        obtain ⟨w1, m1, m2, m3⟩ := repN_l (t := t) (x := p) (y := a) LF 0 (up w 4 t p 0) (by omega) (by rw [show LF = 10000 from rfl]; omega)
        obtain ⟨w2, k1, k2, k3⟩ := repH_l (t := t) (x := p) (y := a) LF 0 w1 (by omega) (by rw [show LF = 10000 from rfl]; omega)
        obtain ⟨w3, g1, g2, g3, g4, g5⟩ := ih (p + 1) (acc + 1) w2 (by omega) (by omega) (by omega) (by omega)
        have m1' : X0_replaceNames t p a (up w 4 t p 0) = some (0, w1) := m1
        have k1' : X5_replaceHooks t p a w1 = some (0, w2) := k1
        have b4 : ∀ d, w2 4 t d = if d = p then 0 else w 4 t d := fun d => by
          rw [k2 4 t d (by omega), m2 4 t d (by omega)]
          simp [up]
        have b3 : ∀ d, w2 3 t d = w 3 t d := fun d => by
          rw [k2 3 t d (by omega), m2 3 t d (by omega), up_c (by decide)]
        have b1 : ∀ i, i < 8 → w2 1 t i = if w 1 t i = p then (a : Int) else w 1 t i := fun i hi => by
          rw [k3 i (by omega) hi, m2 1 t i (by omega), up_c (by decide)]
        have b7 : ∀ i, i < 520 → w2 7 t i = if w 7 t i = p then (a : Int) else w 7 t i := fun i hi => by
          rw [k2 7 t i (by omega), m3 i (by omega) hi, up_c (by decide)]
        have hc : ∀ d, d ≠ p → cp w2 t x d = cp w t x d := fun d hd => by
          unfold cp
          rw [b4, if_neg hd, b3]
        have c1 := sm_chg (f := cp w2 t x) (g := cp w t x) (k := p) 260 h5 (fun i _ hne => hc i hne)
        have c2 := sm_chg (f := cp w2 t x) (g := cp w t x) (k := p) (p + 1) (by omega) (fun i _ hne => hc i hne)
        have hrp : ∀ y : Int, rp w2 t x (p + 1) a (if y = p then (a : Int) else y) = rp w t x p a y := fun y => by
          unfold rp
          by_cases e : y = p
          · rw [if_pos e, if_neg (by omega), if_pos ⟨by omega, by omega, by rw [e]; exact h6.1, by rw [e]; exact h6.2⟩]
          · rw [if_neg e]
            by_cases e2 : (p : Int) ≤ y
            · rw [b4, b3, if_neg (show y.toNat ≠ p by omega)]
              by_cases e3 : y < 260 ∧ 0 < w 4 t y.toNat ∧ w 3 t y.toNat = x
              · rw [if_pos ⟨by omega, e3⟩, if_pos ⟨e2, e3⟩]
              · rw [if_neg (fun q => e3 q.2), if_neg (fun q => e3 q.2)]
            · rw [if_neg (by omega), if_neg (by omega)]
        refine ⟨w3, ?_, fun c t' i hn => ?_, fun d => ?_, fun h hh => ?_, fun i hi => ?_⟩
        · rw [if_pos h6, bd_t, if_neg (by decide), hrm, bd_t, m1', bd_t, k1', bd_t, gd_t ⟨by omega, by omega⟩, gd_t ⟨by omega, by omega⟩]
          rw [show ((p + 1 : Nat) : Int) = (p : Int) + 1 by omega] at g1
          rw [g1]
          exact some_eq (by omega)
        · rw [g2 c t' i hn, k2 c t' i (by omega), m2 c t' i (by omega)]
          unfold up
          rw [if_neg (by omega)]
        · rw [g3, b4, b3]
          by_cases e : d = p
          · subst e
            rw [if_pos rfl, if_neg (by omega), if_pos ⟨by omega, h5, h6⟩]
          · rw [if_neg e]
            by_cases e2 : p + 1 ≤ d ∧ d < 260 ∧ 0 < w 4 t d ∧ w 3 t d = x
            · rw [if_pos e2, if_pos ⟨by omega, e2.2⟩]
            · rw [if_neg e2, if_neg (fun q => e2 ⟨by omega, q.2⟩)]
        · rw [g4 h hh, b1 h hh, hrp]
        · rw [g5 i hi, b7 i hi, hrp]
      · have e1 : cp w t x p = 0 := if_neg h6
        obtain ⟨w3, g1, g2, g3, g4, g5⟩ := ih (p + 1) acc w (by omega) (by omega) (by omega) (by omega)
        have hrp : ∀ y : Int, rp w t x (p + 1) a y = rp w t x p a y := fun y => by
          unfold rp
          by_cases e : y = p
          · rw [if_neg (by omega), if_neg (fun q => h6 (by rw [e] at q; exact q.2.2))]
          · by_cases e2 : (p : Int) ≤ y ∧ y < 260 ∧ 0 < w 4 t y.toNat ∧ w 3 t y.toNat = x
            · rw [if_pos e2, if_pos ⟨by omega, e2.2⟩]
            · rw [if_neg e2, if_neg (fun q => e2 ⟨by omega, q.2⟩)]
        refine ⟨w3, ?_, g2, fun d => ?_, fun h hh => ?_, fun i hi => ?_⟩
        · rw [if_neg h6, bd_t, if_pos rfl, gd_t ⟨by omega, by omega⟩]
          rw [show ((p + 1 : Nat) : Int) = (p : Int) + 1 by omega] at g1
          rw [g1]
          exact some_eq (by omega)
        · rw [g3]
          by_cases e2 : p + 1 ≤ d ∧ d < 260 ∧ 0 < w 4 t d ∧ w 3 t d = x
          · rw [if_pos e2, if_pos ⟨by omega, e2.2⟩]
          · rw [if_neg e2, if_neg (fun q => e2 ⟨by
              by_cases e : d = p
              · subst e
                exact absurd q.2.2 h6
              · omega, q.2⟩)]
        · rw [g4 h hh, hrp]
        · rw [g5 i hi, hrp]
    · refine ⟨w, ?_, fun _ _ _ _ => rfl, fun d => ?_, fun h hh => ?_, fun i hi => ?_⟩
      · rw [if_neg (by omega), show p = 260 by omega]
        exact some_eq (by omega)
      · rw [if_neg (by omega)]
      · unfold rp
        rw [if_neg (by omega)]
      · unfold rp
        rw [if_neg (by omega)]
/-- and in the model -/
def tn (v : Wd) (x z y : Int) : Int := if y ≠ -9 ∧ v 22 0 (185 + 5 * (64 * (y.toNat / 100) + y.toNat % 100)) = x + 1 then z else y
def okA (y : Int) : Prop := y = -9 ∨ (0 ≤ y ∧ (y.toNat < 64 ∨ (100 ≤ y.toNat ∧ y.toNat < 164) ∨ (200 ≤ y.toNat ∧ y.toNat < 260)))
theorem turns8_e {x z j : Int} (hj : 0 ≤ j ∧ j < 1125) (hx : 0 ≤ x ∧ x ≤ 1000) (hy : okA (v 22 0 j.toNat)) : X8_turns j x z v = some (0, up v 22 0 j.toNat (tn v x z (v 22 0 j.toNat))) := by
  unfold X8_turns X8_turns_b36 tn
  obtain ⟨y, hyy⟩ : ∃ y, y = v 22 0 j.toNat := ⟨_, rfl⟩
  rw [gd_t hj, gd_t hj, ← hyy]
  rw [← hyy] at hy
  by_cases h9 : y = -9
  · rw [if_pos h9, if_pos rfl, if_neg (fun q => q.1 h9)]
  · have hy2 := hy.resolve_left h9
    rw [if_neg h9, cell8_e (by omega), bd_t, ofCopy8_e (by omega) (by omega), bd_t, gd_t ⟨by omega, by omega⟩]
    simp only [show (0 : Int).toNat = 0 from rfl, Nat.add_zero]
    rw [show ((64 * (y / 100) + y % 100)).toNat = (64 * (y.toNat / 100) + y.toNat % 100) by omega]
    by_cases h5 : v 22 0 (185 + 5 * (64 * (y.toNat / 100) + y.toNat % 100)) = x + 1
    · rw [if_pos h5, if_neg (by decide), if_pos ⟨h9, h5⟩, gd_t hj]
    · rw [if_neg h5, if_pos True.intro, if_neg (fun q => h5 q.2), gd_t hj, ← hyy]
theorem tn_eq {v1 : Wd} (h : ∀ c, v1 22 0 (185 + 5 * c) = v 22 0 (185 + 5 * c)) (x z y : Int) : tn v1 x z y = tn v x z y := by
  unfold tn
  rw [h]
theorem mendH_l {x c0 c1 : Int} (hx : 0 ≤ x ∧ x ≤ 1000) (hc : 0 ≤ c1 ∧ c1 < 188) : ∀ (n p : Nat) (v : Wd), p ≤ 8 → 8 - p < n → (∀ h, p ≤ h → h < 8 → okA (v 22 0 (9 + h))) → ∃ v1, X8_mend_b44 n x c0 c1 p v = X8_mend_b74 LF x c0 c1 0 v1 ∧ FrM v v1 ∧ (∀ j, (j < 9 + p ∨ 17 ≤ j) → v1 22 0 j = v 22 0 j) ∧ ∀ h, p ≤ h → h < 8 → v1 22 0 (9 + h) = tn v x (100 * (c1 / 64) + c1 % 64) (v 22 0 (9 + h)) := by
  intro n
  induction n with
  | zero => intro p v h1 h2; omega
  | succ n ih =>
    intro p v h1 h2 hok
    rw [X8_mend_b44]
    by_cases h3 : p < 8
    · have e9 : (9 + (p : Int)).toNat = 9 + p := by omega
      obtain ⟨v1, g1, g2, g3, g4⟩ := ih (p + 1) (up v 22 0 (9 + p) (tn v x (100 * (c1 / 64) + c1 % 64) (v 22 0 (9 + p)))) (by omega) (by omega) (fun h q1 q2 => by
        rw [up_n (by omega)]
        exact hok h (by omega) q2)
      refine ⟨v1, ?_, FrM.tr FrM.rf.ups g2, fun j hj => ?_, fun h q1 q2 => ?_⟩
      · rw [if_pos (by omega), gd_t ⟨by omega, by omega⟩, address8_e (by omega), bd_t, turns8_e (by omega) hx (by rw [e9]; exact hok p (by omega) h3), bd_t, gd_t ⟨by omega, by omega⟩, e9]
        exact g1
      · rw [g3 j (by omega), up_n (by omega)]
      · by_cases e : h = p
        · rw [g3 _ (by omega), e, up_h rfl]
        · rw [g4 h (by omega) q2, up_n (by omega)]
          exact tn_eq (fun c => up_n (by omega)) _ _ _
    · refine ⟨v, ?_, FrM.rf, fun _ _ => rfl, fun h q1 q2 => by omega⟩
      rw [if_neg (by omega)]
theorem mendN_l {x c0 c1 : Int} (hx : 0 ≤ x ∧ x ≤ 1000) (hc : 0 ≤ c1 ∧ c1 < 188) : ∀ (n p : Nat) (v : Wd), p ≤ 188 → 188 - p < n → (∀ c, p ≤ c → c < 188 → 0 < v 22 0 (185 + 5 * c) → okA (v 22 0 (185 + 5 * c + 1)) ∧ okA (v 22 0 (185 + 5 * c + 2))) → ∃ v1, X8_mend_b74 n x c0 c1 p v = X8_mend_b142 LF x c0 (c1 + 1) v1 ∧ FrM v v1 ∧ (∀ j, (∀ c, p ≤ c → c < 188 → j ≠ 185 + 5 * c + 1 ∧ j ≠ 185 + 5 * c + 2) → v1 22 0 j = v 22 0 j) ∧ ∀ c, p ≤ c → c < 188 → 0 < v 22 0 (185 + 5 * c) → v1 22 0 (185 + 5 * c + 1) = tn v x (100 * (c1 / 64) + c1 % 64) (v 22 0 (185 + 5 * c + 1)) ∧ v1 22 0 (185 + 5 * c + 2) = tn v x (100 * (c1 / 64) + c1 % 64) (v 22 0 (185 + 5 * c + 2)) := by
  intro n
  induction n with
  | zero => intro p v h1 h2; omega
  | succ n ih =>
    intro p v h1 h2 hok
    rw [X8_mend_b74]
    by_cases h3 : p < 188
    · rw [if_pos (by omega), isCopy8_e (by omega), show ((p : Nat) : Int).toNat = p from rfl]
      by_cases h4 : 0 < v 22 0 (185 + 5 * p)
      · have ea : (185 + 5 * (p : Int) + 1).toNat = 185 + 5 * p + 1 := by omega
        have eb : (185 + 5 * (p : Int) + 1 + 1).toNat = 185 + 5 * p + 2 := by omega
        obtain ⟨ad, had⟩ : ∃ ad, ad = 100 * (c1 / 64) + c1 % 64 := ⟨_, rfl⟩
        obtain ⟨va, hva⟩ : ∃ va, va = up v 22 0 (185 + 5 * p + 1) (tn v x ad (v 22 0 (185 + 5 * p + 1))) := ⟨_, rfl⟩
        have fa : ∀ j, j ≠ 185 + 5 * p + 1 → va 22 0 j = v 22 0 j := fun j hj => by rw [hva, up_n hj]
        have ta : ∀ y, tn va x ad y = tn v x ad y := fun y => tn_eq (fun c => fa _ (by omega)) _ _ _
        obtain ⟨vb, hvb⟩ : ∃ vb, vb = up va 22 0 (185 + 5 * p + 2) (tn v x ad (v 22 0 (185 + 5 * p + 2))) := ⟨_, rfl⟩
        have fb : ∀ j, j ≠ 185 + 5 * p + 1 → j ≠ 185 + 5 * p + 2 → vb 22 0 j = v 22 0 j := fun j h1 h2 => by rw [hvb, up_n h2, fa j h1]
        have tb : ∀ y, tn vb x ad y = tn v x ad y := fun y => tn_eq (fun c => fb _ (by omega) (by omega)) _ _ _
        obtain ⟨v1, g1, g2, g3, g4⟩ := ih (p + 1) vb (by omega) (by omega) (fun c q1 q2 q3 => by
          rw [fb _ (by omega) (by omega)] at q3
          rw [fb _ (by omega) (by omega), fb _ (by omega) (by omega)]
          exact hok c (by omega) q2 q3)
        rw [← had] at g4 ⊢
        refine ⟨v1, ?_, FrM.tr (by rw [hvb, hva]; exact FrM.rf.ups.ups) g2, fun j hj => ?_, fun c q1 q2 q3 => ?_⟩
        · have okp := hok p (by omega) h3 h4
          rw [if_pos h4, bd_t, if_neg (by decide), gd_t ⟨by omega, by omega⟩, gd_t ⟨by omega, by omega⟩, gd_t ⟨by omega, by omega⟩, address8_e (by omega), bd_t, ← had, turns8_e (by omega) hx (by rw [ea]; exact okp.1), bd_t, ea, ← hva]
          rw [gd_t ⟨by omega, by omega⟩, address8_e (by omega), bd_t, ← had, turns8_e (by omega) hx (by rw [eb, fa _ (by omega)]; exact okp.2), bd_t, eb, fa _ (by omega), ta, ← hvb, gd_t ⟨by omega, by omega⟩]
          exact g1
        · have := hj p (by omega) h3
          rw [g3 j (fun c q1 q2 => hj c (by omega) q2), fb j this.1 this.2]
        · by_cases e : c = p
          · subst e
            rw [g3 _ (fun d d1 d2 => by omega), g3 _ (fun d d1 d2 => by omega)]
            refine ⟨?_, ?_⟩
            · rw [hvb, up_n (by omega), hva, up_h rfl]
            · rw [hvb, up_h rfl]
          · have := g4 c (by omega) q2 (by rw [fb _ (by omega) (by omega)]; exact q3)
            rw [tb, tb, fb _ (by omega) (by omega), fb _ (by omega) (by omega)] at this
            exact this
      · obtain ⟨v1, g1, g2, g3, g4⟩ := ih (p + 1) v (by omega) (by omega) (fun c q1 q2 q3 => hok c (by omega) q2 q3)
        refine ⟨v1, ?_, g2, fun j hj => g3 j (fun c q1 q2 => hj c (by omega) q2), fun c q1 q2 q3 => ?_⟩
        · rw [if_neg h4, bd_t, if_pos rfl, gd_t ⟨by omega, by omega⟩]
          exact g1
        · by_cases e : c = p
          · subst e
            exact absurd q3 h4
          · exact g4 c (by omega) q2 q3
    · refine ⟨v, ?_, FrM.rf, fun _ _ => rfl, fun c q1 q2 => by omega⟩
      rw [if_neg (by omega), gd_t ⟨by omega, by omega⟩]
theorem mendC_l {x c0 : Int} (hx : 0 ≤ x ∧ x ≤ 1000) (hc : 0 ≤ c0 ∧ c0 ≤ 1000) : ∀ (n p : Nat) (v : Wd), p ≤ 188 → 188 - p < n → ∃ v1, X8_mend_b142 n x c0 p v = some (c0 - 1, v1) ∧ FrM v v1 ∧ (∀ j, (∀ c, p ≤ c → c < 188 → j ≠ 185 + 5 * c) → v1 22 0 j = v 22 0 j) ∧ ∀ c, p ≤ c → c < 188 → v1 22 0 (185 + 5 * c) = if v 22 0 (185 + 5 * c) = x + 1 then 0 else v 22 0 (185 + 5 * c) := by
  intro n
  induction n with
  | zero => intro p v h1 h2; omega
  | succ n ih =>
    intro p v h1 h2
    rw [X8_mend_b142]
    by_cases h3 : p < 188
    · have ea : (185 + 5 * (p : Int) + 0).toNat = 185 + 5 * p := by omega
      obtain ⟨vb, hvb⟩ : ∃ vb, vb = up v 22 0 (185 + 5 * p) (if v 22 0 (185 + 5 * p) = x + 1 then 0 else v 22 0 (185 + 5 * p)) := ⟨_, rfl⟩
      have fb : ∀ j, j ≠ 185 + 5 * p → vb 22 0 j = v 22 0 j := fun j h1 => by rw [hvb, up_n h1]
      obtain ⟨v1, g1, g2, g3, g4⟩ := ih (p + 1) vb (by omega) (by omega)
      refine ⟨v1, ?_, FrM.tr (by rw [hvb]; exact FrM.rf.ups) g2, fun j hj => ?_, fun c q1 q2 => ?_⟩
      · rw [if_pos (by omega), gd_t ⟨by omega, by omega⟩, gd_t ⟨by omega, by omega⟩, gd_t ⟨by omega, by omega⟩, ofCopy8_e (by omega) (by omega), bd_t, gd_t ⟨by omega, by omega⟩]
        simp only [show (0 : Int).toNat = 0 from rfl, Nat.add_zero]
        rw [show ((p : Nat) : Int).toNat = p from rfl]
        by_cases h4 : v 22 0 (185 + 5 * p) = x + 1
        · rw [if_pos h4] at hvb
          rw [if_pos h4, gd_t ⟨by omega, by omega⟩, gd_t ⟨by omega, by omega⟩, ea, ← hvb]
          exact g1
        · rw [if_neg h4] at hvb
          rw [if_neg h4, ofCopy8_e (by omega) (by omega), bd_t, show 185 + 5 * ((p : Nat) : Int).toNat + (0 : Int).toNat = 185 + 5 * p from rfl, gd_t ⟨by omega, by omega⟩, gd_t ⟨by omega, by omega⟩, ea, ← hvb]
          exact g1
      · rw [g3 j (fun c q1 q2 => hj c (by omega) q2), fb j (hj p (by omega) h3)]
      · by_cases e : c = p
        · subst e
          rw [g3 _ (fun d d1 d2 => by omega), hvb, up_h rfl]
        · rw [g4 c (by omega) q2, fb _ (by omega)]
    · refine ⟨v, ?_, FrM.rf, fun _ _ => rfl, fun c q1 q2 => by omega⟩
      rw [if_neg (by omega), gd_t ⟨by omega, by omega⟩]
theorem first8_l {x : Int} (hx : 0 ≤ x ∧ x ≤ 1000) {f : Nat} (hf : f < 188) (he : v 22 0 (185 + 5 * f) = x + 1) (hl : ∀ c, c < f → v 22 0 (185 + 5 * c) ≠ x + 1) : ∀ (n p : Nat), p ≤ f → f - p < n → X8_first_b2 n x p v = some ((f : Int), v) := by
  intro n
  induction n with
  | zero => intro p h1 h2; omega
  | succ n ih =>
    intro p h1 h2
    rw [X8_first_b2, ofCopy8_e (by omega) (by omega), bd_t, gd_t ⟨by omega, by omega⟩]
    simp only [show (0 : Int).toNat = 0 from rfl, Nat.add_zero]
    rw [show ((p : Nat) : Int).toNat = p from rfl]
    by_cases e : p = f
    · rw [e, if_pos he]
    · rw [if_neg (hl p (by omega)), gd_t ⟨by omega, by omega⟩]
      exact ih (p + 1) (by omega) (by omega)
end MEND
