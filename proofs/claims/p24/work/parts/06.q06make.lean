/-! PURE: room and floor, the law -/
section RML
variable {B : Int} {k : Nat} {ex : Int} {g u : Wd} {a i : Nat}
def kpf (g : Wd) (p : Nat) : Int := if g 5 0 ((100 - 100 * (g 0 0 3).toNat) + p) = 300 then g 4 0 ((100 - 100 * (g 0 0 3).toNat) + p) else 0
theorem keptl_l (hL : Lb g u) (hI : Iv B k ex g 0) (hm : g 0 0 2 = 1) : ∀ (n p : Nat) (acc : Int), 0 ≤ acc ∧ acc ≤ 12 * p → p ≤ 64 → 64 - p < n → L_kept_b6 n acc p u = some (acc + kp g 0 - sm (kpf g) p, u) := by
  obtain ⟨a0, a1, a2, a3, a4, a5, a6, a7, a8⟩ := hL.1
  have hA := hI.A
  unfold IvA at hA
  intro n
  induction n with
  | zero => intro p acc h0 h1 h2; omega
  | succ n ih =>
    intro p acc h0 h1 h2
    rw [L_kept_b6_s]
    by_cases hp : p < 64
    · have hd : ((((100 - 100 * (g 0 0 3).toNat) + p)) < 64 ∨ (100 ≤ (((100 - 100 * (g 0 0 3).toNat) + p)) ∧ (((100 - 100 * (g 0 0 3).toNat) + p)) < 164) ∨ (200 ≤ (((100 - 100 * (g 0 0 3).toNat) + p)) ∧ (((100 - 100 * (g 0 0 3).toNat) + p)) < 260)) := by omega
      have hs := hI.S ((100 - 100 * (g 0 0 3).toNat) + p) (by omega)
      have hcl : (if g 0 0 3 = 1 then u 34 0 p else u 35 0 p) = cl u ((100 - 100 * (g 0 0 3).toNat) + p) := by
        unfold cl
        by_cases c1 : g 0 0 3 = 1
        · rw [if_pos c1, if_pos (by omega), show (100 - 100 * (g 0 0 3).toNat) + p = p by omega]
        · rw [if_neg c1, if_neg (by omega), if_pos (by omega), show (100 - 100 * (g 0 0 3).toNat) + p - 100 = p by omega]
      have hb : L_kept_b38 (L_kept_b6 n) acc p (cl u ((100 - 100 * (g 0 0 3).toNat) + p)) u = L_kept_b6 n (acc + kpf g p) ((p + 1 : Nat) : Int) u := by
        unfold L_kept_b38 kpf
        by_cases h4 : 0 < g 4 0 ((100 - 100 * (g 0 0 3).toNat) + p)
        · have ok := hI.okp hd h4
          have hb := pk_b ok
          rw [hL.cp hd h4, if_neg (fun q => by rw [cmp_e (pk_l ok) ⟨by decide, by decide⟩] at q; omega), (name_p ok).2.2, bd_t]
          have hT : g 5 0 ((100 - 100 * (g 0 0 3).toNat) + p) = 300 ∨ prs g 0 (g 5 0 ((100 - 100 * (g 0 0 3).toNat) + p)) := (hI.T _ (by omega) h4).imp (fun q => q) (fun q => q.2.2.1)
          have hn := (nn_b hT).2
          by_cases h5 : g 5 0 ((100 - 100 * (g 0 0 3).toNat) + p) = 300
          · have hz := hL.2.2.2.2 _ hd h4
            rw [if_pos (hn.mpr h5), thing_p ok, bd_t, gd_t ⟨(hs.2.2 h4).2.1, by have := (hs.2.2 h4).2.2; omega⟩, hz, if_pos h5, gd_t ⟨by omega, by omega⟩, gd_t ⟨by omega, by omega⟩]
            rfl
          · rw [if_neg (fun q => h5 (hn.mp q)), if_neg h5, gd_t ⟨by omega, by omega⟩, gd_t ⟨by omega, by omega⟩]
            rfl
        · have e0 : g 4 0 ((100 - 100 * (g 0 0 3).toNat) + p) = 0 := by omega
          rw [hL.no hd h4, if_pos ((cmp_e ⟨by decide, by decide⟩ ⟨by decide, by decide⟩).mpr rfl), e0, ite_self, gd_t ⟨by omega, by omega⟩, gd_t ⟨by omega, by omega⟩]
          rfl
      have hk0 : 0 ≤ kpf g p ∧ kpf g p ≤ 12 := by
        unfold kpf
        split <;> omega
      have hfin : L_kept_b6 n (acc + kpf g p) ((p + 1 : Nat) : Int) u = some (acc + kp g 0 - sm (kpf g) p, u) := by
        rw [ih (p + 1) (acc + kpf g p) (by omega) (by omega) (by omega)]
        refine some_eq ?_
        show acc + kpf g p + kp g 0 - (sm (kpf g) p + kpf g p) = _
        omega
      rw [if_pos (by omega), a2, if_pos hm, a3]
      rw [← hcl] at hb
      by_cases c1 : g 0 0 3 = 1
      · rw [if_pos c1] at hb ⊢
        rw [gd_t ⟨by omega, by omega⟩]
        exact hb.trans hfin
      · rw [if_neg c1] at hb ⊢
        rw [gd_t ⟨by omega, by omega⟩]
        exact hb.trans hfin
    · have hp64 : p = 64 := by omega
      rw [if_neg (by omega), hp64]
      refine some_eq ?_
      show acc = acc + kp g 0 - sm (kpf g) 64
      have : kp g 0 = sm (kpf g) 64 := rfl
      omega
theorem kept_L (hL : Lb g u) (hI : Iv B k ex g 0) : L_kept u = some (if g 0 0 2 = 1 then kp g 0 else 0, u) := by
  by_cases hm : g 0 0 2 = 1
  · have := keptl_l hL hI hm LF 0 0 (by omega) (by omega) (by rw [show LF = 10000 from rfl]; omega)
    unfold L_kept
    rw [if_pos hm]
    refine this.trans (some_eq ?_)
    show 0 + kp g 0 - 0 = kp g 0
    omega
  · unfold L_kept
    rw [if_neg hm, show LF = 9999 + 1 from rfl, L_kept_b6_s, if_pos (by decide), hL.1.2.2.1, if_neg hm]
/-- a place of the floor that a copy takes -/
def occ (g : Wd) (n j : Nat) : Prop := ∃ q : Nat, q < n ∧ 0 < g 4 0 (200 + q) ∧ q ≤ j ∧ (j : Int) < q + g 4 0 (200 + q)
def hit (g : Wd) (s : Int) (z : Nat) : Prop := ∃ j : Nat, z ≤ j ∧ (j : Int) < z + s ∧ occ g 60 j
/-- where the class lays a heavy thing: the first gap -/
theorem gap_l (hI : Iv B k ex g 0) {s : Int} (hs : 1 ≤ s ∧ s ≤ 12) : ∀ (n p b : Nat), p ≤ 60 → 60 - p < n → b ≤ 60 → (∀ q : Nat, b ≤ q → q < p → g 4 0 (200 + q) = 0) → (∀ q : Nat, q < p → 0 < g 4 0 (200 + q) → (q : Int) + g 4 0 (200 + q) ≤ b) → (∀ z : Nat, z < b → hit g s z) → (b = 0 ∨ ∃ q : Nat, q < p ∧ 0 < g 4 0 (200 + q) ∧ (b : Int) = q + g 4 0 (200 + q)) → ∃ r : Int, X0_floorAddressFor_b4 0 n s b p g = some (r, g) ∧ ((r = 300 ∧ ∀ z : Nat, (z : Int) + s ≤ 60 → hit g s z) ∨ (200 ≤ r ∧ r + s ≤ 260 ∧ (∀ q : Nat, r - 200 ≤ q → (q : Int) < r - 200 + s → g 4 0 (200 + q) = 0) ∧ (∀ q : Nat, (q : Int) < r - 200 → 0 < g 4 0 (200 + q) → (q : Int) + g 4 0 (200 + q) ≤ r - 200) ∧ ∀ z : Nat, (z : Int) < r - 200 → hit g s z)) := by
  intro n
  induction n with
  | zero => intro p b h1 h2; omega
  | succ n ih =>
    intro p b h1 h2
    have hnx : p < 60 → p + 1 ≤ 60 ∧ 60 - (p + 1) < n := by omega
    intro hb hz hp hh hq
    have hend : (60 ≤ p ∨ s ≤ p - b) → ∃ r : Int, (gd (InR ((b : Int) + s)) (if 60 < (b : Int) + s then (some ((300 : Int), g)) else (gd (InR (200 + (b : Int))) (some (200 + (b : Int), g))))) = some (r, g) ∧ ((r = 300 ∧ ∀ z : Nat, (z : Int) + s ≤ 60 → hit g s z) ∨ (200 ≤ r ∧ r + s ≤ 260 ∧ (∀ q : Nat, r - 200 ≤ q → (q : Int) < r - 200 + s → g 4 0 (200 + q) = 0) ∧ (∀ q : Nat, (q : Int) < r - 200 → 0 < g 4 0 (200 + q) → (q : Int) + g 4 0 (200 + q) ≤ r - 200) ∧ ∀ z : Nat, (z : Int) < r - 200 → hit g s z)) := by
      intro hc
      rw [gd_t ⟨by omega, by omega⟩]
      by_cases h60 : 60 < (b : Int) + s
      · rw [if_pos h60]
        exact ⟨300, rfl, Or.inl ⟨rfl, fun z hz => hh z (by omega)⟩⟩
      · rw [if_neg h60, gd_t ⟨by omega, by omega⟩]
        refine ⟨200 + b, rfl, Or.inr ⟨by omega, by omega, fun q q1 q2 => hz q (by omega) (by omega), fun q q1 q2 => by have := hp q (by omega) q2; omega, fun z hz => hh z (by omega)⟩⟩
    rw [X0_floorAddressFor_b4_s]
    by_cases h60 : p < 60
    · rw [if_pos (by omega), gd_t ⟨by omega, by omega⟩]
      by_cases hps : (p : Int) - b < s
      · have ei : (200 + (p : Int)).toNat = 200 + p := by omega
        have hS := hI.S (200 + p) (by omega)
        rw [if_pos hps, gd_t ⟨by omega, by omega⟩, sizeAt_e (by omega) (by rw [ei]; exact hS.1), bd_t, ei]
        by_cases h4 : 0 < g 4 0 (200 + p)
        · have hF := hI.F p h60 h4
          obtain ⟨b2, hb2⟩ : ∃ b2 : Nat, (b2 : Int) = p + g 4 0 (200 + p) := ⟨((p : Int) + g 4 0 (200 + p)).toNat, by omega⟩
          have hbp : b ≤ p := by
            rcases hq with e | ⟨q, e1, e2, e3⟩
            · omega
            · by_cases hlt : b ≤ p
              · exact hlt
              · have := (hI.F q (by omega) e2).2 p e1 (by omega)
                omega
          obtain ⟨r, r1, r2⟩ := ih (p + 1) b2 (by clear hq; omega) (by clear hq; omega) (by clear hq; omega) (fun q q1 q2 => by clear hq; omega) (fun q q1 q2 => by
            by_cases e : q = p
            · subst e; omega
            · have := hp q (by omega) q2; omega) (fun z hz => by
            by_cases e1 : z < b
            · exact hh z e1
            · by_cases e2 : z ≤ p
              · exact ⟨p, e2, by omega, p, h60, h4, by omega, by omega⟩
              · exact ⟨z, by omega, by omega, p, h60, h4, by omega, by omega⟩) (Or.inr ⟨p, by omega, h4, hb2⟩)
          rw [if_pos h4, gd_t ⟨by omega, by omega⟩, gd_t ⟨by omega, by omega⟩, ← hb2]
          exact ⟨r, r1, r2⟩
        · have hz2 : ∀ q : Nat, b ≤ q → q < p + 1 → g 4 0 (200 + q) = 0 := fun q q1 q2 => by
            clear hq
            by_cases e : q = p
            · subst e; omega
            · exact hz q q1 (by omega)
          have hp2 : ∀ q : Nat, q < p + 1 → 0 < g 4 0 (200 + q) → (q : Int) + g 4 0 (200 + q) ≤ b := fun q q1 q2 => by
            clear hq
            by_cases e : q = p
            · subst e; omega
            · exact hp q (by omega) q2
          have hq2 : b = 0 ∨ ∃ q : Nat, q < p + 1 ∧ 0 < g 4 0 (200 + q) ∧ (b : Int) = q + g 4 0 (200 + q) := hq.imp (fun q => q) (fun ⟨q, e1, e2, e3⟩ => ⟨q, Nat.lt_succ_of_lt e1, e2, e3⟩)
          obtain ⟨r, r1, r2⟩ := ih (p + 1) b (hnx h60).1 (hnx h60).2 hb hz2 hp2 hh hq2
          rw [if_neg h4, gd_t ⟨by omega, by omega⟩]
          exact ⟨r, r1, r2⟩
      · rw [if_neg hps]
        exact hend (Or.inr (by omega))
    · rw [if_neg (by omega)]
      exact hend (Or.inl (by omega))
theorem gap_C (hI : Iv B k ex g 0) {s : Int} (hs : 1 ≤ s ∧ s ≤ 12) : ∃ r : Int, X0_floorAddressFor 0 s g = some (r, g) ∧ ((r = 300 ∧ ∀ z : Nat, (z : Int) + s ≤ 60 → hit g s z) ∨ (200 ≤ r ∧ r + s ≤ 260 ∧ (∀ q : Nat, r - 200 ≤ q → (q : Int) < r - 200 + s → g 4 0 (200 + q) = 0) ∧ (∀ q : Nat, (q : Int) < r - 200 → 0 < g 4 0 (200 + q) → (q : Int) + g 4 0 (200 + q) ≤ r - 200) ∧ ∀ z : Nat, (z : Int) < r - 200 → hit g s z)) :=
  gap_l hI hs LF 0 0 (by omega) (by rw [show LF = 10000 from rfl]; omega) (by omega) (fun q q1 q2 => by omega) (fun q q1 => by omega) (fun z hz => by omega) (Or.inl rfl)
/-- no bit of a stretch is set -/
theorem bits_0 {T z s : Nat} : T / 2 ^ z % 2 ^ s = 0 ↔ ∀ i, i < s → T.testBit (z + i) = false := by
  constructor
  · intro h i hi
    have h1 : (T / 2 ^ z % 2 ^ s).testBit i = false := by rw [h, Nat.zero_testBit]
    rw [Nat.testBit_mod_two_pow, Nat.testBit_div_two_pow, decide_eq_true hi, Bool.true_and, Nat.add_comm] at h1
    exact h1
  · intro h
    apply Nat.eq_of_testBit_eq
    intro i
    rw [Nat.testBit_mod_two_pow, Nat.testBit_div_two_pow, Nat.zero_testBit]
    by_cases hi : i < s
    · rw [Nat.add_comm, h i hi, Bool.and_false]
    · rw [decide_eq_false hi, Bool.false_and]
/-- the law's search behind its bits -/
theorem look_l {T : Nat} (hT : T < 2 ^ 60) {s : Nat} (hs : 1 ≤ s ∧ s ≤ 12) (hb : ∀ j, T.testBit j = true ↔ occ g 60 j) {r : Int} (hr : (r = 300 ∧ ∀ z : Nat, (z : Int) + s ≤ 60 → hit g s z) ∨ (200 ≤ r ∧ r + s ≤ 260 ∧ (∀ q : Nat, r - 200 ≤ q → (q : Int) < r - 200 + s → g 4 0 (200 + q) = 0) ∧ (∀ q : Nat, (q : Int) < r - 200 → 0 < g 4 0 (200 + q) → (q : Int) + g 4 0 (200 + q) ≤ r - 200) ∧ ∀ z : Nat, (z : Int) < r - 200 → hit g s z)) : ∀ (n z : Nat), z ≤ 61 → 61 - z < n → (r ≠ 300 → (z : Int) ≤ r - 200) → L_floor_b53 n s T z u = some (if r = 300 then -1 else r - 200, u) := by
  intro n
  induction n with
  | zero => intro z h1 h2; omega
  | succ n ih =>
    intro z h1 h2 h3
    rw [L_floor_b53_s, gd_t ⟨by omega, by omega⟩]
    by_cases h60 : 60 < (z : Int) + s
    · rw [if_pos h60]
      rcases hr with q | q
      · rw [if_pos q.1]
      · have := h3 (by omega)
        omega
    · have hz64 : z < 64 := by omega
      have e2 : (2 : Int) ^ s = ((2 ^ s : Nat) : Int) := by rw [Int.natCast_pow]; rfl
      have h12 : 2 ^ s ≤ 2 ^ 12 := Nat.pow_le_pow_right (by decide) hs.2
      have h0 : 0 < 2 ^ s := Nat.two_pow_pos s
      have e1 : shlL 1 (s : Int) = ((2 ^ s : Nat) : Int) := by
        rw [shlL_e (x := 1) (by omega) (by rw [Int.one_mul, e2]; exact ⟨by omega, by omega⟩), Int.one_mul, e2]
      have e3 : shrL T z = ((T / 2 ^ z : Nat) : Int) := by
        rw [shrL_e hz64 ⟨by omega, by omega⟩]
        have : (2 : Int) ^ z = ((2 ^ z : Nat) : Int) := by rw [Int.natCast_pow]; rfl
        rw [this]
        rfl
      have hd : T / 2 ^ z ≤ T := Nat.div_le_self _ _
      have e4 : andL ((T / 2 ^ z : Nat) : Int) (((2 ^ s : Nat) : Int) - 1) = ((T / 2 ^ z % 2 ^ s : Nat) : Int) := andL_m (by omega) (by omega) (by rw [e2])
      have hm : T / 2 ^ z % 2 ^ s < 2 ^ s := Nat.mod_lt _ h0
      rw [if_neg h60, e1, gd_t ⟨by omega, by omega⟩, e3, e4]
      by_cases hc : T / 2 ^ z % 2 ^ s = 0
      · rw [if_pos ((cmp_e ⟨by omega, by omega⟩ ⟨by decide, by decide⟩).mpr (by rw [hc]; rfl))]
        have hno : ¬ hit g s z := fun ⟨j, j1, j2, j3⟩ => by
          have h := bits_0.mp hc (j - z) (by omega)
          rw [show z + (j - z) = j by omega, (hb j).mpr j3] at h
          cases h
        rcases hr with q | q
        · exact absurd (q.2 z (by omega)) hno
        · have hle := h3 (by omega)
          have hge : ¬ (z : Int) < r - 200 := fun h => hno (q.2.2.2.2 z h)
          rw [if_neg (show ¬ r = 300 by omega)]
          exact some_eq (by omega)
      · rw [if_neg (fun q => hc (by rw [cmp_e ⟨by omega, by omega⟩ ⟨by decide, by decide⟩] at q; omega)), gd_t ⟨by omega, by omega⟩]
        refine ih (z + 1) (by omega) (by omega) (fun h => ?_)
        have hle := h3 h
        rcases hr with q | q
        · exact absurd q.1 h
        · have hne : (z : Int) ≠ r - 200 := fun e => hc (bits_0.mpr (fun i hi => by
            cases hh : T.testBit (z + i) with
            | false => rfl
            | true =>
              obtain ⟨w, w1, w2, w3, w4⟩ := (hb _).mp hh
              by_cases hw : (w : Int) < r - 200
              · have := q.2.2.2.1 w hw w2
                omega
              · have := q.2.2.1 w (by omega) (by omega)
                omega))
          omega
theorem bits_l (hL : Lb g u) (hI : Iv B k ex g 0) {s : Int} : ∀ (n p T : Nat), p ≤ 60 → 60 - p < n → T < 2 ^ 60 → (∀ j, T.testBit j = true ↔ occ g p j) → ∃ T2 : Nat, T2 < 2 ^ 60 ∧ (∀ j, T2.testBit j = true ↔ occ g 60 j) ∧ L_floor_b5 n s T p u = L_floor_b53 LF s T2 0 u := by
  have hA := hI.A
  unfold IvA at hA
  intro n
  induction n with
  | zero => intro p T h1 h2; omega
  | succ n ih =>
    intro p T h1 h2 hT hb
    rw [L_floor_b5_s]
    by_cases hp : p < 60
    · have hd : (((200 + p)) < 64 ∨ (100 ≤ ((200 + p)) ∧ ((200 + p)) < 164) ∨ (200 ≤ ((200 + p)) ∧ ((200 + p)) < 260)) := by omega
      have hS := hI.S (200 + p) (by omega)
      have hcl : u 36 0 p = cl u (200 + p) := by
        unfold cl
        rw [if_neg (by omega), if_neg (by omega), show 200 + p - 200 = p by omega]
      rw [if_pos (by omega), gd_t ⟨by omega, by omega⟩, show ((p : Nat) : Int).toNat = p from rfl, hcl]
      by_cases h4 : 0 < g 4 0 (200 + p)
      · have ok := hI.okp hd h4
        have hpb := pk_b ok
        have hF := hI.F p hp h4
        have hz := hL.2.2.2.2 _ hd h4
        obtain ⟨z, hzz⟩ : ∃ z : Nat, (z : Int) = g 4 0 (200 + p) := ⟨(g 4 0 (200 + p)).toNat, by omega⟩
        have e2 : (2 : Int) ^ z = ((2 ^ z : Nat) : Int) := by rw [Int.natCast_pow]; rfl
        have h12 : 2 ^ z ≤ 2 ^ 12 := Nat.pow_le_pow_right (by decide) (by omega)
        have h0 : 0 < 2 ^ z := Nat.two_pow_pos z
        have e1 : shlL 1 (z : Int) = ((2 ^ z : Nat) : Int) := by
          rw [shlL_e (x := 1) (by omega) (by rw [Int.one_mul, e2]; exact ⟨by omega, by omega⟩), Int.one_mul, e2]
        have e5 : (2 : Int) ^ p = ((2 ^ p : Nat) : Int) := by rw [Int.natCast_pow]; rfl
        have hpp : (2 ^ z - 1) * 2 ^ p < 2 ^ 60 := by
          have h1 : (2 ^ z - 1) * 2 ^ p < 2 ^ z * 2 ^ p := Nat.mul_lt_mul_of_pos_right (by omega) (Nat.two_pow_pos p)
          rw [← Nat.pow_add] at h1
          exact Nat.lt_of_lt_of_le h1 (Nat.pow_le_pow_right (by decide) (by omega))
        have e6 : (((2 ^ z : Nat) : Int) - 1) * (2 : Int) ^ p = (((2 ^ z - 1) * 2 ^ p : Nat) : Int) := by
          rw [e5, Int.natCast_mul]
          congr 1
          omega
        have e3 : shlL (((2 ^ z : Nat) : Int) - 1) p = (((2 ^ z - 1) * 2 ^ p : Nat) : Int) := by
          rw [shlL_e (by omega) (by rw [e6]; exact ⟨by omega, by omega⟩), e6]
        have e4 : orL T (((2 ^ z - 1) * 2 ^ p : Nat) : Int) = ((T ||| (2 ^ z - 1) * 2 ^ p : Nat) : Int) := orL_n (by omega) (by omega)
        rw [hL.cp hd h4, if_neg (fun q => by rw [cmp_e (pk_l ok) ⟨by decide, by decide⟩] at q; omega), thing_p ok, bd_t, gd_t ⟨(hS.2.2 h4).2.1, by have := (hS.2.2 h4).2.2; omega⟩, hz, ← hzz, e1, gd_t ⟨by omega, by omega⟩, gd_t ⟨by omega, by omega⟩, e3, e4]
        refine ih (p + 1) _ (by omega) (by omega) (Nat.or_lt_two_pow hT hpp) (fun j => ?_)
        rw [Nat.testBit_or, ← Nat.shiftLeft_eq, Nat.testBit_shiftLeft, Nat.testBit_two_pow_sub_one]
        constructor
        · intro h
          rcases Bool.or_eq_true _ _ ▸ h with h | h
          · obtain ⟨q, q1, q2, q3, q4⟩ := (hb j).mp h
            exact ⟨q, by omega, q2, q3, q4⟩
          · have h := Bool.and_eq_true _ _ ▸ h
            have ha := of_decide_eq_true h.1
            have hc := of_decide_eq_true h.2
            exact ⟨p, by omega, h4, ha, by omega⟩
        · rintro ⟨q, q1, q2, q3, q4⟩
          by_cases e : q = p
          · subst e
            rw [decide_eq_true (show j ≥ q from q3), decide_eq_true (show j - q < z by omega)]
            simp
          · rw [(hb j).mpr ⟨q, by omega, q2, q3, q4⟩]
            rfl
      · rw [hL.no hd h4, if_pos ((cmp_e ⟨by decide, by decide⟩ ⟨by decide, by decide⟩).mpr rfl), gd_t ⟨by omega, by omega⟩]
        have e0 : orL T 0 = (T : Int) := by
          have := orL_n (n := T) (m := 0) (by omega) (by decide)
          rw [Nat.or_zero] at this
          exact this
        rw [e0]
        refine ih (p + 1) T (by omega) (by omega) hT (fun j => (hb j).trans (Iff.intro ?_ ?_))
        · rintro ⟨q, q1, q2, q3⟩
          exact ⟨q, by omega, q2, q3⟩
        · rintro ⟨q, q1, q2, q3⟩
          refine ⟨q, ?_, q2, q3⟩
          by_cases e : q = p
          · subst e; exact absurd q2 h4
          · omega
    · have hp60 : p = 60 := by omega
      subst hp60
      exact ⟨T, hT, hb, by rw [if_neg (by decide)]⟩
theorem floor_L (hL : Lb g u) (hI : Iv B k ex g 0) {s : Int} (hs : 1 ≤ s ∧ s ≤ 12) : ∃ r : Int, X0_floorAddressFor 0 s g = some (r, g) ∧ L_floor s u = some (if r = 300 then -1 else r - 200, u) ∧ (r = 300 ∨ (200 ≤ r ∧ r + s ≤ 260 ∧ (∀ q : Nat, r - 200 ≤ q → (q : Int) < r - 200 + s → g 4 0 (200 + q) = 0) ∧ ∀ q : Nat, (q : Int) < r - 200 → 0 < g 4 0 (200 + q) → (q : Int) + g 4 0 (200 + q) ≤ r - 200)) := by
  obtain ⟨r, r1, r2⟩ := gap_C hI hs
  obtain ⟨s2, hs2⟩ : ∃ s2 : Nat, (s2 : Int) = s := ⟨s.toNat, by omega⟩
  subst hs2
  have h0 : ∀ j, (0 : Nat).testBit j = true ↔ occ g 0 j := fun j => Iff.intro (fun h => by rw [Nat.zero_testBit] at h; cases h) (fun h => by obtain ⟨q, q1, -⟩ := h; omega)
  obtain ⟨T2, t1, t2, t3⟩ := bits_l hL hI (s := (s2 : Int)) LF 0 0 (by omega) (by rw [show LF = 10000 from rfl]; omega) (by decide) h0
  refine ⟨r, r1, ?_, r2.imp (fun q => q.1) (fun q => ⟨q.1, q.2.1, q.2.2.1, q.2.2.2.1⟩)⟩
  have := look_l (u := u) t1 (s := s2) (by omega) t2 r2 LF 0 (by omega) (by rw [show LF = 10000 from rfl]; omega) (fun h => by
    rcases r2 with q | q
    · exact absurd q.1 h
    · omega)
  unfold L_floor
  exact t3.trans this
end RML
