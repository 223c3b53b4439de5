/-! PURE: how the printed functions are evaluated -/
theorem gd_t {α : Type} {c : Prop} [Decidable c] {k : Option α} (h : c) : gd c k = k := if_pos h
theorem bd_t (r : Int) (w : Wd) (k : Int → Wd → Option (Int × Wd)) : bd (some (r, w)) k = k r w := rfl
theorem if_t {α : Type} {c : Prop} [Decidable c] {a b : α} (h : c) : (if c then a else b) = a := if_pos h
theorem if_f {α : Type} {c : Prop} [Decidable c] {a b : α} (h : ¬ c) : (if c then a else b) = b := if_neg h
theorem up_h {w : Wd} {c t i j : Nat} {z : Int} (h : j = i) : up w c t i z c t j = z := by simp [up, h]
theorem up_n {w : Wd} {c t i j : Nat} {z : Int} (h : j ≠ i) : up w c t i z c t j = w c t j := by simp [up, h]
theorem up_c {w : Wd} {c t i c' t' j : Nat} {z : Int} (h : c' ≠ c) : up w c t i z c' t' j = w c' t' j := by simp [up, h]
theorem up_t {w : Wd} {c t i c' t' j : Nat} {z : Int} (h : t' ≠ t) : up w c t i z c' t' j = w c' t' j := by simp [up, h]
theorem up_self {w : Wd} {c t i : Nat} : up w c t i (w c t i) = w := by
  funext c' t' j
  unfold up
  split
  · rename_i h
    obtain ⟨rfl, rfl, rfl⟩ := h
    rfl
  · rfl
theorem ite_b {α : Type} {P : Prop} [Decidable P] {a b : α} : (if (if P then (1 : Int) else 0) = 0 then a else b) = if P then b else a := by
  by_cases h : P <;> simp [h]
/-- a sum -/
def sm (f : Nat → Int) : Nat → Int
  | 0 => 0
  | n + 1 => sm f n + f n
theorem sm_congr {f g : Nat → Int} : ∀ n : Nat, (∀ i, i < n → f i = g i) → sm f n = sm g n
  | 0, _ => rfl
  | n + 1, h => by
    show sm f n + f n = sm g n + g n
    rw [sm_congr n (fun i hi => h i (by omega)), h n (by omega)]
theorem sm_nonneg {f : Nat → Int} : ∀ n : Nat, (∀ i, i < n → 0 ≤ f i) → 0 ≤ sm f n
  | 0, _ => by simp [sm]
  | n + 1, h => by
    have h1 := sm_nonneg n (fun i hi => h i (by omega))
    have h2 := h n (by omega)
    show 0 ≤ sm f n + f n
    omega
theorem sm_le {f : Nat → Int} {b : Int} : ∀ n : Nat, (∀ i, i < n → f i ≤ b) → sm f n ≤ b * n
  | 0, _ => by simp [sm]
  | n + 1, h => by
    have h1 := sm_le n (fun i hi => h i (by omega))
    have h2 := h n (by omega)
    have h3 : b * ((n + 1 : Nat) : Int) = b * n + b := by rw [Int.natCast_add, Int.mul_add]; simp
    show sm f n + f n ≤ _
    omega
theorem sm_mono {f g : Nat → Int} : ∀ n : Nat, (∀ i, i < n → f i ≤ g i) → sm f n ≤ sm g n
  | 0, _ => by simp [sm]
  | n + 1, h => by
    have h1 := sm_mono n (fun i hi => h i (by omega))
    have h2 := h n (by omega)
    show sm f n + f n ≤ sm g n + g n
    omega
/-- a sum with one place changed -/
theorem sm_chg {f g : Nat → Int} {k : Nat} : ∀ n : Nat, k < n → (∀ i, i < n → i ≠ k → f i = g i) → sm f n = sm g n - g k + f k
  | 0, hk, _ => by omega
  | n + 1, hk, h => by
    show sm f n + f n = sm g n + g n - g k + f k
    by_cases hkn : k = n
    · subst hkn
      rw [sm_congr k (fun i hi => h i (by omega) (by omega))]
      omega
    · rw [sm_chg n (by omega) (fun i hi hne => h i (by omega) hne), h n (by omega) (fun e => hkn e.symm)]
      omega
theorem sm_ge {f : Nat → Int} {k : Nat} (n : Nat) (hk : k < n) (h : ∀ i, i < n → 0 ≤ f i) : f k ≤ sm f n := by
  have h1 := sm_chg (f := fun i => if i = k then 0 else f i) (g := f) n hk (fun i _ hne => by simp [hne])
  have h2 : 0 ≤ sm (fun i => if i = k then 0 else f i) n := sm_nonneg n (fun i hi => by
    by_cases e : i = k
    · simp [e]
    · simp [e]; exact h i hi)
  simp only [if_true] at h1
  omega
theorem sm_zero {f : Nat → Int} (n : Nat) (h : ∀ i, i < n → f i = 0) : sm f n = 0 := by
  rw [sm_congr (g := fun _ => 0) n h]
  induction n with
  | zero => rfl
  | succ n ih => show sm _ n + 0 = 0; rw [ih (fun i hi => h i (by omega))]; rfl
theorem sm_add {f : Nat → Int} (n : Nat) : ∀ m : Nat, sm f (n + m) = sm f n + sm (fun i => f (n + i)) m
  | 0 => by simp [sm]
  | m + 1 => by
    show sm f (n + m) + f (n + m) = sm f n + (sm (fun i => f (n + i)) m + f (n + m))
    rw [sm_add n m]
    omega
/-! leaves of the class -/
theorem xor_nn {x y : Int} (hx : 0 ≤ x ∧ x ≤ 2147483647) (hy : 0 ≤ y ∧ y ≤ 2147483647) : 0 ≤ xorI x y := by
  unfold xorI
  have h1 : (Int32.ofInt x).toInt = x := o_toInt ⟨by omega, by omega⟩
  have h2 : (Int32.ofInt y).toInt = y := o_toInt ⟨by omega, by omega⟩
  have m1 : (Int32.ofInt x).toBitVec.msb = false := by
    rw [BitVec.msb_eq_toInt]
    simp only [decide_eq_false_iff_not]
    show ¬ (Int32.ofInt x).toInt < 0
    omega
  have m2 : (Int32.ofInt y).toBitVec.msb = false := by
    rw [BitVec.msb_eq_toInt]
    simp only [decide_eq_false_iff_not]
    show ¬ (Int32.ofInt y).toInt < 0
    omega
  have m3 : (Int32.ofInt x ^^^ Int32.ofInt y).toBitVec.msb = false := by
    rw [Int32.toBitVec_xor, BitVec.msb_xor, m1, m2]
    rfl
  rw [BitVec.msb_eq_toInt] at m3
  simp only [decide_eq_false_iff_not] at m3
  have m4 : ¬ (Int32.ofInt x ^^^ Int32.ofInt y).toInt < 0 := m3
  omega
theorem floorMod_e {x y : Int} {w : Wd} (hx : 0 ≤ x ∧ x ≤ 2147483647) (hy : 0 < y ∧ y ≤ 2147483647) : J9_floorMod_7cf53 x y w = some (x % y, w) := by
  have h := xor_nn hx ⟨by omega, hy.2⟩
  unfold J9_floorMod_7cf53
  rw [gd_t ⟨hx.1, hy.1⟩, if_neg (by omega)]
section LEAF
variable {w : Wd} {t : Nat} {x y : Int}
theorem isHook_e : X7_isHook x w = some (if 0 ≤ x ∧ x < 8 then 1 else 0, w) := by
  unfold X7_isHook
  by_cases h1 : x < 0
  · rw [if_pos h1, if_neg (by omega)]
  · by_cases h2 : x < 8
    · rw [if_neg h1, if_pos h2, if_pos (by omega)]
    · rw [if_neg h1, if_neg h2, if_neg (by omega)]
theorem isName_e : X7_isName x w = some (if 0 ≤ x ∧ x < 2 then 1 else 0, w) := by
  unfold X7_isName
  by_cases h1 : x < 0
  · rw [if_pos h1, if_neg (by omega)]
  · by_cases h2 : x < 2
    · rw [if_neg h1, if_pos h2, if_pos (by omega)]
    · rw [if_neg h1, if_neg h2, if_neg (by omega)]
theorem isAt_e : X0_isAt t x w = some (if 0 ≤ x ∧ x < 260 ∧ 0 < w 4 t x.toNat then 1 else 0, w) := by
  unfold X0_isAt
  by_cases h1 : x < 0
  · rw [if_pos h1, if_neg (by omega)]
  · by_cases h2 : x < 260
    · rw [if_neg h1, if_pos h2, gd_t ⟨by omega, h2⟩]
      by_cases h3 : 0 < w 4 t x.toNat
      · rw [if_pos h3, if_pos ⟨by omega, h2, h3⟩]
      · rw [if_neg h3, if_neg (by omega)]
    · rw [if_neg h1, if_neg h2, if_neg (by omega)]
theorem isAt_1 (h : 0 ≤ x ∧ x < 260) (hp : 0 < w 4 t x.toNat) : X0_isAt t x w = some (1, w) := by rw [isAt_e, if_pos ⟨h.1, h.2, hp⟩]
theorem isAt_0 (hp : ¬ (0 ≤ x ∧ x < 260 ∧ 0 < w 4 t x.toNat)) : X0_isAt t x w = some (0, w) := by rw [isAt_e, if_neg hp]
theorem sizeAt_e (h : 0 ≤ x ∧ x < 260) (hp : 0 ≤ w 4 t x.toNat) : X0_sizeAt t x w = some (w 4 t x.toNat, w) := by
  unfold X0_sizeAt
  by_cases h3 : 0 < w 4 t x.toNat
  · rw [isAt_1 h h3, bd_t, if_neg (by decide), gd_t h]
  · rw [isAt_0 (by omega), bd_t, if_pos rfl, show w 4 t x.toNat = 0 by omega]
theorem noteAt_1 (h : 0 ≤ x ∧ x < 260) (hp : 0 < w 4 t x.toNat) : X0_noteAt t x w = some (w 5 t x.toNat, w) := by
  unfold X0_noteAt
  rw [isAt_1 h hp, bd_t, if_neg (by decide), gd_t h]
theorem noteAt_0 (hp : ¬ (0 ≤ x ∧ x < 260 ∧ 0 < w 4 t x.toNat)) : X0_noteAt t x w = some (300, w) := by
  unfold X0_noteAt
  rw [isAt_0 hp, bd_t, if_pos rfl]
theorem thingAt_1 (h : 0 ≤ x ∧ x < 260) (hp : 0 < w 4 t x.toNat) : X0_thingAt t x w = some (w 3 t x.toNat, w) := by
  unfold X0_thingAt
  rw [isAt_1 h hp, bd_t, if_neg (by decide), gd_t h]
theorem isMarked_1 (h : 0 ≤ x ∧ x < 260) (hp : 0 < w 4 t x.toNat) : X0_isMarked t x w = some (if w 6 t x.toNat = 1 then 1 else 0, w) := by
  unfold X0_isMarked
  rw [isAt_1 h hp, bd_t, if_neg (by decide), gd_t h]
  by_cases hm : w 6 t x.toNat = 1
  · rw [if_pos hm, if_pos hm]
  · rw [if_neg hm, if_neg hm]
theorem nameAt_1 (h : 0 ≤ x ∧ x < 260) (hp : 0 < w 4 t x.toNat) (hy : y = 0 ∨ y = 1) : X0_nameAt t x y w = some (w 7 t (2 * x.toNat + y.toNat), w) := by
  unfold X0_nameAt
  rw [isAt_1 h hp, bd_t, if_neg (by decide), isName_e, if_pos (by omega), bd_t, if_neg (by decide), gd_t ⟨by omega, by omega⟩, gd_t ⟨by omega, by omega⟩, gd_t (by omega)]
  rw [show (x * 2 + y).toNat = 2 * x.toNat + y.toNat by omega]
theorem isOf_e (h : 0 ≤ y ∧ y < 260) : X0_isOf t x y w = some (if 0 < w 4 t y.toNat ∧ w 3 t y.toNat = x then 1 else 0, w) := by
  unfold X0_isOf
  by_cases hp : 0 < w 4 t y.toNat
  · rw [isAt_1 h hp, bd_t, if_neg (by decide), gd_t h]
    by_cases he : w 3 t y.toNat = x
    · rw [if_pos he, if_pos ⟨hp, he⟩]
    · rw [if_neg he, if_neg (by omega)]
  · rw [isAt_0 (by omega), bd_t, if_pos rfl, if_neg (by omega)]
theorem free_e (h : 0 ≤ w 0 t 4 ∧ w 0 t 4 ≤ 64) : X5_freeInHalf t w = some (64 - w 0 t 4, w) := by
  unfold X5_freeInHalf
  rw [gd_t ⟨by omega, by omega⟩]
theorem aoh_e (h : x = 0 ∨ x = 1) : X5_addressOfHalf t x w = some (100 * x, w) := by
  unfold X5_addressOfHalf
  rw [gd_t ⟨by omega, by omega⟩, show x * 100 = 100 * x by omega]
theorem isOld_e (hh : w 0 t 3 = 0 ∨ w 0 t 3 = 1) (hm : w 0 t 2 = 0 ∨ w 0 t 2 = 1) (hx : -1000 ≤ x ∧ x ≤ 1000) : X5_isInOldHalf t x w = some (if w 0 t 2 = 1 ∧ (100 * (1 - w 0 t 3) ≤ x ∧ x < 100 * (1 - w 0 t 3) + 64) then 1 else 0, w) := by
  unfold X5_isInOldHalf
  rw [gd_t ⟨by omega, by omega⟩, aoh_e (by omega), bd_t, gd_t ⟨by omega, by omega⟩]
  by_cases h0 : w 0 t 2 = 0
  · rw [if_pos h0, if_neg (by omega)]
  · rw [if_neg h0]
    by_cases h1 : x - 100 * (1 - w 0 t 3) < 0
    · rw [if_pos h1, if_neg (by omega)]
    · rw [if_neg h1]
      by_cases h2 : x - 100 * (1 - w 0 t 3) < 64
      · rw [if_pos h2, if_pos (by omega)]
      · rw [if_neg h2, if_neg (by omega)]
theorem mark_e (h : 0 ≤ x ∧ x < 260) (hp : 0 < w 4 t x.toNat) : X0_mark t x w = if w 6 t x.toNat = 1 then some (0, w) else some (1, up w 6 t x.toNat 1) := by
  unfold X0_mark
  rw [isAt_1 h hp, bd_t, if_neg (by decide), gd_t h]
theorem mark_0 (hp : ¬ (0 ≤ x ∧ x < 260 ∧ 0 < w 4 t x.toNat)) : X0_mark t x w = some (0, w) := by
  unfold X0_mark
  rw [isAt_0 hp, bd_t, if_pos rfl]
theorem join_e (h : 0 ≤ w 8 t 1 ∧ w 8 t 1 < 124) : X3_join t x w = some (0, up (up w 9 t (w 8 t 1).toNat x) 8 t 1 (w 8 t 1 + 1)) := by
  unfold X3_join
  rw [if_neg (by omega), if_pos h.2, gd_t h]
  simp only [up_c (show (8 : Nat) ≠ 9 by decide)]
  rw [gd_t ⟨by omega, by omega⟩]
end LEAF
