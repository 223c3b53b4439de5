/-! PURE: the model's leaves -/
section LEAF8
variable {v : Wd} {x y z : Int}
theorem in8_e : X8_in x y z v = some (if y ≤ x ∧ x ≤ z then 1 else 0, v) := by
  unfold X8_in
  by_cases h1 : x < y
  · rw [if_pos h1, if_neg (by omega)]
  · by_cases h2 : z < x
    · rw [if_neg h1, if_pos h2, if_neg (by omega)]
    · rw [if_neg h1, if_neg h2, if_pos (by omega)]
theorem isHook8_e : X8_isHook x v = some (if 0 ≤ x ∧ x < 8 then 1 else 0, v) := by
  unfold X8_isHook
  by_cases h : 0 ≤ x ∧ x < 8
  · rw [in8_e, if_pos (by omega), bd_t, gd_t (Or.inr rfl), if_pos h]
  · rw [in8_e, if_neg (by omega), bd_t, gd_t (Or.inl rfl), if_neg h]
theorem isThing8_e : X8_isThing x v = some (if 0 ≤ x ∧ x < v 22 0 0 then 1 else 0, v) := by
  unfold X8_isThing
  by_cases h1 : x < 0
  · rw [if_pos h1, if_neg (by omega)]
  · by_cases h2 : x < v 22 0 0
    · rw [if_neg h1, if_pos h2, if_pos (by omega)]
    · rw [if_neg h1, if_neg h2, if_neg (by omega)]
theorem isAddress8_e : X8_isAddress x v = some (if 0 ≤ x ∧ (x < 64 ∨ (100 ≤ x ∧ x < 164) ∨ (200 ≤ x ∧ x < 260)) then 1 else 0, v) := by
  have h21 : 0 ≤ x → X8_isAddress_b21 x v = some (if 200 ≤ x ∧ x < 260 then 1 else 0, v) := by
    intro h0
    unfold X8_isAddress_b21
    rw [gd_t h0]
    by_cases h1 : x / 100 = 2
    · rw [if_pos h1]
      by_cases h2 : x % 100 < 60
      · rw [if_pos h2, if_pos (by omega)]
      · rw [if_neg h2, if_neg (by omega)]
    · rw [if_neg h1, if_neg (by omega)]
  unfold X8_isAddress
  by_cases h1 : x < 0
  · rw [if_pos h1, if_neg (by omega)]
  · rw [if_neg h1, gd_t (by omega)]
    by_cases h2 : x / 100 < 2
    · rw [if_pos h2]
      by_cases h3 : x % 100 < 64
      · rw [if_pos h3, if_pos (by omega)]
      · rw [if_neg h3, h21 (by omega), if_neg (by omega), if_neg (by omega)]
    · rw [if_neg h2, h21 (by omega)]
      by_cases h4 : 200 ≤ x ∧ x < 260
      · rw [if_pos h4, if_pos (by omega)]
      · rw [if_neg h4, if_neg (by omega)]
theorem cell8_e (h : 0 ≤ x ∧ x ≤ 1000) : X8_cell x v = some ((64 * (x / 100) + x % 100), v) := by
  unfold X8_cell
  simp (disch := omega) only [gd_t]
theorem address8_e (h : 0 ≤ x ∧ x ≤ 1000) : X8_address x v = some (100 * (x / 64) + x % 64, v) := by
  unfold X8_address
  simp (disch := omega) only [gd_t]
theorem ofCopy8_e (h : 0 ≤ x ∧ x < 188) (hy : 0 ≤ y ∧ y ≤ 4) : X8_ofCopy x y v = some (v 22 0 (185 + 5 * x.toNat + y.toNat), v) := by
  unfold X8_ofCopy
  simp (disch := omega) only [gd_t]
  rw [show (185 + 5 * x + y).toNat = 185 + 5 * x.toNat + y.toNat by omega]
theorem isCopy8_e (h : 0 ≤ x ∧ x < 188) : X8_isCopy x v = some (if 0 < v 22 0 (185 + 5 * x.toNat) then 1 else 0, v) := by
  unfold X8_isCopy
  rw [ofCopy8_e h (by omega), bd_t]
  simp only [show (0 : Int).toNat = 0 from rfl, Nat.add_zero]
  by_cases h2 : 0 < v 22 0 (185 + 5 * x.toNat)
  · rw [if_pos h2, if_pos h2]
  · rw [if_neg h2, if_neg h2]
theorem sizeAt8_e (h : 0 ≤ x ∧ x < 188) (hb : v 22 0 (185 + 5 * x.toNat) ≤ 40) : X8_sizeAt x v = some (if 0 < v 22 0 (185 + 5 * x.toNat) then v 22 0 (16 + (v 22 0 (185 + 5 * x.toNat)).toNat) else 0, v) := by
  unfold X8_sizeAt
  rw [isCopy8_e h, bd_t]
  by_cases h2 : 0 < v 22 0 (185 + 5 * x.toNat)
  · rw [if_pos h2, if_neg (by decide), ofCopy8_e h (by omega), bd_t, if_pos h2]
    simp only [show (0 : Int).toNat = 0 from rfl, Nat.add_zero]
    simp (disch := omega) only [gd_t]
    rw [show (17 + v 22 0 (185 + 5 * x.toNat) - 1).toNat = 16 + (v 22 0 (185 + 5 * x.toNat)).toNat by omega]
  · rw [if_neg h2, if_pos rfl, if_neg h2]
theorem isMoving8_e : X8_isMoving v = some (if v 22 0 2 = 1 then 1 else 0, v) := by
  unfold X8_isMoving
  by_cases h : v 22 0 2 = 1
  · rw [if_pos h, if_pos h]
  · rw [if_neg h, if_neg h]
theorem old8_e (h : v 22 0 3 = 0 ∨ v 22 0 3 = 1) : X8_old v = some (1 - v 22 0 3, v) := by
  unfold X8_old
  simp (disch := omega) only [gd_t]
theorem free8_e (h : x = 0 ∨ x = 1) (hb : 0 ≤ v 22 0 (4 + x.toNat) ∧ v 22 0 (4 + x.toNat) ≤ 64) : X8_free x v = some (64 - v 22 0 (4 + x.toNat), v) := by
  unfold X8_free
  rw [show (4 + x).toNat = 4 + x.toNat by omega]
  simp (disch := omega) only [gd_t]
def lays8 (v : Wd) (c : Nat) (th n0 n1 mk : Int) : Wd := up (up (up (up (up v 22 0 (185 + 5 * c) (th + 1)) 22 0 (185 + 5 * c + 1) n0) 22 0 (185 + 5 * c + 2) n1) 22 0 (185 + 5 * c + 3) (-9)) 22 0 (185 + 5 * c + 4) mk
theorem lays8_e {th n0 n1 mk : Int} (h : 0 ≤ x ∧ x < 188) (ht : 0 ≤ th ∧ th ≤ 100) : X8_lays x th n0 n1 mk v = some (0, lays8 v x.toNat th n0 n1 mk) := by
  unfold X8_lays lays8
  simp (disch := omega) only [gd_t]
  rw [show (185 + 5 * x + 0).toNat = 185 + 5 * x.toNat by omega, show (185 + 5 * x + 1).toNat = 185 + 5 * x.toNat + 1 by omega, show (185 + 5 * x + 1 + 1).toNat = 185 + 5 * x.toNat + 2 by omega, show (185 + 5 * x + 3).toNat = 185 + 5 * x.toNat + 3 by omega, show (185 + 5 * x + 4).toNat = 185 + 5 * x.toNat + 4 by omega]
def joins8 (v : Wd) (c : Int) : Wd := up (up v 22 0 (57 + (v 22 0 8).toNat) c) 22 0 8 (v 22 0 8 + 1)
theorem joins8_e (h : 0 ≤ v 22 0 8 ∧ v 22 0 8 < 128) : X8_joins x v = some (0, joins8 v x) := by
  unfold X8_joins joins8
  rw [show (57 + v 22 0 8).toNat = 57 + (v 22 0 8).toNat by omega]
  have e : (up v 22 0 (57 + (v 22 0 8).toNat) x) 22 0 8 = v 22 0 8 := up_n (by omega)
  simp only [e]
  simp (disch := omega) only [gd_t]
def lih8 (v : Wd) (th n0 n1 : Int) : Wd := up (lays8 v (64 * v 22 0 3 + v 22 0 (4 + (v 22 0 3).toNat)).toNat th n0 n1 0) 22 0 (4 + (v 22 0 3).toNat) (v 22 0 (4 + (v 22 0 3).toNat) + v 22 0 (17 + th.toNat))
theorem lih8_e {th n0 n1 : Int} (hh : v 22 0 3 = 0 ∨ v 22 0 3 = 1) (hb : 0 ≤ v 22 0 (4 + (v 22 0 3).toNat) ∧ v 22 0 (4 + (v 22 0 3).toNat) < 64) (ht : 0 ≤ th ∧ th < 40) (hs : 0 ≤ v 22 0 (17 + th.toNat) ∧ v 22 0 (17 + th.toNat) ≤ 12) : X8_laysInHalf th n0 n1 v = some (64 * v 22 0 3 + v 22 0 (4 + (v 22 0 3).toNat), lih8 v th n0 n1) := by
  unfold X8_laysInHalf lih8
  rw [show (4 + v 22 0 3).toNat = 4 + (v 22 0 3).toNat by omega, show (17 + th).toNat = 17 + th.toNat by omega]
  simp (disch := omega) only [gd_t, lays8_e, bd_t]
  have e3 : (lays8 v (64 * v 22 0 3 + v 22 0 (4 + (v 22 0 3).toNat)).toNat th n0 n1 0) 22 0 3 = v 22 0 3 := by unfold lays8; simp (disch := omega) only [up_n]
  rw [e3, show (4 + v 22 0 3).toNat = 4 + (v 22 0 3).toNat by omega]
  have e4 : (lays8 v (64 * v 22 0 3 + v 22 0 (4 + (v 22 0 3).toNat)).toNat th n0 n1 0) 22 0 (4 + (v 22 0 3).toNat) = v 22 0 (4 + (v 22 0 3).toNat) := by unfold lays8; simp (disch := omega) only [up_n]
  have e5 : (lays8 v (64 * v 22 0 3 + v 22 0 (4 + (v 22 0 3).toNat)).toNat th n0 n1 0) 22 0 (17 + th.toNat) = v 22 0 (17 + th.toNat) := by unfold lays8; simp (disch := omega) only [up_n]
  simp only [e4, e5]
  simp (disch := omega) only [gd_t]
end LEAF8
