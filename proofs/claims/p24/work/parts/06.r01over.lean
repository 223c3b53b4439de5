/-! PURE: the class in a world whose other rows are others -/
def ov (w d : Wd) : Wd := fun c t i => if c < 30 then w c t i else d c t i
def om (d : Wd) (x : Option (Int × Wd)) : Option (Int × Wd) := bd x fun r w => some (r, ov w d)
section OV
variable {w d : Wd}
theorem ov_rd {c t i : Nat} (h : c < 30) : ov w d c t i = w c t i := if_pos h
theorem up_ov {c t i : Nat} {z : Int} (h : c < 30) : up (ov w d) c t i z = ov (up w c t i z) d := by
  funext c1 t1 i1
  show (if c1 = c ∧ t1 = t ∧ i1 = i then z else (if c1 < 30 then w c1 t1 i1 else d c1 t1 i1)) = if c1 < 30 then (if c1 = c ∧ t1 = t ∧ i1 = i then z else w c1 t1 i1) else d c1 t1 i1
  by_cases h1 : c1 = c ∧ t1 = t ∧ i1 = i
  · rw [if_pos h1, if_pos (show c1 < 30 by omega), if_pos h1]
  · rw [if_neg h1, if_neg h1]
theorem cpy_ov {c0 t0 c1 t1 n : Nat} (h0 : c0 < 30) (h1 : c1 < 30) : cpy (ov w d) c0 t0 c1 t1 n = ov (cpy w c0 t0 c1 t1 n) d := by
  funext c t i
  show (if c = c1 ∧ t = t1 ∧ i < n then (if c0 < 30 then w c0 t0 i else d c0 t0 i) else (if c < 30 then w c t i else d c t i)) = if c < 30 then (if c = c1 ∧ t = t1 ∧ i < n then w c0 t0 i else w c t i) else d c t i
  by_cases h : c = c1 ∧ t = t1 ∧ i < n
  · rw [if_pos h, if_pos h0, if_pos (show c < 30 by omega), if_pos h]
  · rw [if_neg h, if_neg h]
theorem om_some {r : Int} : om d (some (r, w)) = some (r, ov w d) := rfl
theorem om_none : om d none = none := rfl
theorem om_gd {c : Prop} [Decidable c] {k : Option (Int × Wd)} : om d (gd c k) = gd c (om d k) := by
  unfold gd
  split <;> rfl
theorem om_if {c : Prop} [Decidable c] {a b : Option (Int × Wd)} : om d (if c then a else b) = if c then om d a else om d b := by
  split <;> rfl
theorem om_bd {x : Option (Int × Wd)} {k : Int → Wd → Option (Int × Wd)} : om d (bd x k) = bd x fun r w => om d (k r w) := by
  unfold om
  cases x with
  | none => rfl
  | some p => rfl
theorem bd_om {x : Option (Int × Wd)} {k : Int → Wd → Option (Int × Wd)} : bd (om d x) k = bd x fun r w => k r (ov w d) := by
  unfold om
  cases x with
  | none => rfl
  | some p => rfl
theorem om_J9_floorMod_7cf53  (x0 : Int) (x1 : Int) (w d : Wd) : J9_floorMod_7cf53 x0 x1 (ov w d) = om d (J9_floorMod_7cf53 x0 x1 w) := by
  unfold J9_floorMod_7cf53
  simp (maxSteps := 2000000) (disch := first | decide | assumption) only [ov_rd, up_ov, cpy_ov, om_some, om_none, om_gd, om_if, om_bd, bd_om]
theorem om_X2_slotOfDraft   (w d : Wd) : X2_slotOfDraft  (ov w d) = om d (X2_slotOfDraft  w) := by
  unfold X2_slotOfDraft
  simp (maxSteps := 2000000) (disch := first | decide | assumption) only [ov_rd, up_ov, cpy_ov, om_some, om_none, om_gd, om_if, om_bd, bd_om, om_J9_floorMod_7cf53]
theorem om_X0_become  (t : Nat) (t1 : Nat) (w d : Wd) : X0_become t t1 (ov w d) = om d (X0_become t t1 w) := by
  unfold X0_become
  simp (maxSteps := 2000000) (disch := first | decide | assumption) only [ov_rd, up_ov, cpy_ov, om_some, om_none, om_gd, om_if, om_bd, bd_om]
theorem om_X3_become  (t : Nat) (t1 : Nat) (w d : Wd) : X3_become t t1 (ov w d) = om d (X3_become t t1 w) := by
  unfold X3_become
  simp (maxSteps := 2000000) (disch := first | decide | assumption) only [ov_rd, up_ov, cpy_ov, om_some, om_none, om_gd, om_if, om_bd, bd_om]
theorem om_X5_become  (t : Nat) (t1 : Nat) (w d : Wd) : X5_become t t1 (ov w d) = om d (X5_become t t1 w) := by
  unfold X5_become
  simp (maxSteps := 2000000) (disch := first | decide | assumption) only [ov_rd, up_ov, cpy_ov, om_some, om_none, om_gd, om_if, om_bd, bd_om, om_X0_become, om_X3_become]
theorem om_X2_draft  (t1 : Nat) (w d : Wd) : X2_draft t1 (ov w d) = om d (X2_draft t1 w) := by
  unfold X2_draft
  simp (maxSteps := 2000000) (disch := first | decide | assumption) only [ov_rd, up_ov, cpy_ov, om_some, om_none, om_gd, om_if, om_bd, bd_om, om_X2_slotOfDraft, om_X5_become]
theorem om_X5_changeBound  (t : Nat) (x1 : Int) (w d : Wd) : X5_changeBound t x1 (ov w d) = om d (X5_changeBound t x1 w) := by
  unfold X5_changeBound
  simp (maxSteps := 2000000) (disch := first | decide | assumption) only [ov_rd, up_ov, cpy_ov, om_some, om_none, om_gd, om_if, om_bd, bd_om]
theorem om_X2_keepDraft   (w d : Wd) : X2_keepDraft  (ov w d) = om d (X2_keepDraft  w) := by
  unfold X2_keepDraft
  simp (maxSteps := 2000000) (disch := first | decide | assumption) only [ov_rd, up_ov, cpy_ov, om_some, om_none, om_gd, om_if, om_bd, bd_om, om_J9_floorMod_7cf53]
theorem om_X7_recorded  (x1 : Int) (w d : Wd) : X7_recorded x1 (ov w d) = om d (X7_recorded x1 w) := by
  unfold X7_recorded
  simp (maxSteps := 2000000) (disch := first | decide | assumption) only [ov_rd, up_ov, cpy_ov, om_some, om_none, om_gd, om_if, om_bd, bd_om, om_X2_keepDraft]
theorem om_X7_setHeavy  (x1 : Int) (w d : Wd) : X7_setHeavy x1 (ov w d) = om d (X7_setHeavy x1 w) := by
  unfold X7_setHeavy
  simp (maxSteps := 2000000) (disch := first | decide | assumption) only [ov_rd, up_ov, cpy_ov, om_some, om_none, om_gd, om_if, om_bd, bd_om, om_X2_draft, om_X5_changeBound, om_X7_recorded]
theorem om_X7_isHook  (x0 : Int) (w d : Wd) : X7_isHook x0 (ov w d) = om d (X7_isHook x0 w) := by
  unfold X7_isHook
  simp (maxSteps := 2000000) (disch := first | decide | assumption) only [ov_rd, up_ov, cpy_ov, om_some, om_none, om_gd, om_if, om_bd, bd_om]
theorem om_X0_isAt  (t : Nat) (x1 : Int) (w d : Wd) : X0_isAt t x1 (ov w d) = om d (X0_isAt t x1 w) := by
  unfold X0_isAt
  simp (maxSteps := 2000000) (disch := first | decide | assumption) only [ov_rd, up_ov, cpy_ov, om_some, om_none, om_gd, om_if, om_bd, bd_om]
theorem om_X0_sizeAt  (t : Nat) (x1 : Int) (w d : Wd) : X0_sizeAt t x1 (ov w d) = om d (X0_sizeAt t x1 w) := by
  unfold X0_sizeAt
  simp (maxSteps := 2000000) (disch := first | decide | assumption) only [ov_rd, up_ov, cpy_ov, om_some, om_none, om_gd, om_if, om_bd, bd_om, om_X0_isAt]
theorem om_X0_floorAddressFor_b4 (t : Nat) : ∀ (n : Nat) (v0 : Int) (v1 : Int) (v2 : Int) (w d : Wd), X0_floorAddressFor_b4 t n v0 v1 v2 (ov w d) = om d (X0_floorAddressFor_b4 t n v0 v1 v2 w) := by
  intro n
  induction n with
  | zero => intros; rfl
  | succ n ih =>
    intro v0 v1 v2 w d
    simp (maxSteps := 2000000) (disch := first | decide | assumption) only [X0_floorAddressFor_b4_s, ih, ov_rd, up_ov, cpy_ov, om_some, om_none, om_gd, om_if, om_bd, bd_om, om_X0_sizeAt]
theorem om_X0_floorAddressFor  (t : Nat) (x1 : Int) (w d : Wd) : X0_floorAddressFor t x1 (ov w d) = om d (X0_floorAddressFor t x1 w) := by
  unfold X0_floorAddressFor
  simp (maxSteps := 2000000) (disch := first | decide | assumption) only [ov_rd, up_ov, cpy_ov, om_some, om_none, om_gd, om_if, om_bd, bd_om, om_X0_floorAddressFor_b4]
theorem om_X5_freeInHalf  (t : Nat) (w d : Wd) : X5_freeInHalf t (ov w d) = om d (X5_freeInHalf t w) := by
  unfold X5_freeInHalf
  simp (maxSteps := 2000000) (disch := first | decide | assumption) only [ov_rd, up_ov, cpy_ov, om_some, om_none, om_gd, om_if, om_bd, bd_om]
theorem om_X5_addressOfHalf  (t : Nat) (x1 : Int) (w d : Wd) : X5_addressOfHalf t x1 (ov w d) = om d (X5_addressOfHalf t x1 w) := by
  unfold X5_addressOfHalf
  simp (maxSteps := 2000000) (disch := first | decide | assumption) only [ov_rd, up_ov, cpy_ov, om_some, om_none, om_gd, om_if, om_bd, bd_om]
theorem om_X0_noteAt  (t : Nat) (x1 : Int) (w d : Wd) : X0_noteAt t x1 (ov w d) = om d (X0_noteAt t x1 w) := by
  unfold X0_noteAt
  simp (maxSteps := 2000000) (disch := first | decide | assumption) only [ov_rd, up_ov, cpy_ov, om_some, om_none, om_gd, om_if, om_bd, bd_om, om_X0_isAt]
theorem om_X5_roomKept_b15 (t : Nat) : ∀ (n : Nat) (v0 : Int) (v1 : Int) (v2 : Int) (w d : Wd), X5_roomKept_b15 t n v0 v1 v2 (ov w d) = om d (X5_roomKept_b15 t n v0 v1 v2 w) := by
  intro n
  induction n with
  | zero => intros; rfl
  | succ n ih =>
    intro v0 v1 v2 w d
    simp (maxSteps := 2000000) (disch := first | decide | assumption) only [X5_roomKept_b15_s, ih, ov_rd, up_ov, cpy_ov, om_some, om_none, om_gd, om_if, om_bd, bd_om, om_X0_noteAt, om_X0_sizeAt]
theorem om_X5_roomKept  (t : Nat) (w d : Wd) : X5_roomKept t (ov w d) = om d (X5_roomKept t w) := by
  unfold X5_roomKept
  simp (maxSteps := 2000000) (disch := first | decide | assumption) only [ov_rd, up_ov, cpy_ov, om_some, om_none, om_gd, om_if, om_bd, bd_om, om_X5_addressOfHalf, om_X5_roomKept_b15]
theorem om_X5_halfAddressFor  (t : Nat) (x1 : Int) (w d : Wd) : X5_halfAddressFor t x1 (ov w d) = om d (X5_halfAddressFor t x1 w) := by
  unfold X5_halfAddressFor
  simp (maxSteps := 2000000) (disch := first | decide | assumption) only [ov_rd, up_ov, cpy_ov, om_some, om_none, om_gd, om_if, om_bd, bd_om, om_X5_addressOfHalf, om_X5_freeInHalf, om_X5_roomKept]
theorem om_X0_lay  (t : Nat) (x1 : Int) (x2 : Int) (x3 : Int) (w d : Wd) : X0_lay t x1 x2 x3 (ov w d) = om d (X0_lay t x1 x2 x3 w) := by
  unfold X0_lay
  simp (maxSteps := 2000000) (disch := first | decide | assumption) only [ov_rd, up_ov, cpy_ov, om_some, om_none, om_gd, om_if, om_bd, bd_om]
theorem om_X0_mark  (t : Nat) (x1 : Int) (w d : Wd) : X0_mark t x1 (ov w d) = om d (X0_mark t x1 w) := by
  unfold X0_mark
  simp (maxSteps := 2000000) (disch := first | decide | assumption) only [ov_rd, up_ov, cpy_ov, om_some, om_none, om_gd, om_if, om_bd, bd_om, om_X0_isAt]
theorem om_X5_makeThing_b124  (t : Nat) (x2 : Int) (x4 : Int) (w d : Wd) : X5_makeThing_b124 t x2 x4 (ov w d) = om d (X5_makeThing_b124 t x2 x4 w) := by
  unfold X5_makeThing_b124
  simp (maxSteps := 2000000) (disch := first | decide | assumption) only [ov_rd, up_ov, cpy_ov, om_some, om_none, om_gd, om_if, om_bd, bd_om]
theorem om_X5_makeThing_b54  (t : Nat) (x1 : Int) (x2 : Int) (x3 : Int) (s0 : Int) (w d : Wd) : X5_makeThing_b54 t x1 x2 x3 s0 (ov w d) = om d (X5_makeThing_b54 t x1 x2 x3 s0 w) := by
  unfold X5_makeThing_b54
  simp (maxSteps := 2000000) (disch := first | decide | assumption) only [ov_rd, up_ov, cpy_ov, om_some, om_none, om_gd, om_if, om_bd, bd_om, om_X0_lay, om_X0_mark, om_X5_makeThing_b124]
theorem om_X5_makeThing_b33  (t : Nat) (x1 : Int) (x2 : Int) (s0 : Int) (w d : Wd) : X5_makeThing_b33 t x1 x2 s0 (ov w d) = om d (X5_makeThing_b33 t x1 x2 s0 w) := by
  unfold X5_makeThing_b33
  simp (maxSteps := 2000000) (disch := first | decide | assumption) only [ov_rd, up_ov, cpy_ov, om_some, om_none, om_gd, om_if, om_bd, bd_om, om_X0_floorAddressFor, om_X5_halfAddressFor, om_X5_makeThing_b54]
theorem om_X5_makeThing  (t : Nat) (x1 : Int) (x2 : Int) (w d : Wd) : X5_makeThing t x1 x2 (ov w d) = om d (X5_makeThing t x1 x2 w) := by
  unfold X5_makeThing
  simp (maxSteps := 2000000) (disch := first | decide | assumption) only [ov_rd, up_ov, cpy_ov, om_some, om_none, om_gd, om_if, om_bd, bd_om, om_X5_makeThing_b33, om_X7_isHook]
theorem om_X7_make  (x1 : Int) (x2 : Int) (w d : Wd) : X7_make x1 x2 (ov w d) = om d (X7_make x1 x2 w) := by
  unfold X7_make
  simp (maxSteps := 2000000) (disch := first | decide | assumption) only [ov_rd, up_ov, cpy_ov, om_some, om_none, om_gd, om_if, om_bd, bd_om, om_X2_draft, om_X5_makeThing, om_X7_recorded]
theorem om_X7_isName  (x0 : Int) (w d : Wd) : X7_isName x0 (ov w d) = om d (X7_isName x0 w) := by
  unfold X7_isName
  simp (maxSteps := 2000000) (disch := first | decide | assumption) only [ov_rd, up_ov, cpy_ov, om_some, om_none, om_gd, om_if, om_bd, bd_om]
theorem om_X5_isInOldHalf  (t : Nat) (x1 : Int) (w d : Wd) : X5_isInOldHalf t x1 (ov w d) = om d (X5_isInOldHalf t x1 w) := by
  unfold X5_isInOldHalf
  simp (maxSteps := 2000000) (disch := first | decide | assumption) only [ov_rd, up_ov, cpy_ov, om_some, om_none, om_gd, om_if, om_bd, bd_om, om_X5_addressOfHalf]
theorem om_X0_layAgain  (t : Nat) (x1 : Int) (x2 : Int) (w d : Wd) : X0_layAgain t x1 x2 (ov w d) = om d (X0_layAgain t x1 x2 w) := by
  unfold X0_layAgain
  simp (maxSteps := 2000000) (disch := first | decide | assumption) only [ov_rd, up_ov, cpy_ov, om_some, om_none, om_gd, om_if, om_bd, bd_om]
theorem om_X3_join  (t : Nat) (x1 : Int) (w d : Wd) : X3_join t x1 (ov w d) = om d (X3_join t x1 w) := by
  unfold X3_join
  simp (maxSteps := 2000000) (disch := first | decide | assumption) only [ov_rd, up_ov, cpy_ov, om_some, om_none, om_gd, om_if, om_bd, bd_om]
theorem om_X5_carryOver  (t : Nat) (x1 : Int) (x2 : Int) (w d : Wd) : X5_carryOver t x1 x2 (ov w d) = om d (X5_carryOver t x1 x2 w) := by
  unfold X5_carryOver
  simp (maxSteps := 2000000) (disch := first | decide | assumption) only [ov_rd, up_ov, cpy_ov, om_some, om_none, om_gd, om_if, om_bd, bd_om, om_X0_layAgain, om_X3_join, om_X5_addressOfHalf, om_X5_freeInHalf]
theorem om_X5_readIn_h  (t : Nat) (t1 : Nat) (x2 : Int) (w d : Wd) : X5_readIn_h t t1 x2 (ov w d) = om d (X5_readIn_h t t1 x2 w) := by
  unfold X5_readIn_h
  simp (maxSteps := 2000000) (disch := first | decide | assumption) only [ov_rd, up_ov, cpy_ov, om_some, om_none, om_gd, om_if, om_bd, bd_om, om_X0_mark, om_X0_noteAt, om_X0_sizeAt, om_X3_join, om_X5_carryOver, om_X5_isInOldHalf]
theorem om_X5_readIn_n  (t : Nat) (t1 : Nat) (x2 : Int) (w d : Wd) : X5_readIn_n t t1 x2 (ov w d) = om d (X5_readIn_n t t1 x2 w) := by
  unfold X5_readIn_n
  simp (maxSteps := 2000000) (disch := first | decide | assumption) only [ov_rd, up_ov, cpy_ov, om_some, om_none, om_gd, om_if, om_bd, bd_om, om_X0_mark, om_X0_noteAt, om_X0_sizeAt, om_X3_join, om_X5_carryOver, om_X5_isInOldHalf]
theorem om_X0_setName  (t : Nat) (x1 : Int) (x2 : Int) (x3 : Int) (w d : Wd) : X0_setName t x1 x2 x3 (ov w d) = om d (X0_setName t x1 x2 x3 w) := by
  unfold X0_setName
  simp (maxSteps := 2000000) (disch := first | decide | assumption) only [ov_rd, up_ov, cpy_ov, om_some, om_none, om_gd, om_if, om_bd, bd_om, om_X0_isAt, om_X7_isName]
theorem om_X5_linkHooks  (t : Nat) (x1 : Int) (x2 : Int) (x3 : Int) (w d : Wd) : X5_linkHooks t x1 x2 x3 (ov w d) = om d (X5_linkHooks t x1 x2 x3 w) := by
  unfold X5_linkHooks
  simp (maxSteps := 2000000) (disch := first | decide | assumption) only [ov_rd, up_ov, cpy_ov, om_some, om_none, om_gd, om_if, om_bd, bd_om, om_X0_setName, om_X5_readIn_h, om_X7_isHook, om_X7_isName]
theorem om_X7_link  (x1 : Int) (x2 : Int) (x3 : Int) (w d : Wd) : X7_link x1 x2 x3 (ov w d) = om d (X7_link x1 x2 x3 w) := by
  unfold X7_link
  simp (maxSteps := 2000000) (disch := first | decide | assumption) only [ov_rd, up_ov, cpy_ov, om_some, om_none, om_gd, om_if, om_bd, bd_om, om_X2_draft, om_X5_linkHooks, om_X7_recorded]
theorem om_X5_followName  (t : Nat) (x1 : Int) (x2 : Int) (x3 : Int) (w d : Wd) : X5_followName t x1 x2 x3 (ov w d) = om d (X5_followName t x1 x2 x3 w) := by
  unfold X5_followName
  simp (maxSteps := 2000000) (disch := first | decide | assumption) only [ov_rd, up_ov, cpy_ov, om_some, om_none, om_gd, om_if, om_bd, bd_om, om_X5_readIn_h, om_X5_readIn_n, om_X7_isHook, om_X7_isName]
theorem om_X7_follow  (x1 : Int) (x2 : Int) (x3 : Int) (w d : Wd) : X7_follow x1 x2 x3 (ov w d) = om d (X7_follow x1 x2 x3 w) := by
  unfold X7_follow
  simp (maxSteps := 2000000) (disch := first | decide | assumption) only [ov_rd, up_ov, cpy_ov, om_some, om_none, om_gd, om_if, om_bd, bd_om, om_X2_draft, om_X5_followName, om_X7_recorded]
theorem om_X5_dropHook  (t : Nat) (x1 : Int) (w d : Wd) : X5_dropHook t x1 (ov w d) = om d (X5_dropHook t x1 w) := by
  unfold X5_dropHook
  simp (maxSteps := 2000000) (disch := first | decide | assumption) only [ov_rd, up_ov, cpy_ov, om_some, om_none, om_gd, om_if, om_bd, bd_om, om_X7_isHook]
theorem om_X7_drop  (x1 : Int) (w d : Wd) : X7_drop x1 (ov w d) = om d (X7_drop x1 w) := by
  unfold X7_drop
  simp (maxSteps := 2000000) (disch := first | decide | assumption) only [ov_rd, up_ov, cpy_ov, om_some, om_none, om_gd, om_if, om_bd, bd_om, om_X2_draft, om_X5_dropHook, om_X7_recorded]
theorem om_X3_clear  (t : Nat) (w d : Wd) : X3_clear t (ov w d) = om d (X3_clear t w) := by
  unfold X3_clear
  simp (maxSteps := 2000000) (disch := first | decide | assumption) only [ov_rd, up_ov, cpy_ov, om_some, om_none, om_gd, om_if, om_bd, bd_om]
theorem om_X3_size  (t : Nat) (w d : Wd) : X3_size t (ov w d) = om d (X3_size t w) := by
  unfold X3_size
  simp (maxSteps := 2000000) (disch := first | decide | assumption) only [ov_rd, up_ov, cpy_ov, om_some, om_none, om_gd, om_if, om_bd, bd_om]
theorem om_X0_remove  (t : Nat) (x1 : Int) (w d : Wd) : X0_remove t x1 (ov w d) = om d (X0_remove t x1 w) := by
  unfold X0_remove
  simp (maxSteps := 2000000) (disch := first | decide | assumption) only [ov_rd, up_ov, cpy_ov, om_some, om_none, om_gd, om_if, om_bd, bd_om]
theorem om_X0_emptyHalf_b2 (t : Nat) : ∀ (n : Nat) (v0 : Int) (v1 : Int) (w d : Wd), X0_emptyHalf_b2 t n v0 v1 (ov w d) = om d (X0_emptyHalf_b2 t n v0 v1 w) := by
  intro n
  induction n with
  | zero => intros; rfl
  | succ n ih =>
    intro v0 v1 w d
    simp (maxSteps := 2000000) (disch := first | decide | assumption) only [X0_emptyHalf_b2_s, ih, ov_rd, up_ov, cpy_ov, om_some, om_none, om_gd, om_if, om_bd, bd_om, om_X0_remove]
theorem om_X0_emptyHalf  (t : Nat) (x1 : Int) (w d : Wd) : X0_emptyHalf t x1 (ov w d) = om d (X0_emptyHalf t x1 w) := by
  unfold X0_emptyHalf
  simp (maxSteps := 2000000) (disch := first | decide | assumption) only [ov_rd, up_ov, cpy_ov, om_some, om_none, om_gd, om_if, om_bd, bd_om, om_X0_emptyHalf_b2]
theorem om_X0_sweepFloor_b4 (t : Nat) : ∀ (n : Nat) (v0 : Int) (w d : Wd), X0_sweepFloor_b4 t n v0 (ov w d) = om d (X0_sweepFloor_b4 t n v0 w) := by
  intro n
  induction n with
  | zero => intros; rfl
  | succ n ih =>
    intro v0 w d
    simp (maxSteps := 2000000) (disch := first | decide | assumption) only [X0_sweepFloor_b4_s, ih, ov_rd, up_ov, cpy_ov, om_some, om_none, om_gd, om_if, om_bd, bd_om, om_X0_remove]
theorem om_X0_sweepFloor  (t : Nat) (w d : Wd) : X0_sweepFloor t (ov w d) = om d (X0_sweepFloor t w) := by
  unfold X0_sweepFloor
  simp (maxSteps := 2000000) (disch := first | decide | assumption) only [ov_rd, up_ov, cpy_ov, om_some, om_none, om_gd, om_if, om_bd, bd_om, om_X0_sweepFloor_b4]
theorem om_X5_endMove  (t : Nat) (w d : Wd) : X5_endMove t (ov w d) = om d (X5_endMove t w) := by
  unfold X5_endMove
  simp (maxSteps := 2000000) (disch := first | decide | assumption) only [ov_rd, up_ov, cpy_ov, om_some, om_none, om_gd, om_if, om_bd, bd_om, om_X0_emptyHalf, om_X0_sweepFloor]
theorem om_X5_beginMove_b39 (t : Nat) : ∀ (n : Nat) (v0 : Int) (w d : Wd), X5_beginMove_b39 t n v0 (ov w d) = om d (X5_beginMove_b39 t n v0 w) := by
  intro n
  induction n with
  | zero => intros; rfl
  | succ n ih =>
    intro v0 w d
    simp (maxSteps := 2000000) (disch := first | decide | assumption) only [X5_beginMove_b39_s, ih, ov_rd, up_ov, cpy_ov, om_some, om_none, om_gd, om_if, om_bd, bd_om, om_X3_size, om_X5_endMove, om_X5_readIn_h]
theorem om_X5_beginMove  (t : Nat) (w d : Wd) : X5_beginMove t (ov w d) = om d (X5_beginMove t w) := by
  unfold X5_beginMove
  simp (maxSteps := 2000000) (disch := first | decide | assumption) only [ov_rd, up_ov, cpy_ov, om_some, om_none, om_gd, om_if, om_bd, bd_om, om_X3_clear, om_X5_beginMove_b39]
theorem om_X7_begin   (w d : Wd) : X7_begin  (ov w d) = om d (X7_begin  w) := by
  unfold X7_begin
  simp (maxSteps := 2000000) (disch := first | decide | assumption) only [ov_rd, up_ov, cpy_ov, om_some, om_none, om_gd, om_if, om_bd, bd_om, om_X2_draft, om_X5_beginMove, om_X7_recorded]
theorem om_X3_takeFirst  (t : Nat) (w d : Wd) : X3_takeFirst t (ov w d) = om d (X3_takeFirst t w) := by
  unfold X3_takeFirst
  simp (maxSteps := 2000000) (disch := first | decide | assumption) only [ov_rd, up_ov, cpy_ov, om_some, om_none, om_gd, om_if, om_bd, bd_om]
theorem om_X5_stepsUpTo_b2 (t : Nat) : ∀ (n : Nat) (v0 : Int) (v1 : Int) (w d : Wd), X5_stepsUpTo_b2 t n v0 v1 (ov w d) = om d (X5_stepsUpTo_b2 t n v0 v1 w) := by
  intro n
  induction n with
  | zero => intros; rfl
  | succ n ih =>
    intro v0 v1 w d
    simp (maxSteps := 2000000) (disch := first | decide | assumption) only [X5_stepsUpTo_b2_s, ih, ov_rd, up_ov, cpy_ov, om_some, om_none, om_gd, om_if, om_bd, bd_om, om_X3_size, om_X3_takeFirst, om_X5_endMove, om_X5_readIn_n]
theorem om_X5_stepsUpTo  (t : Nat) (x1 : Int) (w d : Wd) : X5_stepsUpTo t x1 (ov w d) = om d (X5_stepsUpTo t x1 w) := by
  unfold X5_stepsUpTo
  simp (maxSteps := 2000000) (disch := first | decide | assumption) only [ov_rd, up_ov, cpy_ov, om_some, om_none, om_gd, om_if, om_bd, bd_om, om_X5_stepsUpTo_b2]
theorem om_X5_carrySteps  (t : Nat) (x1 : Int) (w d : Wd) : X5_carrySteps t x1 (ov w d) = om d (X5_carrySteps t x1 w) := by
  unfold X5_carrySteps
  simp (maxSteps := 2000000) (disch := first | decide | assumption) only [ov_rd, up_ov, cpy_ov, om_some, om_none, om_gd, om_if, om_bd, bd_om, om_X5_stepsUpTo]
theorem om_X7_carry  (x1 : Int) (w d : Wd) : X7_carry x1 (ov w d) = om d (X7_carry x1 w) := by
  unfold X7_carry
  simp (maxSteps := 2000000) (disch := first | decide | assumption) only [ov_rd, up_ov, cpy_ov, om_some, om_none, om_gd, om_if, om_bd, bd_om, om_X2_draft, om_X5_carrySteps, om_X7_recorded]
theorem om_X5_isThing  (t : Nat) (x1 : Int) (w d : Wd) : X5_isThing t x1 (ov w d) = om d (X5_isThing t x1 w) := by
  unfold X5_isThing
  simp (maxSteps := 2000000) (disch := first | decide | assumption) only [ov_rd, up_ov, cpy_ov, om_some, om_none, om_gd, om_if, om_bd, bd_om]
theorem om_X0_isOf  (t : Nat) (x1 : Int) (x2 : Int) (w d : Wd) : X0_isOf t x1 x2 (ov w d) = om d (X0_isOf t x1 x2 w) := by
  unfold X0_isOf
  simp (maxSteps := 2000000) (disch := first | decide | assumption) only [ov_rd, up_ov, cpy_ov, om_some, om_none, om_gd, om_if, om_bd, bd_om, om_X0_isAt]
theorem om_X5_firstWithNote_b2 (t : Nat) : ∀ (n : Nat) (v0 : Int) (v1 : Int) (w d : Wd), X5_firstWithNote_b2 t n v0 v1 (ov w d) = om d (X5_firstWithNote_b2 t n v0 v1 w) := by
  intro n
  induction n with
  | zero => intros; rfl
  | succ n ih =>
    intro v0 v1 w d
    simp (maxSteps := 2000000) (disch := first | decide | assumption) only [X5_firstWithNote_b2_s, ih, ov_rd, up_ov, cpy_ov, om_some, om_none, om_gd, om_if, om_bd, bd_om, om_X0_isOf, om_X0_noteAt]
theorem om_X5_firstWithNote  (t : Nat) (x1 : Int) (w d : Wd) : X5_firstWithNote t x1 (ov w d) = om d (X5_firstWithNote t x1 w) := by
  unfold X5_firstWithNote
  simp (maxSteps := 2000000) (disch := first | decide | assumption) only [ov_rd, up_ov, cpy_ov, om_some, om_none, om_gd, om_if, om_bd, bd_om, om_X5_firstWithNote_b2]
theorem om_X0_loseNoteAt  (t : Nat) (x1 : Int) (w d : Wd) : X0_loseNoteAt t x1 (ov w d) = om d (X0_loseNoteAt t x1 w) := by
  unfold X0_loseNoteAt
  simp (maxSteps := 2000000) (disch := first | decide | assumption) only [ov_rd, up_ov, cpy_ov, om_some, om_none, om_gd, om_if, om_bd, bd_om, om_X0_isAt]
theorem om_X5_loseNote  (t : Nat) (x1 : Int) (w d : Wd) : X5_loseNote t x1 (ov w d) = om d (X5_loseNote t x1 w) := by
  unfold X5_loseNote
  simp (maxSteps := 2000000) (disch := first | decide | assumption) only [ov_rd, up_ov, cpy_ov, om_some, om_none, om_gd, om_if, om_bd, bd_om, om_X0_loseNoteAt, om_X0_sizeAt, om_X5_firstWithNote, om_X5_freeInHalf, om_X5_isThing, om_X5_roomKept]
theorem om_X7_lose  (x1 : Int) (w d : Wd) : X7_lose x1 (ov w d) = om d (X7_lose x1 w) := by
  unfold X7_lose
  simp (maxSteps := 2000000) (disch := first | decide | assumption) only [ov_rd, up_ov, cpy_ov, om_some, om_none, om_gd, om_if, om_bd, bd_om, om_X2_draft, om_X5_loseNote, om_X7_recorded]
theorem om_X5_hasTwins_b4 (t : Nat) : ∀ (n : Nat) (v0 : Int) (v1 : Int) (v2 : Int) (w d : Wd), X5_hasTwins_b4 t n v0 v1 v2 (ov w d) = om d (X5_hasTwins_b4 t n v0 v1 v2 w) := by
  intro n
  induction n with
  | zero => intros; rfl
  | succ n ih =>
    intro v0 v1 v2 w d
    simp (maxSteps := 2000000) (disch := first | decide | assumption) only [X5_hasTwins_b4_s, ih, ov_rd, up_ov, cpy_ov, om_some, om_none, om_gd, om_if, om_bd, bd_om, om_X0_isOf, om_X5_isInOldHalf]
theorem om_X5_hasTwins  (t : Nat) (x1 : Int) (w d : Wd) : X5_hasTwins t x1 (ov w d) = om d (X5_hasTwins t x1 w) := by
  unfold X5_hasTwins
  simp (maxSteps := 2000000) (disch := first | decide | assumption) only [ov_rd, up_ov, cpy_ov, om_some, om_none, om_gd, om_if, om_bd, bd_om, om_X5_hasTwins_b4]
theorem om_X0_addressOf_b5 (t : Nat) : ∀ (n : Nat) (v0 : Int) (v1 : Int) (v2 : Int) (v3 : Int) (w d : Wd), X0_addressOf_b5 t n v0 v1 v2 v3 (ov w d) = om d (X0_addressOf_b5 t n v0 v1 v2 v3 w) := by
  intro n
  induction n with
  | zero => intros; rfl
  | succ n ih =>
    intro v0 v1 v2 v3 w d
    simp (maxSteps := 2000000) (disch := first | decide | assumption) only [X0_addressOf_b5_s, ih, ov_rd, up_ov, cpy_ov, om_some, om_none, om_gd, om_if, om_bd, bd_om, om_X0_isOf]
theorem om_X0_addressOf  (t : Nat) (x1 : Int) (x2 : Int) (w d : Wd) : X0_addressOf t x1 x2 (ov w d) = om d (X0_addressOf t x1 x2 w) := by
  unfold X0_addressOf
  simp (maxSteps := 2000000) (disch := first | decide | assumption) only [ov_rd, up_ov, cpy_ov, om_some, om_none, om_gd, om_if, om_bd, bd_om, om_X0_addressOf_b5]
theorem om_X0_replaceNames_b2 (t : Nat) : ∀ (n : Nat) (v0 : Int) (v1 : Int) (v2 : Int) (w d : Wd), X0_replaceNames_b2 t n v0 v1 v2 (ov w d) = om d (X0_replaceNames_b2 t n v0 v1 v2 w) := by
  intro n
  induction n with
  | zero => intros; rfl
  | succ n ih =>
    intro v0 v1 v2 w d
    simp (maxSteps := 2000000) (disch := first | decide | assumption) only [X0_replaceNames_b2_s, ih, ov_rd, up_ov, cpy_ov, om_some, om_none, om_gd, om_if, om_bd, bd_om]
theorem om_X0_replaceNames  (t : Nat) (x1 : Int) (x2 : Int) (w d : Wd) : X0_replaceNames t x1 x2 (ov w d) = om d (X0_replaceNames t x1 x2 w) := by
  unfold X0_replaceNames
  simp (maxSteps := 2000000) (disch := first | decide | assumption) only [ov_rd, up_ov, cpy_ov, om_some, om_none, om_gd, om_if, om_bd, bd_om, om_X0_replaceNames_b2]
theorem om_X5_replaceHooks_b2 (t : Nat) : ∀ (n : Nat) (v0 : Int) (v1 : Int) (v2 : Int) (w d : Wd), X5_replaceHooks_b2 t n v0 v1 v2 (ov w d) = om d (X5_replaceHooks_b2 t n v0 v1 v2 w) := by
  intro n
  induction n with
  | zero => intros; rfl
  | succ n ih =>
    intro v0 v1 v2 w d
    simp (maxSteps := 2000000) (disch := first | decide | assumption) only [X5_replaceHooks_b2_s, ih, ov_rd, up_ov, cpy_ov, om_some, om_none, om_gd, om_if, om_bd, bd_om]
theorem om_X5_replaceHooks  (t : Nat) (x1 : Int) (x2 : Int) (w d : Wd) : X5_replaceHooks t x1 x2 (ov w d) = om d (X5_replaceHooks t x1 x2 w) := by
  unfold X5_replaceHooks
  simp (maxSteps := 2000000) (disch := first | decide | assumption) only [ov_rd, up_ov, cpy_ov, om_some, om_none, om_gd, om_if, om_bd, bd_om, om_X5_replaceHooks_b2]
theorem om_X5_mendTwins_b45 (t : Nat) : ∀ (n : Nat) (v0 : Int) (v1 : Int) (v2 : Int) (v3 : Int) (w d : Wd), X5_mendTwins_b45 t n v0 v1 v2 v3 (ov w d) = om d (X5_mendTwins_b45 t n v0 v1 v2 v3 w) := by
  intro n
  induction n with
  | zero => intros; rfl
  | succ n ih =>
    intro v0 v1 v2 v3 w d
    simp (maxSteps := 2000000) (disch := first | decide | assumption) only [X5_mendTwins_b45_s, ih, ov_rd, up_ov, cpy_ov, om_some, om_none, om_gd, om_if, om_bd, bd_om, om_X0_isOf, om_X0_remove, om_X0_replaceNames, om_X5_replaceHooks]
theorem om_X5_mendTwins  (t : Nat) (x1 : Int) (w d : Wd) : X5_mendTwins t x1 (ov w d) = om d (X5_mendTwins t x1 w) := by
  unfold X5_mendTwins
  simp (maxSteps := 2000000) (disch := first | decide | assumption) only [ov_rd, up_ov, cpy_ov, om_some, om_none, om_gd, om_if, om_bd, bd_om, om_X0_addressOf, om_X5_hasTwins, om_X5_isThing, om_X5_mendTwins_b45]
theorem om_X7_mend  (x1 : Int) (w d : Wd) : X7_mend x1 (ov w d) = om d (X7_mend x1 w) := by
  unfold X7_mend
  simp (maxSteps := 2000000) (disch := first | decide | assumption) only [ov_rd, up_ov, cpy_ov, om_some, om_none, om_gd, om_if, om_bd, bd_om, om_X2_draft, om_X5_mendTwins, om_X7_recorded]
theorem om_X2_size   (w d : Wd) : X2_size  (ov w d) = om d (X2_size  w) := by
  unfold X2_size
  simp (maxSteps := 2000000) (disch := first | decide | assumption) only [ov_rd, up_ov, cpy_ov, om_some, om_none, om_gd, om_if, om_bd, bd_om]
theorem om_X6_size   (w d : Wd) : X6_size  (ov w d) = om d (X6_size  w) := by
  unfold X6_size
  simp (maxSteps := 2000000) (disch := first | decide | assumption) only [ov_rd, up_ov, cpy_ov, om_some, om_none, om_gd, om_if, om_bd, bd_om]
theorem om_X0_number_b4 (t : Nat) : ∀ (n : Nat) (v0 : Int) (v1 : Int) (w d : Wd), X0_number_b4 t n v0 v1 (ov w d) = om d (X0_number_b4 t n v0 v1 w) := by
  intro n
  induction n with
  | zero => intros; rfl
  | succ n ih =>
    intro v0 v1 w d
    simp (maxSteps := 2000000) (disch := first | decide | assumption) only [X0_number_b4_s, ih, ov_rd, up_ov, cpy_ov, om_some, om_none, om_gd, om_if, om_bd, bd_om, om_X0_isAt]
theorem om_X0_number  (t : Nat) (w d : Wd) : X0_number t (ov w d) = om d (X0_number t w) := by
  unfold X0_number
  simp (maxSteps := 2000000) (disch := first | decide | assumption) only [ov_rd, up_ov, cpy_ov, om_some, om_none, om_gd, om_if, om_bd, bd_om, om_X0_number_b4]
theorem om_X0_floorTaken_b4 (t : Nat) : ∀ (n : Nat) (v0 : Int) (v1 : Int) (w d : Wd), X0_floorTaken_b4 t n v0 v1 (ov w d) = om d (X0_floorTaken_b4 t n v0 v1 w) := by
  intro n
  induction n with
  | zero => intros; rfl
  | succ n ih =>
    intro v0 v1 w d
    simp (maxSteps := 2000000) (disch := first | decide | assumption) only [X0_floorTaken_b4_s, ih, ov_rd, up_ov, cpy_ov, om_some, om_none, om_gd, om_if, om_bd, bd_om, om_X0_sizeAt]
theorem om_X0_floorTaken  (t : Nat) (w d : Wd) : X0_floorTaken t (ov w d) = om d (X0_floorTaken t w) := by
  unfold X0_floorTaken
  simp (maxSteps := 2000000) (disch := first | decide | assumption) only [ov_rd, up_ov, cpy_ov, om_some, om_none, om_gd, om_if, om_bd, bd_om, om_X0_floorTaken_b4]
theorem om_X5_thingsWithTwins_b4 (t : Nat) : ∀ (n : Nat) (v0 : Int) (v1 : Int) (w d : Wd), X5_thingsWithTwins_b4 t n v0 v1 (ov w d) = om d (X5_thingsWithTwins_b4 t n v0 v1 w) := by
  intro n
  induction n with
  | zero => intros; rfl
  | succ n ih =>
    intro v0 v1 w d
    simp (maxSteps := 2000000) (disch := first | decide | assumption) only [X5_thingsWithTwins_b4_s, ih, ov_rd, up_ov, cpy_ov, om_some, om_none, om_gd, om_if, om_bd, bd_om, om_X5_hasTwins]
theorem om_X5_thingsWithTwins  (t : Nat) (w d : Wd) : X5_thingsWithTwins t (ov w d) = om d (X5_thingsWithTwins t w) := by
  unfold X5_thingsWithTwins
  simp (maxSteps := 2000000) (disch := first | decide | assumption) only [ov_rd, up_ov, cpy_ov, om_some, om_none, om_gd, om_if, om_bd, bd_om, om_X5_thingsWithTwins_b4]
theorem om_X5_numberOf  (t : Nat) (x1 : Int) (w d : Wd) : X5_numberOf t x1 (ov w d) = om d (X5_numberOf t x1 w) := by
  unfold X5_numberOf
  simp (maxSteps := 2000000) (disch := first | decide | assumption) only [ov_rd, up_ov, cpy_ov, om_some, om_none, om_gd, om_if, om_bd, bd_om, om_X0_floorTaken, om_X0_number, om_X3_size, om_X5_freeInHalf, om_X5_roomKept, om_X5_thingsWithTwins]
theorem om_X7_count  (x1 : Int) (w d : Wd) : X7_count x1 (ov w d) = om d (X7_count x1 w) := by
  unfold X7_count
  simp (maxSteps := 2000000) (disch := first | decide | assumption) only [ov_rd, up_ov, cpy_ov, om_some, om_none, om_gd, om_if, om_bd, bd_om, om_X2_size, om_X5_numberOf, om_X6_size]
theorem om_X5_hungOn  (t : Nat) (x1 : Int) (w d : Wd) : X5_hungOn t x1 (ov w d) = om d (X5_hungOn t x1 w) := by
  unfold X5_hungOn
  simp (maxSteps := 2000000) (disch := first | decide | assumption) only [ov_rd, up_ov, cpy_ov, om_some, om_none, om_gd, om_if, om_bd, bd_om, om_X7_isHook]
theorem om_X7_orNone  (x0 : Int) (w d : Wd) : X7_orNone x0 (ov w d) = om d (X7_orNone x0 w) := by
  unfold X7_orNone
  simp (maxSteps := 2000000) (disch := first | decide | assumption) only [ov_rd, up_ov, cpy_ov, om_some, om_none, om_gd, om_if, om_bd, bd_om]
theorem om_X7_hook  (x1 : Int) (w d : Wd) : X7_hook x1 (ov w d) = om d (X7_hook x1 w) := by
  unfold X7_hook
  simp (maxSteps := 2000000) (disch := first | decide | assumption) only [ov_rd, up_ov, cpy_ov, om_some, om_none, om_gd, om_if, om_bd, bd_om, om_X5_hungOn, om_X7_isHook, om_X7_orNone]
theorem om_X0_thingAt  (t : Nat) (x1 : Int) (w d : Wd) : X0_thingAt t x1 (ov w d) = om d (X0_thingAt t x1 w) := by
  unfold X0_thingAt
  simp (maxSteps := 2000000) (disch := first | decide | assumption) only [ov_rd, up_ov, cpy_ov, om_some, om_none, om_gd, om_if, om_bd, bd_om, om_X0_isAt]
theorem om_X0_isMarked  (t : Nat) (x1 : Int) (w d : Wd) : X0_isMarked t x1 (ov w d) = om d (X0_isMarked t x1 w) := by
  unfold X0_isMarked
  simp (maxSteps := 2000000) (disch := first | decide | assumption) only [ov_rd, up_ov, cpy_ov, om_some, om_none, om_gd, om_if, om_bd, bd_om, om_X0_isAt]
theorem om_X0_nameAt  (t : Nat) (x1 : Int) (x2 : Int) (w d : Wd) : X0_nameAt t x1 x2 (ov w d) = om d (X0_nameAt t x1 x2 w) := by
  unfold X0_nameAt
  simp (maxSteps := 2000000) (disch := first | decide | assumption) only [ov_rd, up_ov, cpy_ov, om_some, om_none, om_gd, om_if, om_bd, bd_om, om_X0_isAt, om_X7_isName]
theorem om_X7_copy  (x1 : Int) (x2 : Int) (w d : Wd) : X7_copy x1 x2 (ov w d) = om d (X7_copy x1 x2 w) := by
  unfold X7_copy
  simp (maxSteps := 2000000) (disch := first | decide | assumption) only [ov_rd, up_ov, cpy_ov, om_some, om_none, om_gd, om_if, om_bd, bd_om, om_X0_isAt, om_X0_isMarked, om_X0_nameAt, om_X0_noteAt, om_X0_sizeAt, om_X0_thingAt, om_X7_orNone]
theorem om_X7_where  (x1 : Int) (x2 : Int) (w d : Wd) : X7_where x1 x2 (ov w d) = om d (X7_where x1 x2 w) := by
  unfold X7_where
  simp (maxSteps := 2000000) (disch := first | decide | assumption) only [ov_rd, up_ov, cpy_ov, om_some, om_none, om_gd, om_if, om_bd, bd_om, om_X0_addressOf, om_X5_isThing, om_X7_orNone]
end OV
