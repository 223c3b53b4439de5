/-! PURE: every call of the law, both sides -/
section CALLS
variable {B : Int} {w : Wd}
/-- the class answers, then the model alike; what belongs together stays so -/
def Both (B : Int) (w : Wd) (cl md : Wd → Option (Int × Wd)) : Prop := ∃ (r : Int) (w2 w3 : Wd), cl w = some (r, w2) ∧ md w2 = some (r, w3) ∧ InR r ∧ GR (B + 80) w3
theorem Both.up1 {cl md : Wd → Option (Int × Wd)} (h : ∃ (r : Int) (w2 w3 : Wd), cl w = some (r, w2) ∧ md w2 = some (r, w3) ∧ InR r ∧ GR (B + 1) w3) : Both B w cl md := by
  obtain ⟨r, w2, w3, h1, h2, h3, h4⟩ := h
  exact ⟨r, w2, w3, h1, h2, h3, h4.mono (by omega)⟩
theorem Both.up0 {cl md : Wd → Option (Int × Wd)} (h : ∃ (r : Int) (w2 w3 : Wd), cl w = some (r, w2) ∧ md w2 = some (r, w3) ∧ InR r ∧ GR B w3) : Both B w cl md := by
  obtain ⟨r, w2, w3, h1, h2, h3, h4⟩ := h
  exact ⟨r, w2, w3, h1, h2, h3, h4.mono (by omega)⟩
theorem Both.look (hG : GR B w) {cl md : Wd → Option (Int × Wd)} (h : ∃ r : Int, cl w = some (r, w) ∧ md w = some (r, w) ∧ InR r) : Both B w cl md := by
  obtain ⟨r, h1, h2, h3⟩ := h
  exact ⟨r, w, w, h1, h2, h3, hG.mono (by omega)⟩
theorem z_setHeavy (hG : GR B w) (hB : 0 ≤ B ∧ B ≤ 999000) (x : Int) : Both B w (X7_setHeavy x) (X8_setHeavy x) := Both.up1 (op_g hG (cl := X5_changeBound 0 x) (md := X8_setHeavy x) (fun _ _ _ hS ha hra => setHeavy_b hS ha hra x))
theorem z_make (hG : GR B w) (hB : 0 ≤ B ∧ B ≤ 999000) (x y : Int) : Both B w (X7_make x y) (X8_make x y) := Both.up1 (op_g hG (cl := X5_makeThing 0 x y) (md := X8_make x y) (fun _ _ _ hS ha hra => make_b hS ha hra x y))
theorem z_link (hG : GR B w) (hB : 0 ≤ B ∧ B ≤ 999000) (x y z : Int) : Both B w (X7_link x y z) (X8_link x y z) := Both.up1 (op_g hG (cl := X5_linkHooks 0 x y z) (md := X8_link x y z) (fun _ _ _ hS ha hra => link_b hS ha hra x y z))
theorem z_follow (hG : GR B w) (hB : 0 ≤ B ∧ B ≤ 999000) (x y z : Int) : Both B w (X7_follow x y z) (X8_follow x y z) := Both.up1 (op_g hG (cl := X5_followName 0 x y z) (md := X8_follow x y z) (fun _ _ _ hS ha hra => follow_b hS ha hra x y z))
theorem z_drop (hG : GR B w) (hB : 0 ≤ B ∧ B ≤ 999000) (x : Int) : Both B w (X7_drop x) (X8_drop x) := Both.up1 (op_g hG (cl := X5_dropHook 0 x) (md := X8_drop x) (fun _ _ _ hS ha hra => drop_b hS ha hra x))
theorem z_begin (hG : GR B w) (hB : 0 ≤ B ∧ B ≤ 999000) : Both B w X7_begin X8_begin := Both.up1 (op_g hG (cl := X5_beginMove 0) (md := X8_begin) (fun _ _ _ hS ha hra => begin_op hS ha hra (by omega)))
theorem z_carry (hG : GR B w) (hB : 0 ≤ B ∧ B ≤ 999000) (x : Int) : Both B w (X7_carry x) (X8_carry x) := Both.up1 (op_g hG (cl := X5_carrySteps 0 x) (md := X8_carry x) (fun _ _ _ hS ha hra => carry_op hS ha hra (by omega) x))
theorem z_lose (hG : GR B w) (hB : 0 ≤ B ∧ B ≤ 999000) (x : Int) : Both B w (X7_lose x) (X8_lose x) := Both.up1 (op_g hG (cl := X5_loseNote 0 x) (md := X8_lose x) (fun _ _ _ hS ha hra => lose_b hS ha hra (by omega) x))
theorem z_mend (hG : GR B w) (hB : 0 ≤ B ∧ B ≤ 999000) (x : Int) : Both B w (X7_mend x) (X8_mend x) := Both.up1 (op_g hG (cl := X5_mendTwins 0 x) (md := X8_mend x) (fun _ _ _ hS ha hra => mend_b hS ha hra x))
theorem z_undo (hG : GR B w) (hB : 0 ≤ B ∧ B ≤ 999000) : Both B w X7_undo X8_undo := Both.up0 (undo_g hG)
theorem z_append (hG : GR B w) (hB : 0 ≤ B ∧ B ≤ 999000) (x : Int) : Both B w (X7_append x) (X8_append x) := Both.up0 (append_g hG x)
theorem z_clearText (hG : GR B w) (hB : 0 ≤ B ∧ B ≤ 999000) : Both B w X7_clearText X8_clearText := Both.up0 (clear_g hG)
theorem z_run (hG : GR B w) (hB : 0 ≤ B ∧ B ≤ 999000) : Both B w X7_run X8_run := run_g hG hB
theorem z_count (hG : GR B w) (hB : 0 ≤ B ∧ B ≤ 999000) (x : Int) : Both B w (X7_count x) (X8_count x) := Both.look hG (count_g hG (by omega) x)
theorem z_hook (hG : GR B w) (hB : 0 ≤ B ∧ B ≤ 999000) (x : Int) : Both B w (X7_hook x) (X8_hook x) := Both.look hG (hook_b hG.1 x)
theorem z_copy (hG : GR B w) (hB : 0 ≤ B ∧ B ≤ 999000) (x y : Int) : Both B w (X7_copy x y) (X8_copy x y) := Both.look hG (copy_b hG.1 x y)
theorem z_where (hG : GR B w) (hB : 0 ≤ B ∧ B ≤ 999000) (x y : Int) : Both B w (X7_where x y) (X8_where x y) := Both.look hG (where_b hG.1 x y)
theorem z_named (hG : GR B w) (hB : 0 ≤ B ∧ B ≤ 999000) (x : Int) : Both B w (X7_named x) (X8_named x) := Both.up0 (named_g hG x)
theorem z_garbage (hG : GR B w) (hB : 0 ≤ B ∧ B ≤ 999000) : Both B w X7_garbage X8_garbage := Both.up0 (garbage_g hG)
theorem z_stepsLeft (hG : GR B w) (hB : 0 ≤ B ∧ B ≤ 999000) : Both B w X7_stepsLeft X8_stepsLeft := Both.up0 (stepsLeft_g hG (by omega))
theorem z_freeThen (hG : GR B w) (hB : 0 ≤ B ∧ B ≤ 999000) : Both B w X7_freeThen X8_freeThen := Both.up0 (freeThen_g hG (by omega))
end CALLS
