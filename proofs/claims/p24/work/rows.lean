section
-- ===== PART A: goes FIRST, ahead of the names: the tables' words, and 'selects' of the private methods out of them =====
/-- a private method of a class that the tables say can be made, by its rows of tables_1 -/
def lw_okq (q : MethodName × Nat) : Prop := (q.1.cls ≠ "java/lang/invoke/MethodHandle" ∧ q.1.cls ≠ "java/lang/invoke/VarHandle") ∧ Cond.instantiable q.1.cls q.2 ∈ tables_1 ∧ Cond.privateMethod q.1 ∈ tables_1 ∧ Cond.instanceMethod q.1 ∈ tables_1
theorem lw_p0 : lw_okq (⟨"NamedMoves$Store", "roomKept", "()I"⟩, 10) := ⟨⟨by decide +kernel, by decide +kernel⟩, List.mem_of_getElem? (i := 21) (by decide +kernel), List.mem_of_getElem? (i := 227) (by decide +kernel), List.mem_of_getElem? (i := 228) (by decide +kernel)⟩
theorem lw_p1 : lw_okq (⟨"NamedMoves$Store", "addressOfHalf", "(I)I"⟩, 10) := ⟨⟨by decide +kernel, by decide +kernel⟩, List.mem_of_getElem? (i := 21) (by decide +kernel), List.mem_of_getElem? (i := 231) (by decide +kernel), List.mem_of_getElem? (i := 232) (by decide +kernel)⟩
theorem lw_p2 : lw_okq (⟨"NamedMoves$Store", "thingsWithTwins", "()I"⟩, 10) := ⟨⟨by decide +kernel, by decide +kernel⟩, List.mem_of_getElem? (i := 21) (by decide +kernel), List.mem_of_getElem? (i := 240) (by decide +kernel), List.mem_of_getElem? (i := 241) (by decide +kernel)⟩
theorem lw_p3 : lw_okq (⟨"NamedMoves$Store", "hasTwins", "(I)Z"⟩, 10) := ⟨⟨by decide +kernel, by decide +kernel⟩, List.mem_of_getElem? (i := 21) (by decide +kernel), List.mem_of_getElem? (i := 244) (by decide +kernel), List.mem_of_getElem? (i := 245) (by decide +kernel)⟩
theorem lw_p4 : lw_okq (⟨"NamedMoves$Store", "isInOldHalf", "(I)Z"⟩, 10) := ⟨⟨by decide +kernel, by decide +kernel⟩, List.mem_of_getElem? (i := 21) (by decide +kernel), List.mem_of_getElem? (i := 252) (by decide +kernel), List.mem_of_getElem? (i := 253) (by decide +kernel)⟩
theorem lw_p5 : lw_okq (⟨"NamedMoves$History", "slotOfDraft", "()I"⟩, 3) := ⟨⟨by decide +kernel, by decide +kernel⟩, List.mem_of_getElem? (i := 103) (by decide +kernel), List.mem_of_getElem? (i := 308) (by decide +kernel), List.mem_of_getElem? (i := 309) (by decide +kernel)⟩
theorem lw_p6 : lw_okq (⟨"NamedMoves$Store", "halfAddressFor", "(I)I"⟩, 10) := ⟨⟨by decide +kernel, by decide +kernel⟩, List.mem_of_getElem? (i := 21) (by decide +kernel), List.mem_of_getElem? (i := 340) (by decide +kernel), List.mem_of_getElem? (i := 341) (by decide +kernel)⟩
theorem lw_p7 : lw_okq (⟨"NamedMoves", "recorded", "(I)I"⟩, 6) := ⟨⟨by decide +kernel, by decide +kernel⟩, List.mem_of_getElem? (i := 13) (by decide +kernel), List.mem_of_getElem? (i := 352) (by decide +kernel), List.mem_of_getElem? (i := 353) (by decide +kernel)⟩
theorem lw_p8 : lw_okq (⟨"NamedMoves$Store", "readIn", "([II)I"⟩, 10) := ⟨⟨by decide +kernel, by decide +kernel⟩, List.mem_of_getElem? (i := 21) (by decide +kernel), List.mem_of_getElem? (i := 384) (by decide +kernel), List.mem_of_getElem? (i := 385) (by decide +kernel)⟩
theorem lw_p9 : lw_okq (⟨"NamedMoves$Store", "carryOver", "(II)I"⟩, 10) := ⟨⟨by decide +kernel, by decide +kernel⟩, List.mem_of_getElem? (i := 21) (by decide +kernel), List.mem_of_getElem? (i := 388) (by decide +kernel), List.mem_of_getElem? (i := 389) (by decide +kernel)⟩
theorem lw_p10 : lw_okq (⟨"NamedMoves$Store", "endMove", "()V"⟩, 10) := ⟨⟨by decide +kernel, by decide +kernel⟩, List.mem_of_getElem? (i := 21) (by decide +kernel), List.mem_of_getElem? (i := 446) (by decide +kernel), List.mem_of_getElem? (i := 447) (by decide +kernel)⟩
theorem lw_p11 : lw_okq (⟨"NamedMoves$Store", "firstWithNote", "(I)I"⟩, 10) := ⟨⟨by decide +kernel, by decide +kernel⟩, List.mem_of_getElem? (i := 21) (by decide +kernel), List.mem_of_getElem? (i := 508) (by decide +kernel), List.mem_of_getElem? (i := 509) (by decide +kernel)⟩
theorem lw_p12 : lw_okq (⟨"NamedMoves$Store", "replaceHooks", "(II)V"⟩, 10) := ⟨⟨by decide +kernel, by decide +kernel⟩, List.mem_of_getElem? (i := 21) (by decide +kernel), List.mem_of_getElem? (i := 534) (by decide +kernel), List.mem_of_getElem? (i := 535) (by decide +kernel)⟩
def lw_privs_1 : List (MethodName × Nat) := [(⟨"NamedMoves$Store", "roomKept", "()I"⟩, 10), (⟨"NamedMoves$Store", "addressOfHalf", "(I)I"⟩, 10), (⟨"NamedMoves$Store", "thingsWithTwins", "()I"⟩, 10), (⟨"NamedMoves$Store", "hasTwins", "(I)Z"⟩, 10), (⟨"NamedMoves$Store", "isInOldHalf", "(I)Z"⟩, 10), (⟨"NamedMoves$History", "slotOfDraft", "()I"⟩, 3), (⟨"NamedMoves$Store", "halfAddressFor", "(I)I"⟩, 10), (⟨"NamedMoves", "recorded", "(I)I"⟩, 6), (⟨"NamedMoves$Store", "readIn", "([II)I"⟩, 10), (⟨"NamedMoves$Store", "carryOver", "(II)I"⟩, 10), (⟨"NamedMoves$Store", "endMove", "()V"⟩, 10), (⟨"NamedMoves$Store", "firstWithNote", "(I)I"⟩, 10), (⟨"NamedMoves$Store", "replaceHooks", "(II)V"⟩, 10)]
theorem lw_r1 : ∀ q ∈ lw_privs_1, lw_okq q := List.forall_mem_cons.mpr ⟨lw_p0, List.forall_mem_cons.mpr ⟨lw_p1, List.forall_mem_cons.mpr ⟨lw_p2, List.forall_mem_cons.mpr ⟨lw_p3, List.forall_mem_cons.mpr ⟨lw_p4, List.forall_mem_cons.mpr ⟨lw_p5, List.forall_mem_cons.mpr ⟨lw_p6, List.forall_mem_cons.mpr ⟨lw_p7, List.forall_mem_cons.mpr ⟨lw_p8, List.forall_mem_cons.mpr ⟨lw_p9, List.forall_mem_cons.mpr ⟨lw_p10, List.forall_mem_cons.mpr ⟨lw_p11, List.forall_mem_cons.mpr ⟨lw_p12, fun _ h => absurd h List.not_mem_nil⟩⟩⟩⟩⟩⟩⟩⟩⟩⟩⟩⟩⟩
def lw_privs : List (MethodName × Nat) := lw_privs_1
def lw_tbl : List Cond := k2_sels lw_privs ++ tables_1
theorem lw_privs_ok : ∀ q ∈ lw_privs, lw_okq q := lw_r1
/-! ===== BEGIN words of one list among another's, by their places ===== -/
theorem goodIn_r {big : List Cond} (ws : List Cond) (ps : List Nat) (hp : ws = ps.filterMap (fun i => big[i]?)) (h : ws.all goodWord = true) : GoodIn big ws := by
  intro w hw
  have h1 := List.all_eq_true.mp h w hw
  rw [hp] at hw
  obtain ⟨i, -, hi⟩ := List.mem_filterMap.mp hw
  have hm : w ∈ big := by first | exact List.mem_of_getElem? hi | exact List.getElem?_mem hi
  exact ⟨hm, good_of_word h1⟩
theorem goodIn_app {big a b : List Cond} (ha : GoodIn big a) (hb : GoodIn big b) : GoodIn big (a ++ b) := fun w h => (List.mem_append.mp h).elim (ha w) (hb w)
theorem goodIn_ca {big a b : List Cond} {c : Cond} (ha : GoodIn big (c :: a)) (hb : GoodIn big b) : GoodIn big (c :: (a ++ b)) := fun w h => (List.mem_cons.mp h).elim (fun e => ha w (List.mem_cons.mpr (Or.inl e))) (fun h => (List.mem_append.mp h).elim (fun h => ha w (List.mem_cons.mpr (Or.inr h))) (hb w))
theorem goodIn_sub {big ws : List Cond} (hm : ∀ w ∈ ws, w ∈ big) (h : ws.all goodWord = true) : GoodIn big ws := fun w hw => ⟨hm w hw, good_of_word (List.all_eq_true.mp h w hw)⟩
/-! ===== END ===== -/

/-! ===== BEGIN printed: names, fields, word lists, decode rows ===== -/
def RX0 : String := "NamedMoves$Copies"
def TX0 : u_T := fun k => match k with
  | 0 => ("NamedMoves$Copies", "things", "[I", true)
  | 1 => ("NamedMoves$Copies", "sizes", "[I", true)
  | 2 => ("NamedMoves$Copies", "notes", "[I", true)
  | 3 => ("NamedMoves$Copies", "marks", "[I", true)
  | _ => ("NamedMoves$Copies", "names", "[I", true)
def tyX0 : Nat → FieldType := fun k => match k with
  | 0 => .array .int
  | 1 => .array .int
  | 2 => .array .int
  | 3 => .array .int
  | _ => .array .int
abbrev wsX00 : List Cond := u_ws RX0 TX0 5
theorem nmX0 : ∀ a, a < 5 → ∀ b, b < 5 → a ≠ b → (TX0 a).2.1 ≠ (TX0 b).2.1 := by decide +kernel
theorem tyX0_ok : ∀ k, k < 5 → parseFieldDescriptor (TX0 k).2.2.1 = some (tyX0 k) := by decide +kernel
abbrev cX0_init : ByteArray := prog_2_method_1_code
def yX0_init : MethodName := ⟨RX0, "<init>", "()V"⟩
abbrev cX0_become : ByteArray := prog_2_method_2_code
def yX0_become : MethodName := ⟨RX0, "become", "(LNamedMoves$Copies;)V"⟩
abbrev cX0_isAt : ByteArray := prog_2_method_3_code
def yX0_isAt : MethodName := ⟨RX0, "isAt", "(I)Z"⟩
abbrev cX0_isOf : ByteArray := prog_2_method_4_code
def yX0_isOf : MethodName := ⟨RX0, "isOf", "(II)Z"⟩
abbrev cX0_thingAt : ByteArray := prog_2_method_5_code
def yX0_thingAt : MethodName := ⟨RX0, "thingAt", "(I)I"⟩
abbrev cX0_sizeAt : ByteArray := prog_2_method_6_code
def yX0_sizeAt : MethodName := ⟨RX0, "sizeAt", "(I)I"⟩
abbrev cX0_noteAt : ByteArray := prog_2_method_7_code
def yX0_noteAt : MethodName := ⟨RX0, "noteAt", "(I)I"⟩
abbrev cX0_isMarked : ByteArray := prog_2_method_8_code
def yX0_isMarked : MethodName := ⟨RX0, "isMarked", "(I)Z"⟩
abbrev cX0_nameAt : ByteArray := prog_2_method_9_code
def yX0_nameAt : MethodName := ⟨RX0, "nameAt", "(II)I"⟩
abbrev cX0_loseNoteAt : ByteArray := prog_2_method_10_code
def yX0_loseNoteAt : MethodName := ⟨RX0, "loseNoteAt", "(I)V"⟩
abbrev cX0_mark : ByteArray := prog_2_method_11_code
def yX0_mark : MethodName := ⟨RX0, "mark", "(I)Z"⟩
abbrev cX0_setName : ByteArray := prog_2_method_12_code
def yX0_setName : MethodName := ⟨RX0, "setName", "(III)V"⟩
abbrev cX0_lay : ByteArray := prog_2_method_13_code
def yX0_lay : MethodName := ⟨RX0, "lay", "(III)V"⟩
abbrev cX0_layAgain : ByteArray := prog_2_method_14_code
def yX0_layAgain : MethodName := ⟨RX0, "layAgain", "(II)V"⟩
abbrev cX0_remove : ByteArray := prog_2_method_15_code
def yX0_remove : MethodName := ⟨RX0, "remove", "(I)V"⟩
abbrev cX0_addressOf : ByteArray := prog_2_method_16_code
def yX0_addressOf : MethodName := ⟨RX0, "addressOf", "(II)I"⟩
abbrev cX0_number : ByteArray := prog_2_method_17_code
def yX0_number : MethodName := ⟨RX0, "number", "()I"⟩
abbrev cX0_floorTaken : ByteArray := prog_2_method_18_code
def yX0_floorTaken : MethodName := ⟨RX0, "floorTaken", "()I"⟩
abbrev cX0_floorAddressFor : ByteArray := prog_2_method_19_code
def yX0_floorAddressFor : MethodName := ⟨RX0, "floorAddressFor", "(I)I"⟩
abbrev cX0_replaceNames : ByteArray := prog_2_method_21_code
def yX0_replaceNames : MethodName := ⟨RX0, "replaceNames", "(II)V"⟩
abbrev cX0_emptyHalf : ByteArray := prog_2_method_22_code
def yX0_emptyHalf : MethodName := ⟨RX0, "emptyHalf", "(I)V"⟩
abbrev cX0_sweepFloor : ByteArray := prog_2_method_23_code
def yX0_sweepFloor : MethodName := ⟨RX0, "sweepFloor", "()V"⟩
def RX1 : String := "NamedMoves$Errand"
def TX1 : u_T := fun k => match k with
  | 0 => ("NamedMoves$Errand", "numbers", "[I", true)
  | 1 => ("NamedMoves$Errand", "letter", "I", false)
  | _ => ("NamedMoves$Errand", "place", "I", false)
def tyX1 : Nat → FieldType := fun k => match k with
  | 0 => .array .int
  | 1 => .int
  | _ => .int
abbrev wsX10 : List Cond := u_ws RX1 TX1 3
theorem nmX1 : ∀ a, a < 3 → ∀ b, b < 3 → a ≠ b → (TX1 a).2.1 ≠ (TX1 b).2.1 := by decide +kernel
theorem tyX1_ok : ∀ k, k < 3 → parseFieldDescriptor (TX1 k).2.2.1 = some (tyX1 k) := by decide +kernel
abbrev cX1_init : ByteArray := prog_3_method_1_code
def yX1_init : MethodName := ⟨RX1, "<init>", "()V"⟩
def RX2 : String := "NamedMoves$History"
def TX2 : u_T := fun k => match k with
  | 0 => ("NamedMoves$History", "states", "[LNamedMoves$Store;", true)
  | 1 => ("NamedMoves$History", "first", "I", false)
  | _ => ("NamedMoves$History", "held", "I", false)
def tyX2 : Nat → FieldType := fun k => match k with
  | 0 => .array (.object "NamedMoves$Store")
  | 1 => .int
  | _ => .int
abbrev wsX20 : List Cond := u_ws RX2 TX2 3
theorem nmX2 : ∀ a, a < 3 → ∀ b, b < 3 → a ≠ b → (TX2 a).2.1 ≠ (TX2 b).2.1 := by decide +kernel
theorem tyX2_ok : ∀ k, k < 3 → parseFieldDescriptor (TX2 k).2.2.1 = some (tyX2 k) := by decide +kernel
abbrev cX2_init : ByteArray := prog_4_method_1_code
def yX2_init : MethodName := ⟨RX2, "<init>", "()V"⟩
abbrev cX2_size : ByteArray := prog_4_method_2_code
def yX2_size : MethodName := ⟨RX2, "size", "()I"⟩
abbrev cX2_slotOfDraft : ByteArray := prog_4_method_3_code
def yX2_slotOfDraft : MethodName := ⟨RX2, "slotOfDraft", "()I"⟩
abbrev cX2_draft : ByteArray := prog_4_method_4_code
def yX2_draft : MethodName := ⟨RX2, "draft", "(LNamedMoves$Store;)V"⟩
abbrev cX2_keepDraft : ByteArray := prog_4_method_5_code
def yX2_keepDraft : MethodName := ⟨RX2, "keepDraft", "()V"⟩
def RX3 : String := "NamedMoves$Queue"
def TX3 : u_T := fun k => match k with
  | 0 => ("NamedMoves$Queue", "addresses", "[I", true)
  | 1 => ("NamedMoves$Queue", "first", "I", false)
  | _ => ("NamedMoves$Queue", "end", "I", false)
def tyX3 : Nat → FieldType := fun k => match k with
  | 0 => .array .int
  | 1 => .int
  | _ => .int
abbrev wsX30 : List Cond := u_ws RX3 TX3 3
theorem nmX3 : ∀ a, a < 3 → ∀ b, b < 3 → a ≠ b → (TX3 a).2.1 ≠ (TX3 b).2.1 := by decide +kernel
theorem tyX3_ok : ∀ k, k < 3 → parseFieldDescriptor (TX3 k).2.2.1 = some (tyX3 k) := by decide +kernel
abbrev cX3_init : ByteArray := prog_5_method_1_code
def yX3_init : MethodName := ⟨RX3, "<init>", "()V"⟩
abbrev cX3_become : ByteArray := prog_5_method_2_code
def yX3_become : MethodName := ⟨RX3, "become", "(LNamedMoves$Queue;)V"⟩
abbrev cX3_clear : ByteArray := prog_5_method_3_code
def yX3_clear : MethodName := ⟨RX3, "clear", "()V"⟩
abbrev cX3_size : ByteArray := prog_5_method_4_code
def yX3_size : MethodName := ⟨RX3, "size", "()I"⟩
abbrev cX3_join : ByteArray := prog_5_method_5_code
def yX3_join : MethodName := ⟨RX3, "join", "(I)V"⟩
abbrev cX3_takeFirst : ByteArray := prog_5_method_6_code
def yX3_takeFirst : MethodName := ⟨RX3, "takeFirst", "()I"⟩
def RX4 : String := "NamedMoves$Reach"
def TX4 : u_T := fun k => match k with
  | 0 => ("NamedMoves$Reach", "reached", "[Z", true)
  | 1 => ("NamedMoves$Reach", "found", "[I", true)
  | 2 => ("NamedMoves$Reach", "seenThings", "[Z", true)
  | _ => ("NamedMoves$Reach", "foundNumber", "I", false)
def tyX4 : Nat → FieldType := fun k => match k with
  | 0 => .array .boolean
  | 1 => .array .int
  | 2 => .array .boolean
  | _ => .int
abbrev wsX40 : List Cond := u_ws RX4 TX4 4
theorem nmX4 : ∀ a, a < 4 → ∀ b, b < 4 → a ≠ b → (TX4 a).2.1 ≠ (TX4 b).2.1 := by decide +kernel
theorem tyX4_ok : ∀ k, k < 4 → parseFieldDescriptor (TX4 k).2.2.1 = some (tyX4 k) := by decide +kernel
abbrev cX4_init : ByteArray := prog_6_method_1_code
def yX4_init : MethodName := ⟨RX4, "<init>", "()V"⟩
def RX5 : String := "NamedMoves$Store"
def TX5 : u_T := fun k => match k with
  | 0 => ("NamedMoves$Store", "hooks", "[I", true)
  | 1 => ("NamedMoves$Store", "copies", "LNamedMoves$Copies;", true)
  | 2 => ("NamedMoves$Store", "queue", "LNamedMoves$Queue;", true)
  | 3 => ("NamedMoves$Store", "heavyBound", "I", false)
  | 4 => ("NamedMoves$Store", "made", "I", false)
  | 5 => ("NamedMoves$Store", "moving", "Z", false)
  | 6 => ("NamedMoves$Store", "half", "I", false)
  | 7 => ("NamedMoves$Store", "taken", "I", false)
  | 8 => ("NamedMoves$Store", "notesLost", "I", false)
  | _ => ("NamedMoves$Store", "movesEnded", "I", false)
def tyX5 : Nat → FieldType := fun k => match k with
  | 0 => .array .int
  | 1 => .object "NamedMoves$Copies"
  | 2 => .object "NamedMoves$Queue"
  | 3 => .int
  | 4 => .int
  | 5 => .boolean
  | 6 => .int
  | 7 => .int
  | 8 => .int
  | _ => .int
abbrev wsX50 : List Cond := u_ws RX5 TX5 10
theorem nmX5 : ∀ a, a < 10 → ∀ b, b < 10 → a ≠ b → (TX5 a).2.1 ≠ (TX5 b).2.1 := by decide +kernel
theorem tyX5_ok : ∀ k, k < 10 → parseFieldDescriptor (TX5 k).2.2.1 = some (tyX5 k) := by decide +kernel
abbrev cX5_init : ByteArray := prog_7_method_1_code
def yX5_init : MethodName := ⟨RX5, "<init>", "()V"⟩
abbrev cX5_become : ByteArray := prog_7_method_2_code
def yX5_become : MethodName := ⟨RX5, "become", "(LNamedMoves$Store;)V"⟩
abbrev cX5_isThing : ByteArray := prog_7_method_3_code
def yX5_isThing : MethodName := ⟨RX5, "isThing", "(I)Z"⟩
abbrev cX5_hungOn : ByteArray := prog_7_method_4_code
def yX5_hungOn : MethodName := ⟨RX5, "hungOn", "(I)I"⟩
abbrev cX5_freeInHalf : ByteArray := prog_7_method_5_code
def yX5_freeInHalf : MethodName := ⟨RX5, "freeInHalf", "()I"⟩
abbrev cX5_addressOfHalf : ByteArray := prog_7_method_6_code
def yX5_addressOfHalf : MethodName := ⟨RX5, "addressOfHalf", "(I)I"⟩
abbrev cX5_isInOldHalf : ByteArray := prog_7_method_7_code
def yX5_isInOldHalf : MethodName := ⟨RX5, "isInOldHalf", "(I)Z"⟩
abbrev cX5_roomKept : ByteArray := prog_7_method_8_code
def yX5_roomKept : MethodName := ⟨RX5, "roomKept", "()I"⟩
abbrev cX5_hasTwins : ByteArray := prog_7_method_9_code
def yX5_hasTwins : MethodName := ⟨RX5, "hasTwins", "(I)Z"⟩
abbrev cX5_thingsWithTwins : ByteArray := prog_7_method_10_code
def yX5_thingsWithTwins : MethodName := ⟨RX5, "thingsWithTwins", "()I"⟩
abbrev cX5_numberOf : ByteArray := prog_7_method_11_code
def yX5_numberOf : MethodName := ⟨RX5, "numberOf", "(I)I"⟩
abbrev cX5_changeBound : ByteArray := prog_7_method_12_code
def yX5_changeBound : MethodName := ⟨RX5, "changeBound", "(I)I"⟩
abbrev cX5_makeThing : ByteArray := prog_7_method_13_code
def yX5_makeThing : MethodName := ⟨RX5, "makeThing", "(II)I"⟩
abbrev cX5_halfAddressFor : ByteArray := prog_7_method_14_code
def yX5_halfAddressFor : MethodName := ⟨RX5, "halfAddressFor", "(I)I"⟩
abbrev cX5_linkHooks : ByteArray := prog_7_method_15_code
def yX5_linkHooks : MethodName := ⟨RX5, "linkHooks", "(III)I"⟩
abbrev cX5_followName : ByteArray := prog_7_method_16_code
def yX5_followName : MethodName := ⟨RX5, "followName", "(III)I"⟩
abbrev cX5_dropHook : ByteArray := prog_7_method_17_code
def yX5_dropHook : MethodName := ⟨RX5, "dropHook", "(I)I"⟩
abbrev cX5_beginMove : ByteArray := prog_7_method_18_code
def yX5_beginMove : MethodName := ⟨RX5, "beginMove", "()I"⟩
abbrev cX5_carrySteps : ByteArray := prog_7_method_19_code
def yX5_carrySteps : MethodName := ⟨RX5, "carrySteps", "(I)I"⟩
abbrev cX5_stepsUpTo : ByteArray := prog_7_method_20_code
def yX5_stepsUpTo : MethodName := ⟨RX5, "stepsUpTo", "(I)I"⟩
abbrev cX5_endMove : ByteArray := prog_7_method_21_code
def yX5_endMove : MethodName := ⟨RX5, "endMove", "()V"⟩
abbrev cX5_loseNote : ByteArray := prog_7_method_22_code
def yX5_loseNote : MethodName := ⟨RX5, "loseNote", "(I)I"⟩
abbrev cX5_firstWithNote : ByteArray := prog_7_method_23_code
def yX5_firstWithNote : MethodName := ⟨RX5, "firstWithNote", "(I)I"⟩
abbrev cX5_mendTwins : ByteArray := prog_7_method_24_code
def yX5_mendTwins : MethodName := ⟨RX5, "mendTwins", "(I)I"⟩
abbrev cX5_replaceHooks : ByteArray := prog_7_method_25_code
def yX5_replaceHooks : MethodName := ⟨RX5, "replaceHooks", "(II)V"⟩
abbrev cX5_readIn : ByteArray := prog_7_method_26_code
def yX5_readIn : MethodName := ⟨RX5, "readIn", "([II)I"⟩
abbrev cX5_carryOver : ByteArray := prog_7_method_27_code
def yX5_carryOver : MethodName := ⟨RX5, "carryOver", "(II)I"⟩
def RX6 : String := "NamedMoves$Text"
def TX6 : u_T := fun k => match k with
  | 0 => ("NamedMoves$Text", "characters", "[I", true)
  | _ => ("NamedMoves$Text", "length", "I", false)
def tyX6 : Nat → FieldType := fun k => match k with
  | 0 => .array .int
  | _ => .int
abbrev wsX60 : List Cond := u_ws RX6 TX6 2
theorem nmX6 : ∀ a, a < 2 → ∀ b, b < 2 → a ≠ b → (TX6 a).2.1 ≠ (TX6 b).2.1 := by decide +kernel
theorem tyX6_ok : ∀ k, k < 2 → parseFieldDescriptor (TX6 k).2.2.1 = some (tyX6 k) := by decide +kernel
abbrev cX6_init : ByteArray := prog_8_method_1_code
def yX6_init : MethodName := ⟨RX6, "<init>", "()V"⟩
abbrev cX6_size : ByteArray := prog_8_method_2_code
def yX6_size : MethodName := ⟨RX6, "size", "()I"⟩
def RX7 : String := "NamedMoves"
def TX7 : u_T := fun k => match k with
  | 0 => ("NamedMoves", "store", "LNamedMoves$Store;", true)
  | 1 => ("NamedMoves", "forecast", "LNamedMoves$Store;", true)
  | 2 => ("NamedMoves", "history", "LNamedMoves$History;", true)
  | 3 => ("NamedMoves", "reach", "LNamedMoves$Reach;", true)
  | 4 => ("NamedMoves", "text", "LNamedMoves$Text;", true)
  | _ => ("NamedMoves", "errand", "LNamedMoves$Errand;", true)
def tyX7 : Nat → FieldType := fun k => match k with
  | 0 => .object "NamedMoves$Store"
  | 1 => .object "NamedMoves$Store"
  | 2 => .object "NamedMoves$History"
  | 3 => .object "NamedMoves$Reach"
  | 4 => .object "NamedMoves$Text"
  | _ => .object "NamedMoves$Errand"
abbrev wsX70 : List Cond := u_ws RX7 TX7 6
theorem nmX7 : ∀ a, a < 6 → ∀ b, b < 6 → a ≠ b → (TX7 a).2.1 ≠ (TX7 b).2.1 := by decide +kernel
theorem tyX7_ok : ∀ k, k < 6 → parseFieldDescriptor (TX7 k).2.2.1 = some (tyX7 k) := by decide +kernel
abbrev cX7_init : ByteArray := prog_1_method_1_code
def yX7_init : MethodName := ⟨RX7, "<init>", "()V"⟩
abbrev cX7_setHeavy : ByteArray := prog_1_method_2_code
def yX7_setHeavy : MethodName := ⟨RX7, "setHeavy", "(I)I"⟩
abbrev cX7_make : ByteArray := prog_1_method_3_code
def yX7_make : MethodName := ⟨RX7, "make", "(II)I"⟩
abbrev cX7_link : ByteArray := prog_1_method_4_code
def yX7_link : MethodName := ⟨RX7, "link", "(III)I"⟩
abbrev cX7_follow : ByteArray := prog_1_method_5_code
def yX7_follow : MethodName := ⟨RX7, "follow", "(III)I"⟩
abbrev cX7_drop : ByteArray := prog_1_method_6_code
def yX7_drop : MethodName := ⟨RX7, "drop", "(I)I"⟩
abbrev cX7_begin : ByteArray := prog_1_method_7_code
def yX7_begin : MethodName := ⟨RX7, "begin", "()I"⟩
abbrev cX7_carry : ByteArray := prog_1_method_8_code
def yX7_carry : MethodName := ⟨RX7, "carry", "(I)I"⟩
abbrev cX7_lose : ByteArray := prog_1_method_9_code
def yX7_lose : MethodName := ⟨RX7, "lose", "(I)I"⟩
abbrev cX7_mend : ByteArray := prog_1_method_10_code
def yX7_mend : MethodName := ⟨RX7, "mend", "(I)I"⟩
abbrev cX7_count : ByteArray := prog_1_method_15_code
def yX7_count : MethodName := ⟨RX7, "count", "(I)I"⟩
abbrev cX7_hook : ByteArray := prog_1_method_16_code
def yX7_hook : MethodName := ⟨RX7, "hook", "(I)I"⟩
abbrev cX7_copy : ByteArray := prog_1_method_17_code
def yX7_copy : MethodName := ⟨RX7, "copy", "(II)I"⟩
abbrev cX7_where : ByteArray := prog_1_method_18_code
def yX7_where : MethodName := ⟨RX7, "where", "(II)I"⟩
abbrev cX7_isHook : ByteArray := prog_1_method_23_code
def yX7_isHook : MethodName := ⟨RX7, "isHook", "(I)Z"⟩
abbrev cX7_isName : ByteArray := prog_1_method_24_code
def yX7_isName : MethodName := ⟨RX7, "isName", "(I)Z"⟩
abbrev cX7_orNone : ByteArray := prog_1_method_25_code
def yX7_orNone : MethodName := ⟨RX7, "orNone", "(I)I"⟩
abbrev cX7_recorded : ByteArray := prog_1_method_26_code
def yX7_recorded : MethodName := ⟨RX7, "recorded", "(I)I"⟩
def RX8 : String := "NamedMovesModel"
def TX8 : u_T := fun k => match k with
  | _ => ("", "", "", false)
def tyX8 : Nat → FieldType := fun k => match k with
  | _ => .int
abbrev wsX80 : List Cond := u_ws RX8 TX8 0
theorem nmX8 : ∀ a, a < 0 → ∀ b, b < 0 → a ≠ b → (TX8 a).2.1 ≠ (TX8 b).2.1 := by decide +kernel
theorem tyX8_ok : ∀ k, k < 0 → parseFieldDescriptor (TX8 k).2.2.1 = some (tyX8 k) := by decide +kernel
def RJ9 : String := "java/lang/Math"
def TJ9 : u_T := fun k => match k with
  | _ => ("", "", "", false)
def tyJ9 : Nat → FieldType := fun k => match k with
  | _ => .int
abbrev wsJ90 : List Cond := u_ws RJ9 TJ9 0
theorem nmJ9 : ∀ a, a < 0 → ∀ b, b < 0 → a ≠ b → (TJ9 a).2.1 ≠ (TJ9 b).2.1 := by decide +kernel
theorem tyJ9_ok : ∀ k, k < 0 → parseFieldDescriptor (TJ9 k).2.2.1 = some (tyJ9 k) := by decide +kernel
abbrev cJ9_floorMod_7cf53 : ByteArray := prog_11_method_50_code
def yJ9_floorMod_7cf53 : MethodName := ⟨RJ9, "floorMod", "(II)I"⟩
def RJ10 : String := "java/lang/System"
def TJ10 : u_T := fun k => match k with
  | _ => ("", "", "", false)
def tyJ10 : Nat → FieldType := fun k => match k with
  | _ => .int
abbrev wsJ100 : List Cond := u_ws RJ10 TJ10 0
theorem nmJ10 : ∀ a, a < 0 → ∀ b, b < 0 → a ≠ b → (TJ10 a).2.1 ≠ (TJ10 b).2.1 := by decide +kernel
theorem tyJ10_ok : ∀ k, k < 0 → parseFieldDescriptor (TJ10 k).2.2.1 = some (tyJ10 k) := by decide +kernel
def RJ7 : String := "java/util/Arrays"
def TJ7 : u_T := fun k => match k with
  | _ => ("", "", "", false)
def tyJ7 : Nat → FieldType := fun k => match k with
  | _ => .int
abbrev wsJ70 : List Cond := u_ws RJ7 TJ7 0
theorem nmJ7 : ∀ a, a < 0 → ∀ b, b < 0 → a ≠ b → (TJ7 a).2.1 ≠ (TJ7 b).2.1 := by decide +kernel
theorem tyJ7_ok : ∀ k, k < 0 → parseFieldDescriptor (TJ7 k).2.2.1 = some (tyJ7 k) := by decide +kernel
abbrev cJ7_fill_53178 : ByteArray := prog_13_method_103_code
def yJ7_fill_53178 : MethodName := ⟨RJ7, "fill", "([II)V"⟩
def RL : String := "NamedMovesLaw"
abbrev cL_cell : ByteArray := method_2_code
def yL_cell : MethodName := ⟨RL, "cell", "([II)I"⟩
abbrev cL_low : ByteArray := method_3_code
def yL_low : MethodName := ⟨RL, "low", "(II)I"⟩
abbrev cL_at : ByteArray := method_4_code
def yL_at : MethodName := ⟨RL, "at", "([J[J[JI)J"⟩
abbrev cL_puts : ByteArray := method_5_code
def yL_puts : MethodName := ⟨RL, "puts", "([J[J[JIJ)V"⟩
abbrev cL_pack : ByteArray := method_6_code
def yL_pack : MethodName := ⟨RL, "pack", "(IIIII)J"⟩
abbrev cL_thing : ByteArray := method_7_code
def yL_thing : MethodName := ⟨RL, "thing", "(J)I"⟩
abbrev cL_name : ByteArray := method_8_code
def yL_name : MethodName := ⟨RL, "name", "(JI)I"⟩
abbrev cL_mark : ByteArray := method_9_code
def yL_mark : MethodName := ⟨RL, "mark", "(J)I"⟩
abbrev cL_kept : ByteArray := method_10_code
def yL_kept : MethodName := ⟨RL, "kept", "([I[I[J[J)I"⟩
abbrev cL_lays : ByteArray := method_11_code
def yL_lays : MethodName := ⟨RL, "lays", "([I[I[J[J[JIII)I"⟩
abbrev cL_read : ByteArray := method_12_code
def yL_read : MethodName := ⟨RL, "read", "([I[I[I[J[J[JI)I"⟩
abbrev cL_renames : ByteArray := method_13_code
def yL_renames : MethodName := ⟨RL, "renames", "([J[J[JIII)V"⟩
abbrev cL_ends : ByteArray := method_14_code
def yL_ends : MethodName := ⟨RL, "ends", "([I[J[J[J)V"⟩
abbrev cL_begins : ByteArray := method_15_code
def yL_begins : MethodName := ⟨RL, "begins", "([I[I[I[I[J[J[J)V"⟩
abbrev cL_step : ByteArray := method_16_code
def yL_step : MethodName := ⟨RL, "step", "([I[I[I[J[J[J)V"⟩
abbrev cL_floor : ByteArray := method_17_code
def yL_floor : MethodName := ⟨RL, "floor", "([I[JI)I"⟩
abbrev cL_makes : ByteArray := method_18_code
def yL_makes : MethodName := ⟨RL, "makes", "(LNamedMoves;[I[I[I[J[J[JI)Z"⟩
abbrev cL_names : ByteArray := method_19_code
def yL_names : MethodName := ⟨RL, "names", "(LNamedMoves;[I[I[I[I[J[J[JIZ)Z"⟩
abbrev cL_address : ByteArray := method_20_code
def yL_address : MethodName := ⟨RL, "address", "(I)I"⟩
abbrev cL_mends : ByteArray := method_21_code
def yL_mends : MethodName := ⟨RL, "mends", "(LNamedMoves;[I[I[J[J[JI)Z"⟩
abbrev cL_loses : ByteArray := method_22_code
def yL_loses : MethodName := ⟨RL, "loses", "(LNamedMoves;[I[I[J[J[JI)Z"⟩
abbrev cL_acts : ByteArray := method_23_code
def yL_acts : MethodName := ⟨RL, "acts", "(LNamedMoves;[I[I[I[I[J[J[JI)Z"⟩
abbrev cL_isSo : ByteArray := method_24_code
def yL_isSo : MethodName := ⟨RL, "isSo", "(LNamedMoves;[I[I[I[J[J[J)Z"⟩
abbrev cL_law : ByteArray := code
def yL_law : MethodName := ⟨RL, "law", "([I)Z"⟩
def wsJ7_fill_53178 : List Cond := .code yJ7_fill_53178 cJ7_fill_53178 4 none :: ([])
def wsX0_init : List Cond := .code yX0_init cX0_init 1 none :: ([.methodLink RX0 3 objectInit, .instanceMethod objectInit, .code objectInit ⟨#[0xb1]⟩ 1 none, .arrayClass .int, .fieldLink RX0 9 "NamedMoves$Copies" "things" "[I", .fieldLink RX0 15 "NamedMoves$Copies" "sizes" "[I", .fieldLink RX0 18 "NamedMoves$Copies" "notes" "[I", .fieldLink RX0 21 "NamedMoves$Copies" "marks" "[I", .fieldLink RX0 24 "NamedMoves$Copies" "names" "[I", .methodLink RX0 27 yJ7_fill_53178, .static yJ7_fill_53178, .initialized RJ7, .code yJ7_fill_53178 cJ7_fill_53178 4 none] ++ wsX00)
def wsX0_become : List Cond := .code yX0_become cX0_become 2 none :: ([.fieldLink RX0 9 "NamedMoves$Copies" "things" "[I", .methodLink RX0 33 arraycopyName, .native arraycopyName, .static arraycopyName, .initialized "java/lang/System", .fieldLink RX0 15 "NamedMoves$Copies" "sizes" "[I", .fieldLink RX0 18 "NamedMoves$Copies" "notes" "[I", .fieldLink RX0 21 "NamedMoves$Copies" "marks" "[I", .fieldLink RX0 24 "NamedMoves$Copies" "names" "[I"] ++ wsX00)
def wsX0_isAt : List Cond := .code yX0_isAt cX0_isAt 2 (some .boolean) :: ([.fieldLink RX0 15 "NamedMoves$Copies" "sizes" "[I"] ++ wsX00)
def wsX0_isOf : List Cond := .code yX0_isOf cX0_isOf 3 (some .boolean) :: ([.fieldLink RX0 9 "NamedMoves$Copies" "things" "[I", .methodLink RX0 39 yX0_isAt, .instanceMethod yX0_isAt, .selects RX0 yX0_isAt yX0_isAt, .initialized RX0, .code yX0_isAt cX0_isAt 2 (some .boolean), .fieldLink RX0 15 "NamedMoves$Copies" "sizes" "[I"] ++ wsX00)
def wsX0_thingAt : List Cond := .code yX0_thingAt cX0_thingAt 2 (some .int) :: ([.fieldLink RX0 9 "NamedMoves$Copies" "things" "[I", .methodLink RX0 39 yX0_isAt, .instanceMethod yX0_isAt, .selects RX0 yX0_isAt yX0_isAt, .initialized RX0, .code yX0_isAt cX0_isAt 2 (some .boolean), .fieldLink RX0 15 "NamedMoves$Copies" "sizes" "[I"] ++ wsX00)
def wsX0_sizeAt : List Cond := .code yX0_sizeAt cX0_sizeAt 2 (some .int) :: ([.fieldLink RX0 15 "NamedMoves$Copies" "sizes" "[I", .methodLink RX0 39 yX0_isAt, .instanceMethod yX0_isAt, .selects RX0 yX0_isAt yX0_isAt, .initialized RX0, .code yX0_isAt cX0_isAt 2 (some .boolean)] ++ wsX00)
def wsX0_noteAt : List Cond := .code yX0_noteAt cX0_noteAt 2 (some .int) :: ([.fieldLink RX0 18 "NamedMoves$Copies" "notes" "[I", .methodLink RX0 39 yX0_isAt, .instanceMethod yX0_isAt, .selects RX0 yX0_isAt yX0_isAt, .initialized RX0, .code yX0_isAt cX0_isAt 2 (some .boolean), .fieldLink RX0 15 "NamedMoves$Copies" "sizes" "[I"] ++ wsX00)
def wsX0_isMarked : List Cond := .code yX0_isMarked cX0_isMarked 2 (some .boolean) :: ([.fieldLink RX0 21 "NamedMoves$Copies" "marks" "[I", .methodLink RX0 39 yX0_isAt, .instanceMethod yX0_isAt, .selects RX0 yX0_isAt yX0_isAt, .initialized RX0, .code yX0_isAt cX0_isAt 2 (some .boolean), .fieldLink RX0 15 "NamedMoves$Copies" "sizes" "[I"] ++ wsX00)
def wsX7_isName : List Cond := .code yX7_isName cX7_isName 1 (some .boolean) :: ([])
def wsX0_nameAt : List Cond := .code yX0_nameAt cX0_nameAt 3 (some .int) :: ([.fieldLink RX0 24 "NamedMoves$Copies" "names" "[I", .methodLink RX0 39 yX0_isAt, .instanceMethod yX0_isAt, .selects RX0 yX0_isAt yX0_isAt, .initialized RX0, .code yX0_isAt cX0_isAt 2 (some .boolean), .fieldLink RX0 15 "NamedMoves$Copies" "sizes" "[I", .static yX7_isName, .initialized RX7, .code yX7_isName cX7_isName 1 (some .boolean)] ++ wsX00)
def wsX0_loseNoteAt : List Cond := .code yX0_loseNoteAt cX0_loseNoteAt 2 none :: ([.fieldLink RX0 18 "NamedMoves$Copies" "notes" "[I", .methodLink RX0 39 yX0_isAt, .instanceMethod yX0_isAt, .selects RX0 yX0_isAt yX0_isAt, .initialized RX0, .code yX0_isAt cX0_isAt 2 (some .boolean), .fieldLink RX0 15 "NamedMoves$Copies" "sizes" "[I"] ++ wsX00)
def wsX0_mark : List Cond := .code yX0_mark cX0_mark 2 (some .boolean) :: ([.fieldLink RX0 21 "NamedMoves$Copies" "marks" "[I", .methodLink RX0 39 yX0_isAt, .instanceMethod yX0_isAt, .selects RX0 yX0_isAt yX0_isAt, .initialized RX0, .code yX0_isAt cX0_isAt 2 (some .boolean), .fieldLink RX0 15 "NamedMoves$Copies" "sizes" "[I"] ++ wsX00)
def wsX0_setName : List Cond := .code yX0_setName cX0_setName 4 none :: ([.fieldLink RX0 24 "NamedMoves$Copies" "names" "[I", .methodLink RX0 39 yX0_isAt, .instanceMethod yX0_isAt, .selects RX0 yX0_isAt yX0_isAt, .initialized RX0, .code yX0_isAt cX0_isAt 2 (some .boolean), .fieldLink RX0 15 "NamedMoves$Copies" "sizes" "[I", .static yX7_isName, .initialized RX7, .code yX7_isName cX7_isName 1 (some .boolean)] ++ wsX00)
def wsX0_lay : List Cond := .code yX0_lay cX0_lay 4 none :: ([.fieldLink RX0 9 "NamedMoves$Copies" "things" "[I", .fieldLink RX0 15 "NamedMoves$Copies" "sizes" "[I", .fieldLink RX0 18 "NamedMoves$Copies" "notes" "[I", .fieldLink RX0 21 "NamedMoves$Copies" "marks" "[I", .fieldLink RX0 24 "NamedMoves$Copies" "names" "[I"] ++ wsX00)
def wsX0_layAgain : List Cond := .code yX0_layAgain cX0_layAgain 3 none :: ([.fieldLink RX0 9 "NamedMoves$Copies" "things" "[I", .fieldLink RX0 15 "NamedMoves$Copies" "sizes" "[I", .fieldLink RX0 18 "NamedMoves$Copies" "notes" "[I", .fieldLink RX0 21 "NamedMoves$Copies" "marks" "[I", .fieldLink RX0 24 "NamedMoves$Copies" "names" "[I"] ++ wsX00)
def wsX0_remove : List Cond := .code yX0_remove cX0_remove 2 none :: ([.fieldLink RX0 15 "NamedMoves$Copies" "sizes" "[I"] ++ wsX00)
def wsX0_addressOf : List Cond := .code yX0_addressOf cX0_addressOf 5 (some .int) :: ([.methodLink RX0 46 yX0_isOf, .instanceMethod yX0_isOf, .selects RX0 yX0_isOf yX0_isOf, .initialized RX0, .code yX0_isOf cX0_isOf 3 (some .boolean), .fieldLink RX0 9 "NamedMoves$Copies" "things" "[I", .methodLink RX0 39 yX0_isAt, .instanceMethod yX0_isAt, .selects RX0 yX0_isAt yX0_isAt, .code yX0_isAt cX0_isAt 2 (some .boolean), .fieldLink RX0 15 "NamedMoves$Copies" "sizes" "[I"] ++ wsX00)
def wsX0_number : List Cond := .code yX0_number cX0_number 3 (some .int) :: ([.methodLink RX0 39 yX0_isAt, .instanceMethod yX0_isAt, .selects RX0 yX0_isAt yX0_isAt, .initialized RX0, .code yX0_isAt cX0_isAt 2 (some .boolean), .fieldLink RX0 15 "NamedMoves$Copies" "sizes" "[I"] ++ wsX00)
def wsX0_floorTaken : List Cond := .code yX0_floorTaken cX0_floorTaken 3 (some .int) :: ([.methodLink RX0 50 yX0_sizeAt, .instanceMethod yX0_sizeAt, .selects RX0 yX0_sizeAt yX0_sizeAt, .initialized RX0, .code yX0_sizeAt cX0_sizeAt 2 (some .int), .fieldLink RX0 15 "NamedMoves$Copies" "sizes" "[I", .methodLink RX0 39 yX0_isAt, .instanceMethod yX0_isAt, .selects RX0 yX0_isAt yX0_isAt, .code yX0_isAt cX0_isAt 2 (some .boolean)] ++ wsX00)
def wsX0_floorAddressFor : List Cond := .code yX0_floorAddressFor cX0_floorAddressFor 5 (some .int) :: ([.methodLink RX0 50 yX0_sizeAt, .instanceMethod yX0_sizeAt, .selects RX0 yX0_sizeAt yX0_sizeAt, .initialized RX0, .code yX0_sizeAt cX0_sizeAt 2 (some .int), .fieldLink RX0 15 "NamedMoves$Copies" "sizes" "[I", .methodLink RX0 39 yX0_isAt, .instanceMethod yX0_isAt, .selects RX0 yX0_isAt yX0_isAt, .code yX0_isAt cX0_isAt 2 (some .boolean)] ++ wsX00)
def wsX0_replaceNames : List Cond := .code yX0_replaceNames cX0_replaceNames 4 none :: ([.fieldLink RX0 24 "NamedMoves$Copies" "names" "[I"] ++ wsX00)
def wsX0_emptyHalf : List Cond := .code yX0_emptyHalf cX0_emptyHalf 3 none :: ([.methodLink RX0 57 yX0_remove, .instanceMethod yX0_remove, .selects RX0 yX0_remove yX0_remove, .initialized RX0, .code yX0_remove cX0_remove 2 none, .fieldLink RX0 15 "NamedMoves$Copies" "sizes" "[I"] ++ wsX00)
def wsX0_sweepFloor : List Cond := .code yX0_sweepFloor cX0_sweepFloor 2 none :: ([.fieldLink RX0 21 "NamedMoves$Copies" "marks" "[I", .methodLink RX0 57 yX0_remove, .instanceMethod yX0_remove, .selects RX0 yX0_remove yX0_remove, .initialized RX0, .code yX0_remove cX0_remove 2 none, .fieldLink RX0 15 "NamedMoves$Copies" "sizes" "[I"] ++ wsX00)
def wsX1_init : List Cond := .code yX1_init cX1_init 1 none :: ([.methodLink RX1 3 objectInit, .instanceMethod objectInit, .code objectInit ⟨#[0xb1]⟩ 1 none, .arrayClass .int, .fieldLink RX1 9 "NamedMoves$Errand" "numbers" "[I"] ++ wsX10)
def wsX3_init : List Cond := .code yX3_init cX3_init 1 none :: ([.methodLink RX3 3 objectInit, .instanceMethod objectInit, .code objectInit ⟨#[0xb1]⟩ 1 none, .arrayClass .int, .fieldLink RX3 9 "NamedMoves$Queue" "addresses" "[I"] ++ wsX30)
def wsX5_init_r1 : List Cond := [Cond.methodLink RX5 3 objectInit, Cond.instanceMethod objectInit, Cond.code objectInit ⟨#[0xb1]⟩ 1 none, Cond.arrayClass .int, Cond.fieldLink RX5 9 "NamedMoves$Store" "hooks" "[I", Cond.classLink RX5 15 RX0, Cond.instantiable RX0 5, Cond.initialized RX0, Cond.fieldLink RX5 18 "NamedMoves$Store" "copies" "LNamedMoves$Copies;", Cond.classLink RX5 22 RX3, Cond.instantiable RX3 3, Cond.initialized RX3, Cond.fieldLink RX5 25 "NamedMoves$Store" "queue" "LNamedMoves$Queue;", Cond.fieldLink RX5 29 "NamedMoves$Store" "heavyBound" "I", Cond.methodLink RX5 17 yX0_init, Cond.instanceMethod yX0_init, Cond.code yX0_init cX0_init 1 none, Cond.methodLink RX0 3 objectInit, Cond.fieldLink RX0 9 "NamedMoves$Copies" "things" "[I", Cond.fieldLink RX0 15 "NamedMoves$Copies" "sizes" "[I", Cond.fieldLink RX0 18 "NamedMoves$Copies" "notes" "[I", Cond.fieldLink RX0 21 "NamedMoves$Copies" "marks" "[I", Cond.fieldLink RX0 24 "NamedMoves$Copies" "names" "[I", Cond.methodLink RX0 27 yJ7_fill_53178]
def wsX5_init_r2 : List Cond := [Cond.static yJ7_fill_53178, Cond.initialized RJ7, Cond.code yJ7_fill_53178 cJ7_fill_53178 4 none, Cond.instanceMethod yX3_init, Cond.code yX3_init cX3_init 1 none, Cond.methodLink RX3 3 objectInit, Cond.fieldLink RX3 9 "NamedMoves$Queue" "addresses" "[I", Cond.methodLink RX5 33 yJ7_fill_53178]
def wsX5_init : List Cond := .code yX5_init cX5_init 1 none :: ((wsX5_init_r1 ++ wsX5_init_r2) ++ wsX50 ++ wsX00 ++ wsX30)
def wsX2_init_r1 : List Cond := [Cond.methodLink RX2 3 objectInit, Cond.instanceMethod objectInit, Cond.code objectInit ⟨#[0xb1]⟩ 1 none, Cond.classLink RX2 9 RX5, Cond.fieldLink RX2 11 "NamedMoves$History" "states" "[LNamedMoves$Store;", Cond.instantiable RX5 10, Cond.initialized RX5, Cond.methodLink RX2 17 yX5_init, Cond.instanceMethod yX5_init, Cond.code yX5_init cX5_init 1 none, Cond.methodLink RX5 3 objectInit, Cond.arrayClass .int, Cond.fieldLink RX5 9 "NamedMoves$Store" "hooks" "[I", Cond.classLink RX5 15 RX0, Cond.instantiable RX0 5, Cond.initialized RX0, Cond.fieldLink RX5 18 "NamedMoves$Store" "copies" "LNamedMoves$Copies;", Cond.classLink RX5 22 RX3, Cond.instantiable RX3 3, Cond.initialized RX3, Cond.fieldLink RX5 25 "NamedMoves$Store" "queue" "LNamedMoves$Queue;", Cond.fieldLink RX5 29 "NamedMoves$Store" "heavyBound" "I", Cond.methodLink RX5 17 yX0_init, Cond.instanceMethod yX0_init]
def wsX2_init_r2 : List Cond := [Cond.code yX0_init cX0_init 1 none, Cond.methodLink RX0 3 objectInit, Cond.fieldLink RX0 9 "NamedMoves$Copies" "things" "[I", Cond.fieldLink RX0 15 "NamedMoves$Copies" "sizes" "[I", Cond.fieldLink RX0 18 "NamedMoves$Copies" "notes" "[I", Cond.fieldLink RX0 21 "NamedMoves$Copies" "marks" "[I", Cond.fieldLink RX0 24 "NamedMoves$Copies" "names" "[I", Cond.methodLink RX0 27 yJ7_fill_53178, Cond.static yJ7_fill_53178, Cond.initialized RJ7, Cond.code yJ7_fill_53178 cJ7_fill_53178 4 none, Cond.instanceMethod yX3_init, Cond.code yX3_init cX3_init 1 none, Cond.methodLink RX3 3 objectInit, Cond.fieldLink RX3 9 "NamedMoves$Queue" "addresses" "[I", Cond.methodLink RX5 33 yJ7_fill_53178]
def wsX2_init : List Cond := .code yX2_init cX2_init 2 none :: ((wsX2_init_r1 ++ wsX2_init_r2) ++ wsX20 ++ wsX50 ++ wsX00 ++ wsX30)
def wsX2_size : List Cond := .code yX2_size cX2_size 1 (some .int) :: ([.fieldLink RX2 18 "NamedMoves$History" "held" "I"] ++ wsX20)
def wsJ9_floorMod_7cf53 : List Cond := .code yJ9_floorMod_7cf53 cJ9_floorMod_7cf53 3 (some .int) :: ([])
def wsX2_slotOfDraft : List Cond := .code yX2_slotOfDraft cX2_slotOfDraft 1 (some .int) :: ([.fieldLink RX2 22 "NamedMoves$History" "first" "I", .fieldLink RX2 18 "NamedMoves$History" "held" "I", .methodLink RX2 25 yJ9_floorMod_7cf53, .static yJ9_floorMod_7cf53, .initialized RJ9, .code yJ9_floorMod_7cf53 cJ9_floorMod_7cf53 3 (some .int)] ++ wsX20)
def wsX3_become : List Cond := .code yX3_become cX3_become 2 none :: ([.fieldLink RX3 9 "NamedMoves$Queue" "addresses" "[I", .methodLink RX3 15 arraycopyName, .native arraycopyName, .static arraycopyName, .initialized "java/lang/System", .fieldLink RX3 21 "NamedMoves$Queue" "first" "I", .fieldLink RX3 25 "NamedMoves$Queue" "end" "I"] ++ wsX30)
def wsX5_become_r1 : List Cond := [Cond.fieldLink RX5 9 "NamedMoves$Store" "hooks" "[I", Cond.methodLink RX5 39 arraycopyName, Cond.native arraycopyName, Cond.static arraycopyName, Cond.initialized "java/lang/System", Cond.fieldLink RX5 18 "NamedMoves$Store" "copies" "LNamedMoves$Copies;", Cond.fieldLink RX5 25 "NamedMoves$Store" "queue" "LNamedMoves$Queue;", Cond.fieldLink RX5 29 "NamedMoves$Store" "heavyBound" "I", Cond.fieldLink RX5 52 "NamedMoves$Store" "made" "I", Cond.fieldLink RX5 55 "NamedMoves$Store" "moving" "Z", Cond.fieldLink RX5 59 "NamedMoves$Store" "half" "I", Cond.fieldLink RX5 62 "NamedMoves$Store" "taken" "I", Cond.fieldLink RX5 65 "NamedMoves$Store" "notesLost" "I", Cond.fieldLink RX5 68 "NamedMoves$Store" "movesEnded" "I", Cond.methodLink RX5 45 yX0_become, Cond.instanceMethod yX0_become, Cond.selects RX0 yX0_become yX0_become, Cond.initialized RX0, Cond.code yX0_become cX0_become 2 none, Cond.fieldLink RX0 9 "NamedMoves$Copies" "things" "[I", Cond.methodLink RX0 33 arraycopyName, Cond.fieldLink RX0 15 "NamedMoves$Copies" "sizes" "[I", Cond.fieldLink RX0 18 "NamedMoves$Copies" "notes" "[I", Cond.fieldLink RX0 21 "NamedMoves$Copies" "marks" "[I"]
def wsX5_become_r2 : List Cond := [Cond.fieldLink RX0 24 "NamedMoves$Copies" "names" "[I", Cond.methodLink RX5 49 yX3_become, Cond.instanceMethod yX3_become, Cond.selects RX3 yX3_become yX3_become, Cond.initialized RX3, Cond.code yX3_become cX3_become 2 none, Cond.fieldLink RX3 9 "NamedMoves$Queue" "addresses" "[I", Cond.methodLink RX3 15 arraycopyName, Cond.fieldLink RX3 21 "NamedMoves$Queue" "first" "I", Cond.fieldLink RX3 25 "NamedMoves$Queue" "end" "I"]
def wsX5_become : List Cond := .code yX5_become cX5_become 2 none :: ((wsX5_become_r1 ++ wsX5_become_r2) ++ wsX50 ++ wsX00 ++ wsX30)
def wsX2_draft_r1 : List Cond := [Cond.fieldLink RX2 11 "NamedMoves$History" "states" "[LNamedMoves$Store;", Cond.methodLink RX2 31 yX2_slotOfDraft, Cond.instanceMethod yX2_slotOfDraft, Cond.selects RX2 yX2_slotOfDraft yX2_slotOfDraft, Cond.initialized RX2, Cond.code yX2_slotOfDraft cX2_slotOfDraft 1 (some .int), Cond.fieldLink RX2 22 "NamedMoves$History" "first" "I", Cond.fieldLink RX2 18 "NamedMoves$History" "held" "I", Cond.methodLink RX2 25 yJ9_floorMod_7cf53, Cond.static yJ9_floorMod_7cf53, Cond.initialized RJ9, Cond.code yJ9_floorMod_7cf53 cJ9_floorMod_7cf53 3 (some .int), Cond.methodLink RX2 35 yX5_become, Cond.instanceMethod yX5_become, Cond.selects RX5 yX5_become yX5_become, Cond.initialized RX5, Cond.code yX5_become cX5_become 2 none, Cond.fieldLink RX5 9 "NamedMoves$Store" "hooks" "[I", Cond.methodLink RX5 39 arraycopyName, Cond.native arraycopyName, Cond.static arraycopyName, Cond.initialized "java/lang/System", Cond.fieldLink RX5 18 "NamedMoves$Store" "copies" "LNamedMoves$Copies;", Cond.fieldLink RX5 25 "NamedMoves$Store" "queue" "LNamedMoves$Queue;"]
def wsX2_draft_r2 : List Cond := [Cond.fieldLink RX5 29 "NamedMoves$Store" "heavyBound" "I", Cond.fieldLink RX5 52 "NamedMoves$Store" "made" "I", Cond.fieldLink RX5 55 "NamedMoves$Store" "moving" "Z", Cond.fieldLink RX5 59 "NamedMoves$Store" "half" "I", Cond.fieldLink RX5 62 "NamedMoves$Store" "taken" "I", Cond.fieldLink RX5 65 "NamedMoves$Store" "notesLost" "I", Cond.fieldLink RX5 68 "NamedMoves$Store" "movesEnded" "I", Cond.methodLink RX5 45 yX0_become, Cond.instanceMethod yX0_become, Cond.selects RX0 yX0_become yX0_become, Cond.initialized RX0, Cond.code yX0_become cX0_become 2 none, Cond.fieldLink RX0 9 "NamedMoves$Copies" "things" "[I", Cond.methodLink RX0 33 arraycopyName, Cond.fieldLink RX0 15 "NamedMoves$Copies" "sizes" "[I", Cond.fieldLink RX0 18 "NamedMoves$Copies" "notes" "[I", Cond.fieldLink RX0 21 "NamedMoves$Copies" "marks" "[I", Cond.fieldLink RX0 24 "NamedMoves$Copies" "names" "[I", Cond.methodLink RX5 49 yX3_become, Cond.instanceMethod yX3_become, Cond.selects RX3 yX3_become yX3_become, Cond.initialized RX3, Cond.code yX3_become cX3_become 2 none, Cond.fieldLink RX3 9 "NamedMoves$Queue" "addresses" "[I"]
def wsX2_draft_r3 : List Cond := [Cond.methodLink RX3 15 arraycopyName, Cond.fieldLink RX3 21 "NamedMoves$Queue" "first" "I", Cond.fieldLink RX3 25 "NamedMoves$Queue" "end" "I"]
def wsX2_draft : List Cond := .code yX2_draft cX2_draft 3 none :: ((wsX2_draft_r1 ++ (wsX2_draft_r2 ++ wsX2_draft_r3)) ++ wsX20 ++ wsX50 ++ wsX00 ++ wsX30)
def wsX2_keepDraft : List Cond := .code yX2_keepDraft cX2_keepDraft 1 none :: ([.fieldLink RX2 18 "NamedMoves$History" "held" "I", .fieldLink RX2 22 "NamedMoves$History" "first" "I", .methodLink RX2 25 yJ9_floorMod_7cf53, .static yJ9_floorMod_7cf53, .initialized RJ9, .code yJ9_floorMod_7cf53 cJ9_floorMod_7cf53 3 (some .int)] ++ wsX20)
def wsX3_clear : List Cond := .code yX3_clear cX3_clear 1 none :: ([.fieldLink RX3 21 "NamedMoves$Queue" "first" "I", .fieldLink RX3 25 "NamedMoves$Queue" "end" "I"] ++ wsX30)
def wsX3_size : List Cond := .code yX3_size cX3_size 1 (some .int) :: ([.fieldLink RX3 25 "NamedMoves$Queue" "end" "I", .fieldLink RX3 21 "NamedMoves$Queue" "first" "I"] ++ wsX30)
def wsX3_join : List Cond := .code yX3_join cX3_join 2 none :: ([.fieldLink RX3 25 "NamedMoves$Queue" "end" "I", .fieldLink RX3 9 "NamedMoves$Queue" "addresses" "[I"] ++ wsX30)
def wsX3_takeFirst : List Cond := .code yX3_takeFirst cX3_takeFirst 1 (some .int) :: ([.fieldLink RX3 21 "NamedMoves$Queue" "first" "I", .fieldLink RX3 25 "NamedMoves$Queue" "end" "I", .fieldLink RX3 9 "NamedMoves$Queue" "addresses" "[I"] ++ wsX30)
def wsX4_init : List Cond := .code yX4_init cX4_init 1 none :: ([.methodLink RX4 3 objectInit, .instanceMethod objectInit, .code objectInit ⟨#[0xb1]⟩ 1 none, .arrayClass .boolean, .fieldLink RX4 9 "NamedMoves$Reach" "reached" "[Z", .arrayClass .int, .fieldLink RX4 15 "NamedMoves$Reach" "found" "[I", .fieldLink RX4 19 "NamedMoves$Reach" "seenThings" "[Z"] ++ wsX40)
def wsX5_isThing : List Cond := .code yX5_isThing cX5_isThing 2 (some .boolean) :: ([.fieldLink RX5 52 "NamedMoves$Store" "made" "I"] ++ wsX50)
def wsX7_isHook : List Cond := .code yX7_isHook cX7_isHook 1 (some .boolean) :: ([])
def wsX5_hungOn : List Cond := .code yX5_hungOn cX5_hungOn 2 (some .int) :: ([.fieldLink RX5 9 "NamedMoves$Store" "hooks" "[I", .static yX7_isHook, .initialized RX7, .code yX7_isHook cX7_isHook 1 (some .boolean)] ++ wsX50)
def wsX5_freeInHalf : List Cond := .code yX5_freeInHalf cX5_freeInHalf 1 (some .int) :: ([.fieldLink RX5 62 "NamedMoves$Store" "taken" "I"] ++ wsX50)
def wsX5_addressOfHalf : List Cond := .code yX5_addressOfHalf cX5_addressOfHalf 2 (some .int) :: ([])
def wsX5_isInOldHalf : List Cond := .code yX5_isInOldHalf cX5_isInOldHalf 3 (some .boolean) :: ([.fieldLink RX5 59 "NamedMoves$Store" "half" "I", .fieldLink RX5 55 "NamedMoves$Store" "moving" "Z", .methodLink RX5 75 yX5_addressOfHalf, .instanceMethod yX5_addressOfHalf, .selects RX5 yX5_addressOfHalf yX5_addressOfHalf, .initialized RX5, .code yX5_addressOfHalf cX5_addressOfHalf 2 (some .int)] ++ wsX50)
def wsX5_roomKept : List Cond := .code yX5_roomKept cX5_roomKept 4 (some .int) :: ([.fieldLink RX5 59 "NamedMoves$Store" "half" "I", .fieldLink RX5 55 "NamedMoves$Store" "moving" "Z", .fieldLink RX5 18 "NamedMoves$Store" "copies" "LNamedMoves$Copies;", .methodLink RX5 75 yX5_addressOfHalf, .instanceMethod yX5_addressOfHalf, .selects RX5 yX5_addressOfHalf yX5_addressOfHalf, .initialized RX5, .code yX5_addressOfHalf cX5_addressOfHalf 2 (some .int), .methodLink RX5 79 yX0_noteAt, .instanceMethod yX0_noteAt, .selects RX0 yX0_noteAt yX0_noteAt, .initialized RX0, .code yX0_noteAt cX0_noteAt 2 (some .int), .fieldLink RX0 18 "NamedMoves$Copies" "notes" "[I", .methodLink RX0 39 yX0_isAt, .instanceMethod yX0_isAt, .selects RX0 yX0_isAt yX0_isAt, .code yX0_isAt cX0_isAt 2 (some .boolean), .fieldLink RX0 15 "NamedMoves$Copies" "sizes" "[I", .methodLink RX5 82 yX0_sizeAt, .instanceMethod yX0_sizeAt, .selects RX0 yX0_sizeAt yX0_sizeAt, .code yX0_sizeAt cX0_sizeAt 2 (some .int)] ++ wsX50 ++ wsX00)
def wsX5_hasTwins : List Cond := .code yX5_hasTwins cX5_hasTwins 4 (some .boolean) :: ([.fieldLink RX5 18 "NamedMoves$Store" "copies" "LNamedMoves$Copies;", .methodLink RX5 85 yX0_isOf, .instanceMethod yX0_isOf, .selects RX0 yX0_isOf yX0_isOf, .initialized RX0, .code yX0_isOf cX0_isOf 3 (some .boolean), .fieldLink RX0 9 "NamedMoves$Copies" "things" "[I", .methodLink RX0 39 yX0_isAt, .instanceMethod yX0_isAt, .selects RX0 yX0_isAt yX0_isAt, .code yX0_isAt cX0_isAt 2 (some .boolean), .fieldLink RX0 15 "NamedMoves$Copies" "sizes" "[I", .methodLink RX5 89 yX5_isInOldHalf, .instanceMethod yX5_isInOldHalf, .selects RX5 yX5_isInOldHalf yX5_isInOldHalf, .initialized RX5, .code yX5_isInOldHalf cX5_isInOldHalf 3 (some .boolean), .fieldLink RX5 59 "NamedMoves$Store" "half" "I", .fieldLink RX5 55 "NamedMoves$Store" "moving" "Z", .methodLink RX5 75 yX5_addressOfHalf, .instanceMethod yX5_addressOfHalf, .selects RX5 yX5_addressOfHalf yX5_addressOfHalf, .code yX5_addressOfHalf cX5_addressOfHalf 2 (some .int)] ++ wsX50 ++ wsX00)
def wsX5_thingsWithTwins_r1 : List Cond := [Cond.fieldLink RX5 52 "NamedMoves$Store" "made" "I", Cond.methodLink RX5 92 yX5_hasTwins, Cond.instanceMethod yX5_hasTwins, Cond.selects RX5 yX5_hasTwins yX5_hasTwins, Cond.initialized RX5, Cond.code yX5_hasTwins cX5_hasTwins 4 (some .boolean), Cond.fieldLink RX5 18 "NamedMoves$Store" "copies" "LNamedMoves$Copies;", Cond.methodLink RX5 85 yX0_isOf, Cond.instanceMethod yX0_isOf, Cond.selects RX0 yX0_isOf yX0_isOf, Cond.initialized RX0, Cond.code yX0_isOf cX0_isOf 3 (some .boolean), Cond.fieldLink RX0 9 "NamedMoves$Copies" "things" "[I", Cond.methodLink RX0 39 yX0_isAt, Cond.instanceMethod yX0_isAt, Cond.selects RX0 yX0_isAt yX0_isAt, Cond.code yX0_isAt cX0_isAt 2 (some .boolean), Cond.fieldLink RX0 15 "NamedMoves$Copies" "sizes" "[I", Cond.methodLink RX5 89 yX5_isInOldHalf, Cond.instanceMethod yX5_isInOldHalf, Cond.selects RX5 yX5_isInOldHalf yX5_isInOldHalf, Cond.code yX5_isInOldHalf cX5_isInOldHalf 3 (some .boolean), Cond.fieldLink RX5 59 "NamedMoves$Store" "half" "I", Cond.fieldLink RX5 55 "NamedMoves$Store" "moving" "Z"]
def wsX5_thingsWithTwins_r2 : List Cond := [Cond.methodLink RX5 75 yX5_addressOfHalf, Cond.instanceMethod yX5_addressOfHalf, Cond.selects RX5 yX5_addressOfHalf yX5_addressOfHalf, Cond.code yX5_addressOfHalf cX5_addressOfHalf 2 (some .int)]
def wsX5_thingsWithTwins : List Cond := .code yX5_thingsWithTwins cX5_thingsWithTwins 3 (some .int) :: ((wsX5_thingsWithTwins_r1 ++ wsX5_thingsWithTwins_r2) ++ wsX50 ++ wsX00)
def wsX5_numberOf_r1 : List Cond := [Cond.fieldLink RX5 52 "NamedMoves$Store" "made" "I", Cond.fieldLink RX5 18 "NamedMoves$Store" "copies" "LNamedMoves$Copies;", Cond.fieldLink RX5 55 "NamedMoves$Store" "moving" "Z", Cond.fieldLink RX5 59 "NamedMoves$Store" "half" "I", Cond.fieldLink RX5 25 "NamedMoves$Store" "queue" "LNamedMoves$Queue;", Cond.fieldLink RX5 65 "NamedMoves$Store" "notesLost" "I", Cond.fieldLink RX5 68 "NamedMoves$Store" "movesEnded" "I", Cond.fieldLink RX5 29 "NamedMoves$Store" "heavyBound" "I", Cond.methodLink RX5 95 yX0_number, Cond.instanceMethod yX0_number, Cond.selects RX0 yX0_number yX0_number, Cond.initialized RX0, Cond.code yX0_number cX0_number 3 (some .int), Cond.methodLink RX0 39 yX0_isAt, Cond.instanceMethod yX0_isAt, Cond.selects RX0 yX0_isAt yX0_isAt, Cond.code yX0_isAt cX0_isAt 2 (some .boolean), Cond.fieldLink RX0 15 "NamedMoves$Copies" "sizes" "[I", Cond.methodLink RX5 99 yX5_freeInHalf, Cond.instanceMethod yX5_freeInHalf, Cond.selects RX5 yX5_freeInHalf yX5_freeInHalf, Cond.initialized RX5, Cond.code yX5_freeInHalf cX5_freeInHalf 1 (some .int), Cond.fieldLink RX5 62 "NamedMoves$Store" "taken" "I"]
def wsX5_numberOf_r2 : List Cond := [Cond.methodLink RX5 102 yX0_floorTaken, Cond.instanceMethod yX0_floorTaken, Cond.selects RX0 yX0_floorTaken yX0_floorTaken, Cond.code yX0_floorTaken cX0_floorTaken 3 (some .int), Cond.methodLink RX0 50 yX0_sizeAt, Cond.instanceMethod yX0_sizeAt, Cond.selects RX0 yX0_sizeAt yX0_sizeAt, Cond.code yX0_sizeAt cX0_sizeAt 2 (some .int), Cond.methodLink RX5 105 yX3_size, Cond.instanceMethod yX3_size, Cond.selects RX3 yX3_size yX3_size, Cond.initialized RX3, Cond.code yX3_size cX3_size 1 (some .int), Cond.fieldLink RX3 25 "NamedMoves$Queue" "end" "I", Cond.fieldLink RX3 21 "NamedMoves$Queue" "first" "I", Cond.methodLink RX5 108 yX5_roomKept, Cond.instanceMethod yX5_roomKept, Cond.selects RX5 yX5_roomKept yX5_roomKept, Cond.code yX5_roomKept cX5_roomKept 4 (some .int), Cond.methodLink RX5 75 yX5_addressOfHalf, Cond.instanceMethod yX5_addressOfHalf, Cond.selects RX5 yX5_addressOfHalf yX5_addressOfHalf, Cond.code yX5_addressOfHalf cX5_addressOfHalf 2 (some .int), Cond.methodLink RX5 79 yX0_noteAt]
def wsX5_numberOf_r3 : List Cond := [Cond.instanceMethod yX0_noteAt, Cond.selects RX0 yX0_noteAt yX0_noteAt, Cond.code yX0_noteAt cX0_noteAt 2 (some .int), Cond.fieldLink RX0 18 "NamedMoves$Copies" "notes" "[I", Cond.methodLink RX5 82 yX0_sizeAt, Cond.methodLink RX5 111 yX5_thingsWithTwins, Cond.instanceMethod yX5_thingsWithTwins, Cond.selects RX5 yX5_thingsWithTwins yX5_thingsWithTwins, Cond.code yX5_thingsWithTwins cX5_thingsWithTwins 3 (some .int), Cond.methodLink RX5 92 yX5_hasTwins, Cond.instanceMethod yX5_hasTwins, Cond.selects RX5 yX5_hasTwins yX5_hasTwins, Cond.code yX5_hasTwins cX5_hasTwins 4 (some .boolean), Cond.methodLink RX5 85 yX0_isOf, Cond.instanceMethod yX0_isOf, Cond.selects RX0 yX0_isOf yX0_isOf, Cond.code yX0_isOf cX0_isOf 3 (some .boolean), Cond.fieldLink RX0 9 "NamedMoves$Copies" "things" "[I", Cond.methodLink RX5 89 yX5_isInOldHalf, Cond.instanceMethod yX5_isInOldHalf, Cond.selects RX5 yX5_isInOldHalf yX5_isInOldHalf, Cond.code yX5_isInOldHalf cX5_isInOldHalf 3 (some .boolean)]
def wsX5_numberOf : List Cond := .code yX5_numberOf cX5_numberOf 2 (some .int) :: ((wsX5_numberOf_r1 ++ (wsX5_numberOf_r2 ++ wsX5_numberOf_r3)) ++ wsX50 ++ wsX00 ++ wsX30)
def wsX5_changeBound : List Cond := .code yX5_changeBound cX5_changeBound 3 (some .int) :: ([.fieldLink RX5 29 "NamedMoves$Store" "heavyBound" "I"] ++ wsX50)
def wsX5_halfAddressFor_r1 : List Cond := [Cond.fieldLink RX5 59 "NamedMoves$Store" "half" "I", Cond.fieldLink RX5 62 "NamedMoves$Store" "taken" "I", Cond.methodLink RX5 99 yX5_freeInHalf, Cond.instanceMethod yX5_freeInHalf, Cond.selects RX5 yX5_freeInHalf yX5_freeInHalf, Cond.initialized RX5, Cond.code yX5_freeInHalf cX5_freeInHalf 1 (some .int), Cond.methodLink RX5 108 yX5_roomKept, Cond.instanceMethod yX5_roomKept, Cond.selects RX5 yX5_roomKept yX5_roomKept, Cond.code yX5_roomKept cX5_roomKept 4 (some .int), Cond.fieldLink RX5 55 "NamedMoves$Store" "moving" "Z", Cond.fieldLink RX5 18 "NamedMoves$Store" "copies" "LNamedMoves$Copies;", Cond.methodLink RX5 75 yX5_addressOfHalf, Cond.instanceMethod yX5_addressOfHalf, Cond.selects RX5 yX5_addressOfHalf yX5_addressOfHalf, Cond.code yX5_addressOfHalf cX5_addressOfHalf 2 (some .int), Cond.methodLink RX5 79 yX0_noteAt, Cond.instanceMethod yX0_noteAt, Cond.selects RX0 yX0_noteAt yX0_noteAt, Cond.initialized RX0, Cond.code yX0_noteAt cX0_noteAt 2 (some .int), Cond.fieldLink RX0 18 "NamedMoves$Copies" "notes" "[I", Cond.methodLink RX0 39 yX0_isAt]
def wsX5_halfAddressFor_r2 : List Cond := [Cond.instanceMethod yX0_isAt, Cond.selects RX0 yX0_isAt yX0_isAt, Cond.code yX0_isAt cX0_isAt 2 (some .boolean), Cond.fieldLink RX0 15 "NamedMoves$Copies" "sizes" "[I", Cond.methodLink RX5 82 yX0_sizeAt, Cond.instanceMethod yX0_sizeAt, Cond.selects RX0 yX0_sizeAt yX0_sizeAt, Cond.code yX0_sizeAt cX0_sizeAt 2 (some .int)]
def wsX5_halfAddressFor : List Cond := .code yX5_halfAddressFor cX5_halfAddressFor 2 (some .int) :: ((wsX5_halfAddressFor_r1 ++ wsX5_halfAddressFor_r2) ++ wsX50 ++ wsX00)
def wsX5_makeThing_r1 : List Cond := [Cond.fieldLink RX5 29 "NamedMoves$Store" "heavyBound" "I", Cond.fieldLink RX5 18 "NamedMoves$Store" "copies" "LNamedMoves$Copies;", Cond.fieldLink RX5 52 "NamedMoves$Store" "made" "I", Cond.fieldLink RX5 62 "NamedMoves$Store" "taken" "I", Cond.fieldLink RX5 55 "NamedMoves$Store" "moving" "Z", Cond.fieldLink RX5 9 "NamedMoves$Store" "hooks" "[I", Cond.static yX7_isHook, Cond.initialized RX7, Cond.code yX7_isHook cX7_isHook 1 (some .boolean), Cond.methodLink RX5 114 yX0_floorAddressFor, Cond.instanceMethod yX0_floorAddressFor, Cond.selects RX0 yX0_floorAddressFor yX0_floorAddressFor, Cond.initialized RX0, Cond.code yX0_floorAddressFor cX0_floorAddressFor 5 (some .int), Cond.methodLink RX0 50 yX0_sizeAt, Cond.instanceMethod yX0_sizeAt, Cond.selects RX0 yX0_sizeAt yX0_sizeAt, Cond.code yX0_sizeAt cX0_sizeAt 2 (some .int), Cond.fieldLink RX0 15 "NamedMoves$Copies" "sizes" "[I", Cond.methodLink RX0 39 yX0_isAt, Cond.instanceMethod yX0_isAt, Cond.selects RX0 yX0_isAt yX0_isAt, Cond.code yX0_isAt cX0_isAt 2 (some .boolean), Cond.methodLink RX5 117 yX5_halfAddressFor]
def wsX5_makeThing_r2 : List Cond := [Cond.instanceMethod yX5_halfAddressFor, Cond.selects RX5 yX5_halfAddressFor yX5_halfAddressFor, Cond.initialized RX5, Cond.code yX5_halfAddressFor cX5_halfAddressFor 2 (some .int), Cond.fieldLink RX5 59 "NamedMoves$Store" "half" "I", Cond.methodLink RX5 99 yX5_freeInHalf, Cond.instanceMethod yX5_freeInHalf, Cond.selects RX5 yX5_freeInHalf yX5_freeInHalf, Cond.code yX5_freeInHalf cX5_freeInHalf 1 (some .int), Cond.methodLink RX5 108 yX5_roomKept, Cond.instanceMethod yX5_roomKept, Cond.selects RX5 yX5_roomKept yX5_roomKept, Cond.code yX5_roomKept cX5_roomKept 4 (some .int), Cond.methodLink RX5 75 yX5_addressOfHalf, Cond.instanceMethod yX5_addressOfHalf, Cond.selects RX5 yX5_addressOfHalf yX5_addressOfHalf, Cond.code yX5_addressOfHalf cX5_addressOfHalf 2 (some .int), Cond.methodLink RX5 79 yX0_noteAt, Cond.instanceMethod yX0_noteAt, Cond.selects RX0 yX0_noteAt yX0_noteAt, Cond.code yX0_noteAt cX0_noteAt 2 (some .int), Cond.fieldLink RX0 18 "NamedMoves$Copies" "notes" "[I", Cond.methodLink RX5 82 yX0_sizeAt, Cond.methodLink RX5 120 yX0_lay]
def wsX5_makeThing_r3 : List Cond := [Cond.instanceMethod yX0_lay, Cond.selects RX0 yX0_lay yX0_lay, Cond.code yX0_lay cX0_lay 4 none, Cond.fieldLink RX0 9 "NamedMoves$Copies" "things" "[I", Cond.fieldLink RX0 21 "NamedMoves$Copies" "marks" "[I", Cond.fieldLink RX0 24 "NamedMoves$Copies" "names" "[I", Cond.methodLink RX5 124 yX0_mark, Cond.instanceMethod yX0_mark, Cond.selects RX0 yX0_mark yX0_mark, Cond.code yX0_mark cX0_mark 2 (some .boolean)]
def wsX5_makeThing : List Cond := .code yX5_makeThing cX5_makeThing 5 (some .int) :: ((wsX5_makeThing_r1 ++ (wsX5_makeThing_r2 ++ wsX5_makeThing_r3)) ++ wsX50 ++ wsX00)
def wsX5_carryOver_r1 : List Cond := [Cond.fieldLink RX5 59 "NamedMoves$Store" "half" "I", Cond.fieldLink RX5 62 "NamedMoves$Store" "taken" "I", Cond.fieldLink RX5 18 "NamedMoves$Store" "copies" "LNamedMoves$Copies;", Cond.fieldLink RX5 25 "NamedMoves$Store" "queue" "LNamedMoves$Queue;", Cond.methodLink RX5 99 yX5_freeInHalf, Cond.instanceMethod yX5_freeInHalf, Cond.selects RX5 yX5_freeInHalf yX5_freeInHalf, Cond.initialized RX5, Cond.code yX5_freeInHalf cX5_freeInHalf 1 (some .int), Cond.methodLink RX5 75 yX5_addressOfHalf, Cond.instanceMethod yX5_addressOfHalf, Cond.selects RX5 yX5_addressOfHalf yX5_addressOfHalf, Cond.code yX5_addressOfHalf cX5_addressOfHalf 2 (some .int), Cond.methodLink RX5 188 yX0_layAgain, Cond.instanceMethod yX0_layAgain, Cond.selects RX0 yX0_layAgain yX0_layAgain, Cond.initialized RX0, Cond.code yX0_layAgain cX0_layAgain 3 none, Cond.fieldLink RX0 9 "NamedMoves$Copies" "things" "[I", Cond.fieldLink RX0 15 "NamedMoves$Copies" "sizes" "[I", Cond.fieldLink RX0 18 "NamedMoves$Copies" "notes" "[I", Cond.fieldLink RX0 21 "NamedMoves$Copies" "marks" "[I", Cond.fieldLink RX0 24 "NamedMoves$Copies" "names" "[I", Cond.methodLink RX5 185 yX3_join]
def wsX5_carryOver_r2 : List Cond := [Cond.instanceMethod yX3_join, Cond.selects RX3 yX3_join yX3_join, Cond.initialized RX3, Cond.code yX3_join cX3_join 2 none, Cond.fieldLink RX3 25 "NamedMoves$Queue" "end" "I", Cond.fieldLink RX3 9 "NamedMoves$Queue" "addresses" "[I"]
def wsX5_carryOver : List Cond := .code yX5_carryOver cX5_carryOver 4 (some .int) :: ((wsX5_carryOver_r1 ++ wsX5_carryOver_r2) ++ wsX50 ++ wsX00 ++ wsX30)
def wsX5_readIn_r1 : List Cond := [Cond.fieldLink RX5 18 "NamedMoves$Store" "copies" "LNamedMoves$Copies;", Cond.fieldLink RX5 55 "NamedMoves$Store" "moving" "Z", Cond.fieldLink RX5 25 "NamedMoves$Store" "queue" "LNamedMoves$Queue;", Cond.methodLink RX5 89 yX5_isInOldHalf, Cond.instanceMethod yX5_isInOldHalf, Cond.selects RX5 yX5_isInOldHalf yX5_isInOldHalf, Cond.initialized RX5, Cond.code yX5_isInOldHalf cX5_isInOldHalf 3 (some .boolean), Cond.fieldLink RX5 59 "NamedMoves$Store" "half" "I", Cond.methodLink RX5 75 yX5_addressOfHalf, Cond.instanceMethod yX5_addressOfHalf, Cond.selects RX5 yX5_addressOfHalf yX5_addressOfHalf, Cond.code yX5_addressOfHalf cX5_addressOfHalf 2 (some .int), Cond.methodLink RX5 79 yX0_noteAt, Cond.instanceMethod yX0_noteAt, Cond.selects RX0 yX0_noteAt yX0_noteAt, Cond.initialized RX0, Cond.code yX0_noteAt cX0_noteAt 2 (some .int), Cond.fieldLink RX0 18 "NamedMoves$Copies" "notes" "[I", Cond.methodLink RX0 39 yX0_isAt, Cond.instanceMethod yX0_isAt, Cond.selects RX0 yX0_isAt yX0_isAt, Cond.code yX0_isAt cX0_isAt 2 (some .boolean), Cond.fieldLink RX0 15 "NamedMoves$Copies" "sizes" "[I"]
def wsX5_readIn_r2 : List Cond := [Cond.methodLink RX5 82 yX0_sizeAt, Cond.instanceMethod yX0_sizeAt, Cond.selects RX0 yX0_sizeAt yX0_sizeAt, Cond.code yX0_sizeAt cX0_sizeAt 2 (some .int), Cond.methodLink RX5 182 yX5_carryOver, Cond.instanceMethod yX5_carryOver, Cond.selects RX5 yX5_carryOver yX5_carryOver, Cond.code yX5_carryOver cX5_carryOver 4 (some .int), Cond.fieldLink RX5 62 "NamedMoves$Store" "taken" "I", Cond.methodLink RX5 99 yX5_freeInHalf, Cond.instanceMethod yX5_freeInHalf, Cond.selects RX5 yX5_freeInHalf yX5_freeInHalf, Cond.code yX5_freeInHalf cX5_freeInHalf 1 (some .int), Cond.methodLink RX5 188 yX0_layAgain, Cond.instanceMethod yX0_layAgain, Cond.selects RX0 yX0_layAgain yX0_layAgain, Cond.code yX0_layAgain cX0_layAgain 3 none, Cond.fieldLink RX0 9 "NamedMoves$Copies" "things" "[I", Cond.fieldLink RX0 21 "NamedMoves$Copies" "marks" "[I", Cond.fieldLink RX0 24 "NamedMoves$Copies" "names" "[I", Cond.methodLink RX5 185 yX3_join, Cond.instanceMethod yX3_join, Cond.selects RX3 yX3_join yX3_join, Cond.initialized RX3]
def wsX5_readIn_r3 : List Cond := [Cond.code yX3_join cX3_join 2 none, Cond.fieldLink RX3 25 "NamedMoves$Queue" "end" "I", Cond.fieldLink RX3 9 "NamedMoves$Queue" "addresses" "[I", Cond.methodLink RX5 124 yX0_mark, Cond.instanceMethod yX0_mark, Cond.selects RX0 yX0_mark yX0_mark, Cond.code yX0_mark cX0_mark 2 (some .boolean)]
def wsX5_readIn : List Cond := .code yX5_readIn cX5_readIn 5 (some .int) :: ((wsX5_readIn_r1 ++ (wsX5_readIn_r2 ++ wsX5_readIn_r3)) ++ wsX50 ++ wsX00 ++ wsX30)
def wsX5_linkHooks_r1 : List Cond := [Cond.fieldLink RX5 9 "NamedMoves$Store" "hooks" "[I", Cond.fieldLink RX5 18 "NamedMoves$Store" "copies" "LNamedMoves$Copies;", Cond.static yX7_isHook, Cond.initialized RX7, Cond.code yX7_isHook cX7_isHook 1 (some .boolean), Cond.static yX7_isName, Cond.code yX7_isName cX7_isName 1 (some .boolean), Cond.methodLink RX5 130 yX5_readIn, Cond.instanceMethod yX5_readIn, Cond.selects RX5 yX5_readIn yX5_readIn, Cond.initialized RX5, Cond.code yX5_readIn cX5_readIn 5 (some .int), Cond.fieldLink RX5 55 "NamedMoves$Store" "moving" "Z", Cond.fieldLink RX5 25 "NamedMoves$Store" "queue" "LNamedMoves$Queue;", Cond.methodLink RX5 89 yX5_isInOldHalf, Cond.instanceMethod yX5_isInOldHalf, Cond.selects RX5 yX5_isInOldHalf yX5_isInOldHalf, Cond.code yX5_isInOldHalf cX5_isInOldHalf 3 (some .boolean), Cond.fieldLink RX5 59 "NamedMoves$Store" "half" "I", Cond.methodLink RX5 75 yX5_addressOfHalf, Cond.instanceMethod yX5_addressOfHalf, Cond.selects RX5 yX5_addressOfHalf yX5_addressOfHalf, Cond.code yX5_addressOfHalf cX5_addressOfHalf 2 (some .int), Cond.methodLink RX5 79 yX0_noteAt]
def wsX5_linkHooks_r2 : List Cond := [Cond.instanceMethod yX0_noteAt, Cond.selects RX0 yX0_noteAt yX0_noteAt, Cond.initialized RX0, Cond.code yX0_noteAt cX0_noteAt 2 (some .int), Cond.fieldLink RX0 18 "NamedMoves$Copies" "notes" "[I", Cond.methodLink RX0 39 yX0_isAt, Cond.instanceMethod yX0_isAt, Cond.selects RX0 yX0_isAt yX0_isAt, Cond.code yX0_isAt cX0_isAt 2 (some .boolean), Cond.fieldLink RX0 15 "NamedMoves$Copies" "sizes" "[I", Cond.methodLink RX5 82 yX0_sizeAt, Cond.instanceMethod yX0_sizeAt, Cond.selects RX0 yX0_sizeAt yX0_sizeAt, Cond.code yX0_sizeAt cX0_sizeAt 2 (some .int), Cond.methodLink RX5 182 yX5_carryOver, Cond.instanceMethod yX5_carryOver, Cond.selects RX5 yX5_carryOver yX5_carryOver, Cond.code yX5_carryOver cX5_carryOver 4 (some .int), Cond.fieldLink RX5 62 "NamedMoves$Store" "taken" "I", Cond.methodLink RX5 99 yX5_freeInHalf, Cond.instanceMethod yX5_freeInHalf, Cond.selects RX5 yX5_freeInHalf yX5_freeInHalf, Cond.code yX5_freeInHalf cX5_freeInHalf 1 (some .int), Cond.methodLink RX5 188 yX0_layAgain]
def wsX5_linkHooks_r3 : List Cond := [Cond.instanceMethod yX0_layAgain, Cond.selects RX0 yX0_layAgain yX0_layAgain, Cond.code yX0_layAgain cX0_layAgain 3 none, Cond.fieldLink RX0 9 "NamedMoves$Copies" "things" "[I", Cond.fieldLink RX0 21 "NamedMoves$Copies" "marks" "[I", Cond.fieldLink RX0 24 "NamedMoves$Copies" "names" "[I", Cond.methodLink RX5 185 yX3_join, Cond.instanceMethod yX3_join, Cond.selects RX3 yX3_join yX3_join, Cond.initialized RX3, Cond.code yX3_join cX3_join 2 none, Cond.fieldLink RX3 25 "NamedMoves$Queue" "end" "I", Cond.fieldLink RX3 9 "NamedMoves$Queue" "addresses" "[I", Cond.methodLink RX5 124 yX0_mark, Cond.instanceMethod yX0_mark, Cond.selects RX0 yX0_mark yX0_mark, Cond.code yX0_mark cX0_mark 2 (some .boolean), Cond.methodLink RX5 134 yX0_setName, Cond.instanceMethod yX0_setName, Cond.selects RX0 yX0_setName yX0_setName, Cond.code yX0_setName cX0_setName 4 none]
def wsX5_linkHooks : List Cond := .code yX5_linkHooks cX5_linkHooks 6 (some .int) :: ((wsX5_linkHooks_r1 ++ (wsX5_linkHooks_r2 ++ wsX5_linkHooks_r3)) ++ wsX50 ++ wsX00 ++ wsX30)
def wsX5_followName_r1 : List Cond := [Cond.fieldLink RX5 9 "NamedMoves$Store" "hooks" "[I", Cond.fieldLink RX5 18 "NamedMoves$Store" "copies" "LNamedMoves$Copies;", Cond.static yX7_isHook, Cond.initialized RX7, Cond.code yX7_isHook cX7_isHook 1 (some .boolean), Cond.static yX7_isName, Cond.code yX7_isName cX7_isName 1 (some .boolean), Cond.methodLink RX5 130 yX5_readIn, Cond.instanceMethod yX5_readIn, Cond.selects RX5 yX5_readIn yX5_readIn, Cond.initialized RX5, Cond.code yX5_readIn cX5_readIn 5 (some .int), Cond.fieldLink RX5 55 "NamedMoves$Store" "moving" "Z", Cond.fieldLink RX5 25 "NamedMoves$Store" "queue" "LNamedMoves$Queue;", Cond.methodLink RX5 89 yX5_isInOldHalf, Cond.instanceMethod yX5_isInOldHalf, Cond.selects RX5 yX5_isInOldHalf yX5_isInOldHalf, Cond.code yX5_isInOldHalf cX5_isInOldHalf 3 (some .boolean), Cond.fieldLink RX5 59 "NamedMoves$Store" "half" "I", Cond.methodLink RX5 75 yX5_addressOfHalf, Cond.instanceMethod yX5_addressOfHalf, Cond.selects RX5 yX5_addressOfHalf yX5_addressOfHalf, Cond.code yX5_addressOfHalf cX5_addressOfHalf 2 (some .int), Cond.methodLink RX5 79 yX0_noteAt]
def wsX5_followName_r2 : List Cond := [Cond.instanceMethod yX0_noteAt, Cond.selects RX0 yX0_noteAt yX0_noteAt, Cond.initialized RX0, Cond.code yX0_noteAt cX0_noteAt 2 (some .int), Cond.fieldLink RX0 18 "NamedMoves$Copies" "notes" "[I", Cond.methodLink RX0 39 yX0_isAt, Cond.instanceMethod yX0_isAt, Cond.selects RX0 yX0_isAt yX0_isAt, Cond.code yX0_isAt cX0_isAt 2 (some .boolean), Cond.fieldLink RX0 15 "NamedMoves$Copies" "sizes" "[I", Cond.methodLink RX5 82 yX0_sizeAt, Cond.instanceMethod yX0_sizeAt, Cond.selects RX0 yX0_sizeAt yX0_sizeAt, Cond.code yX0_sizeAt cX0_sizeAt 2 (some .int), Cond.methodLink RX5 182 yX5_carryOver, Cond.instanceMethod yX5_carryOver, Cond.selects RX5 yX5_carryOver yX5_carryOver, Cond.code yX5_carryOver cX5_carryOver 4 (some .int), Cond.fieldLink RX5 62 "NamedMoves$Store" "taken" "I", Cond.methodLink RX5 99 yX5_freeInHalf, Cond.instanceMethod yX5_freeInHalf, Cond.selects RX5 yX5_freeInHalf yX5_freeInHalf, Cond.code yX5_freeInHalf cX5_freeInHalf 1 (some .int), Cond.methodLink RX5 188 yX0_layAgain]
def wsX5_followName_r3 : List Cond := [Cond.instanceMethod yX0_layAgain, Cond.selects RX0 yX0_layAgain yX0_layAgain, Cond.code yX0_layAgain cX0_layAgain 3 none, Cond.fieldLink RX0 9 "NamedMoves$Copies" "things" "[I", Cond.fieldLink RX0 21 "NamedMoves$Copies" "marks" "[I", Cond.fieldLink RX0 24 "NamedMoves$Copies" "names" "[I", Cond.methodLink RX5 185 yX3_join, Cond.instanceMethod yX3_join, Cond.selects RX3 yX3_join yX3_join, Cond.initialized RX3, Cond.code yX3_join cX3_join 2 none, Cond.fieldLink RX3 25 "NamedMoves$Queue" "end" "I", Cond.fieldLink RX3 9 "NamedMoves$Queue" "addresses" "[I", Cond.methodLink RX5 124 yX0_mark, Cond.instanceMethod yX0_mark, Cond.selects RX0 yX0_mark yX0_mark, Cond.code yX0_mark cX0_mark 2 (some .boolean)]
def wsX5_followName : List Cond := .code yX5_followName cX5_followName 5 (some .int) :: ((wsX5_followName_r1 ++ (wsX5_followName_r2 ++ wsX5_followName_r3)) ++ wsX50 ++ wsX00 ++ wsX30)
def wsX5_dropHook : List Cond := .code yX5_dropHook cX5_dropHook 3 (some .int) :: ([.fieldLink RX5 9 "NamedMoves$Store" "hooks" "[I", .static yX7_isHook, .initialized RX7, .code yX7_isHook cX7_isHook 1 (some .boolean)] ++ wsX50)
def wsX5_endMove : List Cond := .code yX5_endMove cX5_endMove 1 none :: ([.fieldLink RX5 18 "NamedMoves$Store" "copies" "LNamedMoves$Copies;", .fieldLink RX5 59 "NamedMoves$Store" "half" "I", .fieldLink RX5 55 "NamedMoves$Store" "moving" "Z", .fieldLink RX5 68 "NamedMoves$Store" "movesEnded" "I", .methodLink RX5 152 yX0_emptyHalf, .instanceMethod yX0_emptyHalf, .selects RX0 yX0_emptyHalf yX0_emptyHalf, .initialized RX0, .code yX0_emptyHalf cX0_emptyHalf 3 none, .methodLink RX0 57 yX0_remove, .instanceMethod yX0_remove, .selects RX0 yX0_remove yX0_remove, .code yX0_remove cX0_remove 2 none, .fieldLink RX0 15 "NamedMoves$Copies" "sizes" "[I", .methodLink RX5 156 yX0_sweepFloor, .instanceMethod yX0_sweepFloor, .selects RX0 yX0_sweepFloor yX0_sweepFloor, .code yX0_sweepFloor cX0_sweepFloor 2 none, .fieldLink RX0 21 "NamedMoves$Copies" "marks" "[I"] ++ wsX50 ++ wsX00)
def wsX5_beginMove_r1 : List Cond := [Cond.fieldLink RX5 55 "NamedMoves$Store" "moving" "Z", Cond.fieldLink RX5 59 "NamedMoves$Store" "half" "I", Cond.fieldLink RX5 62 "NamedMoves$Store" "taken" "I", Cond.fieldLink RX5 25 "NamedMoves$Store" "queue" "LNamedMoves$Queue;", Cond.fieldLink RX5 9 "NamedMoves$Store" "hooks" "[I", Cond.methodLink RX5 140 yX3_clear, Cond.instanceMethod yX3_clear, Cond.selects RX3 yX3_clear yX3_clear, Cond.initialized RX3, Cond.code yX3_clear cX3_clear 1 none, Cond.fieldLink RX3 21 "NamedMoves$Queue" "first" "I", Cond.fieldLink RX3 25 "NamedMoves$Queue" "end" "I", Cond.methodLink RX5 130 yX5_readIn, Cond.instanceMethod yX5_readIn, Cond.selects RX5 yX5_readIn yX5_readIn, Cond.initialized RX5, Cond.code yX5_readIn cX5_readIn 5 (some .int), Cond.fieldLink RX5 18 "NamedMoves$Store" "copies" "LNamedMoves$Copies;", Cond.methodLink RX5 89 yX5_isInOldHalf, Cond.instanceMethod yX5_isInOldHalf, Cond.selects RX5 yX5_isInOldHalf yX5_isInOldHalf, Cond.code yX5_isInOldHalf cX5_isInOldHalf 3 (some .boolean), Cond.methodLink RX5 75 yX5_addressOfHalf, Cond.instanceMethod yX5_addressOfHalf]
def wsX5_beginMove_r2 : List Cond := [Cond.selects RX5 yX5_addressOfHalf yX5_addressOfHalf, Cond.code yX5_addressOfHalf cX5_addressOfHalf 2 (some .int), Cond.methodLink RX5 79 yX0_noteAt, Cond.instanceMethod yX0_noteAt, Cond.selects RX0 yX0_noteAt yX0_noteAt, Cond.initialized RX0, Cond.code yX0_noteAt cX0_noteAt 2 (some .int), Cond.fieldLink RX0 18 "NamedMoves$Copies" "notes" "[I", Cond.methodLink RX0 39 yX0_isAt, Cond.instanceMethod yX0_isAt, Cond.selects RX0 yX0_isAt yX0_isAt, Cond.code yX0_isAt cX0_isAt 2 (some .boolean), Cond.fieldLink RX0 15 "NamedMoves$Copies" "sizes" "[I", Cond.methodLink RX5 82 yX0_sizeAt, Cond.instanceMethod yX0_sizeAt, Cond.selects RX0 yX0_sizeAt yX0_sizeAt, Cond.code yX0_sizeAt cX0_sizeAt 2 (some .int), Cond.methodLink RX5 182 yX5_carryOver, Cond.instanceMethod yX5_carryOver, Cond.selects RX5 yX5_carryOver yX5_carryOver, Cond.code yX5_carryOver cX5_carryOver 4 (some .int), Cond.methodLink RX5 99 yX5_freeInHalf, Cond.instanceMethod yX5_freeInHalf, Cond.selects RX5 yX5_freeInHalf yX5_freeInHalf]
def wsX5_beginMove_r3 : List Cond := [Cond.code yX5_freeInHalf cX5_freeInHalf 1 (some .int), Cond.methodLink RX5 188 yX0_layAgain, Cond.instanceMethod yX0_layAgain, Cond.selects RX0 yX0_layAgain yX0_layAgain, Cond.code yX0_layAgain cX0_layAgain 3 none, Cond.fieldLink RX0 9 "NamedMoves$Copies" "things" "[I", Cond.fieldLink RX0 21 "NamedMoves$Copies" "marks" "[I", Cond.fieldLink RX0 24 "NamedMoves$Copies" "names" "[I", Cond.methodLink RX5 185 yX3_join, Cond.instanceMethod yX3_join, Cond.selects RX3 yX3_join yX3_join, Cond.code yX3_join cX3_join 2 none, Cond.fieldLink RX3 9 "NamedMoves$Queue" "addresses" "[I", Cond.methodLink RX5 124 yX0_mark, Cond.instanceMethod yX0_mark, Cond.selects RX0 yX0_mark yX0_mark, Cond.code yX0_mark cX0_mark 2 (some .boolean), Cond.methodLink RX5 105 yX3_size, Cond.instanceMethod yX3_size, Cond.selects RX3 yX3_size yX3_size, Cond.code yX3_size cX3_size 1 (some .int), Cond.methodLink RX5 143 yX5_endMove, Cond.instanceMethod yX5_endMove, Cond.selects RX5 yX5_endMove yX5_endMove]
def wsX5_beginMove_r4 : List Cond := [Cond.code yX5_endMove cX5_endMove 1 none, Cond.fieldLink RX5 68 "NamedMoves$Store" "movesEnded" "I", Cond.methodLink RX5 152 yX0_emptyHalf, Cond.instanceMethod yX0_emptyHalf, Cond.selects RX0 yX0_emptyHalf yX0_emptyHalf, Cond.code yX0_emptyHalf cX0_emptyHalf 3 none, Cond.methodLink RX0 57 yX0_remove, Cond.instanceMethod yX0_remove, Cond.selects RX0 yX0_remove yX0_remove, Cond.code yX0_remove cX0_remove 2 none, Cond.methodLink RX5 156 yX0_sweepFloor, Cond.instanceMethod yX0_sweepFloor, Cond.selects RX0 yX0_sweepFloor yX0_sweepFloor, Cond.code yX0_sweepFloor cX0_sweepFloor 2 none]
def wsX5_beginMove : List Cond := .code yX5_beginMove cX5_beginMove 2 (some .int) :: ((wsX5_beginMove_r1 ++ (wsX5_beginMove_r2 ++ (wsX5_beginMove_r3 ++ wsX5_beginMove_r4))) ++ wsX50 ++ wsX30 ++ wsX00)
def wsX5_stepsUpTo_r1 : List Cond := [Cond.fieldLink RX5 55 "NamedMoves$Store" "moving" "Z", Cond.fieldLink RX5 25 "NamedMoves$Store" "queue" "LNamedMoves$Queue;", Cond.fieldLink RX5 18 "NamedMoves$Store" "copies" "LNamedMoves$Copies;", Cond.methodLink RX5 149 yX3_takeFirst, Cond.instanceMethod yX3_takeFirst, Cond.selects RX3 yX3_takeFirst yX3_takeFirst, Cond.initialized RX3, Cond.code yX3_takeFirst cX3_takeFirst 1 (some .int), Cond.fieldLink RX3 21 "NamedMoves$Queue" "first" "I", Cond.fieldLink RX3 25 "NamedMoves$Queue" "end" "I", Cond.fieldLink RX3 9 "NamedMoves$Queue" "addresses" "[I", Cond.methodLink RX5 130 yX5_readIn, Cond.instanceMethod yX5_readIn, Cond.selects RX5 yX5_readIn yX5_readIn, Cond.initialized RX5, Cond.code yX5_readIn cX5_readIn 5 (some .int), Cond.methodLink RX5 89 yX5_isInOldHalf, Cond.instanceMethod yX5_isInOldHalf, Cond.selects RX5 yX5_isInOldHalf yX5_isInOldHalf, Cond.code yX5_isInOldHalf cX5_isInOldHalf 3 (some .boolean), Cond.fieldLink RX5 59 "NamedMoves$Store" "half" "I", Cond.methodLink RX5 75 yX5_addressOfHalf, Cond.instanceMethod yX5_addressOfHalf, Cond.selects RX5 yX5_addressOfHalf yX5_addressOfHalf]
def wsX5_stepsUpTo_r2 : List Cond := [Cond.code yX5_addressOfHalf cX5_addressOfHalf 2 (some .int), Cond.methodLink RX5 79 yX0_noteAt, Cond.instanceMethod yX0_noteAt, Cond.selects RX0 yX0_noteAt yX0_noteAt, Cond.initialized RX0, Cond.code yX0_noteAt cX0_noteAt 2 (some .int), Cond.fieldLink RX0 18 "NamedMoves$Copies" "notes" "[I", Cond.methodLink RX0 39 yX0_isAt, Cond.instanceMethod yX0_isAt, Cond.selects RX0 yX0_isAt yX0_isAt, Cond.code yX0_isAt cX0_isAt 2 (some .boolean), Cond.fieldLink RX0 15 "NamedMoves$Copies" "sizes" "[I", Cond.methodLink RX5 82 yX0_sizeAt, Cond.instanceMethod yX0_sizeAt, Cond.selects RX0 yX0_sizeAt yX0_sizeAt, Cond.code yX0_sizeAt cX0_sizeAt 2 (some .int), Cond.methodLink RX5 182 yX5_carryOver, Cond.instanceMethod yX5_carryOver, Cond.selects RX5 yX5_carryOver yX5_carryOver, Cond.code yX5_carryOver cX5_carryOver 4 (some .int), Cond.fieldLink RX5 62 "NamedMoves$Store" "taken" "I", Cond.methodLink RX5 99 yX5_freeInHalf, Cond.instanceMethod yX5_freeInHalf, Cond.selects RX5 yX5_freeInHalf yX5_freeInHalf]
def wsX5_stepsUpTo_r3 : List Cond := [Cond.code yX5_freeInHalf cX5_freeInHalf 1 (some .int), Cond.methodLink RX5 188 yX0_layAgain, Cond.instanceMethod yX0_layAgain, Cond.selects RX0 yX0_layAgain yX0_layAgain, Cond.code yX0_layAgain cX0_layAgain 3 none, Cond.fieldLink RX0 9 "NamedMoves$Copies" "things" "[I", Cond.fieldLink RX0 21 "NamedMoves$Copies" "marks" "[I", Cond.fieldLink RX0 24 "NamedMoves$Copies" "names" "[I", Cond.methodLink RX5 185 yX3_join, Cond.instanceMethod yX3_join, Cond.selects RX3 yX3_join yX3_join, Cond.code yX3_join cX3_join 2 none, Cond.methodLink RX5 124 yX0_mark, Cond.instanceMethod yX0_mark, Cond.selects RX0 yX0_mark yX0_mark, Cond.code yX0_mark cX0_mark 2 (some .boolean), Cond.methodLink RX5 105 yX3_size, Cond.instanceMethod yX3_size, Cond.selects RX3 yX3_size yX3_size, Cond.code yX3_size cX3_size 1 (some .int), Cond.methodLink RX5 143 yX5_endMove, Cond.instanceMethod yX5_endMove, Cond.selects RX5 yX5_endMove yX5_endMove, Cond.code yX5_endMove cX5_endMove 1 none]
def wsX5_stepsUpTo_r4 : List Cond := [Cond.fieldLink RX5 68 "NamedMoves$Store" "movesEnded" "I", Cond.methodLink RX5 152 yX0_emptyHalf, Cond.instanceMethod yX0_emptyHalf, Cond.selects RX0 yX0_emptyHalf yX0_emptyHalf, Cond.code yX0_emptyHalf cX0_emptyHalf 3 none, Cond.methodLink RX0 57 yX0_remove, Cond.instanceMethod yX0_remove, Cond.selects RX0 yX0_remove yX0_remove, Cond.code yX0_remove cX0_remove 2 none, Cond.methodLink RX5 156 yX0_sweepFloor, Cond.instanceMethod yX0_sweepFloor, Cond.selects RX0 yX0_sweepFloor yX0_sweepFloor, Cond.code yX0_sweepFloor cX0_sweepFloor 2 none]
def wsX5_stepsUpTo : List Cond := .code yX5_stepsUpTo cX5_stepsUpTo 4 (some .int) :: ((wsX5_stepsUpTo_r1 ++ (wsX5_stepsUpTo_r2 ++ (wsX5_stepsUpTo_r3 ++ wsX5_stepsUpTo_r4))) ++ wsX50 ++ wsX00 ++ wsX30)
def wsX5_carrySteps_r1 : List Cond := [Cond.fieldLink RX5 55 "NamedMoves$Store" "moving" "Z", Cond.methodLink RX5 146 yX5_stepsUpTo, Cond.instanceMethod yX5_stepsUpTo, Cond.selects RX5 yX5_stepsUpTo yX5_stepsUpTo, Cond.initialized RX5, Cond.code yX5_stepsUpTo cX5_stepsUpTo 4 (some .int), Cond.fieldLink RX5 25 "NamedMoves$Store" "queue" "LNamedMoves$Queue;", Cond.fieldLink RX5 18 "NamedMoves$Store" "copies" "LNamedMoves$Copies;", Cond.methodLink RX5 149 yX3_takeFirst, Cond.instanceMethod yX3_takeFirst, Cond.selects RX3 yX3_takeFirst yX3_takeFirst, Cond.initialized RX3, Cond.code yX3_takeFirst cX3_takeFirst 1 (some .int), Cond.fieldLink RX3 21 "NamedMoves$Queue" "first" "I", Cond.fieldLink RX3 25 "NamedMoves$Queue" "end" "I", Cond.fieldLink RX3 9 "NamedMoves$Queue" "addresses" "[I", Cond.methodLink RX5 130 yX5_readIn, Cond.instanceMethod yX5_readIn, Cond.selects RX5 yX5_readIn yX5_readIn, Cond.code yX5_readIn cX5_readIn 5 (some .int), Cond.methodLink RX5 89 yX5_isInOldHalf, Cond.instanceMethod yX5_isInOldHalf, Cond.selects RX5 yX5_isInOldHalf yX5_isInOldHalf, Cond.code yX5_isInOldHalf cX5_isInOldHalf 3 (some .boolean)]
def wsX5_carrySteps_r2 : List Cond := [Cond.fieldLink RX5 59 "NamedMoves$Store" "half" "I", Cond.methodLink RX5 75 yX5_addressOfHalf, Cond.instanceMethod yX5_addressOfHalf, Cond.selects RX5 yX5_addressOfHalf yX5_addressOfHalf, Cond.code yX5_addressOfHalf cX5_addressOfHalf 2 (some .int), Cond.methodLink RX5 79 yX0_noteAt, Cond.instanceMethod yX0_noteAt, Cond.selects RX0 yX0_noteAt yX0_noteAt, Cond.initialized RX0, Cond.code yX0_noteAt cX0_noteAt 2 (some .int), Cond.fieldLink RX0 18 "NamedMoves$Copies" "notes" "[I", Cond.methodLink RX0 39 yX0_isAt, Cond.instanceMethod yX0_isAt, Cond.selects RX0 yX0_isAt yX0_isAt, Cond.code yX0_isAt cX0_isAt 2 (some .boolean), Cond.fieldLink RX0 15 "NamedMoves$Copies" "sizes" "[I", Cond.methodLink RX5 82 yX0_sizeAt, Cond.instanceMethod yX0_sizeAt, Cond.selects RX0 yX0_sizeAt yX0_sizeAt, Cond.code yX0_sizeAt cX0_sizeAt 2 (some .int), Cond.methodLink RX5 182 yX5_carryOver, Cond.instanceMethod yX5_carryOver, Cond.selects RX5 yX5_carryOver yX5_carryOver, Cond.code yX5_carryOver cX5_carryOver 4 (some .int)]
def wsX5_carrySteps_r3 : List Cond := [Cond.fieldLink RX5 62 "NamedMoves$Store" "taken" "I", Cond.methodLink RX5 99 yX5_freeInHalf, Cond.instanceMethod yX5_freeInHalf, Cond.selects RX5 yX5_freeInHalf yX5_freeInHalf, Cond.code yX5_freeInHalf cX5_freeInHalf 1 (some .int), Cond.methodLink RX5 188 yX0_layAgain, Cond.instanceMethod yX0_layAgain, Cond.selects RX0 yX0_layAgain yX0_layAgain, Cond.code yX0_layAgain cX0_layAgain 3 none, Cond.fieldLink RX0 9 "NamedMoves$Copies" "things" "[I", Cond.fieldLink RX0 21 "NamedMoves$Copies" "marks" "[I", Cond.fieldLink RX0 24 "NamedMoves$Copies" "names" "[I", Cond.methodLink RX5 185 yX3_join, Cond.instanceMethod yX3_join, Cond.selects RX3 yX3_join yX3_join, Cond.code yX3_join cX3_join 2 none, Cond.methodLink RX5 124 yX0_mark, Cond.instanceMethod yX0_mark, Cond.selects RX0 yX0_mark yX0_mark, Cond.code yX0_mark cX0_mark 2 (some .boolean), Cond.methodLink RX5 105 yX3_size, Cond.instanceMethod yX3_size, Cond.selects RX3 yX3_size yX3_size, Cond.code yX3_size cX3_size 1 (some .int)]
def wsX5_carrySteps_r4 : List Cond := [Cond.methodLink RX5 143 yX5_endMove, Cond.instanceMethod yX5_endMove, Cond.selects RX5 yX5_endMove yX5_endMove, Cond.code yX5_endMove cX5_endMove 1 none, Cond.fieldLink RX5 68 "NamedMoves$Store" "movesEnded" "I", Cond.methodLink RX5 152 yX0_emptyHalf, Cond.instanceMethod yX0_emptyHalf, Cond.selects RX0 yX0_emptyHalf yX0_emptyHalf, Cond.code yX0_emptyHalf cX0_emptyHalf 3 none, Cond.methodLink RX0 57 yX0_remove, Cond.instanceMethod yX0_remove, Cond.selects RX0 yX0_remove yX0_remove, Cond.code yX0_remove cX0_remove 2 none, Cond.methodLink RX5 156 yX0_sweepFloor, Cond.instanceMethod yX0_sweepFloor, Cond.selects RX0 yX0_sweepFloor yX0_sweepFloor, Cond.code yX0_sweepFloor cX0_sweepFloor 2 none]
def wsX5_carrySteps : List Cond := .code yX5_carrySteps cX5_carrySteps 2 (some .int) :: ((wsX5_carrySteps_r1 ++ (wsX5_carrySteps_r2 ++ (wsX5_carrySteps_r3 ++ wsX5_carrySteps_r4))) ++ wsX50 ++ wsX00 ++ wsX30)
def wsX5_firstWithNote : List Cond := .code yX5_firstWithNote cX5_firstWithNote 3 (some .int) :: ([.fieldLink RX5 18 "NamedMoves$Store" "copies" "LNamedMoves$Copies;", .methodLink RX5 85 yX0_isOf, .instanceMethod yX0_isOf, .selects RX0 yX0_isOf yX0_isOf, .initialized RX0, .code yX0_isOf cX0_isOf 3 (some .boolean), .fieldLink RX0 9 "NamedMoves$Copies" "things" "[I", .methodLink RX0 39 yX0_isAt, .instanceMethod yX0_isAt, .selects RX0 yX0_isAt yX0_isAt, .code yX0_isAt cX0_isAt 2 (some .boolean), .fieldLink RX0 15 "NamedMoves$Copies" "sizes" "[I", .methodLink RX5 79 yX0_noteAt, .instanceMethod yX0_noteAt, .selects RX0 yX0_noteAt yX0_noteAt, .code yX0_noteAt cX0_noteAt 2 (some .int), .fieldLink RX0 18 "NamedMoves$Copies" "notes" "[I"] ++ wsX50 ++ wsX00)
def wsX5_loseNote_r1 : List Cond := [Cond.fieldLink RX5 18 "NamedMoves$Store" "copies" "LNamedMoves$Copies;", Cond.fieldLink RX5 65 "NamedMoves$Store" "notesLost" "I", Cond.methodLink RX5 159 yX5_isThing, Cond.instanceMethod yX5_isThing, Cond.selects RX5 yX5_isThing yX5_isThing, Cond.initialized RX5, Cond.code yX5_isThing cX5_isThing 2 (some .boolean), Cond.fieldLink RX5 52 "NamedMoves$Store" "made" "I", Cond.methodLink RX5 162 yX5_firstWithNote, Cond.instanceMethod yX5_firstWithNote, Cond.selects RX5 yX5_firstWithNote yX5_firstWithNote, Cond.code yX5_firstWithNote cX5_firstWithNote 3 (some .int), Cond.methodLink RX5 85 yX0_isOf, Cond.instanceMethod yX0_isOf, Cond.selects RX0 yX0_isOf yX0_isOf, Cond.initialized RX0, Cond.code yX0_isOf cX0_isOf 3 (some .boolean), Cond.fieldLink RX0 9 "NamedMoves$Copies" "things" "[I", Cond.methodLink RX0 39 yX0_isAt, Cond.instanceMethod yX0_isAt, Cond.selects RX0 yX0_isAt yX0_isAt, Cond.code yX0_isAt cX0_isAt 2 (some .boolean), Cond.fieldLink RX0 15 "NamedMoves$Copies" "sizes" "[I", Cond.methodLink RX5 79 yX0_noteAt]
def wsX5_loseNote_r2 : List Cond := [Cond.instanceMethod yX0_noteAt, Cond.selects RX0 yX0_noteAt yX0_noteAt, Cond.code yX0_noteAt cX0_noteAt 2 (some .int), Cond.fieldLink RX0 18 "NamedMoves$Copies" "notes" "[I", Cond.methodLink RX5 99 yX5_freeInHalf, Cond.instanceMethod yX5_freeInHalf, Cond.selects RX5 yX5_freeInHalf yX5_freeInHalf, Cond.code yX5_freeInHalf cX5_freeInHalf 1 (some .int), Cond.fieldLink RX5 62 "NamedMoves$Store" "taken" "I", Cond.methodLink RX5 108 yX5_roomKept, Cond.instanceMethod yX5_roomKept, Cond.selects RX5 yX5_roomKept yX5_roomKept, Cond.code yX5_roomKept cX5_roomKept 4 (some .int), Cond.fieldLink RX5 59 "NamedMoves$Store" "half" "I", Cond.fieldLink RX5 55 "NamedMoves$Store" "moving" "Z", Cond.methodLink RX5 75 yX5_addressOfHalf, Cond.instanceMethod yX5_addressOfHalf, Cond.selects RX5 yX5_addressOfHalf yX5_addressOfHalf, Cond.code yX5_addressOfHalf cX5_addressOfHalf 2 (some .int), Cond.methodLink RX5 82 yX0_sizeAt, Cond.instanceMethod yX0_sizeAt, Cond.selects RX0 yX0_sizeAt yX0_sizeAt, Cond.code yX0_sizeAt cX0_sizeAt 2 (some .int), Cond.methodLink RX5 165 yX0_loseNoteAt]
def wsX5_loseNote_r3 : List Cond := [Cond.instanceMethod yX0_loseNoteAt, Cond.selects RX0 yX0_loseNoteAt yX0_loseNoteAt, Cond.code yX0_loseNoteAt cX0_loseNoteAt 2 none]
def wsX5_loseNote : List Cond := .code yX5_loseNote cX5_loseNote 3 (some .int) :: ((wsX5_loseNote_r1 ++ (wsX5_loseNote_r2 ++ wsX5_loseNote_r3)) ++ wsX50 ++ wsX00)
def wsX5_replaceHooks : List Cond := .code yX5_replaceHooks cX5_replaceHooks 4 none :: ([.fieldLink RX5 9 "NamedMoves$Store" "hooks" "[I"] ++ wsX50)
def wsX5_mendTwins_r1 : List Cond := [Cond.fieldLink RX5 55 "NamedMoves$Store" "moving" "Z", Cond.fieldLink RX5 18 "NamedMoves$Store" "copies" "LNamedMoves$Copies;", Cond.methodLink RX5 159 yX5_isThing, Cond.instanceMethod yX5_isThing, Cond.selects RX5 yX5_isThing yX5_isThing, Cond.initialized RX5, Cond.code yX5_isThing cX5_isThing 2 (some .boolean), Cond.fieldLink RX5 52 "NamedMoves$Store" "made" "I", Cond.methodLink RX5 92 yX5_hasTwins, Cond.instanceMethod yX5_hasTwins, Cond.selects RX5 yX5_hasTwins yX5_hasTwins, Cond.code yX5_hasTwins cX5_hasTwins 4 (some .boolean), Cond.methodLink RX5 85 yX0_isOf, Cond.instanceMethod yX0_isOf, Cond.selects RX0 yX0_isOf yX0_isOf, Cond.initialized RX0, Cond.code yX0_isOf cX0_isOf 3 (some .boolean), Cond.fieldLink RX0 9 "NamedMoves$Copies" "things" "[I", Cond.methodLink RX0 39 yX0_isAt, Cond.instanceMethod yX0_isAt, Cond.selects RX0 yX0_isAt yX0_isAt, Cond.code yX0_isAt cX0_isAt 2 (some .boolean), Cond.fieldLink RX0 15 "NamedMoves$Copies" "sizes" "[I", Cond.methodLink RX5 89 yX5_isInOldHalf]
def wsX5_mendTwins_r2 : List Cond := [Cond.instanceMethod yX5_isInOldHalf, Cond.selects RX5 yX5_isInOldHalf yX5_isInOldHalf, Cond.code yX5_isInOldHalf cX5_isInOldHalf 3 (some .boolean), Cond.fieldLink RX5 59 "NamedMoves$Store" "half" "I", Cond.methodLink RX5 75 yX5_addressOfHalf, Cond.instanceMethod yX5_addressOfHalf, Cond.selects RX5 yX5_addressOfHalf yX5_addressOfHalf, Cond.code yX5_addressOfHalf cX5_addressOfHalf 2 (some .int), Cond.methodLink RX5 168 yX0_addressOf, Cond.instanceMethod yX0_addressOf, Cond.selects RX0 yX0_addressOf yX0_addressOf, Cond.code yX0_addressOf cX0_addressOf 5 (some .int), Cond.methodLink RX0 46 yX0_isOf, Cond.methodLink RX5 172 yX0_remove, Cond.instanceMethod yX0_remove, Cond.selects RX0 yX0_remove yX0_remove, Cond.code yX0_remove cX0_remove 2 none, Cond.methodLink RX5 175 yX0_replaceNames, Cond.instanceMethod yX0_replaceNames, Cond.selects RX0 yX0_replaceNames yX0_replaceNames, Cond.code yX0_replaceNames cX0_replaceNames 4 none, Cond.fieldLink RX0 24 "NamedMoves$Copies" "names" "[I", Cond.methodLink RX5 179 yX5_replaceHooks, Cond.instanceMethod yX5_replaceHooks]
def wsX5_mendTwins_r3 : List Cond := [Cond.selects RX5 yX5_replaceHooks yX5_replaceHooks, Cond.code yX5_replaceHooks cX5_replaceHooks 4 none, Cond.fieldLink RX5 9 "NamedMoves$Store" "hooks" "[I"]
def wsX5_mendTwins : List Cond := .code yX5_mendTwins cX5_mendTwins 5 (some .int) :: ((wsX5_mendTwins_r1 ++ (wsX5_mendTwins_r2 ++ wsX5_mendTwins_r3)) ++ wsX50 ++ wsX00)
def wsX6_init : List Cond := .code yX6_init cX6_init 1 none :: ([.methodLink RX6 3 objectInit, .instanceMethod objectInit, .code objectInit ⟨#[0xb1]⟩ 1 none, .arrayClass .int, .fieldLink RX6 9 "NamedMoves$Text" "characters" "[I"] ++ wsX60)
def wsX6_size : List Cond := .code yX6_size cX6_size 1 (some .int) :: ([.fieldLink RX6 15 "NamedMoves$Text" "length" "I"] ++ wsX60)
def wsX7_init_r1 : List Cond := [Cond.methodLink RX7 3 objectInit, Cond.instanceMethod objectInit, Cond.code objectInit ⟨#[0xb1]⟩ 1 none, Cond.classLink RX7 9 RX5, Cond.instantiable RX5 10, Cond.initialized RX5, Cond.fieldLink RX7 12 "NamedMoves" "store" "LNamedMoves$Store;", Cond.fieldLink RX7 16 "NamedMoves" "forecast" "LNamedMoves$Store;", Cond.classLink RX7 19 RX2, Cond.instantiable RX2 3, Cond.initialized RX2, Cond.fieldLink RX7 22 "NamedMoves" "history" "LNamedMoves$History;", Cond.classLink RX7 26 RX4, Cond.instantiable RX4 4, Cond.initialized RX4, Cond.fieldLink RX7 29 "NamedMoves" "reach" "LNamedMoves$Reach;", Cond.classLink RX7 33 RX6, Cond.instantiable RX6 2, Cond.initialized RX6, Cond.fieldLink RX7 36 "NamedMoves" "text" "LNamedMoves$Text;", Cond.classLink RX7 40 RX1, Cond.instantiable RX1 3, Cond.initialized RX1, Cond.fieldLink RX7 43 "NamedMoves" "errand" "LNamedMoves$Errand;"]
def wsX7_init_r2 : List Cond := [Cond.methodLink RX7 11 yX5_init, Cond.instanceMethod yX5_init, Cond.code yX5_init cX5_init 1 none, Cond.methodLink RX5 3 objectInit, Cond.arrayClass .int, Cond.fieldLink RX5 9 "NamedMoves$Store" "hooks" "[I", Cond.classLink RX5 15 RX0, Cond.instantiable RX0 5, Cond.initialized RX0, Cond.fieldLink RX5 18 "NamedMoves$Store" "copies" "LNamedMoves$Copies;", Cond.classLink RX5 22 RX3, Cond.instantiable RX3 3, Cond.initialized RX3, Cond.fieldLink RX5 25 "NamedMoves$Store" "queue" "LNamedMoves$Queue;", Cond.fieldLink RX5 29 "NamedMoves$Store" "heavyBound" "I", Cond.methodLink RX5 17 yX0_init, Cond.instanceMethod yX0_init, Cond.code yX0_init cX0_init 1 none, Cond.methodLink RX0 3 objectInit, Cond.fieldLink RX0 9 "NamedMoves$Copies" "things" "[I", Cond.fieldLink RX0 15 "NamedMoves$Copies" "sizes" "[I", Cond.fieldLink RX0 18 "NamedMoves$Copies" "notes" "[I", Cond.fieldLink RX0 21 "NamedMoves$Copies" "marks" "[I", Cond.fieldLink RX0 24 "NamedMoves$Copies" "names" "[I"]
def wsX7_init_r3 : List Cond := [Cond.methodLink RX0 27 yJ7_fill_53178, Cond.static yJ7_fill_53178, Cond.initialized RJ7, Cond.code yJ7_fill_53178 cJ7_fill_53178 4 none, Cond.instanceMethod yX3_init, Cond.code yX3_init cX3_init 1 none, Cond.methodLink RX3 3 objectInit, Cond.fieldLink RX3 9 "NamedMoves$Queue" "addresses" "[I", Cond.methodLink RX5 33 yJ7_fill_53178, Cond.methodLink RX7 21 yX2_init, Cond.instanceMethod yX2_init, Cond.code yX2_init cX2_init 2 none, Cond.methodLink RX2 3 objectInit, Cond.classLink RX2 9 RX5, Cond.fieldLink RX2 11 "NamedMoves$History" "states" "[LNamedMoves$Store;", Cond.methodLink RX2 17 yX5_init, Cond.instanceMethod yX4_init, Cond.code yX4_init cX4_init 1 none, Cond.methodLink RX4 3 objectInit, Cond.arrayClass .boolean, Cond.fieldLink RX4 9 "NamedMoves$Reach" "reached" "[Z", Cond.fieldLink RX4 15 "NamedMoves$Reach" "found" "[I", Cond.fieldLink RX4 19 "NamedMoves$Reach" "seenThings" "[Z", Cond.instanceMethod yX6_init]
def wsX7_init_r4 : List Cond := [Cond.code yX6_init cX6_init 1 none, Cond.methodLink RX6 3 objectInit, Cond.fieldLink RX6 9 "NamedMoves$Text" "characters" "[I", Cond.instanceMethod yX1_init, Cond.code yX1_init cX1_init 1 none, Cond.methodLink RX1 3 objectInit, Cond.fieldLink RX1 9 "NamedMoves$Errand" "numbers" "[I"]
def wsX7_init : List Cond := .code yX7_init cX7_init 1 none :: ((wsX7_init_r1 ++ (wsX7_init_r2 ++ (wsX7_init_r3 ++ wsX7_init_r4))) ++ wsX50 ++ wsX70 ++ wsX20 ++ wsX40 ++ wsX60 ++ wsX10 ++ wsX00 ++ wsX30)
def wsX7_recorded : List Cond := .code yX7_recorded cX7_recorded 2 (some .int) :: ([.fieldLink RX7 22 "NamedMoves" "history" "LNamedMoves$History;", .methodLink RX7 186 yX2_keepDraft, .instanceMethod yX2_keepDraft, .selects RX2 yX2_keepDraft yX2_keepDraft, .initialized RX2, .code yX2_keepDraft cX2_keepDraft 1 none, .fieldLink RX2 18 "NamedMoves$History" "held" "I", .fieldLink RX2 22 "NamedMoves$History" "first" "I", .methodLink RX2 25 yJ9_floorMod_7cf53, .static yJ9_floorMod_7cf53, .initialized RJ9, .code yJ9_floorMod_7cf53 cJ9_floorMod_7cf53 3 (some .int)] ++ wsX70 ++ wsX20)
def wsX7_setHeavy_r1 : List Cond := [Cond.fieldLink RX7 22 "NamedMoves" "history" "LNamedMoves$History;", Cond.fieldLink RX7 12 "NamedMoves" "store" "LNamedMoves$Store;", Cond.methodLink RX7 47 yX2_draft, Cond.instanceMethod yX2_draft, Cond.selects RX2 yX2_draft yX2_draft, Cond.initialized RX2, Cond.code yX2_draft cX2_draft 3 none, Cond.fieldLink RX2 11 "NamedMoves$History" "states" "[LNamedMoves$Store;", Cond.methodLink RX2 31 yX2_slotOfDraft, Cond.instanceMethod yX2_slotOfDraft, Cond.selects RX2 yX2_slotOfDraft yX2_slotOfDraft, Cond.code yX2_slotOfDraft cX2_slotOfDraft 1 (some .int), Cond.fieldLink RX2 22 "NamedMoves$History" "first" "I", Cond.fieldLink RX2 18 "NamedMoves$History" "held" "I", Cond.methodLink RX2 25 yJ9_floorMod_7cf53, Cond.static yJ9_floorMod_7cf53, Cond.initialized RJ9, Cond.code yJ9_floorMod_7cf53 cJ9_floorMod_7cf53 3 (some .int), Cond.methodLink RX2 35 yX5_become, Cond.instanceMethod yX5_become, Cond.selects RX5 yX5_become yX5_become, Cond.initialized RX5, Cond.code yX5_become cX5_become 2 none, Cond.fieldLink RX5 9 "NamedMoves$Store" "hooks" "[I"]
def wsX7_setHeavy_r2 : List Cond := [Cond.methodLink RX5 39 arraycopyName, Cond.native arraycopyName, Cond.static arraycopyName, Cond.initialized "java/lang/System", Cond.fieldLink RX5 18 "NamedMoves$Store" "copies" "LNamedMoves$Copies;", Cond.fieldLink RX5 25 "NamedMoves$Store" "queue" "LNamedMoves$Queue;", Cond.fieldLink RX5 29 "NamedMoves$Store" "heavyBound" "I", Cond.fieldLink RX5 52 "NamedMoves$Store" "made" "I", Cond.fieldLink RX5 55 "NamedMoves$Store" "moving" "Z", Cond.fieldLink RX5 59 "NamedMoves$Store" "half" "I", Cond.fieldLink RX5 62 "NamedMoves$Store" "taken" "I", Cond.fieldLink RX5 65 "NamedMoves$Store" "notesLost" "I", Cond.fieldLink RX5 68 "NamedMoves$Store" "movesEnded" "I", Cond.methodLink RX5 45 yX0_become, Cond.instanceMethod yX0_become, Cond.selects RX0 yX0_become yX0_become, Cond.initialized RX0, Cond.code yX0_become cX0_become 2 none, Cond.fieldLink RX0 9 "NamedMoves$Copies" "things" "[I", Cond.methodLink RX0 33 arraycopyName, Cond.fieldLink RX0 15 "NamedMoves$Copies" "sizes" "[I", Cond.fieldLink RX0 18 "NamedMoves$Copies" "notes" "[I", Cond.fieldLink RX0 21 "NamedMoves$Copies" "marks" "[I", Cond.fieldLink RX0 24 "NamedMoves$Copies" "names" "[I"]
def wsX7_setHeavy_r3 : List Cond := [Cond.methodLink RX5 49 yX3_become, Cond.instanceMethod yX3_become, Cond.selects RX3 yX3_become yX3_become, Cond.initialized RX3, Cond.code yX3_become cX3_become 2 none, Cond.fieldLink RX3 9 "NamedMoves$Queue" "addresses" "[I", Cond.methodLink RX3 15 arraycopyName, Cond.fieldLink RX3 21 "NamedMoves$Queue" "first" "I", Cond.fieldLink RX3 25 "NamedMoves$Queue" "end" "I", Cond.methodLink RX7 51 yX5_changeBound, Cond.instanceMethod yX5_changeBound, Cond.selects RX5 yX5_changeBound yX5_changeBound, Cond.code yX5_changeBound cX5_changeBound 3 (some .int), Cond.methodLink RX7 55 yX7_recorded, Cond.instanceMethod yX7_recorded, Cond.selects RX7 yX7_recorded yX7_recorded, Cond.initialized RX7, Cond.code yX7_recorded cX7_recorded 2 (some .int), Cond.methodLink RX7 186 yX2_keepDraft, Cond.instanceMethod yX2_keepDraft, Cond.selects RX2 yX2_keepDraft yX2_keepDraft, Cond.code yX2_keepDraft cX2_keepDraft 1 none]
def wsX7_setHeavy : List Cond := .code yX7_setHeavy cX7_setHeavy 2 (some .int) :: ((wsX7_setHeavy_r1 ++ (wsX7_setHeavy_r2 ++ wsX7_setHeavy_r3)) ++ wsX70 ++ wsX20 ++ wsX50 ++ wsX00 ++ wsX30)
def wsX7_make_r1 : List Cond := [Cond.fieldLink RX7 22 "NamedMoves" "history" "LNamedMoves$History;", Cond.fieldLink RX7 12 "NamedMoves" "store" "LNamedMoves$Store;", Cond.methodLink RX7 47 yX2_draft, Cond.instanceMethod yX2_draft, Cond.selects RX2 yX2_draft yX2_draft, Cond.initialized RX2, Cond.code yX2_draft cX2_draft 3 none, Cond.fieldLink RX2 11 "NamedMoves$History" "states" "[LNamedMoves$Store;", Cond.methodLink RX2 31 yX2_slotOfDraft, Cond.instanceMethod yX2_slotOfDraft, Cond.selects RX2 yX2_slotOfDraft yX2_slotOfDraft, Cond.code yX2_slotOfDraft cX2_slotOfDraft 1 (some .int), Cond.fieldLink RX2 22 "NamedMoves$History" "first" "I", Cond.fieldLink RX2 18 "NamedMoves$History" "held" "I", Cond.methodLink RX2 25 yJ9_floorMod_7cf53, Cond.static yJ9_floorMod_7cf53, Cond.initialized RJ9, Cond.code yJ9_floorMod_7cf53 cJ9_floorMod_7cf53 3 (some .int), Cond.methodLink RX2 35 yX5_become, Cond.instanceMethod yX5_become, Cond.selects RX5 yX5_become yX5_become, Cond.initialized RX5, Cond.code yX5_become cX5_become 2 none, Cond.fieldLink RX5 9 "NamedMoves$Store" "hooks" "[I"]
def wsX7_make_r2 : List Cond := [Cond.methodLink RX5 39 arraycopyName, Cond.native arraycopyName, Cond.static arraycopyName, Cond.initialized "java/lang/System", Cond.fieldLink RX5 18 "NamedMoves$Store" "copies" "LNamedMoves$Copies;", Cond.fieldLink RX5 25 "NamedMoves$Store" "queue" "LNamedMoves$Queue;", Cond.fieldLink RX5 29 "NamedMoves$Store" "heavyBound" "I", Cond.fieldLink RX5 52 "NamedMoves$Store" "made" "I", Cond.fieldLink RX5 55 "NamedMoves$Store" "moving" "Z", Cond.fieldLink RX5 59 "NamedMoves$Store" "half" "I", Cond.fieldLink RX5 62 "NamedMoves$Store" "taken" "I", Cond.fieldLink RX5 65 "NamedMoves$Store" "notesLost" "I", Cond.fieldLink RX5 68 "NamedMoves$Store" "movesEnded" "I", Cond.methodLink RX5 45 yX0_become, Cond.instanceMethod yX0_become, Cond.selects RX0 yX0_become yX0_become, Cond.initialized RX0, Cond.code yX0_become cX0_become 2 none, Cond.fieldLink RX0 9 "NamedMoves$Copies" "things" "[I", Cond.methodLink RX0 33 arraycopyName, Cond.fieldLink RX0 15 "NamedMoves$Copies" "sizes" "[I", Cond.fieldLink RX0 18 "NamedMoves$Copies" "notes" "[I", Cond.fieldLink RX0 21 "NamedMoves$Copies" "marks" "[I", Cond.fieldLink RX0 24 "NamedMoves$Copies" "names" "[I"]
def wsX7_make_r3 : List Cond := [Cond.methodLink RX5 49 yX3_become, Cond.instanceMethod yX3_become, Cond.selects RX3 yX3_become yX3_become, Cond.initialized RX3, Cond.code yX3_become cX3_become 2 none, Cond.fieldLink RX3 9 "NamedMoves$Queue" "addresses" "[I", Cond.methodLink RX3 15 arraycopyName, Cond.fieldLink RX3 21 "NamedMoves$Queue" "first" "I", Cond.fieldLink RX3 25 "NamedMoves$Queue" "end" "I", Cond.methodLink RX7 58 yX5_makeThing, Cond.instanceMethod yX5_makeThing, Cond.selects RX5 yX5_makeThing yX5_makeThing, Cond.code yX5_makeThing cX5_makeThing 5 (some .int), Cond.static yX7_isHook, Cond.initialized RX7, Cond.code yX7_isHook cX7_isHook 1 (some .boolean), Cond.methodLink RX5 114 yX0_floorAddressFor, Cond.instanceMethod yX0_floorAddressFor, Cond.selects RX0 yX0_floorAddressFor yX0_floorAddressFor, Cond.code yX0_floorAddressFor cX0_floorAddressFor 5 (some .int), Cond.methodLink RX0 50 yX0_sizeAt, Cond.instanceMethod yX0_sizeAt, Cond.selects RX0 yX0_sizeAt yX0_sizeAt, Cond.code yX0_sizeAt cX0_sizeAt 2 (some .int)]
def wsX7_make_r4 : List Cond := [Cond.methodLink RX0 39 yX0_isAt, Cond.instanceMethod yX0_isAt, Cond.selects RX0 yX0_isAt yX0_isAt, Cond.code yX0_isAt cX0_isAt 2 (some .boolean), Cond.methodLink RX5 117 yX5_halfAddressFor, Cond.instanceMethod yX5_halfAddressFor, Cond.selects RX5 yX5_halfAddressFor yX5_halfAddressFor, Cond.code yX5_halfAddressFor cX5_halfAddressFor 2 (some .int), Cond.methodLink RX5 99 yX5_freeInHalf, Cond.instanceMethod yX5_freeInHalf, Cond.selects RX5 yX5_freeInHalf yX5_freeInHalf, Cond.code yX5_freeInHalf cX5_freeInHalf 1 (some .int), Cond.methodLink RX5 108 yX5_roomKept, Cond.instanceMethod yX5_roomKept, Cond.selects RX5 yX5_roomKept yX5_roomKept, Cond.code yX5_roomKept cX5_roomKept 4 (some .int), Cond.methodLink RX5 75 yX5_addressOfHalf, Cond.instanceMethod yX5_addressOfHalf, Cond.selects RX5 yX5_addressOfHalf yX5_addressOfHalf, Cond.code yX5_addressOfHalf cX5_addressOfHalf 2 (some .int), Cond.methodLink RX5 79 yX0_noteAt, Cond.instanceMethod yX0_noteAt, Cond.selects RX0 yX0_noteAt yX0_noteAt, Cond.code yX0_noteAt cX0_noteAt 2 (some .int)]
def wsX7_make_r5 : List Cond := [Cond.methodLink RX5 82 yX0_sizeAt, Cond.methodLink RX5 120 yX0_lay, Cond.instanceMethod yX0_lay, Cond.selects RX0 yX0_lay yX0_lay, Cond.code yX0_lay cX0_lay 4 none, Cond.methodLink RX5 124 yX0_mark, Cond.instanceMethod yX0_mark, Cond.selects RX0 yX0_mark yX0_mark, Cond.code yX0_mark cX0_mark 2 (some .boolean), Cond.methodLink RX7 55 yX7_recorded, Cond.instanceMethod yX7_recorded, Cond.selects RX7 yX7_recorded yX7_recorded, Cond.code yX7_recorded cX7_recorded 2 (some .int), Cond.methodLink RX7 186 yX2_keepDraft, Cond.instanceMethod yX2_keepDraft, Cond.selects RX2 yX2_keepDraft yX2_keepDraft, Cond.code yX2_keepDraft cX2_keepDraft 1 none]
def wsX7_make : List Cond := .code yX7_make cX7_make 3 (some .int) :: ((wsX7_make_r1 ++ (wsX7_make_r2 ++ (wsX7_make_r3 ++ (wsX7_make_r4 ++ wsX7_make_r5)))) ++ wsX70 ++ wsX20 ++ wsX50 ++ wsX00 ++ wsX30)
def wsX7_link_r1 : List Cond := [Cond.fieldLink RX7 22 "NamedMoves" "history" "LNamedMoves$History;", Cond.fieldLink RX7 12 "NamedMoves" "store" "LNamedMoves$Store;", Cond.methodLink RX7 47 yX2_draft, Cond.instanceMethod yX2_draft, Cond.selects RX2 yX2_draft yX2_draft, Cond.initialized RX2, Cond.code yX2_draft cX2_draft 3 none, Cond.fieldLink RX2 11 "NamedMoves$History" "states" "[LNamedMoves$Store;", Cond.methodLink RX2 31 yX2_slotOfDraft, Cond.instanceMethod yX2_slotOfDraft, Cond.selects RX2 yX2_slotOfDraft yX2_slotOfDraft, Cond.code yX2_slotOfDraft cX2_slotOfDraft 1 (some .int), Cond.fieldLink RX2 22 "NamedMoves$History" "first" "I", Cond.fieldLink RX2 18 "NamedMoves$History" "held" "I", Cond.methodLink RX2 25 yJ9_floorMod_7cf53, Cond.static yJ9_floorMod_7cf53, Cond.initialized RJ9, Cond.code yJ9_floorMod_7cf53 cJ9_floorMod_7cf53 3 (some .int), Cond.methodLink RX2 35 yX5_become, Cond.instanceMethod yX5_become, Cond.selects RX5 yX5_become yX5_become, Cond.initialized RX5, Cond.code yX5_become cX5_become 2 none, Cond.fieldLink RX5 9 "NamedMoves$Store" "hooks" "[I"]
def wsX7_link_r2 : List Cond := [Cond.methodLink RX5 39 arraycopyName, Cond.native arraycopyName, Cond.static arraycopyName, Cond.initialized "java/lang/System", Cond.fieldLink RX5 18 "NamedMoves$Store" "copies" "LNamedMoves$Copies;", Cond.fieldLink RX5 25 "NamedMoves$Store" "queue" "LNamedMoves$Queue;", Cond.fieldLink RX5 29 "NamedMoves$Store" "heavyBound" "I", Cond.fieldLink RX5 52 "NamedMoves$Store" "made" "I", Cond.fieldLink RX5 55 "NamedMoves$Store" "moving" "Z", Cond.fieldLink RX5 59 "NamedMoves$Store" "half" "I", Cond.fieldLink RX5 62 "NamedMoves$Store" "taken" "I", Cond.fieldLink RX5 65 "NamedMoves$Store" "notesLost" "I", Cond.fieldLink RX5 68 "NamedMoves$Store" "movesEnded" "I", Cond.methodLink RX5 45 yX0_become, Cond.instanceMethod yX0_become, Cond.selects RX0 yX0_become yX0_become, Cond.initialized RX0, Cond.code yX0_become cX0_become 2 none, Cond.fieldLink RX0 9 "NamedMoves$Copies" "things" "[I", Cond.methodLink RX0 33 arraycopyName, Cond.fieldLink RX0 15 "NamedMoves$Copies" "sizes" "[I", Cond.fieldLink RX0 18 "NamedMoves$Copies" "notes" "[I", Cond.fieldLink RX0 21 "NamedMoves$Copies" "marks" "[I", Cond.fieldLink RX0 24 "NamedMoves$Copies" "names" "[I"]
def wsX7_link_r3 : List Cond := [Cond.methodLink RX5 49 yX3_become, Cond.instanceMethod yX3_become, Cond.selects RX3 yX3_become yX3_become, Cond.initialized RX3, Cond.code yX3_become cX3_become 2 none, Cond.fieldLink RX3 9 "NamedMoves$Queue" "addresses" "[I", Cond.methodLink RX3 15 arraycopyName, Cond.fieldLink RX3 21 "NamedMoves$Queue" "first" "I", Cond.fieldLink RX3 25 "NamedMoves$Queue" "end" "I", Cond.methodLink RX7 62 yX5_linkHooks, Cond.instanceMethod yX5_linkHooks, Cond.selects RX5 yX5_linkHooks yX5_linkHooks, Cond.code yX5_linkHooks cX5_linkHooks 6 (some .int), Cond.static yX7_isHook, Cond.initialized RX7, Cond.code yX7_isHook cX7_isHook 1 (some .boolean), Cond.static yX7_isName, Cond.code yX7_isName cX7_isName 1 (some .boolean), Cond.methodLink RX5 130 yX5_readIn, Cond.instanceMethod yX5_readIn, Cond.selects RX5 yX5_readIn yX5_readIn, Cond.code yX5_readIn cX5_readIn 5 (some .int), Cond.methodLink RX5 89 yX5_isInOldHalf, Cond.instanceMethod yX5_isInOldHalf]
def wsX7_link_r4 : List Cond := [Cond.selects RX5 yX5_isInOldHalf yX5_isInOldHalf, Cond.code yX5_isInOldHalf cX5_isInOldHalf 3 (some .boolean), Cond.methodLink RX5 75 yX5_addressOfHalf, Cond.instanceMethod yX5_addressOfHalf, Cond.selects RX5 yX5_addressOfHalf yX5_addressOfHalf, Cond.code yX5_addressOfHalf cX5_addressOfHalf 2 (some .int), Cond.methodLink RX5 79 yX0_noteAt, Cond.instanceMethod yX0_noteAt, Cond.selects RX0 yX0_noteAt yX0_noteAt, Cond.code yX0_noteAt cX0_noteAt 2 (some .int), Cond.methodLink RX0 39 yX0_isAt, Cond.instanceMethod yX0_isAt, Cond.selects RX0 yX0_isAt yX0_isAt, Cond.code yX0_isAt cX0_isAt 2 (some .boolean), Cond.methodLink RX5 82 yX0_sizeAt, Cond.instanceMethod yX0_sizeAt, Cond.selects RX0 yX0_sizeAt yX0_sizeAt, Cond.code yX0_sizeAt cX0_sizeAt 2 (some .int), Cond.methodLink RX5 182 yX5_carryOver, Cond.instanceMethod yX5_carryOver, Cond.selects RX5 yX5_carryOver yX5_carryOver, Cond.code yX5_carryOver cX5_carryOver 4 (some .int), Cond.methodLink RX5 99 yX5_freeInHalf, Cond.instanceMethod yX5_freeInHalf]
def wsX7_link_r5 : List Cond := [Cond.selects RX5 yX5_freeInHalf yX5_freeInHalf, Cond.code yX5_freeInHalf cX5_freeInHalf 1 (some .int), Cond.methodLink RX5 188 yX0_layAgain, Cond.instanceMethod yX0_layAgain, Cond.selects RX0 yX0_layAgain yX0_layAgain, Cond.code yX0_layAgain cX0_layAgain 3 none, Cond.methodLink RX5 185 yX3_join, Cond.instanceMethod yX3_join, Cond.selects RX3 yX3_join yX3_join, Cond.code yX3_join cX3_join 2 none, Cond.methodLink RX5 124 yX0_mark, Cond.instanceMethod yX0_mark, Cond.selects RX0 yX0_mark yX0_mark, Cond.code yX0_mark cX0_mark 2 (some .boolean), Cond.methodLink RX5 134 yX0_setName, Cond.instanceMethod yX0_setName, Cond.selects RX0 yX0_setName yX0_setName, Cond.code yX0_setName cX0_setName 4 none, Cond.methodLink RX7 55 yX7_recorded, Cond.instanceMethod yX7_recorded, Cond.selects RX7 yX7_recorded yX7_recorded, Cond.code yX7_recorded cX7_recorded 2 (some .int), Cond.methodLink RX7 186 yX2_keepDraft, Cond.instanceMethod yX2_keepDraft]
def wsX7_link_r6 : List Cond := [Cond.selects RX2 yX2_keepDraft yX2_keepDraft, Cond.code yX2_keepDraft cX2_keepDraft 1 none]
def wsX7_link : List Cond := .code yX7_link cX7_link 4 (some .int) :: ((wsX7_link_r1 ++ (wsX7_link_r2 ++ (wsX7_link_r3 ++ (wsX7_link_r4 ++ (wsX7_link_r5 ++ wsX7_link_r6))))) ++ wsX70 ++ wsX20 ++ wsX50 ++ wsX00 ++ wsX30)
def wsX7_follow_r1 : List Cond := [Cond.fieldLink RX7 22 "NamedMoves" "history" "LNamedMoves$History;", Cond.fieldLink RX7 12 "NamedMoves" "store" "LNamedMoves$Store;", Cond.methodLink RX7 47 yX2_draft, Cond.instanceMethod yX2_draft, Cond.selects RX2 yX2_draft yX2_draft, Cond.initialized RX2, Cond.code yX2_draft cX2_draft 3 none, Cond.fieldLink RX2 11 "NamedMoves$History" "states" "[LNamedMoves$Store;", Cond.methodLink RX2 31 yX2_slotOfDraft, Cond.instanceMethod yX2_slotOfDraft, Cond.selects RX2 yX2_slotOfDraft yX2_slotOfDraft, Cond.code yX2_slotOfDraft cX2_slotOfDraft 1 (some .int), Cond.fieldLink RX2 22 "NamedMoves$History" "first" "I", Cond.fieldLink RX2 18 "NamedMoves$History" "held" "I", Cond.methodLink RX2 25 yJ9_floorMod_7cf53, Cond.static yJ9_floorMod_7cf53, Cond.initialized RJ9, Cond.code yJ9_floorMod_7cf53 cJ9_floorMod_7cf53 3 (some .int), Cond.methodLink RX2 35 yX5_become, Cond.instanceMethod yX5_become, Cond.selects RX5 yX5_become yX5_become, Cond.initialized RX5, Cond.code yX5_become cX5_become 2 none, Cond.fieldLink RX5 9 "NamedMoves$Store" "hooks" "[I"]
def wsX7_follow_r2 : List Cond := [Cond.methodLink RX5 39 arraycopyName, Cond.native arraycopyName, Cond.static arraycopyName, Cond.initialized "java/lang/System", Cond.fieldLink RX5 18 "NamedMoves$Store" "copies" "LNamedMoves$Copies;", Cond.fieldLink RX5 25 "NamedMoves$Store" "queue" "LNamedMoves$Queue;", Cond.fieldLink RX5 29 "NamedMoves$Store" "heavyBound" "I", Cond.fieldLink RX5 52 "NamedMoves$Store" "made" "I", Cond.fieldLink RX5 55 "NamedMoves$Store" "moving" "Z", Cond.fieldLink RX5 59 "NamedMoves$Store" "half" "I", Cond.fieldLink RX5 62 "NamedMoves$Store" "taken" "I", Cond.fieldLink RX5 65 "NamedMoves$Store" "notesLost" "I", Cond.fieldLink RX5 68 "NamedMoves$Store" "movesEnded" "I", Cond.methodLink RX5 45 yX0_become, Cond.instanceMethod yX0_become, Cond.selects RX0 yX0_become yX0_become, Cond.initialized RX0, Cond.code yX0_become cX0_become 2 none, Cond.fieldLink RX0 9 "NamedMoves$Copies" "things" "[I", Cond.methodLink RX0 33 arraycopyName, Cond.fieldLink RX0 15 "NamedMoves$Copies" "sizes" "[I", Cond.fieldLink RX0 18 "NamedMoves$Copies" "notes" "[I", Cond.fieldLink RX0 21 "NamedMoves$Copies" "marks" "[I", Cond.fieldLink RX0 24 "NamedMoves$Copies" "names" "[I"]
def wsX7_follow_r3 : List Cond := [Cond.methodLink RX5 49 yX3_become, Cond.instanceMethod yX3_become, Cond.selects RX3 yX3_become yX3_become, Cond.initialized RX3, Cond.code yX3_become cX3_become 2 none, Cond.fieldLink RX3 9 "NamedMoves$Queue" "addresses" "[I", Cond.methodLink RX3 15 arraycopyName, Cond.fieldLink RX3 21 "NamedMoves$Queue" "first" "I", Cond.fieldLink RX3 25 "NamedMoves$Queue" "end" "I", Cond.methodLink RX7 66 yX5_followName, Cond.instanceMethod yX5_followName, Cond.selects RX5 yX5_followName yX5_followName, Cond.code yX5_followName cX5_followName 5 (some .int), Cond.static yX7_isHook, Cond.initialized RX7, Cond.code yX7_isHook cX7_isHook 1 (some .boolean), Cond.static yX7_isName, Cond.code yX7_isName cX7_isName 1 (some .boolean), Cond.methodLink RX5 130 yX5_readIn, Cond.instanceMethod yX5_readIn, Cond.selects RX5 yX5_readIn yX5_readIn, Cond.code yX5_readIn cX5_readIn 5 (some .int), Cond.methodLink RX5 89 yX5_isInOldHalf, Cond.instanceMethod yX5_isInOldHalf]
def wsX7_follow_r4 : List Cond := [Cond.selects RX5 yX5_isInOldHalf yX5_isInOldHalf, Cond.code yX5_isInOldHalf cX5_isInOldHalf 3 (some .boolean), Cond.methodLink RX5 75 yX5_addressOfHalf, Cond.instanceMethod yX5_addressOfHalf, Cond.selects RX5 yX5_addressOfHalf yX5_addressOfHalf, Cond.code yX5_addressOfHalf cX5_addressOfHalf 2 (some .int), Cond.methodLink RX5 79 yX0_noteAt, Cond.instanceMethod yX0_noteAt, Cond.selects RX0 yX0_noteAt yX0_noteAt, Cond.code yX0_noteAt cX0_noteAt 2 (some .int), Cond.methodLink RX0 39 yX0_isAt, Cond.instanceMethod yX0_isAt, Cond.selects RX0 yX0_isAt yX0_isAt, Cond.code yX0_isAt cX0_isAt 2 (some .boolean), Cond.methodLink RX5 82 yX0_sizeAt, Cond.instanceMethod yX0_sizeAt, Cond.selects RX0 yX0_sizeAt yX0_sizeAt, Cond.code yX0_sizeAt cX0_sizeAt 2 (some .int), Cond.methodLink RX5 182 yX5_carryOver, Cond.instanceMethod yX5_carryOver, Cond.selects RX5 yX5_carryOver yX5_carryOver, Cond.code yX5_carryOver cX5_carryOver 4 (some .int), Cond.methodLink RX5 99 yX5_freeInHalf, Cond.instanceMethod yX5_freeInHalf]
def wsX7_follow_r5 : List Cond := [Cond.selects RX5 yX5_freeInHalf yX5_freeInHalf, Cond.code yX5_freeInHalf cX5_freeInHalf 1 (some .int), Cond.methodLink RX5 188 yX0_layAgain, Cond.instanceMethod yX0_layAgain, Cond.selects RX0 yX0_layAgain yX0_layAgain, Cond.code yX0_layAgain cX0_layAgain 3 none, Cond.methodLink RX5 185 yX3_join, Cond.instanceMethod yX3_join, Cond.selects RX3 yX3_join yX3_join, Cond.code yX3_join cX3_join 2 none, Cond.methodLink RX5 124 yX0_mark, Cond.instanceMethod yX0_mark, Cond.selects RX0 yX0_mark yX0_mark, Cond.code yX0_mark cX0_mark 2 (some .boolean), Cond.methodLink RX7 55 yX7_recorded, Cond.instanceMethod yX7_recorded, Cond.selects RX7 yX7_recorded yX7_recorded, Cond.code yX7_recorded cX7_recorded 2 (some .int), Cond.methodLink RX7 186 yX2_keepDraft, Cond.instanceMethod yX2_keepDraft, Cond.selects RX2 yX2_keepDraft yX2_keepDraft, Cond.code yX2_keepDraft cX2_keepDraft 1 none]
def wsX7_follow : List Cond := .code yX7_follow cX7_follow 4 (some .int) :: ((wsX7_follow_r1 ++ (wsX7_follow_r2 ++ (wsX7_follow_r3 ++ (wsX7_follow_r4 ++ wsX7_follow_r5)))) ++ wsX70 ++ wsX20 ++ wsX50 ++ wsX00 ++ wsX30)
def wsX7_drop_r1 : List Cond := [Cond.fieldLink RX7 22 "NamedMoves" "history" "LNamedMoves$History;", Cond.fieldLink RX7 12 "NamedMoves" "store" "LNamedMoves$Store;", Cond.methodLink RX7 47 yX2_draft, Cond.instanceMethod yX2_draft, Cond.selects RX2 yX2_draft yX2_draft, Cond.initialized RX2, Cond.code yX2_draft cX2_draft 3 none, Cond.fieldLink RX2 11 "NamedMoves$History" "states" "[LNamedMoves$Store;", Cond.methodLink RX2 31 yX2_slotOfDraft, Cond.instanceMethod yX2_slotOfDraft, Cond.selects RX2 yX2_slotOfDraft yX2_slotOfDraft, Cond.code yX2_slotOfDraft cX2_slotOfDraft 1 (some .int), Cond.fieldLink RX2 22 "NamedMoves$History" "first" "I", Cond.fieldLink RX2 18 "NamedMoves$History" "held" "I", Cond.methodLink RX2 25 yJ9_floorMod_7cf53, Cond.static yJ9_floorMod_7cf53, Cond.initialized RJ9, Cond.code yJ9_floorMod_7cf53 cJ9_floorMod_7cf53 3 (some .int), Cond.methodLink RX2 35 yX5_become, Cond.instanceMethod yX5_become, Cond.selects RX5 yX5_become yX5_become, Cond.initialized RX5, Cond.code yX5_become cX5_become 2 none, Cond.fieldLink RX5 9 "NamedMoves$Store" "hooks" "[I"]
def wsX7_drop_r2 : List Cond := [Cond.methodLink RX5 39 arraycopyName, Cond.native arraycopyName, Cond.static arraycopyName, Cond.initialized "java/lang/System", Cond.fieldLink RX5 18 "NamedMoves$Store" "copies" "LNamedMoves$Copies;", Cond.fieldLink RX5 25 "NamedMoves$Store" "queue" "LNamedMoves$Queue;", Cond.fieldLink RX5 29 "NamedMoves$Store" "heavyBound" "I", Cond.fieldLink RX5 52 "NamedMoves$Store" "made" "I", Cond.fieldLink RX5 55 "NamedMoves$Store" "moving" "Z", Cond.fieldLink RX5 59 "NamedMoves$Store" "half" "I", Cond.fieldLink RX5 62 "NamedMoves$Store" "taken" "I", Cond.fieldLink RX5 65 "NamedMoves$Store" "notesLost" "I", Cond.fieldLink RX5 68 "NamedMoves$Store" "movesEnded" "I", Cond.methodLink RX5 45 yX0_become, Cond.instanceMethod yX0_become, Cond.selects RX0 yX0_become yX0_become, Cond.initialized RX0, Cond.code yX0_become cX0_become 2 none, Cond.fieldLink RX0 9 "NamedMoves$Copies" "things" "[I", Cond.methodLink RX0 33 arraycopyName, Cond.fieldLink RX0 15 "NamedMoves$Copies" "sizes" "[I", Cond.fieldLink RX0 18 "NamedMoves$Copies" "notes" "[I", Cond.fieldLink RX0 21 "NamedMoves$Copies" "marks" "[I", Cond.fieldLink RX0 24 "NamedMoves$Copies" "names" "[I"]
def wsX7_drop_r3 : List Cond := [Cond.methodLink RX5 49 yX3_become, Cond.instanceMethod yX3_become, Cond.selects RX3 yX3_become yX3_become, Cond.initialized RX3, Cond.code yX3_become cX3_become 2 none, Cond.fieldLink RX3 9 "NamedMoves$Queue" "addresses" "[I", Cond.methodLink RX3 15 arraycopyName, Cond.fieldLink RX3 21 "NamedMoves$Queue" "first" "I", Cond.fieldLink RX3 25 "NamedMoves$Queue" "end" "I", Cond.methodLink RX7 69 yX5_dropHook, Cond.instanceMethod yX5_dropHook, Cond.selects RX5 yX5_dropHook yX5_dropHook, Cond.code yX5_dropHook cX5_dropHook 3 (some .int), Cond.static yX7_isHook, Cond.initialized RX7, Cond.code yX7_isHook cX7_isHook 1 (some .boolean), Cond.methodLink RX7 55 yX7_recorded, Cond.instanceMethod yX7_recorded, Cond.selects RX7 yX7_recorded yX7_recorded, Cond.code yX7_recorded cX7_recorded 2 (some .int), Cond.methodLink RX7 186 yX2_keepDraft, Cond.instanceMethod yX2_keepDraft, Cond.selects RX2 yX2_keepDraft yX2_keepDraft, Cond.code yX2_keepDraft cX2_keepDraft 1 none]
def wsX7_drop : List Cond := .code yX7_drop cX7_drop 2 (some .int) :: ((wsX7_drop_r1 ++ (wsX7_drop_r2 ++ wsX7_drop_r3)) ++ wsX70 ++ wsX20 ++ wsX50 ++ wsX00 ++ wsX30)
def wsX7_begin_r1 : List Cond := [Cond.fieldLink RX7 22 "NamedMoves" "history" "LNamedMoves$History;", Cond.fieldLink RX7 12 "NamedMoves" "store" "LNamedMoves$Store;", Cond.methodLink RX7 47 yX2_draft, Cond.instanceMethod yX2_draft, Cond.selects RX2 yX2_draft yX2_draft, Cond.initialized RX2, Cond.code yX2_draft cX2_draft 3 none, Cond.fieldLink RX2 11 "NamedMoves$History" "states" "[LNamedMoves$Store;", Cond.methodLink RX2 31 yX2_slotOfDraft, Cond.instanceMethod yX2_slotOfDraft, Cond.selects RX2 yX2_slotOfDraft yX2_slotOfDraft, Cond.code yX2_slotOfDraft cX2_slotOfDraft 1 (some .int), Cond.fieldLink RX2 22 "NamedMoves$History" "first" "I", Cond.fieldLink RX2 18 "NamedMoves$History" "held" "I", Cond.methodLink RX2 25 yJ9_floorMod_7cf53, Cond.static yJ9_floorMod_7cf53, Cond.initialized RJ9, Cond.code yJ9_floorMod_7cf53 cJ9_floorMod_7cf53 3 (some .int), Cond.methodLink RX2 35 yX5_become, Cond.instanceMethod yX5_become, Cond.selects RX5 yX5_become yX5_become, Cond.initialized RX5, Cond.code yX5_become cX5_become 2 none, Cond.fieldLink RX5 9 "NamedMoves$Store" "hooks" "[I"]
def wsX7_begin_r2 : List Cond := [Cond.methodLink RX5 39 arraycopyName, Cond.native arraycopyName, Cond.static arraycopyName, Cond.initialized "java/lang/System", Cond.fieldLink RX5 18 "NamedMoves$Store" "copies" "LNamedMoves$Copies;", Cond.fieldLink RX5 25 "NamedMoves$Store" "queue" "LNamedMoves$Queue;", Cond.fieldLink RX5 29 "NamedMoves$Store" "heavyBound" "I", Cond.fieldLink RX5 52 "NamedMoves$Store" "made" "I", Cond.fieldLink RX5 55 "NamedMoves$Store" "moving" "Z", Cond.fieldLink RX5 59 "NamedMoves$Store" "half" "I", Cond.fieldLink RX5 62 "NamedMoves$Store" "taken" "I", Cond.fieldLink RX5 65 "NamedMoves$Store" "notesLost" "I", Cond.fieldLink RX5 68 "NamedMoves$Store" "movesEnded" "I", Cond.methodLink RX5 45 yX0_become, Cond.instanceMethod yX0_become, Cond.selects RX0 yX0_become yX0_become, Cond.initialized RX0, Cond.code yX0_become cX0_become 2 none, Cond.fieldLink RX0 9 "NamedMoves$Copies" "things" "[I", Cond.methodLink RX0 33 arraycopyName, Cond.fieldLink RX0 15 "NamedMoves$Copies" "sizes" "[I", Cond.fieldLink RX0 18 "NamedMoves$Copies" "notes" "[I", Cond.fieldLink RX0 21 "NamedMoves$Copies" "marks" "[I", Cond.fieldLink RX0 24 "NamedMoves$Copies" "names" "[I"]
def wsX7_begin_r3 : List Cond := [Cond.methodLink RX5 49 yX3_become, Cond.instanceMethod yX3_become, Cond.selects RX3 yX3_become yX3_become, Cond.initialized RX3, Cond.code yX3_become cX3_become 2 none, Cond.fieldLink RX3 9 "NamedMoves$Queue" "addresses" "[I", Cond.methodLink RX3 15 arraycopyName, Cond.fieldLink RX3 21 "NamedMoves$Queue" "first" "I", Cond.fieldLink RX3 25 "NamedMoves$Queue" "end" "I", Cond.methodLink RX7 72 yX5_beginMove, Cond.instanceMethod yX5_beginMove, Cond.selects RX5 yX5_beginMove yX5_beginMove, Cond.code yX5_beginMove cX5_beginMove 2 (some .int), Cond.methodLink RX5 140 yX3_clear, Cond.instanceMethod yX3_clear, Cond.selects RX3 yX3_clear yX3_clear, Cond.code yX3_clear cX3_clear 1 none, Cond.methodLink RX5 130 yX5_readIn, Cond.instanceMethod yX5_readIn, Cond.selects RX5 yX5_readIn yX5_readIn, Cond.code yX5_readIn cX5_readIn 5 (some .int), Cond.methodLink RX5 89 yX5_isInOldHalf, Cond.instanceMethod yX5_isInOldHalf, Cond.selects RX5 yX5_isInOldHalf yX5_isInOldHalf]
def wsX7_begin_r4 : List Cond := [Cond.code yX5_isInOldHalf cX5_isInOldHalf 3 (some .boolean), Cond.methodLink RX5 75 yX5_addressOfHalf, Cond.instanceMethod yX5_addressOfHalf, Cond.selects RX5 yX5_addressOfHalf yX5_addressOfHalf, Cond.code yX5_addressOfHalf cX5_addressOfHalf 2 (some .int), Cond.methodLink RX5 79 yX0_noteAt, Cond.instanceMethod yX0_noteAt, Cond.selects RX0 yX0_noteAt yX0_noteAt, Cond.code yX0_noteAt cX0_noteAt 2 (some .int), Cond.methodLink RX0 39 yX0_isAt, Cond.instanceMethod yX0_isAt, Cond.selects RX0 yX0_isAt yX0_isAt, Cond.code yX0_isAt cX0_isAt 2 (some .boolean), Cond.methodLink RX5 82 yX0_sizeAt, Cond.instanceMethod yX0_sizeAt, Cond.selects RX0 yX0_sizeAt yX0_sizeAt, Cond.code yX0_sizeAt cX0_sizeAt 2 (some .int), Cond.methodLink RX5 182 yX5_carryOver, Cond.instanceMethod yX5_carryOver, Cond.selects RX5 yX5_carryOver yX5_carryOver, Cond.code yX5_carryOver cX5_carryOver 4 (some .int), Cond.methodLink RX5 99 yX5_freeInHalf, Cond.instanceMethod yX5_freeInHalf, Cond.selects RX5 yX5_freeInHalf yX5_freeInHalf]
def wsX7_begin_r5 : List Cond := [Cond.code yX5_freeInHalf cX5_freeInHalf 1 (some .int), Cond.methodLink RX5 188 yX0_layAgain, Cond.instanceMethod yX0_layAgain, Cond.selects RX0 yX0_layAgain yX0_layAgain, Cond.code yX0_layAgain cX0_layAgain 3 none, Cond.methodLink RX5 185 yX3_join, Cond.instanceMethod yX3_join, Cond.selects RX3 yX3_join yX3_join, Cond.code yX3_join cX3_join 2 none, Cond.methodLink RX5 124 yX0_mark, Cond.instanceMethod yX0_mark, Cond.selects RX0 yX0_mark yX0_mark, Cond.code yX0_mark cX0_mark 2 (some .boolean), Cond.methodLink RX5 105 yX3_size, Cond.instanceMethod yX3_size, Cond.selects RX3 yX3_size yX3_size, Cond.code yX3_size cX3_size 1 (some .int), Cond.methodLink RX5 143 yX5_endMove, Cond.instanceMethod yX5_endMove, Cond.selects RX5 yX5_endMove yX5_endMove, Cond.code yX5_endMove cX5_endMove 1 none, Cond.methodLink RX5 152 yX0_emptyHalf, Cond.instanceMethod yX0_emptyHalf, Cond.selects RX0 yX0_emptyHalf yX0_emptyHalf]
def wsX7_begin_r6 : List Cond := [Cond.code yX0_emptyHalf cX0_emptyHalf 3 none, Cond.methodLink RX0 57 yX0_remove, Cond.instanceMethod yX0_remove, Cond.selects RX0 yX0_remove yX0_remove, Cond.code yX0_remove cX0_remove 2 none, Cond.methodLink RX5 156 yX0_sweepFloor, Cond.instanceMethod yX0_sweepFloor, Cond.selects RX0 yX0_sweepFloor yX0_sweepFloor, Cond.code yX0_sweepFloor cX0_sweepFloor 2 none, Cond.methodLink RX7 55 yX7_recorded, Cond.instanceMethod yX7_recorded, Cond.selects RX7 yX7_recorded yX7_recorded, Cond.initialized RX7, Cond.code yX7_recorded cX7_recorded 2 (some .int), Cond.methodLink RX7 186 yX2_keepDraft, Cond.instanceMethod yX2_keepDraft, Cond.selects RX2 yX2_keepDraft yX2_keepDraft, Cond.code yX2_keepDraft cX2_keepDraft 1 none]
def wsX7_begin : List Cond := .code yX7_begin cX7_begin 1 (some .int) :: ((wsX7_begin_r1 ++ (wsX7_begin_r2 ++ (wsX7_begin_r3 ++ (wsX7_begin_r4 ++ (wsX7_begin_r5 ++ wsX7_begin_r6))))) ++ wsX70 ++ wsX20 ++ wsX50 ++ wsX00 ++ wsX30)
def wsX7_carry_r1 : List Cond := [Cond.fieldLink RX7 22 "NamedMoves" "history" "LNamedMoves$History;", Cond.fieldLink RX7 12 "NamedMoves" "store" "LNamedMoves$Store;", Cond.methodLink RX7 47 yX2_draft, Cond.instanceMethod yX2_draft, Cond.selects RX2 yX2_draft yX2_draft, Cond.initialized RX2, Cond.code yX2_draft cX2_draft 3 none, Cond.fieldLink RX2 11 "NamedMoves$History" "states" "[LNamedMoves$Store;", Cond.methodLink RX2 31 yX2_slotOfDraft, Cond.instanceMethod yX2_slotOfDraft, Cond.selects RX2 yX2_slotOfDraft yX2_slotOfDraft, Cond.code yX2_slotOfDraft cX2_slotOfDraft 1 (some .int), Cond.fieldLink RX2 22 "NamedMoves$History" "first" "I", Cond.fieldLink RX2 18 "NamedMoves$History" "held" "I", Cond.methodLink RX2 25 yJ9_floorMod_7cf53, Cond.static yJ9_floorMod_7cf53, Cond.initialized RJ9, Cond.code yJ9_floorMod_7cf53 cJ9_floorMod_7cf53 3 (some .int), Cond.methodLink RX2 35 yX5_become, Cond.instanceMethod yX5_become, Cond.selects RX5 yX5_become yX5_become, Cond.initialized RX5, Cond.code yX5_become cX5_become 2 none, Cond.fieldLink RX5 9 "NamedMoves$Store" "hooks" "[I"]
def wsX7_carry_r2 : List Cond := [Cond.methodLink RX5 39 arraycopyName, Cond.native arraycopyName, Cond.static arraycopyName, Cond.initialized "java/lang/System", Cond.fieldLink RX5 18 "NamedMoves$Store" "copies" "LNamedMoves$Copies;", Cond.fieldLink RX5 25 "NamedMoves$Store" "queue" "LNamedMoves$Queue;", Cond.fieldLink RX5 29 "NamedMoves$Store" "heavyBound" "I", Cond.fieldLink RX5 52 "NamedMoves$Store" "made" "I", Cond.fieldLink RX5 55 "NamedMoves$Store" "moving" "Z", Cond.fieldLink RX5 59 "NamedMoves$Store" "half" "I", Cond.fieldLink RX5 62 "NamedMoves$Store" "taken" "I", Cond.fieldLink RX5 65 "NamedMoves$Store" "notesLost" "I", Cond.fieldLink RX5 68 "NamedMoves$Store" "movesEnded" "I", Cond.methodLink RX5 45 yX0_become, Cond.instanceMethod yX0_become, Cond.selects RX0 yX0_become yX0_become, Cond.initialized RX0, Cond.code yX0_become cX0_become 2 none, Cond.fieldLink RX0 9 "NamedMoves$Copies" "things" "[I", Cond.methodLink RX0 33 arraycopyName, Cond.fieldLink RX0 15 "NamedMoves$Copies" "sizes" "[I", Cond.fieldLink RX0 18 "NamedMoves$Copies" "notes" "[I", Cond.fieldLink RX0 21 "NamedMoves$Copies" "marks" "[I", Cond.fieldLink RX0 24 "NamedMoves$Copies" "names" "[I"]
def wsX7_carry_r3 : List Cond := [Cond.methodLink RX5 49 yX3_become, Cond.instanceMethod yX3_become, Cond.selects RX3 yX3_become yX3_become, Cond.initialized RX3, Cond.code yX3_become cX3_become 2 none, Cond.fieldLink RX3 9 "NamedMoves$Queue" "addresses" "[I", Cond.methodLink RX3 15 arraycopyName, Cond.fieldLink RX3 21 "NamedMoves$Queue" "first" "I", Cond.fieldLink RX3 25 "NamedMoves$Queue" "end" "I", Cond.methodLink RX7 76 yX5_carrySteps, Cond.instanceMethod yX5_carrySteps, Cond.selects RX5 yX5_carrySteps yX5_carrySteps, Cond.code yX5_carrySteps cX5_carrySteps 2 (some .int), Cond.methodLink RX5 146 yX5_stepsUpTo, Cond.instanceMethod yX5_stepsUpTo, Cond.selects RX5 yX5_stepsUpTo yX5_stepsUpTo, Cond.code yX5_stepsUpTo cX5_stepsUpTo 4 (some .int), Cond.methodLink RX5 149 yX3_takeFirst, Cond.instanceMethod yX3_takeFirst, Cond.selects RX3 yX3_takeFirst yX3_takeFirst, Cond.code yX3_takeFirst cX3_takeFirst 1 (some .int), Cond.methodLink RX5 130 yX5_readIn, Cond.instanceMethod yX5_readIn, Cond.selects RX5 yX5_readIn yX5_readIn]
def wsX7_carry_r4 : List Cond := [Cond.code yX5_readIn cX5_readIn 5 (some .int), Cond.methodLink RX5 89 yX5_isInOldHalf, Cond.instanceMethod yX5_isInOldHalf, Cond.selects RX5 yX5_isInOldHalf yX5_isInOldHalf, Cond.code yX5_isInOldHalf cX5_isInOldHalf 3 (some .boolean), Cond.methodLink RX5 75 yX5_addressOfHalf, Cond.instanceMethod yX5_addressOfHalf, Cond.selects RX5 yX5_addressOfHalf yX5_addressOfHalf, Cond.code yX5_addressOfHalf cX5_addressOfHalf 2 (some .int), Cond.methodLink RX5 79 yX0_noteAt, Cond.instanceMethod yX0_noteAt, Cond.selects RX0 yX0_noteAt yX0_noteAt, Cond.code yX0_noteAt cX0_noteAt 2 (some .int), Cond.methodLink RX0 39 yX0_isAt, Cond.instanceMethod yX0_isAt, Cond.selects RX0 yX0_isAt yX0_isAt, Cond.code yX0_isAt cX0_isAt 2 (some .boolean), Cond.methodLink RX5 82 yX0_sizeAt, Cond.instanceMethod yX0_sizeAt, Cond.selects RX0 yX0_sizeAt yX0_sizeAt, Cond.code yX0_sizeAt cX0_sizeAt 2 (some .int), Cond.methodLink RX5 182 yX5_carryOver, Cond.instanceMethod yX5_carryOver, Cond.selects RX5 yX5_carryOver yX5_carryOver]
def wsX7_carry_r5 : List Cond := [Cond.code yX5_carryOver cX5_carryOver 4 (some .int), Cond.methodLink RX5 99 yX5_freeInHalf, Cond.instanceMethod yX5_freeInHalf, Cond.selects RX5 yX5_freeInHalf yX5_freeInHalf, Cond.code yX5_freeInHalf cX5_freeInHalf 1 (some .int), Cond.methodLink RX5 188 yX0_layAgain, Cond.instanceMethod yX0_layAgain, Cond.selects RX0 yX0_layAgain yX0_layAgain, Cond.code yX0_layAgain cX0_layAgain 3 none, Cond.methodLink RX5 185 yX3_join, Cond.instanceMethod yX3_join, Cond.selects RX3 yX3_join yX3_join, Cond.code yX3_join cX3_join 2 none, Cond.methodLink RX5 124 yX0_mark, Cond.instanceMethod yX0_mark, Cond.selects RX0 yX0_mark yX0_mark, Cond.code yX0_mark cX0_mark 2 (some .boolean), Cond.methodLink RX5 105 yX3_size, Cond.instanceMethod yX3_size, Cond.selects RX3 yX3_size yX3_size, Cond.code yX3_size cX3_size 1 (some .int), Cond.methodLink RX5 143 yX5_endMove, Cond.instanceMethod yX5_endMove, Cond.selects RX5 yX5_endMove yX5_endMove]
def wsX7_carry_r6 : List Cond := [Cond.code yX5_endMove cX5_endMove 1 none, Cond.methodLink RX5 152 yX0_emptyHalf, Cond.instanceMethod yX0_emptyHalf, Cond.selects RX0 yX0_emptyHalf yX0_emptyHalf, Cond.code yX0_emptyHalf cX0_emptyHalf 3 none, Cond.methodLink RX0 57 yX0_remove, Cond.instanceMethod yX0_remove, Cond.selects RX0 yX0_remove yX0_remove, Cond.code yX0_remove cX0_remove 2 none, Cond.methodLink RX5 156 yX0_sweepFloor, Cond.instanceMethod yX0_sweepFloor, Cond.selects RX0 yX0_sweepFloor yX0_sweepFloor, Cond.code yX0_sweepFloor cX0_sweepFloor 2 none, Cond.methodLink RX7 55 yX7_recorded, Cond.instanceMethod yX7_recorded, Cond.selects RX7 yX7_recorded yX7_recorded, Cond.initialized RX7, Cond.code yX7_recorded cX7_recorded 2 (some .int), Cond.methodLink RX7 186 yX2_keepDraft, Cond.instanceMethod yX2_keepDraft, Cond.selects RX2 yX2_keepDraft yX2_keepDraft, Cond.code yX2_keepDraft cX2_keepDraft 1 none]
def wsX7_carry : List Cond := .code yX7_carry cX7_carry 2 (some .int) :: ((wsX7_carry_r1 ++ (wsX7_carry_r2 ++ (wsX7_carry_r3 ++ (wsX7_carry_r4 ++ (wsX7_carry_r5 ++ wsX7_carry_r6))))) ++ wsX70 ++ wsX20 ++ wsX50 ++ wsX00 ++ wsX30)
def wsX7_lose_r1 : List Cond := [Cond.fieldLink RX7 22 "NamedMoves" "history" "LNamedMoves$History;", Cond.fieldLink RX7 12 "NamedMoves" "store" "LNamedMoves$Store;", Cond.methodLink RX7 47 yX2_draft, Cond.instanceMethod yX2_draft, Cond.selects RX2 yX2_draft yX2_draft, Cond.initialized RX2, Cond.code yX2_draft cX2_draft 3 none, Cond.fieldLink RX2 11 "NamedMoves$History" "states" "[LNamedMoves$Store;", Cond.methodLink RX2 31 yX2_slotOfDraft, Cond.instanceMethod yX2_slotOfDraft, Cond.selects RX2 yX2_slotOfDraft yX2_slotOfDraft, Cond.code yX2_slotOfDraft cX2_slotOfDraft 1 (some .int), Cond.fieldLink RX2 22 "NamedMoves$History" "first" "I", Cond.fieldLink RX2 18 "NamedMoves$History" "held" "I", Cond.methodLink RX2 25 yJ9_floorMod_7cf53, Cond.static yJ9_floorMod_7cf53, Cond.initialized RJ9, Cond.code yJ9_floorMod_7cf53 cJ9_floorMod_7cf53 3 (some .int), Cond.methodLink RX2 35 yX5_become, Cond.instanceMethod yX5_become, Cond.selects RX5 yX5_become yX5_become, Cond.initialized RX5, Cond.code yX5_become cX5_become 2 none, Cond.fieldLink RX5 9 "NamedMoves$Store" "hooks" "[I"]
def wsX7_lose_r2 : List Cond := [Cond.methodLink RX5 39 arraycopyName, Cond.native arraycopyName, Cond.static arraycopyName, Cond.initialized "java/lang/System", Cond.fieldLink RX5 18 "NamedMoves$Store" "copies" "LNamedMoves$Copies;", Cond.fieldLink RX5 25 "NamedMoves$Store" "queue" "LNamedMoves$Queue;", Cond.fieldLink RX5 29 "NamedMoves$Store" "heavyBound" "I", Cond.fieldLink RX5 52 "NamedMoves$Store" "made" "I", Cond.fieldLink RX5 55 "NamedMoves$Store" "moving" "Z", Cond.fieldLink RX5 59 "NamedMoves$Store" "half" "I", Cond.fieldLink RX5 62 "NamedMoves$Store" "taken" "I", Cond.fieldLink RX5 65 "NamedMoves$Store" "notesLost" "I", Cond.fieldLink RX5 68 "NamedMoves$Store" "movesEnded" "I", Cond.methodLink RX5 45 yX0_become, Cond.instanceMethod yX0_become, Cond.selects RX0 yX0_become yX0_become, Cond.initialized RX0, Cond.code yX0_become cX0_become 2 none, Cond.fieldLink RX0 9 "NamedMoves$Copies" "things" "[I", Cond.methodLink RX0 33 arraycopyName, Cond.fieldLink RX0 15 "NamedMoves$Copies" "sizes" "[I", Cond.fieldLink RX0 18 "NamedMoves$Copies" "notes" "[I", Cond.fieldLink RX0 21 "NamedMoves$Copies" "marks" "[I", Cond.fieldLink RX0 24 "NamedMoves$Copies" "names" "[I"]
def wsX7_lose_r3 : List Cond := [Cond.methodLink RX5 49 yX3_become, Cond.instanceMethod yX3_become, Cond.selects RX3 yX3_become yX3_become, Cond.initialized RX3, Cond.code yX3_become cX3_become 2 none, Cond.fieldLink RX3 9 "NamedMoves$Queue" "addresses" "[I", Cond.methodLink RX3 15 arraycopyName, Cond.fieldLink RX3 21 "NamedMoves$Queue" "first" "I", Cond.fieldLink RX3 25 "NamedMoves$Queue" "end" "I", Cond.methodLink RX7 79 yX5_loseNote, Cond.instanceMethod yX5_loseNote, Cond.selects RX5 yX5_loseNote yX5_loseNote, Cond.code yX5_loseNote cX5_loseNote 3 (some .int), Cond.methodLink RX5 159 yX5_isThing, Cond.instanceMethod yX5_isThing, Cond.selects RX5 yX5_isThing yX5_isThing, Cond.code yX5_isThing cX5_isThing 2 (some .boolean), Cond.methodLink RX5 162 yX5_firstWithNote, Cond.instanceMethod yX5_firstWithNote, Cond.selects RX5 yX5_firstWithNote yX5_firstWithNote, Cond.code yX5_firstWithNote cX5_firstWithNote 3 (some .int), Cond.methodLink RX5 85 yX0_isOf, Cond.instanceMethod yX0_isOf, Cond.selects RX0 yX0_isOf yX0_isOf]
def wsX7_lose_r4 : List Cond := [Cond.code yX0_isOf cX0_isOf 3 (some .boolean), Cond.methodLink RX0 39 yX0_isAt, Cond.instanceMethod yX0_isAt, Cond.selects RX0 yX0_isAt yX0_isAt, Cond.code yX0_isAt cX0_isAt 2 (some .boolean), Cond.methodLink RX5 79 yX0_noteAt, Cond.instanceMethod yX0_noteAt, Cond.selects RX0 yX0_noteAt yX0_noteAt, Cond.code yX0_noteAt cX0_noteAt 2 (some .int), Cond.methodLink RX5 99 yX5_freeInHalf, Cond.instanceMethod yX5_freeInHalf, Cond.selects RX5 yX5_freeInHalf yX5_freeInHalf, Cond.code yX5_freeInHalf cX5_freeInHalf 1 (some .int), Cond.methodLink RX5 108 yX5_roomKept, Cond.instanceMethod yX5_roomKept, Cond.selects RX5 yX5_roomKept yX5_roomKept, Cond.code yX5_roomKept cX5_roomKept 4 (some .int), Cond.methodLink RX5 75 yX5_addressOfHalf, Cond.instanceMethod yX5_addressOfHalf, Cond.selects RX5 yX5_addressOfHalf yX5_addressOfHalf, Cond.code yX5_addressOfHalf cX5_addressOfHalf 2 (some .int), Cond.methodLink RX5 82 yX0_sizeAt, Cond.instanceMethod yX0_sizeAt, Cond.selects RX0 yX0_sizeAt yX0_sizeAt]
def wsX7_lose_r5 : List Cond := [Cond.code yX0_sizeAt cX0_sizeAt 2 (some .int), Cond.methodLink RX5 165 yX0_loseNoteAt, Cond.instanceMethod yX0_loseNoteAt, Cond.selects RX0 yX0_loseNoteAt yX0_loseNoteAt, Cond.code yX0_loseNoteAt cX0_loseNoteAt 2 none, Cond.methodLink RX7 55 yX7_recorded, Cond.instanceMethod yX7_recorded, Cond.selects RX7 yX7_recorded yX7_recorded, Cond.initialized RX7, Cond.code yX7_recorded cX7_recorded 2 (some .int), Cond.methodLink RX7 186 yX2_keepDraft, Cond.instanceMethod yX2_keepDraft, Cond.selects RX2 yX2_keepDraft yX2_keepDraft, Cond.code yX2_keepDraft cX2_keepDraft 1 none]
def wsX7_lose : List Cond := .code yX7_lose cX7_lose 2 (some .int) :: ((wsX7_lose_r1 ++ (wsX7_lose_r2 ++ (wsX7_lose_r3 ++ (wsX7_lose_r4 ++ wsX7_lose_r5)))) ++ wsX70 ++ wsX20 ++ wsX50 ++ wsX00 ++ wsX30)
def wsX7_mend_r1 : List Cond := [Cond.fieldLink RX7 22 "NamedMoves" "history" "LNamedMoves$History;", Cond.fieldLink RX7 12 "NamedMoves" "store" "LNamedMoves$Store;", Cond.methodLink RX7 47 yX2_draft, Cond.instanceMethod yX2_draft, Cond.selects RX2 yX2_draft yX2_draft, Cond.initialized RX2, Cond.code yX2_draft cX2_draft 3 none, Cond.fieldLink RX2 11 "NamedMoves$History" "states" "[LNamedMoves$Store;", Cond.methodLink RX2 31 yX2_slotOfDraft, Cond.instanceMethod yX2_slotOfDraft, Cond.selects RX2 yX2_slotOfDraft yX2_slotOfDraft, Cond.code yX2_slotOfDraft cX2_slotOfDraft 1 (some .int), Cond.fieldLink RX2 22 "NamedMoves$History" "first" "I", Cond.fieldLink RX2 18 "NamedMoves$History" "held" "I", Cond.methodLink RX2 25 yJ9_floorMod_7cf53, Cond.static yJ9_floorMod_7cf53, Cond.initialized RJ9, Cond.code yJ9_floorMod_7cf53 cJ9_floorMod_7cf53 3 (some .int), Cond.methodLink RX2 35 yX5_become, Cond.instanceMethod yX5_become, Cond.selects RX5 yX5_become yX5_become, Cond.initialized RX5, Cond.code yX5_become cX5_become 2 none, Cond.fieldLink RX5 9 "NamedMoves$Store" "hooks" "[I"]
def wsX7_mend_r2 : List Cond := [Cond.methodLink RX5 39 arraycopyName, Cond.native arraycopyName, Cond.static arraycopyName, Cond.initialized "java/lang/System", Cond.fieldLink RX5 18 "NamedMoves$Store" "copies" "LNamedMoves$Copies;", Cond.fieldLink RX5 25 "NamedMoves$Store" "queue" "LNamedMoves$Queue;", Cond.fieldLink RX5 29 "NamedMoves$Store" "heavyBound" "I", Cond.fieldLink RX5 52 "NamedMoves$Store" "made" "I", Cond.fieldLink RX5 55 "NamedMoves$Store" "moving" "Z", Cond.fieldLink RX5 59 "NamedMoves$Store" "half" "I", Cond.fieldLink RX5 62 "NamedMoves$Store" "taken" "I", Cond.fieldLink RX5 65 "NamedMoves$Store" "notesLost" "I", Cond.fieldLink RX5 68 "NamedMoves$Store" "movesEnded" "I", Cond.methodLink RX5 45 yX0_become, Cond.instanceMethod yX0_become, Cond.selects RX0 yX0_become yX0_become, Cond.initialized RX0, Cond.code yX0_become cX0_become 2 none, Cond.fieldLink RX0 9 "NamedMoves$Copies" "things" "[I", Cond.methodLink RX0 33 arraycopyName, Cond.fieldLink RX0 15 "NamedMoves$Copies" "sizes" "[I", Cond.fieldLink RX0 18 "NamedMoves$Copies" "notes" "[I", Cond.fieldLink RX0 21 "NamedMoves$Copies" "marks" "[I", Cond.fieldLink RX0 24 "NamedMoves$Copies" "names" "[I"]
def wsX7_mend_r3 : List Cond := [Cond.methodLink RX5 49 yX3_become, Cond.instanceMethod yX3_become, Cond.selects RX3 yX3_become yX3_become, Cond.initialized RX3, Cond.code yX3_become cX3_become 2 none, Cond.fieldLink RX3 9 "NamedMoves$Queue" "addresses" "[I", Cond.methodLink RX3 15 arraycopyName, Cond.fieldLink RX3 21 "NamedMoves$Queue" "first" "I", Cond.fieldLink RX3 25 "NamedMoves$Queue" "end" "I", Cond.methodLink RX7 82 yX5_mendTwins, Cond.instanceMethod yX5_mendTwins, Cond.selects RX5 yX5_mendTwins yX5_mendTwins, Cond.code yX5_mendTwins cX5_mendTwins 5 (some .int), Cond.methodLink RX5 159 yX5_isThing, Cond.instanceMethod yX5_isThing, Cond.selects RX5 yX5_isThing yX5_isThing, Cond.code yX5_isThing cX5_isThing 2 (some .boolean), Cond.methodLink RX5 92 yX5_hasTwins, Cond.instanceMethod yX5_hasTwins, Cond.selects RX5 yX5_hasTwins yX5_hasTwins, Cond.code yX5_hasTwins cX5_hasTwins 4 (some .boolean), Cond.methodLink RX5 85 yX0_isOf, Cond.instanceMethod yX0_isOf, Cond.selects RX0 yX0_isOf yX0_isOf]
def wsX7_mend_r4 : List Cond := [Cond.code yX0_isOf cX0_isOf 3 (some .boolean), Cond.methodLink RX0 39 yX0_isAt, Cond.instanceMethod yX0_isAt, Cond.selects RX0 yX0_isAt yX0_isAt, Cond.code yX0_isAt cX0_isAt 2 (some .boolean), Cond.methodLink RX5 89 yX5_isInOldHalf, Cond.instanceMethod yX5_isInOldHalf, Cond.selects RX5 yX5_isInOldHalf yX5_isInOldHalf, Cond.code yX5_isInOldHalf cX5_isInOldHalf 3 (some .boolean), Cond.methodLink RX5 75 yX5_addressOfHalf, Cond.instanceMethod yX5_addressOfHalf, Cond.selects RX5 yX5_addressOfHalf yX5_addressOfHalf, Cond.code yX5_addressOfHalf cX5_addressOfHalf 2 (some .int), Cond.methodLink RX5 168 yX0_addressOf, Cond.instanceMethod yX0_addressOf, Cond.selects RX0 yX0_addressOf yX0_addressOf, Cond.code yX0_addressOf cX0_addressOf 5 (some .int), Cond.methodLink RX0 46 yX0_isOf, Cond.methodLink RX5 172 yX0_remove, Cond.instanceMethod yX0_remove, Cond.selects RX0 yX0_remove yX0_remove, Cond.code yX0_remove cX0_remove 2 none, Cond.methodLink RX5 175 yX0_replaceNames, Cond.instanceMethod yX0_replaceNames]
def wsX7_mend_r5 : List Cond := [Cond.selects RX0 yX0_replaceNames yX0_replaceNames, Cond.code yX0_replaceNames cX0_replaceNames 4 none, Cond.methodLink RX5 179 yX5_replaceHooks, Cond.instanceMethod yX5_replaceHooks, Cond.selects RX5 yX5_replaceHooks yX5_replaceHooks, Cond.code yX5_replaceHooks cX5_replaceHooks 4 none, Cond.methodLink RX7 55 yX7_recorded, Cond.instanceMethod yX7_recorded, Cond.selects RX7 yX7_recorded yX7_recorded, Cond.initialized RX7, Cond.code yX7_recorded cX7_recorded 2 (some .int), Cond.methodLink RX7 186 yX2_keepDraft, Cond.instanceMethod yX2_keepDraft, Cond.selects RX2 yX2_keepDraft yX2_keepDraft, Cond.code yX2_keepDraft cX2_keepDraft 1 none]
def wsX7_mend : List Cond := .code yX7_mend cX7_mend 2 (some .int) :: ((wsX7_mend_r1 ++ (wsX7_mend_r2 ++ (wsX7_mend_r3 ++ (wsX7_mend_r4 ++ wsX7_mend_r5)))) ++ wsX70 ++ wsX20 ++ wsX50 ++ wsX00 ++ wsX30)
def wsX7_count_r1 : List Cond := [Cond.fieldLink RX7 22 "NamedMoves" "history" "LNamedMoves$History;", Cond.fieldLink RX7 36 "NamedMoves" "text" "LNamedMoves$Text;", Cond.fieldLink RX7 12 "NamedMoves" "store" "LNamedMoves$Store;", Cond.methodLink RX7 85 yX2_size, Cond.instanceMethod yX2_size, Cond.selects RX2 yX2_size yX2_size, Cond.initialized RX2, Cond.code yX2_size cX2_size 1 (some .int), Cond.fieldLink RX2 18 "NamedMoves$History" "held" "I", Cond.methodLink RX7 94 yX6_size, Cond.instanceMethod yX6_size, Cond.selects RX6 yX6_size yX6_size, Cond.initialized RX6, Cond.code yX6_size cX6_size 1 (some .int), Cond.fieldLink RX6 15 "NamedMoves$Text" "length" "I", Cond.methodLink RX7 112 yX5_numberOf, Cond.instanceMethod yX5_numberOf, Cond.selects RX5 yX5_numberOf yX5_numberOf, Cond.initialized RX5, Cond.code yX5_numberOf cX5_numberOf 2 (some .int), Cond.fieldLink RX5 52 "NamedMoves$Store" "made" "I", Cond.fieldLink RX5 18 "NamedMoves$Store" "copies" "LNamedMoves$Copies;", Cond.fieldLink RX5 55 "NamedMoves$Store" "moving" "Z", Cond.fieldLink RX5 59 "NamedMoves$Store" "half" "I"]
def wsX7_count_r2 : List Cond := [Cond.fieldLink RX5 25 "NamedMoves$Store" "queue" "LNamedMoves$Queue;", Cond.fieldLink RX5 65 "NamedMoves$Store" "notesLost" "I", Cond.fieldLink RX5 68 "NamedMoves$Store" "movesEnded" "I", Cond.fieldLink RX5 29 "NamedMoves$Store" "heavyBound" "I", Cond.methodLink RX5 95 yX0_number, Cond.instanceMethod yX0_number, Cond.selects RX0 yX0_number yX0_number, Cond.initialized RX0, Cond.code yX0_number cX0_number 3 (some .int), Cond.methodLink RX0 39 yX0_isAt, Cond.instanceMethod yX0_isAt, Cond.selects RX0 yX0_isAt yX0_isAt, Cond.code yX0_isAt cX0_isAt 2 (some .boolean), Cond.fieldLink RX0 15 "NamedMoves$Copies" "sizes" "[I", Cond.methodLink RX5 99 yX5_freeInHalf, Cond.instanceMethod yX5_freeInHalf, Cond.selects RX5 yX5_freeInHalf yX5_freeInHalf, Cond.code yX5_freeInHalf cX5_freeInHalf 1 (some .int), Cond.fieldLink RX5 62 "NamedMoves$Store" "taken" "I", Cond.methodLink RX5 102 yX0_floorTaken, Cond.instanceMethod yX0_floorTaken, Cond.selects RX0 yX0_floorTaken yX0_floorTaken, Cond.code yX0_floorTaken cX0_floorTaken 3 (some .int), Cond.methodLink RX0 50 yX0_sizeAt]
def wsX7_count_r3 : List Cond := [Cond.instanceMethod yX0_sizeAt, Cond.selects RX0 yX0_sizeAt yX0_sizeAt, Cond.code yX0_sizeAt cX0_sizeAt 2 (some .int), Cond.methodLink RX5 105 yX3_size, Cond.instanceMethod yX3_size, Cond.selects RX3 yX3_size yX3_size, Cond.initialized RX3, Cond.code yX3_size cX3_size 1 (some .int), Cond.fieldLink RX3 25 "NamedMoves$Queue" "end" "I", Cond.fieldLink RX3 21 "NamedMoves$Queue" "first" "I", Cond.methodLink RX5 108 yX5_roomKept, Cond.instanceMethod yX5_roomKept, Cond.selects RX5 yX5_roomKept yX5_roomKept, Cond.code yX5_roomKept cX5_roomKept 4 (some .int), Cond.methodLink RX5 75 yX5_addressOfHalf, Cond.instanceMethod yX5_addressOfHalf, Cond.selects RX5 yX5_addressOfHalf yX5_addressOfHalf, Cond.code yX5_addressOfHalf cX5_addressOfHalf 2 (some .int), Cond.methodLink RX5 79 yX0_noteAt, Cond.instanceMethod yX0_noteAt, Cond.selects RX0 yX0_noteAt yX0_noteAt, Cond.code yX0_noteAt cX0_noteAt 2 (some .int), Cond.fieldLink RX0 18 "NamedMoves$Copies" "notes" "[I", Cond.methodLink RX5 82 yX0_sizeAt]
def wsX7_count_r4 : List Cond := [Cond.methodLink RX5 111 yX5_thingsWithTwins, Cond.instanceMethod yX5_thingsWithTwins, Cond.selects RX5 yX5_thingsWithTwins yX5_thingsWithTwins, Cond.code yX5_thingsWithTwins cX5_thingsWithTwins 3 (some .int), Cond.methodLink RX5 92 yX5_hasTwins, Cond.instanceMethod yX5_hasTwins, Cond.selects RX5 yX5_hasTwins yX5_hasTwins, Cond.code yX5_hasTwins cX5_hasTwins 4 (some .boolean), Cond.methodLink RX5 85 yX0_isOf, Cond.instanceMethod yX0_isOf, Cond.selects RX0 yX0_isOf yX0_isOf, Cond.code yX0_isOf cX0_isOf 3 (some .boolean), Cond.fieldLink RX0 9 "NamedMoves$Copies" "things" "[I", Cond.methodLink RX5 89 yX5_isInOldHalf, Cond.instanceMethod yX5_isInOldHalf, Cond.selects RX5 yX5_isInOldHalf yX5_isInOldHalf, Cond.code yX5_isInOldHalf cX5_isInOldHalf 3 (some .boolean)]
def wsX7_count : List Cond := .code yX7_count cX7_count 2 (some .int) :: ((wsX7_count_r1 ++ (wsX7_count_r2 ++ (wsX7_count_r3 ++ wsX7_count_r4))) ++ wsX70 ++ wsX20 ++ wsX60 ++ wsX50 ++ wsX00 ++ wsX30)
def wsX7_orNone : List Cond := .code yX7_orNone cX7_orNone 1 (some .int) :: ([])
def wsX7_hook : List Cond := .code yX7_hook cX7_hook 2 (some .int) :: ([.fieldLink RX7 12 "NamedMoves" "store" "LNamedMoves$Store;", .methodLink RX7 115 yX7_isHook, .static yX7_isHook, .initialized RX7, .code yX7_isHook cX7_isHook 1 (some .boolean), .methodLink RX7 119 yX5_hungOn, .instanceMethod yX5_hungOn, .selects RX5 yX5_hungOn yX5_hungOn, .initialized RX5, .code yX5_hungOn cX5_hungOn 2 (some .int), .fieldLink RX5 9 "NamedMoves$Store" "hooks" "[I", .methodLink RX7 122 yX7_orNone, .static yX7_orNone, .code yX7_orNone cX7_orNone 1 (some .int)] ++ wsX70 ++ wsX50)
def wsX7_copy_r1 : List Cond := [Cond.fieldLink RX7 12 "NamedMoves" "store" "LNamedMoves$Store;", Cond.methodLink RX7 129 yX0_isAt, Cond.instanceMethod yX0_isAt, Cond.selects RX0 yX0_isAt yX0_isAt, Cond.initialized RX0, Cond.code yX0_isAt cX0_isAt 2 (some .boolean), Cond.fieldLink RX0 15 "NamedMoves$Copies" "sizes" "[I", Cond.methodLink RX7 134 yX0_thingAt, Cond.instanceMethod yX0_thingAt, Cond.selects RX0 yX0_thingAt yX0_thingAt, Cond.code yX0_thingAt cX0_thingAt 2 (some .int), Cond.fieldLink RX0 9 "NamedMoves$Copies" "things" "[I", Cond.methodLink RX0 39 yX0_isAt, Cond.methodLink RX7 137 yX0_sizeAt, Cond.instanceMethod yX0_sizeAt, Cond.selects RX0 yX0_sizeAt yX0_sizeAt, Cond.code yX0_sizeAt cX0_sizeAt 2 (some .int), Cond.methodLink RX7 140 yX0_noteAt, Cond.instanceMethod yX0_noteAt, Cond.selects RX0 yX0_noteAt yX0_noteAt, Cond.code yX0_noteAt cX0_noteAt 2 (some .int), Cond.fieldLink RX0 18 "NamedMoves$Copies" "notes" "[I", Cond.methodLink RX7 122 yX7_orNone, Cond.static yX7_orNone]
def wsX7_copy_r2 : List Cond := [Cond.initialized RX7, Cond.code yX7_orNone cX7_orNone 1 (some .int), Cond.methodLink RX7 143 yX0_isMarked, Cond.instanceMethod yX0_isMarked, Cond.selects RX0 yX0_isMarked yX0_isMarked, Cond.code yX0_isMarked cX0_isMarked 2 (some .boolean), Cond.fieldLink RX0 21 "NamedMoves$Copies" "marks" "[I", Cond.methodLink RX7 146 yX0_nameAt, Cond.instanceMethod yX0_nameAt, Cond.selects RX0 yX0_nameAt yX0_nameAt, Cond.code yX0_nameAt cX0_nameAt 3 (some .int), Cond.fieldLink RX0 24 "NamedMoves$Copies" "names" "[I", Cond.static yX7_isName, Cond.code yX7_isName cX7_isName 1 (some .boolean)]
def wsX7_copy : List Cond := .code yX7_copy cX7_copy 4 (some .int) :: ((wsX7_copy_r1 ++ wsX7_copy_r2) ++ wsX70 ++ wsX50 ++ wsX00)
def wsX7_where_r1 : List Cond := [Cond.fieldLink RX7 12 "NamedMoves" "store" "LNamedMoves$Store;", Cond.methodLink RX7 149 yX5_isThing, Cond.instanceMethod yX5_isThing, Cond.selects RX5 yX5_isThing yX5_isThing, Cond.initialized RX5, Cond.code yX5_isThing cX5_isThing 2 (some .boolean), Cond.fieldLink RX5 52 "NamedMoves$Store" "made" "I", Cond.methodLink RX7 152 yX0_addressOf, Cond.instanceMethod yX0_addressOf, Cond.selects RX0 yX0_addressOf yX0_addressOf, Cond.initialized RX0, Cond.code yX0_addressOf cX0_addressOf 5 (some .int), Cond.methodLink RX0 46 yX0_isOf, Cond.instanceMethod yX0_isOf, Cond.selects RX0 yX0_isOf yX0_isOf, Cond.code yX0_isOf cX0_isOf 3 (some .boolean), Cond.fieldLink RX0 9 "NamedMoves$Copies" "things" "[I", Cond.methodLink RX0 39 yX0_isAt, Cond.instanceMethod yX0_isAt, Cond.selects RX0 yX0_isAt yX0_isAt, Cond.code yX0_isAt cX0_isAt 2 (some .boolean), Cond.fieldLink RX0 15 "NamedMoves$Copies" "sizes" "[I", Cond.methodLink RX7 122 yX7_orNone, Cond.static yX7_orNone]
def wsX7_where_r2 : List Cond := [Cond.initialized RX7, Cond.code yX7_orNone cX7_orNone 1 (some .int)]
def wsX7_where : List Cond := .code yX7_where cX7_where 3 (some .int) :: ((wsX7_where_r1 ++ wsX7_where_r2) ++ wsX70 ++ wsX50 ++ wsX00)
def wsL_cell : List Cond := .code yL_cell cL_cell 2 (some .int) :: ([.constant RL 7 (40503)])
def wsL_low : List Cond := .code yL_low cL_low 2 (some .int) :: ([.constant RL 8 (2147483647)])
def wsL_at : List Cond := .code yL_at cL_at 4 (some .long) :: ([])
def wsL_puts : List Cond := .code yL_puts cL_puts 6 none :: ([])
def wsL_pack : List Cond := .code yL_pack cL_pack 5 (some .long) :: ([.constantLong RL 9 (9)])
def wsL_thing : List Cond := .code yL_thing cL_thing 2 (some .int) :: ([.constantLong RL 11 (63)])
def wsL_name : List Cond := .code yL_name cL_name 3 (some .int) :: ([.constantLong RL 13 (511)])
def wsL_mark : List Cond := .code yL_mark cL_mark 2 (some .int) :: ([])
def wsL_kept : List Cond := .code yL_kept cL_kept 8 (some .int) :: ([.methodLink RL 15 yL_name, .static yL_name, .initialized RL, .code yL_name cL_name 3 (some .int), .constantLong RL 13 (511), .methodLink RL 21 yL_thing, .static yL_thing, .code yL_thing cL_thing 2 (some .int), .constantLong RL 11 (63)])
def wsL_lays : List Cond := .code yL_lays cL_lays 9 (some .int) :: ([.methodLink RL 25 yL_pack, .static yL_pack, .initialized RL, .code yL_pack cL_pack 5 (some .long), .constantLong RL 9 (9), .methodLink RL 29 yL_puts, .static yL_puts, .code yL_puts cL_puts 6 none])
def wsL_read_r1 : List Cond := [Cond.constantLong RL 40 (8589934592), Cond.methodLink RL 33 yL_at, Cond.static yL_at, Cond.initialized RL, Cond.code yL_at cL_at 4 (some .long), Cond.methodLink RL 37 yL_mark, Cond.static yL_mark, Cond.code yL_mark cL_mark 2 (some .int), Cond.methodLink RL 29 yL_puts, Cond.static yL_puts, Cond.code yL_puts cL_puts 6 none, Cond.methodLink RL 15 yL_name, Cond.static yL_name, Cond.code yL_name cL_name 3 (some .int), Cond.constantLong RL 13 (511), Cond.methodLink RL 21 yL_thing, Cond.static yL_thing, Cond.code yL_thing cL_thing 2 (some .int), Cond.constantLong RL 11 (63), Cond.methodLink RL 42 yL_lays, Cond.static yL_lays, Cond.code yL_lays cL_lays 9 (some .int), Cond.methodLink RL 25 yL_pack, Cond.static yL_pack]
def wsL_read_r2 : List Cond := [Cond.code yL_pack cL_pack 5 (some .long), Cond.constantLong RL 9 (9)]
def wsL_read : List Cond := .code yL_read cL_read 10 (some .int) :: ((wsL_read_r1 ++ wsL_read_r2))
def wsL_renames : List Cond := .code yL_renames cL_renames 8 none :: ([.methodLink RL 33 yL_at, .static yL_at, .initialized RL, .code yL_at cL_at 4 (some .long), .methodLink RL 15 yL_name, .static yL_name, .code yL_name cL_name 3 (some .int), .constantLong RL 13 (511), .methodLink RL 29 yL_puts, .static yL_puts, .code yL_puts cL_puts 6 none])
def wsL_ends : List Cond := .code yL_ends cL_ends 5 none :: ([.constantLong RL 46 (-8589934593), .methodLink RL 37 yL_mark, .static yL_mark, .initialized RL, .code yL_mark cL_mark 2 (some .int)])
def wsL_begins_r1 : List Cond := [Cond.methodLink RL 48 yL_read, Cond.static yL_read, Cond.initialized RL, Cond.code yL_read cL_read 10 (some .int), Cond.constantLong RL 40 (8589934592), Cond.methodLink RL 33 yL_at, Cond.static yL_at, Cond.code yL_at cL_at 4 (some .long), Cond.methodLink RL 37 yL_mark, Cond.static yL_mark, Cond.code yL_mark cL_mark 2 (some .int), Cond.methodLink RL 29 yL_puts, Cond.static yL_puts, Cond.code yL_puts cL_puts 6 none, Cond.methodLink RL 15 yL_name, Cond.static yL_name, Cond.code yL_name cL_name 3 (some .int), Cond.constantLong RL 13 (511), Cond.methodLink RL 21 yL_thing, Cond.static yL_thing, Cond.code yL_thing cL_thing 2 (some .int), Cond.constantLong RL 11 (63), Cond.methodLink RL 42 yL_lays, Cond.static yL_lays]
def wsL_begins_r2 : List Cond := [Cond.code yL_lays cL_lays 9 (some .int), Cond.methodLink RL 25 yL_pack, Cond.static yL_pack, Cond.code yL_pack cL_pack 5 (some .long), Cond.constantLong RL 9 (9), Cond.methodLink RL 52 yL_ends, Cond.static yL_ends, Cond.code yL_ends cL_ends 5 none, Cond.constantLong RL 46 (-8589934593)]
def wsL_begins : List Cond := .code yL_begins cL_begins 8 none :: ((wsL_begins_r1 ++ wsL_begins_r2))
def wsL_step_r1 : List Cond := [Cond.methodLink RL 33 yL_at, Cond.static yL_at, Cond.initialized RL, Cond.code yL_at cL_at 4 (some .long), Cond.methodLink RL 15 yL_name, Cond.static yL_name, Cond.code yL_name cL_name 3 (some .int), Cond.constantLong RL 13 (511), Cond.methodLink RL 48 yL_read, Cond.static yL_read, Cond.code yL_read cL_read 10 (some .int), Cond.constantLong RL 40 (8589934592), Cond.methodLink RL 37 yL_mark, Cond.static yL_mark, Cond.code yL_mark cL_mark 2 (some .int), Cond.methodLink RL 29 yL_puts, Cond.static yL_puts, Cond.code yL_puts cL_puts 6 none, Cond.methodLink RL 21 yL_thing, Cond.static yL_thing, Cond.code yL_thing cL_thing 2 (some .int), Cond.constantLong RL 11 (63), Cond.methodLink RL 42 yL_lays, Cond.static yL_lays]
def wsL_step_r2 : List Cond := [Cond.code yL_lays cL_lays 9 (some .int), Cond.methodLink RL 25 yL_pack, Cond.static yL_pack, Cond.code yL_pack cL_pack 5 (some .long), Cond.constantLong RL 9 (9), Cond.methodLink RL 56 yL_renames, Cond.static yL_renames, Cond.code yL_renames cL_renames 8 none, Cond.methodLink RL 52 yL_ends, Cond.static yL_ends, Cond.code yL_ends cL_ends 5 none, Cond.constantLong RL 46 (-8589934593)]
def wsL_step : List Cond := .code yL_step cL_step 8 none :: ((wsL_step_r1 ++ wsL_step_r2))
def wsL_floor : List Cond := .code yL_floor cL_floor 6 (some .int) :: ([.methodLink RL 21 yL_thing, .static yL_thing, .initialized RL, .code yL_thing cL_thing 2 (some .int), .constantLong RL 11 (63)])
def wsL_makes_r1 : List Cond := [Cond.methodLink RL 60 yL_floor, Cond.static yL_floor, Cond.initialized RL, Cond.code yL_floor cL_floor 6 (some .int), Cond.methodLink RL 21 yL_thing, Cond.static yL_thing, Cond.code yL_thing cL_thing 2 (some .int), Cond.constantLong RL 11 (63), Cond.methodLink RL 64 yL_kept, Cond.static yL_kept, Cond.code yL_kept cL_kept 8 (some .int), Cond.methodLink RL 15 yL_name, Cond.static yL_name, Cond.code yL_name cL_name 3 (some .int), Cond.constantLong RL 13 (511), Cond.methodLink RL 68 yX7_make, Cond.instanceMethod yX7_make, Cond.selects RX7 yX7_make yX7_make, Cond.initialized RX7, Cond.code yX7_make cX7_make 3 (some .int), Cond.fieldLink RX7 22 "NamedMoves" "history" "LNamedMoves$History;", Cond.fieldLink RX7 12 "NamedMoves" "store" "LNamedMoves$Store;", Cond.methodLink RX7 47 yX2_draft, Cond.instanceMethod yX2_draft]
def wsL_makes_r2 : List Cond := [Cond.selects RX2 yX2_draft yX2_draft, Cond.initialized RX2, Cond.code yX2_draft cX2_draft 3 none, Cond.fieldLink RX2 11 "NamedMoves$History" "states" "[LNamedMoves$Store;", Cond.methodLink RX2 31 yX2_slotOfDraft, Cond.instanceMethod yX2_slotOfDraft, Cond.selects RX2 yX2_slotOfDraft yX2_slotOfDraft, Cond.code yX2_slotOfDraft cX2_slotOfDraft 1 (some .int), Cond.fieldLink RX2 22 "NamedMoves$History" "first" "I", Cond.fieldLink RX2 18 "NamedMoves$History" "held" "I", Cond.methodLink RX2 25 yJ9_floorMod_7cf53, Cond.static yJ9_floorMod_7cf53, Cond.initialized RJ9, Cond.code yJ9_floorMod_7cf53 cJ9_floorMod_7cf53 3 (some .int), Cond.methodLink RX2 35 yX5_become, Cond.instanceMethod yX5_become, Cond.selects RX5 yX5_become yX5_become, Cond.initialized RX5, Cond.code yX5_become cX5_become 2 none, Cond.fieldLink RX5 9 "NamedMoves$Store" "hooks" "[I", Cond.methodLink RX5 39 arraycopyName, Cond.native arraycopyName, Cond.static arraycopyName, Cond.initialized "java/lang/System"]
def wsL_makes_r3 : List Cond := [Cond.fieldLink RX5 18 "NamedMoves$Store" "copies" "LNamedMoves$Copies;", Cond.fieldLink RX5 25 "NamedMoves$Store" "queue" "LNamedMoves$Queue;", Cond.fieldLink RX5 29 "NamedMoves$Store" "heavyBound" "I", Cond.fieldLink RX5 52 "NamedMoves$Store" "made" "I", Cond.fieldLink RX5 55 "NamedMoves$Store" "moving" "Z", Cond.fieldLink RX5 59 "NamedMoves$Store" "half" "I", Cond.fieldLink RX5 62 "NamedMoves$Store" "taken" "I", Cond.fieldLink RX5 65 "NamedMoves$Store" "notesLost" "I", Cond.fieldLink RX5 68 "NamedMoves$Store" "movesEnded" "I", Cond.methodLink RX5 45 yX0_become, Cond.instanceMethod yX0_become, Cond.selects RX0 yX0_become yX0_become, Cond.initialized RX0, Cond.code yX0_become cX0_become 2 none, Cond.fieldLink RX0 9 "NamedMoves$Copies" "things" "[I", Cond.methodLink RX0 33 arraycopyName, Cond.fieldLink RX0 15 "NamedMoves$Copies" "sizes" "[I", Cond.fieldLink RX0 18 "NamedMoves$Copies" "notes" "[I", Cond.fieldLink RX0 21 "NamedMoves$Copies" "marks" "[I", Cond.fieldLink RX0 24 "NamedMoves$Copies" "names" "[I", Cond.methodLink RX5 49 yX3_become, Cond.instanceMethod yX3_become, Cond.selects RX3 yX3_become yX3_become, Cond.initialized RX3]
def wsL_makes_r4 : List Cond := [Cond.code yX3_become cX3_become 2 none, Cond.fieldLink RX3 9 "NamedMoves$Queue" "addresses" "[I", Cond.methodLink RX3 15 arraycopyName, Cond.fieldLink RX3 21 "NamedMoves$Queue" "first" "I", Cond.fieldLink RX3 25 "NamedMoves$Queue" "end" "I", Cond.methodLink RX7 58 yX5_makeThing, Cond.instanceMethod yX5_makeThing, Cond.selects RX5 yX5_makeThing yX5_makeThing, Cond.code yX5_makeThing cX5_makeThing 5 (some .int), Cond.static yX7_isHook, Cond.code yX7_isHook cX7_isHook 1 (some .boolean), Cond.methodLink RX5 114 yX0_floorAddressFor, Cond.instanceMethod yX0_floorAddressFor, Cond.selects RX0 yX0_floorAddressFor yX0_floorAddressFor, Cond.code yX0_floorAddressFor cX0_floorAddressFor 5 (some .int), Cond.methodLink RX0 50 yX0_sizeAt, Cond.instanceMethod yX0_sizeAt, Cond.selects RX0 yX0_sizeAt yX0_sizeAt, Cond.code yX0_sizeAt cX0_sizeAt 2 (some .int), Cond.methodLink RX0 39 yX0_isAt, Cond.instanceMethod yX0_isAt, Cond.selects RX0 yX0_isAt yX0_isAt, Cond.code yX0_isAt cX0_isAt 2 (some .boolean), Cond.methodLink RX5 117 yX5_halfAddressFor]
def wsL_makes_r5 : List Cond := [Cond.instanceMethod yX5_halfAddressFor, Cond.selects RX5 yX5_halfAddressFor yX5_halfAddressFor, Cond.code yX5_halfAddressFor cX5_halfAddressFor 2 (some .int), Cond.methodLink RX5 99 yX5_freeInHalf, Cond.instanceMethod yX5_freeInHalf, Cond.selects RX5 yX5_freeInHalf yX5_freeInHalf, Cond.code yX5_freeInHalf cX5_freeInHalf 1 (some .int), Cond.methodLink RX5 108 yX5_roomKept, Cond.instanceMethod yX5_roomKept, Cond.selects RX5 yX5_roomKept yX5_roomKept, Cond.code yX5_roomKept cX5_roomKept 4 (some .int), Cond.methodLink RX5 75 yX5_addressOfHalf, Cond.instanceMethod yX5_addressOfHalf, Cond.selects RX5 yX5_addressOfHalf yX5_addressOfHalf, Cond.code yX5_addressOfHalf cX5_addressOfHalf 2 (some .int), Cond.methodLink RX5 79 yX0_noteAt, Cond.instanceMethod yX0_noteAt, Cond.selects RX0 yX0_noteAt yX0_noteAt, Cond.code yX0_noteAt cX0_noteAt 2 (some .int), Cond.methodLink RX5 82 yX0_sizeAt, Cond.methodLink RX5 120 yX0_lay, Cond.instanceMethod yX0_lay, Cond.selects RX0 yX0_lay yX0_lay, Cond.code yX0_lay cX0_lay 4 none]
def wsL_makes_r6 : List Cond := [Cond.methodLink RX5 124 yX0_mark, Cond.instanceMethod yX0_mark, Cond.selects RX0 yX0_mark yX0_mark, Cond.code yX0_mark cX0_mark 2 (some .boolean), Cond.methodLink RX7 55 yX7_recorded, Cond.instanceMethod yX7_recorded, Cond.selects RX7 yX7_recorded yX7_recorded, Cond.code yX7_recorded cX7_recorded 2 (some .int), Cond.methodLink RX7 186 yX2_keepDraft, Cond.instanceMethod yX2_keepDraft, Cond.selects RX2 yX2_keepDraft yX2_keepDraft, Cond.code yX2_keepDraft cX2_keepDraft 1 none, Cond.methodLink RL 25 yL_pack, Cond.static yL_pack, Cond.code yL_pack cL_pack 5 (some .long), Cond.constantLong RL 9 (9), Cond.methodLink RL 42 yL_lays, Cond.static yL_lays, Cond.code yL_lays cL_lays 9 (some .int), Cond.methodLink RL 29 yL_puts, Cond.static yL_puts, Cond.code yL_puts cL_puts 6 none]
def wsL_makes : List Cond := .code yL_makes cL_makes 12 (some .boolean) :: ((wsL_makes_r1 ++ (wsL_makes_r2 ++ (wsL_makes_r3 ++ (wsL_makes_r4 ++ (wsL_makes_r5 ++ wsL_makes_r6))))) ++ wsX70 ++ wsX20 ++ wsX50 ++ wsX00 ++ wsX30)
def wsL_names_r1 : List Cond := [Cond.methodLink RL 74 yX7_link, Cond.instanceMethod yX7_link, Cond.selects RX7 yX7_link yX7_link, Cond.initialized RX7, Cond.code yX7_link cX7_link 4 (some .int), Cond.fieldLink RX7 22 "NamedMoves" "history" "LNamedMoves$History;", Cond.fieldLink RX7 12 "NamedMoves" "store" "LNamedMoves$Store;", Cond.methodLink RX7 47 yX2_draft, Cond.instanceMethod yX2_draft, Cond.selects RX2 yX2_draft yX2_draft, Cond.initialized RX2, Cond.code yX2_draft cX2_draft 3 none, Cond.fieldLink RX2 11 "NamedMoves$History" "states" "[LNamedMoves$Store;", Cond.methodLink RX2 31 yX2_slotOfDraft, Cond.instanceMethod yX2_slotOfDraft, Cond.selects RX2 yX2_slotOfDraft yX2_slotOfDraft, Cond.code yX2_slotOfDraft cX2_slotOfDraft 1 (some .int), Cond.fieldLink RX2 22 "NamedMoves$History" "first" "I", Cond.fieldLink RX2 18 "NamedMoves$History" "held" "I", Cond.methodLink RX2 25 yJ9_floorMod_7cf53, Cond.static yJ9_floorMod_7cf53, Cond.initialized RJ9, Cond.code yJ9_floorMod_7cf53 cJ9_floorMod_7cf53 3 (some .int), Cond.methodLink RX2 35 yX5_become]
def wsL_names_r2 : List Cond := [Cond.instanceMethod yX5_become, Cond.selects RX5 yX5_become yX5_become, Cond.initialized RX5, Cond.code yX5_become cX5_become 2 none, Cond.fieldLink RX5 9 "NamedMoves$Store" "hooks" "[I", Cond.methodLink RX5 39 arraycopyName, Cond.native arraycopyName, Cond.static arraycopyName, Cond.initialized "java/lang/System", Cond.fieldLink RX5 18 "NamedMoves$Store" "copies" "LNamedMoves$Copies;", Cond.fieldLink RX5 25 "NamedMoves$Store" "queue" "LNamedMoves$Queue;", Cond.fieldLink RX5 29 "NamedMoves$Store" "heavyBound" "I", Cond.fieldLink RX5 52 "NamedMoves$Store" "made" "I", Cond.fieldLink RX5 55 "NamedMoves$Store" "moving" "Z", Cond.fieldLink RX5 59 "NamedMoves$Store" "half" "I", Cond.fieldLink RX5 62 "NamedMoves$Store" "taken" "I", Cond.fieldLink RX5 65 "NamedMoves$Store" "notesLost" "I", Cond.fieldLink RX5 68 "NamedMoves$Store" "movesEnded" "I", Cond.methodLink RX5 45 yX0_become, Cond.instanceMethod yX0_become, Cond.selects RX0 yX0_become yX0_become, Cond.initialized RX0, Cond.code yX0_become cX0_become 2 none, Cond.fieldLink RX0 9 "NamedMoves$Copies" "things" "[I"]
def wsL_names_r3 : List Cond := [Cond.methodLink RX0 33 arraycopyName, Cond.fieldLink RX0 15 "NamedMoves$Copies" "sizes" "[I", Cond.fieldLink RX0 18 "NamedMoves$Copies" "notes" "[I", Cond.fieldLink RX0 21 "NamedMoves$Copies" "marks" "[I", Cond.fieldLink RX0 24 "NamedMoves$Copies" "names" "[I", Cond.methodLink RX5 49 yX3_become, Cond.instanceMethod yX3_become, Cond.selects RX3 yX3_become yX3_become, Cond.initialized RX3, Cond.code yX3_become cX3_become 2 none, Cond.fieldLink RX3 9 "NamedMoves$Queue" "addresses" "[I", Cond.methodLink RX3 15 arraycopyName, Cond.fieldLink RX3 21 "NamedMoves$Queue" "first" "I", Cond.fieldLink RX3 25 "NamedMoves$Queue" "end" "I", Cond.methodLink RX7 62 yX5_linkHooks, Cond.instanceMethod yX5_linkHooks, Cond.selects RX5 yX5_linkHooks yX5_linkHooks, Cond.code yX5_linkHooks cX5_linkHooks 6 (some .int), Cond.static yX7_isHook, Cond.code yX7_isHook cX7_isHook 1 (some .boolean), Cond.static yX7_isName, Cond.code yX7_isName cX7_isName 1 (some .boolean), Cond.methodLink RX5 130 yX5_readIn, Cond.instanceMethod yX5_readIn]
def wsL_names_r4 : List Cond := [Cond.selects RX5 yX5_readIn yX5_readIn, Cond.code yX5_readIn cX5_readIn 5 (some .int), Cond.methodLink RX5 89 yX5_isInOldHalf, Cond.instanceMethod yX5_isInOldHalf, Cond.selects RX5 yX5_isInOldHalf yX5_isInOldHalf, Cond.code yX5_isInOldHalf cX5_isInOldHalf 3 (some .boolean), Cond.methodLink RX5 75 yX5_addressOfHalf, Cond.instanceMethod yX5_addressOfHalf, Cond.selects RX5 yX5_addressOfHalf yX5_addressOfHalf, Cond.code yX5_addressOfHalf cX5_addressOfHalf 2 (some .int), Cond.methodLink RX5 79 yX0_noteAt, Cond.instanceMethod yX0_noteAt, Cond.selects RX0 yX0_noteAt yX0_noteAt, Cond.code yX0_noteAt cX0_noteAt 2 (some .int), Cond.methodLink RX0 39 yX0_isAt, Cond.instanceMethod yX0_isAt, Cond.selects RX0 yX0_isAt yX0_isAt, Cond.code yX0_isAt cX0_isAt 2 (some .boolean), Cond.methodLink RX5 82 yX0_sizeAt, Cond.instanceMethod yX0_sizeAt, Cond.selects RX0 yX0_sizeAt yX0_sizeAt, Cond.code yX0_sizeAt cX0_sizeAt 2 (some .int), Cond.methodLink RX5 182 yX5_carryOver, Cond.instanceMethod yX5_carryOver]
def wsL_names_r5 : List Cond := [Cond.selects RX5 yX5_carryOver yX5_carryOver, Cond.code yX5_carryOver cX5_carryOver 4 (some .int), Cond.methodLink RX5 99 yX5_freeInHalf, Cond.instanceMethod yX5_freeInHalf, Cond.selects RX5 yX5_freeInHalf yX5_freeInHalf, Cond.code yX5_freeInHalf cX5_freeInHalf 1 (some .int), Cond.methodLink RX5 188 yX0_layAgain, Cond.instanceMethod yX0_layAgain, Cond.selects RX0 yX0_layAgain yX0_layAgain, Cond.code yX0_layAgain cX0_layAgain 3 none, Cond.methodLink RX5 185 yX3_join, Cond.instanceMethod yX3_join, Cond.selects RX3 yX3_join yX3_join, Cond.code yX3_join cX3_join 2 none, Cond.methodLink RX5 124 yX0_mark, Cond.instanceMethod yX0_mark, Cond.selects RX0 yX0_mark yX0_mark, Cond.code yX0_mark cX0_mark 2 (some .boolean), Cond.methodLink RX5 134 yX0_setName, Cond.instanceMethod yX0_setName, Cond.selects RX0 yX0_setName yX0_setName, Cond.code yX0_setName cX0_setName 4 none, Cond.methodLink RX7 55 yX7_recorded, Cond.instanceMethod yX7_recorded]
def wsL_names_r6 : List Cond := [Cond.selects RX7 yX7_recorded yX7_recorded, Cond.code yX7_recorded cX7_recorded 2 (some .int), Cond.methodLink RX7 186 yX2_keepDraft, Cond.instanceMethod yX2_keepDraft, Cond.selects RX2 yX2_keepDraft yX2_keepDraft, Cond.code yX2_keepDraft cX2_keepDraft 1 none, Cond.methodLink RL 78 yX7_follow, Cond.instanceMethod yX7_follow, Cond.selects RX7 yX7_follow yX7_follow, Cond.code yX7_follow cX7_follow 4 (some .int), Cond.methodLink RX7 66 yX5_followName, Cond.instanceMethod yX5_followName, Cond.selects RX5 yX5_followName yX5_followName, Cond.code yX5_followName cX5_followName 5 (some .int), Cond.methodLink RL 48 yL_read, Cond.static yL_read, Cond.initialized RL, Cond.code yL_read cL_read 10 (some .int), Cond.constantLong RL 40 (8589934592), Cond.methodLink RL 33 yL_at, Cond.static yL_at, Cond.code yL_at cL_at 4 (some .long), Cond.methodLink RL 37 yL_mark, Cond.static yL_mark]
def wsL_names_r7 : List Cond := [Cond.code yL_mark cL_mark 2 (some .int), Cond.methodLink RL 29 yL_puts, Cond.static yL_puts, Cond.code yL_puts cL_puts 6 none, Cond.methodLink RL 15 yL_name, Cond.static yL_name, Cond.code yL_name cL_name 3 (some .int), Cond.constantLong RL 13 (511), Cond.methodLink RL 21 yL_thing, Cond.static yL_thing, Cond.code yL_thing cL_thing 2 (some .int), Cond.constantLong RL 11 (63), Cond.methodLink RL 42 yL_lays, Cond.static yL_lays, Cond.code yL_lays cL_lays 9 (some .int), Cond.methodLink RL 25 yL_pack, Cond.static yL_pack, Cond.code yL_pack cL_pack 5 (some .long), Cond.constantLong RL 9 (9), Cond.methodLink RL 56 yL_renames, Cond.static yL_renames, Cond.code yL_renames cL_renames 8 none]
def wsL_names : List Cond := .code yL_names cL_names 14 (some .boolean) :: ((wsL_names_r1 ++ (wsL_names_r2 ++ (wsL_names_r3 ++ (wsL_names_r4 ++ (wsL_names_r5 ++ (wsL_names_r6 ++ wsL_names_r7)))))) ++ wsX70 ++ wsX20 ++ wsX50 ++ wsX00 ++ wsX30)
def wsL_address : List Cond := .code yL_address cL_address 1 (some .int) :: ([])
def wsL_mends_r1 : List Cond := [Cond.methodLink RL 81 yL_address, Cond.static yL_address, Cond.initialized RL, Cond.code yL_address cL_address 1 (some .int), Cond.methodLink RL 33 yL_at, Cond.static yL_at, Cond.code yL_at cL_at 4 (some .long), Cond.methodLink RL 21 yL_thing, Cond.static yL_thing, Cond.code yL_thing cL_thing 2 (some .int), Cond.constantLong RL 11 (63), Cond.methodLink RL 85 yX7_mend, Cond.instanceMethod yX7_mend, Cond.selects RX7 yX7_mend yX7_mend, Cond.initialized RX7, Cond.code yX7_mend cX7_mend 2 (some .int), Cond.fieldLink RX7 22 "NamedMoves" "history" "LNamedMoves$History;", Cond.fieldLink RX7 12 "NamedMoves" "store" "LNamedMoves$Store;", Cond.methodLink RX7 47 yX2_draft, Cond.instanceMethod yX2_draft, Cond.selects RX2 yX2_draft yX2_draft, Cond.initialized RX2, Cond.code yX2_draft cX2_draft 3 none, Cond.fieldLink RX2 11 "NamedMoves$History" "states" "[LNamedMoves$Store;"]
def wsL_mends_r2 : List Cond := [Cond.methodLink RX2 31 yX2_slotOfDraft, Cond.instanceMethod yX2_slotOfDraft, Cond.selects RX2 yX2_slotOfDraft yX2_slotOfDraft, Cond.code yX2_slotOfDraft cX2_slotOfDraft 1 (some .int), Cond.fieldLink RX2 22 "NamedMoves$History" "first" "I", Cond.fieldLink RX2 18 "NamedMoves$History" "held" "I", Cond.methodLink RX2 25 yJ9_floorMod_7cf53, Cond.static yJ9_floorMod_7cf53, Cond.initialized RJ9, Cond.code yJ9_floorMod_7cf53 cJ9_floorMod_7cf53 3 (some .int), Cond.methodLink RX2 35 yX5_become, Cond.instanceMethod yX5_become, Cond.selects RX5 yX5_become yX5_become, Cond.initialized RX5, Cond.code yX5_become cX5_become 2 none, Cond.fieldLink RX5 9 "NamedMoves$Store" "hooks" "[I", Cond.methodLink RX5 39 arraycopyName, Cond.native arraycopyName, Cond.static arraycopyName, Cond.initialized "java/lang/System", Cond.fieldLink RX5 18 "NamedMoves$Store" "copies" "LNamedMoves$Copies;", Cond.fieldLink RX5 25 "NamedMoves$Store" "queue" "LNamedMoves$Queue;", Cond.fieldLink RX5 29 "NamedMoves$Store" "heavyBound" "I", Cond.fieldLink RX5 52 "NamedMoves$Store" "made" "I"]
def wsL_mends_r3 : List Cond := [Cond.fieldLink RX5 55 "NamedMoves$Store" "moving" "Z", Cond.fieldLink RX5 59 "NamedMoves$Store" "half" "I", Cond.fieldLink RX5 62 "NamedMoves$Store" "taken" "I", Cond.fieldLink RX5 65 "NamedMoves$Store" "notesLost" "I", Cond.fieldLink RX5 68 "NamedMoves$Store" "movesEnded" "I", Cond.methodLink RX5 45 yX0_become, Cond.instanceMethod yX0_become, Cond.selects RX0 yX0_become yX0_become, Cond.initialized RX0, Cond.code yX0_become cX0_become 2 none, Cond.fieldLink RX0 9 "NamedMoves$Copies" "things" "[I", Cond.methodLink RX0 33 arraycopyName, Cond.fieldLink RX0 15 "NamedMoves$Copies" "sizes" "[I", Cond.fieldLink RX0 18 "NamedMoves$Copies" "notes" "[I", Cond.fieldLink RX0 21 "NamedMoves$Copies" "marks" "[I", Cond.fieldLink RX0 24 "NamedMoves$Copies" "names" "[I", Cond.methodLink RX5 49 yX3_become, Cond.instanceMethod yX3_become, Cond.selects RX3 yX3_become yX3_become, Cond.initialized RX3, Cond.code yX3_become cX3_become 2 none, Cond.fieldLink RX3 9 "NamedMoves$Queue" "addresses" "[I", Cond.methodLink RX3 15 arraycopyName, Cond.fieldLink RX3 21 "NamedMoves$Queue" "first" "I"]
def wsL_mends_r4 : List Cond := [Cond.fieldLink RX3 25 "NamedMoves$Queue" "end" "I", Cond.methodLink RX7 82 yX5_mendTwins, Cond.instanceMethod yX5_mendTwins, Cond.selects RX5 yX5_mendTwins yX5_mendTwins, Cond.code yX5_mendTwins cX5_mendTwins 5 (some .int), Cond.methodLink RX5 159 yX5_isThing, Cond.instanceMethod yX5_isThing, Cond.selects RX5 yX5_isThing yX5_isThing, Cond.code yX5_isThing cX5_isThing 2 (some .boolean), Cond.methodLink RX5 92 yX5_hasTwins, Cond.instanceMethod yX5_hasTwins, Cond.selects RX5 yX5_hasTwins yX5_hasTwins, Cond.code yX5_hasTwins cX5_hasTwins 4 (some .boolean), Cond.methodLink RX5 85 yX0_isOf, Cond.instanceMethod yX0_isOf, Cond.selects RX0 yX0_isOf yX0_isOf, Cond.code yX0_isOf cX0_isOf 3 (some .boolean), Cond.methodLink RX0 39 yX0_isAt, Cond.instanceMethod yX0_isAt, Cond.selects RX0 yX0_isAt yX0_isAt, Cond.code yX0_isAt cX0_isAt 2 (some .boolean), Cond.methodLink RX5 89 yX5_isInOldHalf, Cond.instanceMethod yX5_isInOldHalf, Cond.selects RX5 yX5_isInOldHalf yX5_isInOldHalf]
def wsL_mends_r5 : List Cond := [Cond.code yX5_isInOldHalf cX5_isInOldHalf 3 (some .boolean), Cond.methodLink RX5 75 yX5_addressOfHalf, Cond.instanceMethod yX5_addressOfHalf, Cond.selects RX5 yX5_addressOfHalf yX5_addressOfHalf, Cond.code yX5_addressOfHalf cX5_addressOfHalf 2 (some .int), Cond.methodLink RX5 168 yX0_addressOf, Cond.instanceMethod yX0_addressOf, Cond.selects RX0 yX0_addressOf yX0_addressOf, Cond.code yX0_addressOf cX0_addressOf 5 (some .int), Cond.methodLink RX0 46 yX0_isOf, Cond.methodLink RX5 172 yX0_remove, Cond.instanceMethod yX0_remove, Cond.selects RX0 yX0_remove yX0_remove, Cond.code yX0_remove cX0_remove 2 none, Cond.methodLink RX5 175 yX0_replaceNames, Cond.instanceMethod yX0_replaceNames, Cond.selects RX0 yX0_replaceNames yX0_replaceNames, Cond.code yX0_replaceNames cX0_replaceNames 4 none, Cond.methodLink RX5 179 yX5_replaceHooks, Cond.instanceMethod yX5_replaceHooks, Cond.selects RX5 yX5_replaceHooks yX5_replaceHooks, Cond.code yX5_replaceHooks cX5_replaceHooks 4 none, Cond.methodLink RX7 55 yX7_recorded, Cond.instanceMethod yX7_recorded]
def wsL_mends_r6 : List Cond := [Cond.selects RX7 yX7_recorded yX7_recorded, Cond.code yX7_recorded cX7_recorded 2 (some .int), Cond.methodLink RX7 186 yX2_keepDraft, Cond.instanceMethod yX2_keepDraft, Cond.selects RX2 yX2_keepDraft yX2_keepDraft, Cond.code yX2_keepDraft cX2_keepDraft 1 none, Cond.methodLink RL 15 yL_name, Cond.static yL_name, Cond.code yL_name cL_name 3 (some .int), Cond.constantLong RL 13 (511), Cond.methodLink RL 56 yL_renames, Cond.static yL_renames, Cond.code yL_renames cL_renames 8 none, Cond.methodLink RL 29 yL_puts, Cond.static yL_puts, Cond.code yL_puts cL_puts 6 none]
def wsL_mends : List Cond := .code yL_mends cL_mends 14 (some .boolean) :: ((wsL_mends_r1 ++ (wsL_mends_r2 ++ (wsL_mends_r3 ++ (wsL_mends_r4 ++ (wsL_mends_r5 ++ wsL_mends_r6))))) ++ wsX70 ++ wsX20 ++ wsX50 ++ wsX00 ++ wsX30)
def wsL_loses_r1 : List Cond := [Cond.methodLink RL 21 yL_thing, Cond.static yL_thing, Cond.initialized RL, Cond.code yL_thing cL_thing 2 (some .int), Cond.constantLong RL 11 (63), Cond.methodLink RL 15 yL_name, Cond.static yL_name, Cond.code yL_name cL_name 3 (some .int), Cond.constantLong RL 13 (511), Cond.methodLink RL 88 yX7_lose, Cond.instanceMethod yX7_lose, Cond.selects RX7 yX7_lose yX7_lose, Cond.initialized RX7, Cond.code yX7_lose cX7_lose 2 (some .int), Cond.fieldLink RX7 22 "NamedMoves" "history" "LNamedMoves$History;", Cond.fieldLink RX7 12 "NamedMoves" "store" "LNamedMoves$Store;", Cond.methodLink RX7 47 yX2_draft, Cond.instanceMethod yX2_draft, Cond.selects RX2 yX2_draft yX2_draft, Cond.initialized RX2, Cond.code yX2_draft cX2_draft 3 none, Cond.fieldLink RX2 11 "NamedMoves$History" "states" "[LNamedMoves$Store;", Cond.methodLink RX2 31 yX2_slotOfDraft, Cond.instanceMethod yX2_slotOfDraft]
def wsL_loses_r2 : List Cond := [Cond.selects RX2 yX2_slotOfDraft yX2_slotOfDraft, Cond.code yX2_slotOfDraft cX2_slotOfDraft 1 (some .int), Cond.fieldLink RX2 22 "NamedMoves$History" "first" "I", Cond.fieldLink RX2 18 "NamedMoves$History" "held" "I", Cond.methodLink RX2 25 yJ9_floorMod_7cf53, Cond.static yJ9_floorMod_7cf53, Cond.initialized RJ9, Cond.code yJ9_floorMod_7cf53 cJ9_floorMod_7cf53 3 (some .int), Cond.methodLink RX2 35 yX5_become, Cond.instanceMethod yX5_become, Cond.selects RX5 yX5_become yX5_become, Cond.initialized RX5, Cond.code yX5_become cX5_become 2 none, Cond.fieldLink RX5 9 "NamedMoves$Store" "hooks" "[I", Cond.methodLink RX5 39 arraycopyName, Cond.native arraycopyName, Cond.static arraycopyName, Cond.initialized "java/lang/System", Cond.fieldLink RX5 18 "NamedMoves$Store" "copies" "LNamedMoves$Copies;", Cond.fieldLink RX5 25 "NamedMoves$Store" "queue" "LNamedMoves$Queue;", Cond.fieldLink RX5 29 "NamedMoves$Store" "heavyBound" "I", Cond.fieldLink RX5 52 "NamedMoves$Store" "made" "I", Cond.fieldLink RX5 55 "NamedMoves$Store" "moving" "Z", Cond.fieldLink RX5 59 "NamedMoves$Store" "half" "I"]
def wsL_loses_r3 : List Cond := [Cond.fieldLink RX5 62 "NamedMoves$Store" "taken" "I", Cond.fieldLink RX5 65 "NamedMoves$Store" "notesLost" "I", Cond.fieldLink RX5 68 "NamedMoves$Store" "movesEnded" "I", Cond.methodLink RX5 45 yX0_become, Cond.instanceMethod yX0_become, Cond.selects RX0 yX0_become yX0_become, Cond.initialized RX0, Cond.code yX0_become cX0_become 2 none, Cond.fieldLink RX0 9 "NamedMoves$Copies" "things" "[I", Cond.methodLink RX0 33 arraycopyName, Cond.fieldLink RX0 15 "NamedMoves$Copies" "sizes" "[I", Cond.fieldLink RX0 18 "NamedMoves$Copies" "notes" "[I", Cond.fieldLink RX0 21 "NamedMoves$Copies" "marks" "[I", Cond.fieldLink RX0 24 "NamedMoves$Copies" "names" "[I", Cond.methodLink RX5 49 yX3_become, Cond.instanceMethod yX3_become, Cond.selects RX3 yX3_become yX3_become, Cond.initialized RX3, Cond.code yX3_become cX3_become 2 none, Cond.fieldLink RX3 9 "NamedMoves$Queue" "addresses" "[I", Cond.methodLink RX3 15 arraycopyName, Cond.fieldLink RX3 21 "NamedMoves$Queue" "first" "I", Cond.fieldLink RX3 25 "NamedMoves$Queue" "end" "I", Cond.methodLink RX7 79 yX5_loseNote]
def wsL_loses_r4 : List Cond := [Cond.instanceMethod yX5_loseNote, Cond.selects RX5 yX5_loseNote yX5_loseNote, Cond.code yX5_loseNote cX5_loseNote 3 (some .int), Cond.methodLink RX5 159 yX5_isThing, Cond.instanceMethod yX5_isThing, Cond.selects RX5 yX5_isThing yX5_isThing, Cond.code yX5_isThing cX5_isThing 2 (some .boolean), Cond.methodLink RX5 162 yX5_firstWithNote, Cond.instanceMethod yX5_firstWithNote, Cond.selects RX5 yX5_firstWithNote yX5_firstWithNote, Cond.code yX5_firstWithNote cX5_firstWithNote 3 (some .int), Cond.methodLink RX5 85 yX0_isOf, Cond.instanceMethod yX0_isOf, Cond.selects RX0 yX0_isOf yX0_isOf, Cond.code yX0_isOf cX0_isOf 3 (some .boolean), Cond.methodLink RX0 39 yX0_isAt, Cond.instanceMethod yX0_isAt, Cond.selects RX0 yX0_isAt yX0_isAt, Cond.code yX0_isAt cX0_isAt 2 (some .boolean), Cond.methodLink RX5 79 yX0_noteAt, Cond.instanceMethod yX0_noteAt, Cond.selects RX0 yX0_noteAt yX0_noteAt, Cond.code yX0_noteAt cX0_noteAt 2 (some .int), Cond.methodLink RX5 99 yX5_freeInHalf]
def wsL_loses_r5 : List Cond := [Cond.instanceMethod yX5_freeInHalf, Cond.selects RX5 yX5_freeInHalf yX5_freeInHalf, Cond.code yX5_freeInHalf cX5_freeInHalf 1 (some .int), Cond.methodLink RX5 108 yX5_roomKept, Cond.instanceMethod yX5_roomKept, Cond.selects RX5 yX5_roomKept yX5_roomKept, Cond.code yX5_roomKept cX5_roomKept 4 (some .int), Cond.methodLink RX5 75 yX5_addressOfHalf, Cond.instanceMethod yX5_addressOfHalf, Cond.selects RX5 yX5_addressOfHalf yX5_addressOfHalf, Cond.code yX5_addressOfHalf cX5_addressOfHalf 2 (some .int), Cond.methodLink RX5 82 yX0_sizeAt, Cond.instanceMethod yX0_sizeAt, Cond.selects RX0 yX0_sizeAt yX0_sizeAt, Cond.code yX0_sizeAt cX0_sizeAt 2 (some .int), Cond.methodLink RX5 165 yX0_loseNoteAt, Cond.instanceMethod yX0_loseNoteAt, Cond.selects RX0 yX0_loseNoteAt yX0_loseNoteAt, Cond.code yX0_loseNoteAt cX0_loseNoteAt 2 none, Cond.methodLink RX7 55 yX7_recorded, Cond.instanceMethod yX7_recorded, Cond.selects RX7 yX7_recorded yX7_recorded, Cond.code yX7_recorded cX7_recorded 2 (some .int), Cond.methodLink RX7 186 yX2_keepDraft]
def wsL_loses_r6 : List Cond := [Cond.instanceMethod yX2_keepDraft, Cond.selects RX2 yX2_keepDraft yX2_keepDraft, Cond.code yX2_keepDraft cX2_keepDraft 1 none, Cond.methodLink RL 64 yL_kept, Cond.static yL_kept, Cond.code yL_kept cL_kept 8 (some .int), Cond.methodLink RL 56 yL_renames, Cond.static yL_renames, Cond.code yL_renames cL_renames 8 none, Cond.methodLink RL 33 yL_at, Cond.static yL_at, Cond.code yL_at cL_at 4 (some .long), Cond.methodLink RL 29 yL_puts, Cond.static yL_puts, Cond.code yL_puts cL_puts 6 none]
def wsL_loses : List Cond := .code yL_loses cL_loses 11 (some .boolean) :: ((wsL_loses_r1 ++ (wsL_loses_r2 ++ (wsL_loses_r3 ++ (wsL_loses_r4 ++ (wsL_loses_r5 ++ wsL_loses_r6))))) ++ wsX70 ++ wsX20 ++ wsX50 ++ wsX00 ++ wsX30)
def wsL_acts_r1 : List Cond := [Cond.constant RL 91 (10000000), Cond.methodLink RL 92 yL_low, Cond.static yL_low, Cond.initialized RL, Cond.code yL_low cL_low 2 (some .int), Cond.constant RL 8 (2147483647), Cond.methodLink RL 95 yL_makes, Cond.static yL_makes, Cond.code yL_makes cL_makes 12 (some .boolean), Cond.methodLink RL 60 yL_floor, Cond.static yL_floor, Cond.code yL_floor cL_floor 6 (some .int), Cond.methodLink RL 21 yL_thing, Cond.static yL_thing, Cond.code yL_thing cL_thing 2 (some .int), Cond.constantLong RL 11 (63), Cond.methodLink RL 64 yL_kept, Cond.static yL_kept, Cond.code yL_kept cL_kept 8 (some .int), Cond.methodLink RL 15 yL_name, Cond.static yL_name, Cond.code yL_name cL_name 3 (some .int), Cond.constantLong RL 13 (511), Cond.methodLink RL 68 yX7_make]
def wsL_acts_r2 : List Cond := [Cond.instanceMethod yX7_make, Cond.selects RX7 yX7_make yX7_make, Cond.initialized RX7, Cond.code yX7_make cX7_make 3 (some .int), Cond.fieldLink RX7 22 "NamedMoves" "history" "LNamedMoves$History;", Cond.fieldLink RX7 12 "NamedMoves" "store" "LNamedMoves$Store;", Cond.methodLink RX7 47 yX2_draft, Cond.instanceMethod yX2_draft, Cond.selects RX2 yX2_draft yX2_draft, Cond.initialized RX2, Cond.code yX2_draft cX2_draft 3 none, Cond.fieldLink RX2 11 "NamedMoves$History" "states" "[LNamedMoves$Store;", Cond.methodLink RX2 31 yX2_slotOfDraft, Cond.instanceMethod yX2_slotOfDraft, Cond.selects RX2 yX2_slotOfDraft yX2_slotOfDraft, Cond.code yX2_slotOfDraft cX2_slotOfDraft 1 (some .int), Cond.fieldLink RX2 22 "NamedMoves$History" "first" "I", Cond.fieldLink RX2 18 "NamedMoves$History" "held" "I", Cond.methodLink RX2 25 yJ9_floorMod_7cf53, Cond.static yJ9_floorMod_7cf53, Cond.initialized RJ9, Cond.code yJ9_floorMod_7cf53 cJ9_floorMod_7cf53 3 (some .int), Cond.methodLink RX2 35 yX5_become, Cond.instanceMethod yX5_become]
def wsL_acts_r3 : List Cond := [Cond.selects RX5 yX5_become yX5_become, Cond.initialized RX5, Cond.code yX5_become cX5_become 2 none, Cond.fieldLink RX5 9 "NamedMoves$Store" "hooks" "[I", Cond.methodLink RX5 39 arraycopyName, Cond.native arraycopyName, Cond.static arraycopyName, Cond.initialized "java/lang/System", Cond.fieldLink RX5 18 "NamedMoves$Store" "copies" "LNamedMoves$Copies;", Cond.fieldLink RX5 25 "NamedMoves$Store" "queue" "LNamedMoves$Queue;", Cond.fieldLink RX5 29 "NamedMoves$Store" "heavyBound" "I", Cond.fieldLink RX5 52 "NamedMoves$Store" "made" "I", Cond.fieldLink RX5 55 "NamedMoves$Store" "moving" "Z", Cond.fieldLink RX5 59 "NamedMoves$Store" "half" "I", Cond.fieldLink RX5 62 "NamedMoves$Store" "taken" "I", Cond.fieldLink RX5 65 "NamedMoves$Store" "notesLost" "I", Cond.fieldLink RX5 68 "NamedMoves$Store" "movesEnded" "I", Cond.methodLink RX5 45 yX0_become, Cond.instanceMethod yX0_become, Cond.selects RX0 yX0_become yX0_become, Cond.initialized RX0, Cond.code yX0_become cX0_become 2 none, Cond.fieldLink RX0 9 "NamedMoves$Copies" "things" "[I", Cond.methodLink RX0 33 arraycopyName]
def wsL_acts_r4 : List Cond := [Cond.fieldLink RX0 15 "NamedMoves$Copies" "sizes" "[I", Cond.fieldLink RX0 18 "NamedMoves$Copies" "notes" "[I", Cond.fieldLink RX0 21 "NamedMoves$Copies" "marks" "[I", Cond.fieldLink RX0 24 "NamedMoves$Copies" "names" "[I", Cond.methodLink RX5 49 yX3_become, Cond.instanceMethod yX3_become, Cond.selects RX3 yX3_become yX3_become, Cond.initialized RX3, Cond.code yX3_become cX3_become 2 none, Cond.fieldLink RX3 9 "NamedMoves$Queue" "addresses" "[I", Cond.methodLink RX3 15 arraycopyName, Cond.fieldLink RX3 21 "NamedMoves$Queue" "first" "I", Cond.fieldLink RX3 25 "NamedMoves$Queue" "end" "I", Cond.methodLink RX7 58 yX5_makeThing, Cond.instanceMethod yX5_makeThing, Cond.selects RX5 yX5_makeThing yX5_makeThing, Cond.code yX5_makeThing cX5_makeThing 5 (some .int), Cond.static yX7_isHook, Cond.code yX7_isHook cX7_isHook 1 (some .boolean), Cond.methodLink RX5 114 yX0_floorAddressFor, Cond.instanceMethod yX0_floorAddressFor, Cond.selects RX0 yX0_floorAddressFor yX0_floorAddressFor, Cond.code yX0_floorAddressFor cX0_floorAddressFor 5 (some .int), Cond.methodLink RX0 50 yX0_sizeAt]
def wsL_acts_r5 : List Cond := [Cond.instanceMethod yX0_sizeAt, Cond.selects RX0 yX0_sizeAt yX0_sizeAt, Cond.code yX0_sizeAt cX0_sizeAt 2 (some .int), Cond.methodLink RX0 39 yX0_isAt, Cond.instanceMethod yX0_isAt, Cond.selects RX0 yX0_isAt yX0_isAt, Cond.code yX0_isAt cX0_isAt 2 (some .boolean), Cond.methodLink RX5 117 yX5_halfAddressFor, Cond.instanceMethod yX5_halfAddressFor, Cond.selects RX5 yX5_halfAddressFor yX5_halfAddressFor, Cond.code yX5_halfAddressFor cX5_halfAddressFor 2 (some .int), Cond.methodLink RX5 99 yX5_freeInHalf, Cond.instanceMethod yX5_freeInHalf, Cond.selects RX5 yX5_freeInHalf yX5_freeInHalf, Cond.code yX5_freeInHalf cX5_freeInHalf 1 (some .int), Cond.methodLink RX5 108 yX5_roomKept, Cond.instanceMethod yX5_roomKept, Cond.selects RX5 yX5_roomKept yX5_roomKept, Cond.code yX5_roomKept cX5_roomKept 4 (some .int), Cond.methodLink RX5 75 yX5_addressOfHalf, Cond.instanceMethod yX5_addressOfHalf, Cond.selects RX5 yX5_addressOfHalf yX5_addressOfHalf, Cond.code yX5_addressOfHalf cX5_addressOfHalf 2 (some .int), Cond.methodLink RX5 79 yX0_noteAt]
def wsL_acts_r6 : List Cond := [Cond.instanceMethod yX0_noteAt, Cond.selects RX0 yX0_noteAt yX0_noteAt, Cond.code yX0_noteAt cX0_noteAt 2 (some .int), Cond.methodLink RX5 82 yX0_sizeAt, Cond.methodLink RX5 120 yX0_lay, Cond.instanceMethod yX0_lay, Cond.selects RX0 yX0_lay yX0_lay, Cond.code yX0_lay cX0_lay 4 none, Cond.methodLink RX5 124 yX0_mark, Cond.instanceMethod yX0_mark, Cond.selects RX0 yX0_mark yX0_mark, Cond.code yX0_mark cX0_mark 2 (some .boolean), Cond.methodLink RX7 55 yX7_recorded, Cond.instanceMethod yX7_recorded, Cond.selects RX7 yX7_recorded yX7_recorded, Cond.code yX7_recorded cX7_recorded 2 (some .int), Cond.methodLink RX7 186 yX2_keepDraft, Cond.instanceMethod yX2_keepDraft, Cond.selects RX2 yX2_keepDraft yX2_keepDraft, Cond.code yX2_keepDraft cX2_keepDraft 1 none, Cond.methodLink RL 25 yL_pack, Cond.static yL_pack, Cond.code yL_pack cL_pack 5 (some .long), Cond.constantLong RL 9 (9)]
def wsL_acts_r7 : List Cond := [Cond.methodLink RL 42 yL_lays, Cond.static yL_lays, Cond.code yL_lays cL_lays 9 (some .int), Cond.methodLink RL 29 yL_puts, Cond.static yL_puts, Cond.code yL_puts cL_puts 6 none, Cond.methodLink RL 99 yL_names, Cond.static yL_names, Cond.code yL_names cL_names 14 (some .boolean), Cond.methodLink RL 74 yX7_link, Cond.instanceMethod yX7_link, Cond.selects RX7 yX7_link yX7_link, Cond.code yX7_link cX7_link 4 (some .int), Cond.methodLink RX7 62 yX5_linkHooks, Cond.instanceMethod yX5_linkHooks, Cond.selects RX5 yX5_linkHooks yX5_linkHooks, Cond.code yX5_linkHooks cX5_linkHooks 6 (some .int), Cond.static yX7_isName, Cond.code yX7_isName cX7_isName 1 (some .boolean), Cond.methodLink RX5 130 yX5_readIn, Cond.instanceMethod yX5_readIn, Cond.selects RX5 yX5_readIn yX5_readIn, Cond.code yX5_readIn cX5_readIn 5 (some .int), Cond.methodLink RX5 89 yX5_isInOldHalf]
def wsL_acts_r8 : List Cond := [Cond.instanceMethod yX5_isInOldHalf, Cond.selects RX5 yX5_isInOldHalf yX5_isInOldHalf, Cond.code yX5_isInOldHalf cX5_isInOldHalf 3 (some .boolean), Cond.methodLink RX5 182 yX5_carryOver, Cond.instanceMethod yX5_carryOver, Cond.selects RX5 yX5_carryOver yX5_carryOver, Cond.code yX5_carryOver cX5_carryOver 4 (some .int), Cond.methodLink RX5 188 yX0_layAgain, Cond.instanceMethod yX0_layAgain, Cond.selects RX0 yX0_layAgain yX0_layAgain, Cond.code yX0_layAgain cX0_layAgain 3 none, Cond.methodLink RX5 185 yX3_join, Cond.instanceMethod yX3_join, Cond.selects RX3 yX3_join yX3_join, Cond.code yX3_join cX3_join 2 none, Cond.methodLink RX5 134 yX0_setName, Cond.instanceMethod yX0_setName, Cond.selects RX0 yX0_setName yX0_setName, Cond.code yX0_setName cX0_setName 4 none, Cond.methodLink RL 78 yX7_follow, Cond.instanceMethod yX7_follow, Cond.selects RX7 yX7_follow yX7_follow, Cond.code yX7_follow cX7_follow 4 (some .int), Cond.methodLink RX7 66 yX5_followName]
def wsL_acts_r9 : List Cond := [Cond.instanceMethod yX5_followName, Cond.selects RX5 yX5_followName yX5_followName, Cond.code yX5_followName cX5_followName 5 (some .int), Cond.methodLink RL 48 yL_read, Cond.static yL_read, Cond.code yL_read cL_read 10 (some .int), Cond.constantLong RL 40 (8589934592), Cond.methodLink RL 33 yL_at, Cond.static yL_at, Cond.code yL_at cL_at 4 (some .long), Cond.methodLink RL 37 yL_mark, Cond.static yL_mark, Cond.code yL_mark cL_mark 2 (some .int), Cond.methodLink RL 56 yL_renames, Cond.static yL_renames, Cond.code yL_renames cL_renames 8 none, Cond.methodLink RL 103 yX7_drop, Cond.instanceMethod yX7_drop, Cond.selects RX7 yX7_drop yX7_drop, Cond.code yX7_drop cX7_drop 2 (some .int), Cond.methodLink RX7 69 yX5_dropHook, Cond.instanceMethod yX5_dropHook, Cond.selects RX5 yX5_dropHook yX5_dropHook, Cond.code yX5_dropHook cX5_dropHook 3 (some .int)]
def wsL_acts_r10 : List Cond := [Cond.methodLink RL 106 yX7_begin, Cond.instanceMethod yX7_begin, Cond.selects RX7 yX7_begin yX7_begin, Cond.code yX7_begin cX7_begin 1 (some .int), Cond.methodLink RX7 72 yX5_beginMove, Cond.instanceMethod yX5_beginMove, Cond.selects RX5 yX5_beginMove yX5_beginMove, Cond.code yX5_beginMove cX5_beginMove 2 (some .int), Cond.methodLink RX5 140 yX3_clear, Cond.instanceMethod yX3_clear, Cond.selects RX3 yX3_clear yX3_clear, Cond.code yX3_clear cX3_clear 1 none, Cond.methodLink RX5 105 yX3_size, Cond.instanceMethod yX3_size, Cond.selects RX3 yX3_size yX3_size, Cond.code yX3_size cX3_size 1 (some .int), Cond.methodLink RX5 143 yX5_endMove, Cond.instanceMethod yX5_endMove, Cond.selects RX5 yX5_endMove yX5_endMove, Cond.code yX5_endMove cX5_endMove 1 none, Cond.methodLink RX5 152 yX0_emptyHalf, Cond.instanceMethod yX0_emptyHalf, Cond.selects RX0 yX0_emptyHalf yX0_emptyHalf, Cond.code yX0_emptyHalf cX0_emptyHalf 3 none]
def wsL_acts_r11 : List Cond := [Cond.methodLink RX0 57 yX0_remove, Cond.instanceMethod yX0_remove, Cond.selects RX0 yX0_remove yX0_remove, Cond.code yX0_remove cX0_remove 2 none, Cond.methodLink RX5 156 yX0_sweepFloor, Cond.instanceMethod yX0_sweepFloor, Cond.selects RX0 yX0_sweepFloor yX0_sweepFloor, Cond.code yX0_sweepFloor cX0_sweepFloor 2 none, Cond.methodLink RL 110 yL_begins, Cond.static yL_begins, Cond.code yL_begins cL_begins 8 none, Cond.methodLink RL 52 yL_ends, Cond.static yL_ends, Cond.code yL_ends cL_ends 5 none, Cond.constantLong RL 46 (-8589934593), Cond.methodLink RL 114 yX7_carry, Cond.instanceMethod yX7_carry, Cond.selects RX7 yX7_carry yX7_carry, Cond.code yX7_carry cX7_carry 2 (some .int), Cond.methodLink RX7 76 yX5_carrySteps, Cond.instanceMethod yX5_carrySteps, Cond.selects RX5 yX5_carrySteps yX5_carrySteps, Cond.code yX5_carrySteps cX5_carrySteps 2 (some .int), Cond.methodLink RX5 146 yX5_stepsUpTo]
def wsL_acts_r12 : List Cond := [Cond.instanceMethod yX5_stepsUpTo, Cond.selects RX5 yX5_stepsUpTo yX5_stepsUpTo, Cond.code yX5_stepsUpTo cX5_stepsUpTo 4 (some .int), Cond.methodLink RX5 149 yX3_takeFirst, Cond.instanceMethod yX3_takeFirst, Cond.selects RX3 yX3_takeFirst yX3_takeFirst, Cond.code yX3_takeFirst cX3_takeFirst 1 (some .int), Cond.methodLink RL 117 yL_step, Cond.static yL_step, Cond.code yL_step cL_step 8 none, Cond.methodLink RL 121 yX7_setHeavy, Cond.instanceMethod yX7_setHeavy, Cond.selects RX7 yX7_setHeavy yX7_setHeavy, Cond.code yX7_setHeavy cX7_setHeavy 2 (some .int), Cond.methodLink RX7 51 yX5_changeBound, Cond.instanceMethod yX5_changeBound, Cond.selects RX5 yX5_changeBound yX5_changeBound, Cond.code yX5_changeBound cX5_changeBound 3 (some .int), Cond.methodLink RL 88 yX7_lose, Cond.instanceMethod yX7_lose, Cond.selects RX7 yX7_lose yX7_lose, Cond.code yX7_lose cX7_lose 2 (some .int), Cond.methodLink RX7 79 yX5_loseNote, Cond.instanceMethod yX5_loseNote]
def wsL_acts_r13 : List Cond := [Cond.selects RX5 yX5_loseNote yX5_loseNote, Cond.code yX5_loseNote cX5_loseNote 3 (some .int), Cond.methodLink RX5 159 yX5_isThing, Cond.instanceMethod yX5_isThing, Cond.selects RX5 yX5_isThing yX5_isThing, Cond.code yX5_isThing cX5_isThing 2 (some .boolean), Cond.methodLink RX5 162 yX5_firstWithNote, Cond.instanceMethod yX5_firstWithNote, Cond.selects RX5 yX5_firstWithNote yX5_firstWithNote, Cond.code yX5_firstWithNote cX5_firstWithNote 3 (some .int), Cond.methodLink RX5 85 yX0_isOf, Cond.instanceMethod yX0_isOf, Cond.selects RX0 yX0_isOf yX0_isOf, Cond.code yX0_isOf cX0_isOf 3 (some .boolean), Cond.methodLink RX5 165 yX0_loseNoteAt, Cond.instanceMethod yX0_loseNoteAt, Cond.selects RX0 yX0_loseNoteAt yX0_loseNoteAt, Cond.code yX0_loseNoteAt cX0_loseNoteAt 2 none, Cond.methodLink RL 85 yX7_mend, Cond.instanceMethod yX7_mend, Cond.selects RX7 yX7_mend yX7_mend, Cond.code yX7_mend cX7_mend 2 (some .int), Cond.methodLink RX7 82 yX5_mendTwins, Cond.instanceMethod yX5_mendTwins]
def wsL_acts_r14 : List Cond := [Cond.selects RX5 yX5_mendTwins yX5_mendTwins, Cond.code yX5_mendTwins cX5_mendTwins 5 (some .int), Cond.methodLink RX5 92 yX5_hasTwins, Cond.instanceMethod yX5_hasTwins, Cond.selects RX5 yX5_hasTwins yX5_hasTwins, Cond.code yX5_hasTwins cX5_hasTwins 4 (some .boolean), Cond.methodLink RX5 168 yX0_addressOf, Cond.instanceMethod yX0_addressOf, Cond.selects RX0 yX0_addressOf yX0_addressOf, Cond.code yX0_addressOf cX0_addressOf 5 (some .int), Cond.methodLink RX0 46 yX0_isOf, Cond.methodLink RX5 172 yX0_remove, Cond.methodLink RX5 175 yX0_replaceNames, Cond.instanceMethod yX0_replaceNames, Cond.selects RX0 yX0_replaceNames yX0_replaceNames, Cond.code yX0_replaceNames cX0_replaceNames 4 none, Cond.methodLink RX5 179 yX5_replaceHooks, Cond.instanceMethod yX5_replaceHooks, Cond.selects RX5 yX5_replaceHooks yX5_replaceHooks, Cond.code yX5_replaceHooks cX5_replaceHooks 4 none, Cond.methodLink RL 124 yL_loses, Cond.static yL_loses, Cond.code yL_loses cL_loses 11 (some .boolean), Cond.methodLink RL 128 yL_mends]
def wsL_acts_r15 : List Cond := [Cond.static yL_mends, Cond.code yL_mends cL_mends 14 (some .boolean), Cond.methodLink RL 81 yL_address, Cond.static yL_address, Cond.code yL_address cL_address 1 (some .int)]
def wsL_acts : List Cond := .code yL_acts cL_acts 13 (some .boolean) :: ((wsL_acts_r1 ++ (wsL_acts_r2 ++ (wsL_acts_r3 ++ (wsL_acts_r4 ++ (wsL_acts_r5 ++ (wsL_acts_r6 ++ (wsL_acts_r7 ++ (wsL_acts_r8 ++ (wsL_acts_r9 ++ (wsL_acts_r10 ++ (wsL_acts_r11 ++ (wsL_acts_r12 ++ (wsL_acts_r13 ++ (wsL_acts_r14 ++ wsL_acts_r15)))))))))))))) ++ wsX70 ++ wsX20 ++ wsX50 ++ wsX00 ++ wsX30)
def wsL_isSo_r1 : List Cond := [Cond.methodLink RL 131 yX7_hook, Cond.instanceMethod yX7_hook, Cond.selects RX7 yX7_hook yX7_hook, Cond.initialized RX7, Cond.code yX7_hook cX7_hook 2 (some .int), Cond.fieldLink RX7 12 "NamedMoves" "store" "LNamedMoves$Store;", Cond.methodLink RX7 115 yX7_isHook, Cond.static yX7_isHook, Cond.code yX7_isHook cX7_isHook 1 (some .boolean), Cond.methodLink RX7 119 yX5_hungOn, Cond.instanceMethod yX5_hungOn, Cond.selects RX5 yX5_hungOn yX5_hungOn, Cond.initialized RX5, Cond.code yX5_hungOn cX5_hungOn 2 (some .int), Cond.fieldLink RX5 9 "NamedMoves$Store" "hooks" "[I", Cond.methodLink RX7 122 yX7_orNone, Cond.static yX7_orNone, Cond.code yX7_orNone cX7_orNone 1 (some .int), Cond.methodLink RL 81 yL_address, Cond.static yL_address, Cond.initialized RL, Cond.code yL_address cL_address 1 (some .int), Cond.methodLink RL 33 yL_at, Cond.static yL_at]
def wsL_isSo_r2 : List Cond := [Cond.code yL_at cL_at 4 (some .long), Cond.methodLink RL 134 yX7_copy, Cond.instanceMethod yX7_copy, Cond.selects RX7 yX7_copy yX7_copy, Cond.code yX7_copy cX7_copy 4 (some .int), Cond.methodLink RX7 129 yX0_isAt, Cond.instanceMethod yX0_isAt, Cond.selects RX0 yX0_isAt yX0_isAt, Cond.initialized RX0, Cond.code yX0_isAt cX0_isAt 2 (some .boolean), Cond.fieldLink RX0 15 "NamedMoves$Copies" "sizes" "[I", Cond.methodLink RX7 134 yX0_thingAt, Cond.instanceMethod yX0_thingAt, Cond.selects RX0 yX0_thingAt yX0_thingAt, Cond.code yX0_thingAt cX0_thingAt 2 (some .int), Cond.fieldLink RX0 9 "NamedMoves$Copies" "things" "[I", Cond.methodLink RX0 39 yX0_isAt, Cond.methodLink RX7 137 yX0_sizeAt, Cond.instanceMethod yX0_sizeAt, Cond.selects RX0 yX0_sizeAt yX0_sizeAt, Cond.code yX0_sizeAt cX0_sizeAt 2 (some .int), Cond.methodLink RX7 140 yX0_noteAt, Cond.instanceMethod yX0_noteAt, Cond.selects RX0 yX0_noteAt yX0_noteAt]
def wsL_isSo_r3 : List Cond := [Cond.code yX0_noteAt cX0_noteAt 2 (some .int), Cond.fieldLink RX0 18 "NamedMoves$Copies" "notes" "[I", Cond.methodLink RX7 143 yX0_isMarked, Cond.instanceMethod yX0_isMarked, Cond.selects RX0 yX0_isMarked yX0_isMarked, Cond.code yX0_isMarked cX0_isMarked 2 (some .boolean), Cond.fieldLink RX0 21 "NamedMoves$Copies" "marks" "[I", Cond.methodLink RX7 146 yX0_nameAt, Cond.instanceMethod yX0_nameAt, Cond.selects RX0 yX0_nameAt yX0_nameAt, Cond.code yX0_nameAt cX0_nameAt 3 (some .int), Cond.fieldLink RX0 24 "NamedMoves$Copies" "names" "[I", Cond.static yX7_isName, Cond.code yX7_isName cX7_isName 1 (some .boolean), Cond.methodLink RL 21 yL_thing, Cond.static yL_thing, Cond.code yL_thing cL_thing 2 (some .int), Cond.constantLong RL 11 (63), Cond.methodLink RL 15 yL_name, Cond.static yL_name, Cond.code yL_name cL_name 3 (some .int), Cond.constantLong RL 13 (511), Cond.methodLink RL 37 yL_mark, Cond.static yL_mark]
def wsL_isSo_r4 : List Cond := [Cond.code yL_mark cL_mark 2 (some .int), Cond.methodLink RL 137 yX7_where, Cond.instanceMethod yX7_where, Cond.selects RX7 yX7_where yX7_where, Cond.code yX7_where cX7_where 3 (some .int), Cond.methodLink RX7 149 yX5_isThing, Cond.instanceMethod yX5_isThing, Cond.selects RX5 yX5_isThing yX5_isThing, Cond.code yX5_isThing cX5_isThing 2 (some .boolean), Cond.fieldLink RX5 52 "NamedMoves$Store" "made" "I", Cond.methodLink RX7 152 yX0_addressOf, Cond.instanceMethod yX0_addressOf, Cond.selects RX0 yX0_addressOf yX0_addressOf, Cond.code yX0_addressOf cX0_addressOf 5 (some .int), Cond.methodLink RX0 46 yX0_isOf, Cond.instanceMethod yX0_isOf, Cond.selects RX0 yX0_isOf yX0_isOf, Cond.code yX0_isOf cX0_isOf 3 (some .boolean), Cond.methodLink RL 140 yX7_count, Cond.instanceMethod yX7_count, Cond.selects RX7 yX7_count yX7_count, Cond.code yX7_count cX7_count 2 (some .int), Cond.fieldLink RX7 22 "NamedMoves" "history" "LNamedMoves$History;", Cond.fieldLink RX7 36 "NamedMoves" "text" "LNamedMoves$Text;"]
def wsL_isSo_r5 : List Cond := [Cond.methodLink RX7 85 yX2_size, Cond.instanceMethod yX2_size, Cond.selects RX2 yX2_size yX2_size, Cond.initialized RX2, Cond.code yX2_size cX2_size 1 (some .int), Cond.fieldLink RX2 18 "NamedMoves$History" "held" "I", Cond.methodLink RX7 94 yX6_size, Cond.instanceMethod yX6_size, Cond.selects RX6 yX6_size yX6_size, Cond.initialized RX6, Cond.code yX6_size cX6_size 1 (some .int), Cond.fieldLink RX6 15 "NamedMoves$Text" "length" "I", Cond.methodLink RX7 112 yX5_numberOf, Cond.instanceMethod yX5_numberOf, Cond.selects RX5 yX5_numberOf yX5_numberOf, Cond.code yX5_numberOf cX5_numberOf 2 (some .int), Cond.fieldLink RX5 18 "NamedMoves$Store" "copies" "LNamedMoves$Copies;", Cond.fieldLink RX5 55 "NamedMoves$Store" "moving" "Z", Cond.fieldLink RX5 59 "NamedMoves$Store" "half" "I", Cond.fieldLink RX5 25 "NamedMoves$Store" "queue" "LNamedMoves$Queue;", Cond.fieldLink RX5 65 "NamedMoves$Store" "notesLost" "I", Cond.fieldLink RX5 68 "NamedMoves$Store" "movesEnded" "I", Cond.fieldLink RX5 29 "NamedMoves$Store" "heavyBound" "I", Cond.methodLink RX5 95 yX0_number]
def wsL_isSo_r6 : List Cond := [Cond.instanceMethod yX0_number, Cond.selects RX0 yX0_number yX0_number, Cond.code yX0_number cX0_number 3 (some .int), Cond.methodLink RX5 99 yX5_freeInHalf, Cond.instanceMethod yX5_freeInHalf, Cond.selects RX5 yX5_freeInHalf yX5_freeInHalf, Cond.code yX5_freeInHalf cX5_freeInHalf 1 (some .int), Cond.fieldLink RX5 62 "NamedMoves$Store" "taken" "I", Cond.methodLink RX5 102 yX0_floorTaken, Cond.instanceMethod yX0_floorTaken, Cond.selects RX0 yX0_floorTaken yX0_floorTaken, Cond.code yX0_floorTaken cX0_floorTaken 3 (some .int), Cond.methodLink RX0 50 yX0_sizeAt, Cond.methodLink RX5 105 yX3_size, Cond.instanceMethod yX3_size, Cond.selects RX3 yX3_size yX3_size, Cond.initialized RX3, Cond.code yX3_size cX3_size 1 (some .int), Cond.fieldLink RX3 25 "NamedMoves$Queue" "end" "I", Cond.fieldLink RX3 21 "NamedMoves$Queue" "first" "I", Cond.methodLink RX5 108 yX5_roomKept, Cond.instanceMethod yX5_roomKept, Cond.selects RX5 yX5_roomKept yX5_roomKept, Cond.code yX5_roomKept cX5_roomKept 4 (some .int)]
def wsL_isSo_r7 : List Cond := [Cond.methodLink RX5 75 yX5_addressOfHalf, Cond.instanceMethod yX5_addressOfHalf, Cond.selects RX5 yX5_addressOfHalf yX5_addressOfHalf, Cond.code yX5_addressOfHalf cX5_addressOfHalf 2 (some .int), Cond.methodLink RX5 79 yX0_noteAt, Cond.methodLink RX5 82 yX0_sizeAt, Cond.methodLink RX5 111 yX5_thingsWithTwins, Cond.instanceMethod yX5_thingsWithTwins, Cond.selects RX5 yX5_thingsWithTwins yX5_thingsWithTwins, Cond.code yX5_thingsWithTwins cX5_thingsWithTwins 3 (some .int), Cond.methodLink RX5 92 yX5_hasTwins, Cond.instanceMethod yX5_hasTwins, Cond.selects RX5 yX5_hasTwins yX5_hasTwins, Cond.code yX5_hasTwins cX5_hasTwins 4 (some .boolean), Cond.methodLink RX5 85 yX0_isOf, Cond.methodLink RX5 89 yX5_isInOldHalf, Cond.instanceMethod yX5_isInOldHalf, Cond.selects RX5 yX5_isInOldHalf yX5_isInOldHalf, Cond.code yX5_isInOldHalf cX5_isInOldHalf 3 (some .boolean), Cond.methodLink RL 64 yL_kept, Cond.static yL_kept, Cond.code yL_kept cL_kept 8 (some .int)]
def wsL_isSo : List Cond := .code yL_isSo cL_isSo 15 (some .boolean) :: ((wsL_isSo_r1 ++ (wsL_isSo_r2 ++ (wsL_isSo_r3 ++ (wsL_isSo_r4 ++ (wsL_isSo_r5 ++ (wsL_isSo_r6 ++ wsL_isSo_r7)))))) ++ wsX70 ++ wsX50 ++ wsX00 ++ wsX20 ++ wsX60 ++ wsX30)
def wsL_law_r1 : List Cond := [Cond.classLink RL 69 RX7, Cond.instantiable RX7 6, Cond.initialized RX7, Cond.arrayClass .int, Cond.arrayClass .long, Cond.constant RL 8 (2147483647), Cond.methodLink RL 143 yX7_init, Cond.instanceMethod yX7_init, Cond.code yX7_init cX7_init 1 none, Cond.methodLink RX7 3 objectInit, Cond.instanceMethod objectInit, Cond.code objectInit ⟨#[0xb1]⟩ 1 none, Cond.classLink RX7 9 RX5, Cond.instantiable RX5 10, Cond.initialized RX5, Cond.fieldLink RX7 12 "NamedMoves" "store" "LNamedMoves$Store;", Cond.fieldLink RX7 16 "NamedMoves" "forecast" "LNamedMoves$Store;", Cond.classLink RX7 19 RX2, Cond.instantiable RX2 3, Cond.initialized RX2, Cond.fieldLink RX7 22 "NamedMoves" "history" "LNamedMoves$History;", Cond.classLink RX7 26 RX4, Cond.instantiable RX4 4, Cond.initialized RX4]
def wsL_law_r2 : List Cond := [Cond.fieldLink RX7 29 "NamedMoves" "reach" "LNamedMoves$Reach;", Cond.classLink RX7 33 RX6, Cond.instantiable RX6 2, Cond.initialized RX6, Cond.fieldLink RX7 36 "NamedMoves" "text" "LNamedMoves$Text;", Cond.classLink RX7 40 RX1, Cond.instantiable RX1 3, Cond.initialized RX1, Cond.fieldLink RX7 43 "NamedMoves" "errand" "LNamedMoves$Errand;", Cond.methodLink RX7 11 yX5_init, Cond.instanceMethod yX5_init, Cond.code yX5_init cX5_init 1 none, Cond.methodLink RX5 3 objectInit, Cond.fieldLink RX5 9 "NamedMoves$Store" "hooks" "[I", Cond.classLink RX5 15 RX0, Cond.instantiable RX0 5, Cond.initialized RX0, Cond.fieldLink RX5 18 "NamedMoves$Store" "copies" "LNamedMoves$Copies;", Cond.classLink RX5 22 RX3, Cond.instantiable RX3 3, Cond.initialized RX3, Cond.fieldLink RX5 25 "NamedMoves$Store" "queue" "LNamedMoves$Queue;", Cond.fieldLink RX5 29 "NamedMoves$Store" "heavyBound" "I", Cond.methodLink RX5 17 yX0_init]
def wsL_law_r3 : List Cond := [Cond.instanceMethod yX0_init, Cond.code yX0_init cX0_init 1 none, Cond.methodLink RX0 3 objectInit, Cond.fieldLink RX0 9 "NamedMoves$Copies" "things" "[I", Cond.fieldLink RX0 15 "NamedMoves$Copies" "sizes" "[I", Cond.fieldLink RX0 18 "NamedMoves$Copies" "notes" "[I", Cond.fieldLink RX0 21 "NamedMoves$Copies" "marks" "[I", Cond.fieldLink RX0 24 "NamedMoves$Copies" "names" "[I", Cond.methodLink RX0 27 yJ7_fill_53178, Cond.static yJ7_fill_53178, Cond.initialized RJ7, Cond.code yJ7_fill_53178 cJ7_fill_53178 4 none, Cond.instanceMethod yX3_init, Cond.code yX3_init cX3_init 1 none, Cond.methodLink RX3 3 objectInit, Cond.fieldLink RX3 9 "NamedMoves$Queue" "addresses" "[I", Cond.methodLink RX5 33 yJ7_fill_53178, Cond.methodLink RX7 21 yX2_init, Cond.instanceMethod yX2_init, Cond.code yX2_init cX2_init 2 none, Cond.methodLink RX2 3 objectInit, Cond.classLink RX2 9 RX5, Cond.fieldLink RX2 11 "NamedMoves$History" "states" "[LNamedMoves$Store;", Cond.methodLink RX2 17 yX5_init]
def wsL_law_r4 : List Cond := [Cond.instanceMethod yX4_init, Cond.code yX4_init cX4_init 1 none, Cond.methodLink RX4 3 objectInit, Cond.arrayClass .boolean, Cond.fieldLink RX4 9 "NamedMoves$Reach" "reached" "[Z", Cond.fieldLink RX4 15 "NamedMoves$Reach" "found" "[I", Cond.fieldLink RX4 19 "NamedMoves$Reach" "seenThings" "[Z", Cond.instanceMethod yX6_init, Cond.code yX6_init cX6_init 1 none, Cond.methodLink RX6 3 objectInit, Cond.fieldLink RX6 9 "NamedMoves$Text" "characters" "[I", Cond.instanceMethod yX1_init, Cond.code yX1_init cX1_init 1 none, Cond.methodLink RX1 3 objectInit, Cond.fieldLink RX1 9 "NamedMoves$Errand" "numbers" "[I", Cond.methodLink RL 144 yL_isSo, Cond.static yL_isSo, Cond.initialized RL, Cond.code yL_isSo cL_isSo 15 (some .boolean), Cond.methodLink RL 131 yX7_hook, Cond.instanceMethod yX7_hook, Cond.selects RX7 yX7_hook yX7_hook, Cond.code yX7_hook cX7_hook 2 (some .int), Cond.methodLink RX7 115 yX7_isHook]
def wsL_law_r5 : List Cond := [Cond.static yX7_isHook, Cond.code yX7_isHook cX7_isHook 1 (some .boolean), Cond.methodLink RX7 119 yX5_hungOn, Cond.instanceMethod yX5_hungOn, Cond.selects RX5 yX5_hungOn yX5_hungOn, Cond.code yX5_hungOn cX5_hungOn 2 (some .int), Cond.methodLink RX7 122 yX7_orNone, Cond.static yX7_orNone, Cond.code yX7_orNone cX7_orNone 1 (some .int), Cond.methodLink RL 81 yL_address, Cond.static yL_address, Cond.code yL_address cL_address 1 (some .int), Cond.methodLink RL 33 yL_at, Cond.static yL_at, Cond.code yL_at cL_at 4 (some .long), Cond.methodLink RL 134 yX7_copy, Cond.instanceMethod yX7_copy, Cond.selects RX7 yX7_copy yX7_copy, Cond.code yX7_copy cX7_copy 4 (some .int), Cond.methodLink RX7 129 yX0_isAt, Cond.instanceMethod yX0_isAt, Cond.selects RX0 yX0_isAt yX0_isAt, Cond.code yX0_isAt cX0_isAt 2 (some .boolean), Cond.methodLink RX7 134 yX0_thingAt]
def wsL_law_r6 : List Cond := [Cond.instanceMethod yX0_thingAt, Cond.selects RX0 yX0_thingAt yX0_thingAt, Cond.code yX0_thingAt cX0_thingAt 2 (some .int), Cond.methodLink RX0 39 yX0_isAt, Cond.methodLink RX7 137 yX0_sizeAt, Cond.instanceMethod yX0_sizeAt, Cond.selects RX0 yX0_sizeAt yX0_sizeAt, Cond.code yX0_sizeAt cX0_sizeAt 2 (some .int), Cond.methodLink RX7 140 yX0_noteAt, Cond.instanceMethod yX0_noteAt, Cond.selects RX0 yX0_noteAt yX0_noteAt, Cond.code yX0_noteAt cX0_noteAt 2 (some .int), Cond.methodLink RX7 143 yX0_isMarked, Cond.instanceMethod yX0_isMarked, Cond.selects RX0 yX0_isMarked yX0_isMarked, Cond.code yX0_isMarked cX0_isMarked 2 (some .boolean), Cond.methodLink RX7 146 yX0_nameAt, Cond.instanceMethod yX0_nameAt, Cond.selects RX0 yX0_nameAt yX0_nameAt, Cond.code yX0_nameAt cX0_nameAt 3 (some .int), Cond.static yX7_isName, Cond.code yX7_isName cX7_isName 1 (some .boolean), Cond.methodLink RL 21 yL_thing, Cond.static yL_thing]
def wsL_law_r7 : List Cond := [Cond.code yL_thing cL_thing 2 (some .int), Cond.constantLong RL 11 (63), Cond.methodLink RL 15 yL_name, Cond.static yL_name, Cond.code yL_name cL_name 3 (some .int), Cond.constantLong RL 13 (511), Cond.methodLink RL 37 yL_mark, Cond.static yL_mark, Cond.code yL_mark cL_mark 2 (some .int), Cond.methodLink RL 137 yX7_where, Cond.instanceMethod yX7_where, Cond.selects RX7 yX7_where yX7_where, Cond.code yX7_where cX7_where 3 (some .int), Cond.methodLink RX7 149 yX5_isThing, Cond.instanceMethod yX5_isThing, Cond.selects RX5 yX5_isThing yX5_isThing, Cond.code yX5_isThing cX5_isThing 2 (some .boolean), Cond.fieldLink RX5 52 "NamedMoves$Store" "made" "I", Cond.methodLink RX7 152 yX0_addressOf, Cond.instanceMethod yX0_addressOf, Cond.selects RX0 yX0_addressOf yX0_addressOf, Cond.code yX0_addressOf cX0_addressOf 5 (some .int), Cond.methodLink RX0 46 yX0_isOf, Cond.instanceMethod yX0_isOf]
def wsL_law_r8 : List Cond := [Cond.selects RX0 yX0_isOf yX0_isOf, Cond.code yX0_isOf cX0_isOf 3 (some .boolean), Cond.methodLink RL 140 yX7_count, Cond.instanceMethod yX7_count, Cond.selects RX7 yX7_count yX7_count, Cond.code yX7_count cX7_count 2 (some .int), Cond.methodLink RX7 85 yX2_size, Cond.instanceMethod yX2_size, Cond.selects RX2 yX2_size yX2_size, Cond.code yX2_size cX2_size 1 (some .int), Cond.fieldLink RX2 18 "NamedMoves$History" "held" "I", Cond.methodLink RX7 94 yX6_size, Cond.instanceMethod yX6_size, Cond.selects RX6 yX6_size yX6_size, Cond.code yX6_size cX6_size 1 (some .int), Cond.fieldLink RX6 15 "NamedMoves$Text" "length" "I", Cond.methodLink RX7 112 yX5_numberOf, Cond.instanceMethod yX5_numberOf, Cond.selects RX5 yX5_numberOf yX5_numberOf, Cond.code yX5_numberOf cX5_numberOf 2 (some .int), Cond.fieldLink RX5 55 "NamedMoves$Store" "moving" "Z", Cond.fieldLink RX5 59 "NamedMoves$Store" "half" "I", Cond.fieldLink RX5 65 "NamedMoves$Store" "notesLost" "I", Cond.fieldLink RX5 68 "NamedMoves$Store" "movesEnded" "I"]
def wsL_law_r9 : List Cond := [Cond.methodLink RX5 95 yX0_number, Cond.instanceMethod yX0_number, Cond.selects RX0 yX0_number yX0_number, Cond.code yX0_number cX0_number 3 (some .int), Cond.methodLink RX5 99 yX5_freeInHalf, Cond.instanceMethod yX5_freeInHalf, Cond.selects RX5 yX5_freeInHalf yX5_freeInHalf, Cond.code yX5_freeInHalf cX5_freeInHalf 1 (some .int), Cond.fieldLink RX5 62 "NamedMoves$Store" "taken" "I", Cond.methodLink RX5 102 yX0_floorTaken, Cond.instanceMethod yX0_floorTaken, Cond.selects RX0 yX0_floorTaken yX0_floorTaken, Cond.code yX0_floorTaken cX0_floorTaken 3 (some .int), Cond.methodLink RX0 50 yX0_sizeAt, Cond.methodLink RX5 105 yX3_size, Cond.instanceMethod yX3_size, Cond.selects RX3 yX3_size yX3_size, Cond.code yX3_size cX3_size 1 (some .int), Cond.fieldLink RX3 25 "NamedMoves$Queue" "end" "I", Cond.fieldLink RX3 21 "NamedMoves$Queue" "first" "I", Cond.methodLink RX5 108 yX5_roomKept, Cond.instanceMethod yX5_roomKept, Cond.selects RX5 yX5_roomKept yX5_roomKept, Cond.code yX5_roomKept cX5_roomKept 4 (some .int)]
def wsL_law_r10 : List Cond := [Cond.methodLink RX5 75 yX5_addressOfHalf, Cond.instanceMethod yX5_addressOfHalf, Cond.selects RX5 yX5_addressOfHalf yX5_addressOfHalf, Cond.code yX5_addressOfHalf cX5_addressOfHalf 2 (some .int), Cond.methodLink RX5 79 yX0_noteAt, Cond.methodLink RX5 82 yX0_sizeAt, Cond.methodLink RX5 111 yX5_thingsWithTwins, Cond.instanceMethod yX5_thingsWithTwins, Cond.selects RX5 yX5_thingsWithTwins yX5_thingsWithTwins, Cond.code yX5_thingsWithTwins cX5_thingsWithTwins 3 (some .int), Cond.methodLink RX5 92 yX5_hasTwins, Cond.instanceMethod yX5_hasTwins, Cond.selects RX5 yX5_hasTwins yX5_hasTwins, Cond.code yX5_hasTwins cX5_hasTwins 4 (some .boolean), Cond.methodLink RX5 85 yX0_isOf, Cond.methodLink RX5 89 yX5_isInOldHalf, Cond.instanceMethod yX5_isInOldHalf, Cond.selects RX5 yX5_isInOldHalf yX5_isInOldHalf, Cond.code yX5_isInOldHalf cX5_isInOldHalf 3 (some .boolean), Cond.methodLink RL 64 yL_kept, Cond.static yL_kept, Cond.code yL_kept cL_kept 8 (some .int), Cond.methodLink RL 148 yL_cell, Cond.static yL_cell]
def wsL_law_r11 : List Cond := [Cond.code yL_cell cL_cell 2 (some .int), Cond.constant RL 7 (40503), Cond.methodLink RL 152 yL_acts, Cond.static yL_acts, Cond.code yL_acts cL_acts 13 (some .boolean), Cond.constant RL 91 (10000000), Cond.methodLink RL 92 yL_low, Cond.static yL_low, Cond.code yL_low cL_low 2 (some .int), Cond.methodLink RL 95 yL_makes, Cond.static yL_makes, Cond.code yL_makes cL_makes 12 (some .boolean), Cond.methodLink RL 60 yL_floor, Cond.static yL_floor, Cond.code yL_floor cL_floor 6 (some .int), Cond.methodLink RL 68 yX7_make, Cond.instanceMethod yX7_make, Cond.selects RX7 yX7_make yX7_make, Cond.code yX7_make cX7_make 3 (some .int), Cond.methodLink RX7 47 yX2_draft, Cond.instanceMethod yX2_draft, Cond.selects RX2 yX2_draft yX2_draft, Cond.code yX2_draft cX2_draft 3 none, Cond.methodLink RX2 31 yX2_slotOfDraft]
def wsL_law_r12 : List Cond := [Cond.instanceMethod yX2_slotOfDraft, Cond.selects RX2 yX2_slotOfDraft yX2_slotOfDraft, Cond.code yX2_slotOfDraft cX2_slotOfDraft 1 (some .int), Cond.fieldLink RX2 22 "NamedMoves$History" "first" "I", Cond.methodLink RX2 25 yJ9_floorMod_7cf53, Cond.static yJ9_floorMod_7cf53, Cond.initialized RJ9, Cond.code yJ9_floorMod_7cf53 cJ9_floorMod_7cf53 3 (some .int), Cond.methodLink RX2 35 yX5_become, Cond.instanceMethod yX5_become, Cond.selects RX5 yX5_become yX5_become, Cond.code yX5_become cX5_become 2 none, Cond.methodLink RX5 39 arraycopyName, Cond.native arraycopyName, Cond.static arraycopyName, Cond.initialized "java/lang/System", Cond.methodLink RX5 45 yX0_become, Cond.instanceMethod yX0_become, Cond.selects RX0 yX0_become yX0_become, Cond.code yX0_become cX0_become 2 none, Cond.methodLink RX0 33 arraycopyName, Cond.methodLink RX5 49 yX3_become, Cond.instanceMethod yX3_become, Cond.selects RX3 yX3_become yX3_become]
def wsL_law_r13 : List Cond := [Cond.code yX3_become cX3_become 2 none, Cond.methodLink RX3 15 arraycopyName, Cond.methodLink RX7 58 yX5_makeThing, Cond.instanceMethod yX5_makeThing, Cond.selects RX5 yX5_makeThing yX5_makeThing, Cond.code yX5_makeThing cX5_makeThing 5 (some .int), Cond.methodLink RX5 114 yX0_floorAddressFor, Cond.instanceMethod yX0_floorAddressFor, Cond.selects RX0 yX0_floorAddressFor yX0_floorAddressFor, Cond.code yX0_floorAddressFor cX0_floorAddressFor 5 (some .int), Cond.methodLink RX5 117 yX5_halfAddressFor, Cond.instanceMethod yX5_halfAddressFor, Cond.selects RX5 yX5_halfAddressFor yX5_halfAddressFor, Cond.code yX5_halfAddressFor cX5_halfAddressFor 2 (some .int), Cond.methodLink RX5 120 yX0_lay, Cond.instanceMethod yX0_lay, Cond.selects RX0 yX0_lay yX0_lay, Cond.code yX0_lay cX0_lay 4 none, Cond.methodLink RX5 124 yX0_mark, Cond.instanceMethod yX0_mark, Cond.selects RX0 yX0_mark yX0_mark, Cond.code yX0_mark cX0_mark 2 (some .boolean), Cond.methodLink RX7 55 yX7_recorded, Cond.instanceMethod yX7_recorded]
def wsL_law_r14 : List Cond := [Cond.selects RX7 yX7_recorded yX7_recorded, Cond.code yX7_recorded cX7_recorded 2 (some .int), Cond.methodLink RX7 186 yX2_keepDraft, Cond.instanceMethod yX2_keepDraft, Cond.selects RX2 yX2_keepDraft yX2_keepDraft, Cond.code yX2_keepDraft cX2_keepDraft 1 none, Cond.methodLink RL 25 yL_pack, Cond.static yL_pack, Cond.code yL_pack cL_pack 5 (some .long), Cond.constantLong RL 9 (9), Cond.methodLink RL 42 yL_lays, Cond.static yL_lays, Cond.code yL_lays cL_lays 9 (some .int), Cond.methodLink RL 29 yL_puts, Cond.static yL_puts, Cond.code yL_puts cL_puts 6 none, Cond.methodLink RL 99 yL_names, Cond.static yL_names, Cond.code yL_names cL_names 14 (some .boolean), Cond.methodLink RL 74 yX7_link, Cond.instanceMethod yX7_link, Cond.selects RX7 yX7_link yX7_link, Cond.code yX7_link cX7_link 4 (some .int), Cond.methodLink RX7 62 yX5_linkHooks]
def wsL_law_r15 : List Cond := [Cond.instanceMethod yX5_linkHooks, Cond.selects RX5 yX5_linkHooks yX5_linkHooks, Cond.code yX5_linkHooks cX5_linkHooks 6 (some .int), Cond.methodLink RX5 130 yX5_readIn, Cond.instanceMethod yX5_readIn, Cond.selects RX5 yX5_readIn yX5_readIn, Cond.code yX5_readIn cX5_readIn 5 (some .int), Cond.methodLink RX5 182 yX5_carryOver, Cond.instanceMethod yX5_carryOver, Cond.selects RX5 yX5_carryOver yX5_carryOver, Cond.code yX5_carryOver cX5_carryOver 4 (some .int), Cond.methodLink RX5 188 yX0_layAgain, Cond.instanceMethod yX0_layAgain, Cond.selects RX0 yX0_layAgain yX0_layAgain, Cond.code yX0_layAgain cX0_layAgain 3 none, Cond.methodLink RX5 185 yX3_join, Cond.instanceMethod yX3_join, Cond.selects RX3 yX3_join yX3_join, Cond.code yX3_join cX3_join 2 none, Cond.methodLink RX5 134 yX0_setName, Cond.instanceMethod yX0_setName, Cond.selects RX0 yX0_setName yX0_setName, Cond.code yX0_setName cX0_setName 4 none, Cond.methodLink RL 78 yX7_follow]
def wsL_law_r16 : List Cond := [Cond.instanceMethod yX7_follow, Cond.selects RX7 yX7_follow yX7_follow, Cond.code yX7_follow cX7_follow 4 (some .int), Cond.methodLink RX7 66 yX5_followName, Cond.instanceMethod yX5_followName, Cond.selects RX5 yX5_followName yX5_followName, Cond.code yX5_followName cX5_followName 5 (some .int), Cond.methodLink RL 48 yL_read, Cond.static yL_read, Cond.code yL_read cL_read 10 (some .int), Cond.constantLong RL 40 (8589934592), Cond.methodLink RL 56 yL_renames, Cond.static yL_renames, Cond.code yL_renames cL_renames 8 none, Cond.methodLink RL 103 yX7_drop, Cond.instanceMethod yX7_drop, Cond.selects RX7 yX7_drop yX7_drop, Cond.code yX7_drop cX7_drop 2 (some .int), Cond.methodLink RX7 69 yX5_dropHook, Cond.instanceMethod yX5_dropHook, Cond.selects RX5 yX5_dropHook yX5_dropHook, Cond.code yX5_dropHook cX5_dropHook 3 (some .int), Cond.methodLink RL 106 yX7_begin, Cond.instanceMethod yX7_begin]
def wsL_law_r17 : List Cond := [Cond.selects RX7 yX7_begin yX7_begin, Cond.code yX7_begin cX7_begin 1 (some .int), Cond.methodLink RX7 72 yX5_beginMove, Cond.instanceMethod yX5_beginMove, Cond.selects RX5 yX5_beginMove yX5_beginMove, Cond.code yX5_beginMove cX5_beginMove 2 (some .int), Cond.methodLink RX5 140 yX3_clear, Cond.instanceMethod yX3_clear, Cond.selects RX3 yX3_clear yX3_clear, Cond.code yX3_clear cX3_clear 1 none, Cond.methodLink RX5 143 yX5_endMove, Cond.instanceMethod yX5_endMove, Cond.selects RX5 yX5_endMove yX5_endMove, Cond.code yX5_endMove cX5_endMove 1 none, Cond.methodLink RX5 152 yX0_emptyHalf, Cond.instanceMethod yX0_emptyHalf, Cond.selects RX0 yX0_emptyHalf yX0_emptyHalf, Cond.code yX0_emptyHalf cX0_emptyHalf 3 none, Cond.methodLink RX0 57 yX0_remove, Cond.instanceMethod yX0_remove, Cond.selects RX0 yX0_remove yX0_remove, Cond.code yX0_remove cX0_remove 2 none, Cond.methodLink RX5 156 yX0_sweepFloor, Cond.instanceMethod yX0_sweepFloor]
def wsL_law_r18 : List Cond := [Cond.selects RX0 yX0_sweepFloor yX0_sweepFloor, Cond.code yX0_sweepFloor cX0_sweepFloor 2 none, Cond.methodLink RL 110 yL_begins, Cond.static yL_begins, Cond.code yL_begins cL_begins 8 none, Cond.methodLink RL 52 yL_ends, Cond.static yL_ends, Cond.code yL_ends cL_ends 5 none, Cond.constantLong RL 46 (-8589934593), Cond.methodLink RL 114 yX7_carry, Cond.instanceMethod yX7_carry, Cond.selects RX7 yX7_carry yX7_carry, Cond.code yX7_carry cX7_carry 2 (some .int), Cond.methodLink RX7 76 yX5_carrySteps, Cond.instanceMethod yX5_carrySteps, Cond.selects RX5 yX5_carrySteps yX5_carrySteps, Cond.code yX5_carrySteps cX5_carrySteps 2 (some .int), Cond.methodLink RX5 146 yX5_stepsUpTo, Cond.instanceMethod yX5_stepsUpTo, Cond.selects RX5 yX5_stepsUpTo yX5_stepsUpTo, Cond.code yX5_stepsUpTo cX5_stepsUpTo 4 (some .int), Cond.methodLink RX5 149 yX3_takeFirst, Cond.instanceMethod yX3_takeFirst, Cond.selects RX3 yX3_takeFirst yX3_takeFirst]
def wsL_law_r19 : List Cond := [Cond.code yX3_takeFirst cX3_takeFirst 1 (some .int), Cond.methodLink RL 117 yL_step, Cond.static yL_step, Cond.code yL_step cL_step 8 none, Cond.methodLink RL 121 yX7_setHeavy, Cond.instanceMethod yX7_setHeavy, Cond.selects RX7 yX7_setHeavy yX7_setHeavy, Cond.code yX7_setHeavy cX7_setHeavy 2 (some .int), Cond.methodLink RX7 51 yX5_changeBound, Cond.instanceMethod yX5_changeBound, Cond.selects RX5 yX5_changeBound yX5_changeBound, Cond.code yX5_changeBound cX5_changeBound 3 (some .int), Cond.methodLink RL 88 yX7_lose, Cond.instanceMethod yX7_lose, Cond.selects RX7 yX7_lose yX7_lose, Cond.code yX7_lose cX7_lose 2 (some .int), Cond.methodLink RX7 79 yX5_loseNote, Cond.instanceMethod yX5_loseNote, Cond.selects RX5 yX5_loseNote yX5_loseNote, Cond.code yX5_loseNote cX5_loseNote 3 (some .int), Cond.methodLink RX5 159 yX5_isThing, Cond.methodLink RX5 162 yX5_firstWithNote, Cond.instanceMethod yX5_firstWithNote, Cond.selects RX5 yX5_firstWithNote yX5_firstWithNote]
def wsL_law_r20 : List Cond := [Cond.code yX5_firstWithNote cX5_firstWithNote 3 (some .int), Cond.methodLink RX5 165 yX0_loseNoteAt, Cond.instanceMethod yX0_loseNoteAt, Cond.selects RX0 yX0_loseNoteAt yX0_loseNoteAt, Cond.code yX0_loseNoteAt cX0_loseNoteAt 2 none, Cond.methodLink RL 85 yX7_mend, Cond.instanceMethod yX7_mend, Cond.selects RX7 yX7_mend yX7_mend, Cond.code yX7_mend cX7_mend 2 (some .int), Cond.methodLink RX7 82 yX5_mendTwins, Cond.instanceMethod yX5_mendTwins, Cond.selects RX5 yX5_mendTwins yX5_mendTwins, Cond.code yX5_mendTwins cX5_mendTwins 5 (some .int), Cond.methodLink RX5 168 yX0_addressOf, Cond.methodLink RX5 172 yX0_remove, Cond.methodLink RX5 175 yX0_replaceNames, Cond.instanceMethod yX0_replaceNames, Cond.selects RX0 yX0_replaceNames yX0_replaceNames, Cond.code yX0_replaceNames cX0_replaceNames 4 none, Cond.methodLink RX5 179 yX5_replaceHooks, Cond.instanceMethod yX5_replaceHooks, Cond.selects RX5 yX5_replaceHooks yX5_replaceHooks, Cond.code yX5_replaceHooks cX5_replaceHooks 4 none, Cond.methodLink RL 124 yL_loses]
def wsL_law_r21 : List Cond := [Cond.static yL_loses, Cond.code yL_loses cL_loses 11 (some .boolean), Cond.methodLink RL 128 yL_mends, Cond.static yL_mends, Cond.code yL_mends cL_mends 14 (some .boolean)]
def wsL_law : List Cond := (wsL_law_r1 ++ (wsL_law_r2 ++ (wsL_law_r3 ++ (wsL_law_r4 ++ (wsL_law_r5 ++ (wsL_law_r6 ++ (wsL_law_r7 ++ (wsL_law_r8 ++ (wsL_law_r9 ++ (wsL_law_r10 ++ (wsL_law_r11 ++ (wsL_law_r12 ++ (wsL_law_r13 ++ (wsL_law_r14 ++ (wsL_law_r15 ++ (wsL_law_r16 ++ (wsL_law_r17 ++ (wsL_law_r18 ++ (wsL_law_r19 ++ (wsL_law_r20 ++ wsL_law_r21)))))))))))))))))))) ++ wsX70 ++ wsX50 ++ wsX20 ++ wsX40 ++ wsX60 ++ wsX10 ++ wsX00 ++ wsX30 ++ ([] : List Cond)
end
section
set_option maxRecDepth 20000 in
theorem wsL_law_r1_in : ∀ w ∈ wsL_law_r1, w ∈ lw_tbl := fun w h => (goodIn_p wsL_law_r1 [29, 32] (by decide +kernel) (by decide +kernel) w h).1
set_option maxRecDepth 20000 in
theorem wsL_law_r2_in : ∀ w ∈ wsL_law_r2, w ∈ lw_tbl := fun w h => (goodIn_p wsL_law_r2 [37] (by decide +kernel) (by decide +kernel) w h).1
set_option maxRecDepth 20000 in
theorem wsL_law_r3_in : ∀ w ∈ wsL_law_r3, w ∈ lw_tbl := fun w h => (goodIn_p wsL_law_r3 [43, 47, 70, 119] (by decide +kernel) (by decide +kernel) w h).1
set_option maxRecDepth 20000 in
theorem wsL_law_r4_in : ∀ w ∈ wsL_law_r4, w ∈ lw_tbl := fun w h => (goodIn_p wsL_law_r4 [138, 157, 170, 561, 271] rfl (by decide +kernel) w h).1
set_option maxRecDepth 20000 in
theorem wsL_law_r5_in : ∀ w ∈ wsL_law_r5, w ∈ lw_tbl := fun w h => (goodIn_p wsL_law_r5 [274, 278, 282, 558, 430, 565, 222] (by decide +kernel) (by decide +kernel) w h).1
set_option maxRecDepth 20000 in
theorem wsL_law_r6_in : ∀ w ∈ wsL_law_r6, w ∈ lw_tbl := fun w h => (goodIn_p wsL_law_r6 [570, 234, 250, 576, 580, 395] (by decide +kernel) (by decide +kernel) w h).1
set_option maxRecDepth 20000 in
theorem wsL_law_r7_in : ∀ w ∈ wsL_law_r7, w ∈ lw_tbl := fun w h => (goodIn_p wsL_law_r7 [303, 310, 433, 584, 519, 539] (by decide +kernel) (by decide +kernel) w h).1
set_option maxRecDepth 20000 in
theorem wsL_law_r8_in : ∀ w ∈ wsL_law_r8, w ∈ lw_tbl := fun w h => (goodIn_p wsL_law_r8 [263, 202, 206, 210, 214] (by decide +kernel) (by decide +kernel) w h).1
set_option maxRecDepth 20000 in
theorem wsL_law_r9_in : ∀ w ∈ wsL_law_r9, w ∈ lw_tbl := fun w h => (goodIn_p wsL_law_r9 [218, 226, 230, 238, 242] (by decide +kernel) (by decide +kernel) w h).1
set_option maxRecDepth 20000 in
theorem wsL_law_r10_in : ∀ w ∈ wsL_law_r10, w ∈ lw_tbl := fun w h => (goodIn_p wsL_law_r10 [246, 255, 259, 267, 307] (by decide +kernel) (by decide +kernel) w h).1
set_option maxRecDepth 20000 in
theorem wsL_law_r11_in : ∀ w ∈ wsL_law_r11, w ∈ lw_tbl := fun w h => (goodIn_p wsL_law_r11 [285, 293, 289, 297, 300, 315, 319] (by decide +kernel) (by decide +kernel) w h).1
set_option maxRecDepth 20000 in
theorem wsL_law_r12_in : ∀ w ∈ wsL_law_r12, w ∈ lw_tbl := fun w h => (goodIn_p wsL_law_r12 [323, 326, 330, 337] (by decide +kernel) (by decide +kernel) w h).1
set_option maxRecDepth 20000 in
theorem wsL_law_r13_in : ∀ w ∈ wsL_law_r13, w ∈ lw_tbl := fun w h => (goodIn_p wsL_law_r13 [342, 347, 351, 355, 359, 363] (by decide +kernel) (by decide +kernel) w h).1
set_option maxRecDepth 20000 in
theorem wsL_law_r14_in : ∀ w ∈ wsL_law_r14, w ∈ lw_tbl := fun w h => (goodIn_p wsL_law_r14 [367, 371, 374, 378, 381, 384, 388] (by decide +kernel) (by decide +kernel) w h).1
set_option maxRecDepth 20000 in
theorem wsL_law_r15_in : ∀ w ∈ wsL_law_r15, w ∈ lw_tbl := fun w h => (goodIn_p wsL_law_r15 [392, 399, 403, 407, 411, 415] (by decide +kernel) (by decide +kernel) w h).1
set_option maxRecDepth 20000 in
theorem wsL_law_r16_in : ∀ w ∈ wsL_law_r16, w ∈ lw_tbl := fun w h => (goodIn_p wsL_law_r16 [420, 424, 427, 437, 441, 445] (by decide +kernel) (by decide +kernel) w h).1
set_option maxRecDepth 20000 in
theorem wsL_law_r17_in : ∀ w ∈ wsL_law_r17, w ∈ lw_tbl := fun w h => (goodIn_p wsL_law_r17 [449, 453, 457, 461, 465, 469] (by decide +kernel) (by decide +kernel) w h).1
set_option maxRecDepth 20000 in
theorem wsL_law_r18_in : ∀ w ∈ wsL_law_r18, w ∈ lw_tbl := fun w h => (goodIn_p wsL_law_r18 [473, 476, 479, 484, 488, 492] (by decide +kernel) (by decide +kernel) w h).1
set_option maxRecDepth 20000 in
theorem wsL_law_r19_in : ∀ w ∈ wsL_law_r19, w ∈ lw_tbl := fun w h => (goodIn_p wsL_law_r19 [496, 499, 503, 507, 511, 515] (by decide +kernel) (by decide +kernel) w h).1
set_option maxRecDepth 20000 in
theorem wsL_law_r20_in : ∀ w ∈ wsL_law_r20, w ∈ lw_tbl := fun w h => (goodIn_p wsL_law_r20 [523, 527, 531, 535, 545, 549] (by decide +kernel) (by decide +kernel) w h).1
set_option maxRecDepth 20000 in
theorem wsL_law_r21_in : ∀ w ∈ wsL_law_r21, w ∈ lw_tbl := fun w h => (goodIn_p wsL_law_r21 [552, 555] (by decide +kernel) (by decide +kernel) w h).1
set_option maxRecDepth 20000 in
theorem wsX70_tb : ∀ w ∈ wsX70, w ∈ lw_tbl := by decide +kernel
set_option maxRecDepth 20000 in
theorem wsX50_tb : ∀ w ∈ wsX50, w ∈ lw_tbl := by decide +kernel
set_option maxRecDepth 20000 in
theorem wsX20_tb : ∀ w ∈ wsX20, w ∈ lw_tbl := by decide +kernel
set_option maxRecDepth 20000 in
theorem wsX40_tb : ∀ w ∈ wsX40, w ∈ lw_tbl := by decide +kernel
set_option maxRecDepth 20000 in
theorem wsX60_tb : ∀ w ∈ wsX60, w ∈ lw_tbl := by decide +kernel
set_option maxRecDepth 20000 in
theorem wsX10_tb : ∀ w ∈ wsX10, w ∈ lw_tbl := by decide +kernel
set_option maxRecDepth 20000 in
theorem wsX00_tb : ∀ w ∈ wsX00, w ∈ lw_tbl := by decide +kernel
set_option maxRecDepth 20000 in
theorem wsX30_tb : ∀ w ∈ wsX30, w ∈ lw_tbl := by decide +kernel
theorem wsL_law_rr : ∀ w ∈ (wsL_law_r1 ++ (wsL_law_r2 ++ (wsL_law_r3 ++ (wsL_law_r4 ++ (wsL_law_r5 ++ (wsL_law_r6 ++ (wsL_law_r7 ++ (wsL_law_r8 ++ (wsL_law_r9 ++ (wsL_law_r10 ++ (wsL_law_r11 ++ (wsL_law_r12 ++ (wsL_law_r13 ++ (wsL_law_r14 ++ (wsL_law_r15 ++ (wsL_law_r16 ++ (wsL_law_r17 ++ (wsL_law_r18 ++ (wsL_law_r19 ++ (wsL_law_r20 ++ wsL_law_r21)))))))))))))))))))), w ∈ lw_tbl :=
  List.forall_mem_append.mpr ⟨wsL_law_r1_in, List.forall_mem_append.mpr ⟨wsL_law_r2_in, List.forall_mem_append.mpr ⟨wsL_law_r3_in, List.forall_mem_append.mpr ⟨wsL_law_r4_in, List.forall_mem_append.mpr ⟨wsL_law_r5_in, List.forall_mem_append.mpr ⟨wsL_law_r6_in, List.forall_mem_append.mpr ⟨wsL_law_r7_in, List.forall_mem_append.mpr ⟨wsL_law_r8_in, List.forall_mem_append.mpr ⟨wsL_law_r9_in, List.forall_mem_append.mpr ⟨wsL_law_r10_in, List.forall_mem_append.mpr ⟨wsL_law_r11_in, List.forall_mem_append.mpr ⟨wsL_law_r12_in, List.forall_mem_append.mpr ⟨wsL_law_r13_in, List.forall_mem_append.mpr ⟨wsL_law_r14_in, List.forall_mem_append.mpr ⟨wsL_law_r15_in, List.forall_mem_append.mpr ⟨wsL_law_r16_in, List.forall_mem_append.mpr ⟨wsL_law_r17_in, List.forall_mem_append.mpr ⟨wsL_law_r18_in, List.forall_mem_append.mpr ⟨wsL_law_r19_in, List.forall_mem_append.mpr ⟨wsL_law_r20_in, wsL_law_r21_in⟩⟩⟩⟩⟩⟩⟩⟩⟩⟩⟩⟩⟩⟩⟩⟩⟩⟩⟩⟩
theorem wsL_law_in : ∀ w ∈ wsL_law, w ∈ lw_tbl :=
  List.forall_mem_append.mpr ⟨List.forall_mem_append.mpr ⟨List.forall_mem_append.mpr ⟨List.forall_mem_append.mpr ⟨List.forall_mem_append.mpr ⟨List.forall_mem_append.mpr ⟨List.forall_mem_append.mpr ⟨List.forall_mem_append.mpr ⟨List.forall_mem_append.mpr ⟨wsL_law_rr, wsX70_tb⟩, wsX50_tb⟩, wsX20_tb⟩, wsX40_tb⟩, wsX60_tb⟩, wsX10_tb⟩, wsX00_tb⟩, wsX30_tb⟩, fun _ h => absurd h List.not_mem_nil⟩
theorem inlX0 : ∀ w ∈ wsX00, w ∈ wsL_law := fun _ h => List.mem_append_left _ (List.mem_append_left _ (List.mem_append_right _ h))
theorem inX0 : ∀ w ∈ wsX00, w ∈ lw_tbl := fun w h => wsL_law_in w (inlX0 w h)
theorem inlX1 : ∀ w ∈ wsX10, w ∈ wsL_law := fun _ h => List.mem_append_left _ (List.mem_append_left _ (List.mem_append_left _ (List.mem_append_right _ h)))
theorem inX1 : ∀ w ∈ wsX10, w ∈ lw_tbl := fun w h => wsL_law_in w (inlX1 w h)
theorem inlX2 : ∀ w ∈ wsX20, w ∈ wsL_law := fun _ h => List.mem_append_left _ (List.mem_append_left _ (List.mem_append_left _ (List.mem_append_left _ (List.mem_append_left _ (List.mem_append_left _ (List.mem_append_right _ h))))))
theorem inX2 : ∀ w ∈ wsX20, w ∈ lw_tbl := fun w h => wsL_law_in w (inlX2 w h)
theorem inlX3 : ∀ w ∈ wsX30, w ∈ wsL_law := fun _ h => List.mem_append_left _ (List.mem_append_right _ h)
theorem inX3 : ∀ w ∈ wsX30, w ∈ lw_tbl := fun w h => wsL_law_in w (inlX3 w h)
theorem inlX4 : ∀ w ∈ wsX40, w ∈ wsL_law := fun _ h => List.mem_append_left _ (List.mem_append_left _ (List.mem_append_left _ (List.mem_append_left _ (List.mem_append_left _ (List.mem_append_right _ h)))))
theorem inX4 : ∀ w ∈ wsX40, w ∈ lw_tbl := fun w h => wsL_law_in w (inlX4 w h)
theorem inlX5 : ∀ w ∈ wsX50, w ∈ wsL_law := fun _ h => List.mem_append_left _ (List.mem_append_left _ (List.mem_append_left _ (List.mem_append_left _ (List.mem_append_left _ (List.mem_append_left _ (List.mem_append_left _ (List.mem_append_right _ h)))))))
theorem inX5 : ∀ w ∈ wsX50, w ∈ lw_tbl := fun w h => wsL_law_in w (inlX5 w h)
theorem inlX6 : ∀ w ∈ wsX60, w ∈ wsL_law := fun _ h => List.mem_append_left _ (List.mem_append_left _ (List.mem_append_left _ (List.mem_append_left _ (List.mem_append_right _ h))))
theorem inX6 : ∀ w ∈ wsX60, w ∈ lw_tbl := fun w h => wsL_law_in w (inlX6 w h)
theorem inlX7 : ∀ w ∈ wsX70, w ∈ wsL_law := fun _ h => List.mem_append_left _ (List.mem_append_left _ (List.mem_append_left _ (List.mem_append_left _ (List.mem_append_left _ (List.mem_append_left _ (List.mem_append_left _ (List.mem_append_left _ (List.mem_append_right _ h))))))))
theorem inX7 : ∀ w ∈ wsX70, w ∈ lw_tbl := fun w h => wsL_law_in w (inlX7 w h)
theorem inX8 : ∀ w ∈ wsX80, w ∈ lw_tbl := by decide +kernel
theorem inJ9 : ∀ w ∈ wsJ90, w ∈ lw_tbl := by decide +kernel
theorem inJ10 : ∀ w ∈ wsJ100, w ∈ lw_tbl := by decide +kernel
theorem inJ7 : ∀ w ∈ wsJ70, w ∈ lw_tbl := by decide +kernel
end
section
set_option maxRecDepth 20000 in
theorem ggX0_init_J7_fill_53178 : GoodIn wsX0_init wsJ7_fill_53178 := goodIn_r _ [13] (by decide +kernel) (by decide +kernel)
set_option maxRecDepth 20000 in
theorem gX0_init_J7_fill_53178 : GoodIn wsX0_init (va_wsS RX0 27 yJ7_fill_53178 wsJ7_fill_53178) := goodIn_app (goodIn_of _ (by decide +kernel)) ggX0_init_J7_fill_53178
theorem dX0_init_0 : decode cX0_init 0 = .ok (.aload_n 0, 1) := by decide +kernel
theorem dX0_init_1 : decode cX0_init 1 = .ok (.invokespecial 3, 3) := by decide +kernel
theorem dX0_init_4 : decode cX0_init 4 = .ok (.aload_n 0, 1) := by decide +kernel
theorem dX0_init_5 : decode cX0_init 5 = .ok (.sipush 260, 3) := by decide +kernel
theorem dX0_init_8 : decode cX0_init 8 = .ok (.newarray .int, 2) := by decide +kernel
theorem dX0_init_10 : decode cX0_init 10 = .ok (.putfield 9, 3) := by decide +kernel
theorem dX0_init_13 : decode cX0_init 13 = .ok (.aload_n 0, 1) := by decide +kernel
theorem dX0_init_14 : decode cX0_init 14 = .ok (.sipush 260, 3) := by decide +kernel
theorem dX0_init_17 : decode cX0_init 17 = .ok (.newarray .int, 2) := by decide +kernel
theorem dX0_init_19 : decode cX0_init 19 = .ok (.putfield 15, 3) := by decide +kernel
theorem dX0_init_22 : decode cX0_init 22 = .ok (.aload_n 0, 1) := by decide +kernel
theorem dX0_init_23 : decode cX0_init 23 = .ok (.sipush 260, 3) := by decide +kernel
theorem dX0_init_26 : decode cX0_init 26 = .ok (.newarray .int, 2) := by decide +kernel
theorem dX0_init_28 : decode cX0_init 28 = .ok (.putfield 18, 3) := by decide +kernel
theorem dX0_init_31 : decode cX0_init 31 = .ok (.aload_n 0, 1) := by decide +kernel
theorem dX0_init_32 : decode cX0_init 32 = .ok (.sipush 260, 3) := by decide +kernel
theorem dX0_init_35 : decode cX0_init 35 = .ok (.newarray .int, 2) := by decide +kernel
theorem dX0_init_37 : decode cX0_init 37 = .ok (.putfield 21, 3) := by decide +kernel
theorem dX0_init_40 : decode cX0_init 40 = .ok (.aload_n 0, 1) := by decide +kernel
theorem dX0_init_41 : decode cX0_init 41 = .ok (.sipush 520, 3) := by decide +kernel
theorem dX0_init_44 : decode cX0_init 44 = .ok (.newarray .int, 2) := by decide +kernel
theorem dX0_init_46 : decode cX0_init 46 = .ok (.putfield 24, 3) := by decide +kernel
theorem dX0_init_49 : decode cX0_init 49 = .ok (.aload_n 0, 1) := by decide +kernel
theorem dX0_init_50 : decode cX0_init 50 = .ok (.getfield 18, 3) := by decide +kernel
theorem dX0_init_53 : decode cX0_init 53 = .ok (.sipush 300, 3) := by decide +kernel
theorem dX0_init_56 : decode cX0_init 56 = .ok (.invokestatic 27, 3) := by decide +kernel
theorem dX0_init_59 : decode cX0_init 59 = .ok (.aload_n 0, 1) := by decide +kernel
theorem dX0_init_60 : decode cX0_init 60 = .ok (.getfield 24, 3) := by decide +kernel
theorem dX0_init_63 : decode cX0_init 63 = .ok (.sipush 300, 3) := by decide +kernel
theorem dX0_init_66 : decode cX0_init 66 = .ok (.invokestatic 27, 3) := by decide +kernel
theorem dX0_init_69 : decode cX0_init 69 = .ok (.return_, 1) := by decide +kernel
theorem dX0_become_0 : decode cX0_become 0 = .ok (.aload_n 1, 1) := by decide +kernel
theorem dX0_become_1 : decode cX0_become 1 = .ok (.getfield 9, 3) := by decide +kernel
theorem dX0_become_4 : decode cX0_become 4 = .ok (.iconst 0, 1) := by decide +kernel
theorem dX0_become_5 : decode cX0_become 5 = .ok (.aload_n 0, 1) := by decide +kernel
theorem dX0_become_6 : decode cX0_become 6 = .ok (.getfield 9, 3) := by decide +kernel
theorem dX0_become_9 : decode cX0_become 9 = .ok (.iconst 0, 1) := by decide +kernel
theorem dX0_become_10 : decode cX0_become 10 = .ok (.sipush 260, 3) := by decide +kernel
theorem dX0_become_13 : decode cX0_become 13 = .ok (.invokestatic 33, 3) := by decide +kernel
theorem dX0_become_16 : decode cX0_become 16 = .ok (.aload_n 1, 1) := by decide +kernel
theorem dX0_become_17 : decode cX0_become 17 = .ok (.getfield 15, 3) := by decide +kernel
theorem dX0_become_20 : decode cX0_become 20 = .ok (.iconst 0, 1) := by decide +kernel
theorem dX0_become_21 : decode cX0_become 21 = .ok (.aload_n 0, 1) := by decide +kernel
theorem dX0_become_22 : decode cX0_become 22 = .ok (.getfield 15, 3) := by decide +kernel
theorem dX0_become_25 : decode cX0_become 25 = .ok (.iconst 0, 1) := by decide +kernel
theorem dX0_become_26 : decode cX0_become 26 = .ok (.sipush 260, 3) := by decide +kernel
theorem dX0_become_29 : decode cX0_become 29 = .ok (.invokestatic 33, 3) := by decide +kernel
theorem dX0_become_32 : decode cX0_become 32 = .ok (.aload_n 1, 1) := by decide +kernel
theorem dX0_become_33 : decode cX0_become 33 = .ok (.getfield 18, 3) := by decide +kernel
theorem dX0_become_36 : decode cX0_become 36 = .ok (.iconst 0, 1) := by decide +kernel
theorem dX0_become_37 : decode cX0_become 37 = .ok (.aload_n 0, 1) := by decide +kernel
theorem dX0_become_38 : decode cX0_become 38 = .ok (.getfield 18, 3) := by decide +kernel
theorem dX0_become_41 : decode cX0_become 41 = .ok (.iconst 0, 1) := by decide +kernel
theorem dX0_become_42 : decode cX0_become 42 = .ok (.sipush 260, 3) := by decide +kernel
theorem dX0_become_45 : decode cX0_become 45 = .ok (.invokestatic 33, 3) := by decide +kernel
theorem dX0_become_48 : decode cX0_become 48 = .ok (.aload_n 1, 1) := by decide +kernel
theorem dX0_become_49 : decode cX0_become 49 = .ok (.getfield 21, 3) := by decide +kernel
theorem dX0_become_52 : decode cX0_become 52 = .ok (.iconst 0, 1) := by decide +kernel
theorem dX0_become_53 : decode cX0_become 53 = .ok (.aload_n 0, 1) := by decide +kernel
theorem dX0_become_54 : decode cX0_become 54 = .ok (.getfield 21, 3) := by decide +kernel
theorem dX0_become_57 : decode cX0_become 57 = .ok (.iconst 0, 1) := by decide +kernel
theorem dX0_become_58 : decode cX0_become 58 = .ok (.sipush 260, 3) := by decide +kernel
theorem dX0_become_61 : decode cX0_become 61 = .ok (.invokestatic 33, 3) := by decide +kernel
theorem dX0_become_64 : decode cX0_become 64 = .ok (.aload_n 1, 1) := by decide +kernel
theorem dX0_become_65 : decode cX0_become 65 = .ok (.getfield 24, 3) := by decide +kernel
theorem dX0_become_68 : decode cX0_become 68 = .ok (.iconst 0, 1) := by decide +kernel
theorem dX0_become_69 : decode cX0_become 69 = .ok (.aload_n 0, 1) := by decide +kernel
theorem dX0_become_70 : decode cX0_become 70 = .ok (.getfield 24, 3) := by decide +kernel
theorem dX0_become_73 : decode cX0_become 73 = .ok (.iconst 0, 1) := by decide +kernel
theorem dX0_become_74 : decode cX0_become 74 = .ok (.sipush 520, 3) := by decide +kernel
theorem dX0_become_77 : decode cX0_become 77 = .ok (.invokestatic 33, 3) := by decide +kernel
theorem dX0_become_80 : decode cX0_become 80 = .ok (.return_, 1) := by decide +kernel
theorem dX0_isAt_0 : decode cX0_isAt 0 = .ok (.iload_n 1, 1) := by decide +kernel
theorem dX0_isAt_1 : decode cX0_isAt 1 = .ok (.ifCond .lt 23, 3) := by decide +kernel
theorem dX0_isAt_4 : decode cX0_isAt 4 = .ok (.iload_n 1, 1) := by decide +kernel
theorem dX0_isAt_5 : decode cX0_isAt 5 = .ok (.sipush 260, 3) := by decide +kernel
theorem dX0_isAt_8 : decode cX0_isAt 8 = .ok (.if_icmp .ge 16, 3) := by decide +kernel
theorem dX0_isAt_11 : decode cX0_isAt 11 = .ok (.aload_n 0, 1) := by decide +kernel
theorem dX0_isAt_12 : decode cX0_isAt 12 = .ok (.getfield 15, 3) := by decide +kernel
theorem dX0_isAt_15 : decode cX0_isAt 15 = .ok (.iload_n 1, 1) := by decide +kernel
theorem dX0_isAt_16 : decode cX0_isAt 16 = .ok (.iaload, 1) := by decide +kernel
theorem dX0_isAt_17 : decode cX0_isAt 17 = .ok (.ifCond .le 7, 3) := by decide +kernel
theorem dX0_isAt_20 : decode cX0_isAt 20 = .ok (.iconst 1, 1) := by decide +kernel
theorem dX0_isAt_21 : decode cX0_isAt 21 = .ok (.goto 4, 3) := by decide +kernel
theorem dX0_isAt_24 : decode cX0_isAt 24 = .ok (.iconst 0, 1) := by decide +kernel
theorem dX0_isAt_25 : decode cX0_isAt 25 = .ok (.ireturn, 1) := by decide +kernel
set_option maxRecDepth 20000 in
theorem ggX0_isOf_X0_isAt : GoodIn wsX0_isOf wsX0_isAt := goodIn_r _ [6, 7, 8, 9, 10, 11, 12] (by decide +kernel) (by decide +kernel)
set_option maxRecDepth 20000 in
theorem gX0_isOf_X0_isAt : GoodIn wsX0_isOf (wsV RX0 39 RX0 yX0_isAt wsX0_isAt) := goodIn_app (goodIn_of _ (by decide +kernel)) ggX0_isOf_X0_isAt
theorem dX0_isOf_0 : decode cX0_isOf 0 = .ok (.aload_n 0, 1) := by decide +kernel
theorem dX0_isOf_1 : decode cX0_isOf 1 = .ok (.iload_n 2, 1) := by decide +kernel
theorem dX0_isOf_2 : decode cX0_isOf 2 = .ok (.invokevirtual 39, 3) := by decide +kernel
theorem dX0_isOf_5 : decode cX0_isOf 5 = .ok (.ifCond .eq 17, 3) := by decide +kernel
theorem dX0_isOf_8 : decode cX0_isOf 8 = .ok (.aload_n 0, 1) := by decide +kernel
theorem dX0_isOf_9 : decode cX0_isOf 9 = .ok (.getfield 9, 3) := by decide +kernel
theorem dX0_isOf_12 : decode cX0_isOf 12 = .ok (.iload_n 2, 1) := by decide +kernel
theorem dX0_isOf_13 : decode cX0_isOf 13 = .ok (.iaload, 1) := by decide +kernel
theorem dX0_isOf_14 : decode cX0_isOf 14 = .ok (.iload_n 1, 1) := by decide +kernel
theorem dX0_isOf_15 : decode cX0_isOf 15 = .ok (.if_icmp .ne 7, 3) := by decide +kernel
theorem dX0_isOf_18 : decode cX0_isOf 18 = .ok (.iconst 1, 1) := by decide +kernel
theorem dX0_isOf_19 : decode cX0_isOf 19 = .ok (.goto 4, 3) := by decide +kernel
theorem dX0_isOf_22 : decode cX0_isOf 22 = .ok (.iconst 0, 1) := by decide +kernel
theorem dX0_isOf_23 : decode cX0_isOf 23 = .ok (.ireturn, 1) := by decide +kernel
set_option maxRecDepth 20000 in
theorem ggX0_thingAt_X0_isAt : GoodIn wsX0_thingAt wsX0_isAt := goodIn_r _ [6, 7, 8, 9, 10, 11, 12] (by decide +kernel) (by decide +kernel)
set_option maxRecDepth 20000 in
theorem gX0_thingAt_X0_isAt : GoodIn wsX0_thingAt (wsV RX0 39 RX0 yX0_isAt wsX0_isAt) := goodIn_app (goodIn_of _ (by decide +kernel)) ggX0_thingAt_X0_isAt
theorem dX0_thingAt_0 : decode cX0_thingAt 0 = .ok (.aload_n 0, 1) := by decide +kernel
theorem dX0_thingAt_1 : decode cX0_thingAt 1 = .ok (.iload_n 1, 1) := by decide +kernel
theorem dX0_thingAt_2 : decode cX0_thingAt 2 = .ok (.invokevirtual 39, 3) := by decide +kernel
theorem dX0_thingAt_5 : decode cX0_thingAt 5 = .ok (.ifCond .eq 12, 3) := by decide +kernel
theorem dX0_thingAt_8 : decode cX0_thingAt 8 = .ok (.aload_n 0, 1) := by decide +kernel
theorem dX0_thingAt_9 : decode cX0_thingAt 9 = .ok (.getfield 9, 3) := by decide +kernel
theorem dX0_thingAt_12 : decode cX0_thingAt 12 = .ok (.iload_n 1, 1) := by decide +kernel
theorem dX0_thingAt_13 : decode cX0_thingAt 13 = .ok (.iaload, 1) := by decide +kernel
theorem dX0_thingAt_14 : decode cX0_thingAt 14 = .ok (.goto 5, 3) := by decide +kernel
theorem dX0_thingAt_17 : decode cX0_thingAt 17 = .ok (.bipush (-9), 2) := by decide +kernel
theorem dX0_thingAt_19 : decode cX0_thingAt 19 = .ok (.ireturn, 1) := by decide +kernel
set_option maxRecDepth 20000 in
theorem ggX0_sizeAt_X0_isAt : GoodIn wsX0_sizeAt wsX0_isAt := goodIn_r _ [6, 1, 7, 8, 9, 10, 11] (by decide +kernel) (by decide +kernel)
set_option maxRecDepth 20000 in
theorem gX0_sizeAt_X0_isAt : GoodIn wsX0_sizeAt (wsV RX0 39 RX0 yX0_isAt wsX0_isAt) := goodIn_app (goodIn_of _ (by decide +kernel)) ggX0_sizeAt_X0_isAt
theorem dX0_sizeAt_0 : decode cX0_sizeAt 0 = .ok (.aload_n 0, 1) := by decide +kernel
theorem dX0_sizeAt_1 : decode cX0_sizeAt 1 = .ok (.iload_n 1, 1) := by decide +kernel
theorem dX0_sizeAt_2 : decode cX0_sizeAt 2 = .ok (.invokevirtual 39, 3) := by decide +kernel
theorem dX0_sizeAt_5 : decode cX0_sizeAt 5 = .ok (.ifCond .eq 12, 3) := by decide +kernel
theorem dX0_sizeAt_8 : decode cX0_sizeAt 8 = .ok (.aload_n 0, 1) := by decide +kernel
theorem dX0_sizeAt_9 : decode cX0_sizeAt 9 = .ok (.getfield 15, 3) := by decide +kernel
theorem dX0_sizeAt_12 : decode cX0_sizeAt 12 = .ok (.iload_n 1, 1) := by decide +kernel
theorem dX0_sizeAt_13 : decode cX0_sizeAt 13 = .ok (.iaload, 1) := by decide +kernel
theorem dX0_sizeAt_14 : decode cX0_sizeAt 14 = .ok (.goto 4, 3) := by decide +kernel
theorem dX0_sizeAt_17 : decode cX0_sizeAt 17 = .ok (.iconst 0, 1) := by decide +kernel
theorem dX0_sizeAt_18 : decode cX0_sizeAt 18 = .ok (.ireturn, 1) := by decide +kernel
set_option maxRecDepth 20000 in
theorem ggX0_noteAt_X0_isAt : GoodIn wsX0_noteAt wsX0_isAt := goodIn_r _ [6, 7, 8, 9, 10, 11, 12] (by decide +kernel) (by decide +kernel)
set_option maxRecDepth 20000 in
theorem gX0_noteAt_X0_isAt : GoodIn wsX0_noteAt (wsV RX0 39 RX0 yX0_isAt wsX0_isAt) := goodIn_app (goodIn_of _ (by decide +kernel)) ggX0_noteAt_X0_isAt
theorem dX0_noteAt_0 : decode cX0_noteAt 0 = .ok (.aload_n 0, 1) := by decide +kernel
theorem dX0_noteAt_1 : decode cX0_noteAt 1 = .ok (.iload_n 1, 1) := by decide +kernel
theorem dX0_noteAt_2 : decode cX0_noteAt 2 = .ok (.invokevirtual 39, 3) := by decide +kernel
theorem dX0_noteAt_5 : decode cX0_noteAt 5 = .ok (.ifCond .eq 12, 3) := by decide +kernel
theorem dX0_noteAt_8 : decode cX0_noteAt 8 = .ok (.aload_n 0, 1) := by decide +kernel
theorem dX0_noteAt_9 : decode cX0_noteAt 9 = .ok (.getfield 18, 3) := by decide +kernel
theorem dX0_noteAt_12 : decode cX0_noteAt 12 = .ok (.iload_n 1, 1) := by decide +kernel
theorem dX0_noteAt_13 : decode cX0_noteAt 13 = .ok (.iaload, 1) := by decide +kernel
theorem dX0_noteAt_14 : decode cX0_noteAt 14 = .ok (.goto 6, 3) := by decide +kernel
theorem dX0_noteAt_17 : decode cX0_noteAt 17 = .ok (.sipush 300, 3) := by decide +kernel
theorem dX0_noteAt_20 : decode cX0_noteAt 20 = .ok (.ireturn, 1) := by decide +kernel
set_option maxRecDepth 20000 in
theorem ggX0_isMarked_X0_isAt : GoodIn wsX0_isMarked wsX0_isAt := goodIn_r _ [6, 7, 8, 9, 10, 11, 12] (by decide +kernel) (by decide +kernel)
set_option maxRecDepth 20000 in
theorem gX0_isMarked_X0_isAt : GoodIn wsX0_isMarked (wsV RX0 39 RX0 yX0_isAt wsX0_isAt) := goodIn_app (goodIn_of _ (by decide +kernel)) ggX0_isMarked_X0_isAt
theorem dX0_isMarked_0 : decode cX0_isMarked 0 = .ok (.aload_n 0, 1) := by decide +kernel
theorem dX0_isMarked_1 : decode cX0_isMarked 1 = .ok (.iload_n 1, 1) := by decide +kernel
theorem dX0_isMarked_2 : decode cX0_isMarked 2 = .ok (.invokevirtual 39, 3) := by decide +kernel
theorem dX0_isMarked_5 : decode cX0_isMarked 5 = .ok (.ifCond .eq 17, 3) := by decide +kernel
theorem dX0_isMarked_8 : decode cX0_isMarked 8 = .ok (.aload_n 0, 1) := by decide +kernel
theorem dX0_isMarked_9 : decode cX0_isMarked 9 = .ok (.getfield 21, 3) := by decide +kernel
theorem dX0_isMarked_12 : decode cX0_isMarked 12 = .ok (.iload_n 1, 1) := by decide +kernel
theorem dX0_isMarked_13 : decode cX0_isMarked 13 = .ok (.iaload, 1) := by decide +kernel
theorem dX0_isMarked_14 : decode cX0_isMarked 14 = .ok (.iconst 1, 1) := by decide +kernel
theorem dX0_isMarked_15 : decode cX0_isMarked 15 = .ok (.if_icmp .ne 7, 3) := by decide +kernel
theorem dX0_isMarked_18 : decode cX0_isMarked 18 = .ok (.iconst 1, 1) := by decide +kernel
theorem dX0_isMarked_19 : decode cX0_isMarked 19 = .ok (.goto 4, 3) := by decide +kernel
theorem dX0_isMarked_22 : decode cX0_isMarked 22 = .ok (.iconst 0, 1) := by decide +kernel
theorem dX0_isMarked_23 : decode cX0_isMarked 23 = .ok (.ireturn, 1) := by decide +kernel
set_option maxRecDepth 20000 in
theorem ggX0_nameAt_X0_isAt : GoodIn wsX0_nameAt wsX0_isAt := goodIn_r _ [6, 7, 11, 12, 13, 14, 15] (by decide +kernel) (by decide +kernel)
set_option maxRecDepth 20000 in
theorem gX0_nameAt_X0_isAt : GoodIn wsX0_nameAt (wsV RX0 39 RX0 yX0_isAt wsX0_isAt) := goodIn_app (goodIn_of _ (by decide +kernel)) ggX0_nameAt_X0_isAt
set_option maxRecDepth 20000 in
theorem ggX0_nameAt_X7_isName : GoodIn wsX0_nameAt wsX7_isName := goodIn_r _ [10] (by decide +kernel) (by decide +kernel)
set_option maxRecDepth 20000 in
theorem gX0_nameAt_X7_isName_n43 : GoodIn wsX0_nameAt (wsX7_isName) := ggX0_nameAt_X7_isName
theorem dX0_nameAt_0 : decode cX0_nameAt 0 = .ok (.aload_n 0, 1) := by decide +kernel
theorem dX0_nameAt_1 : decode cX0_nameAt 1 = .ok (.iload_n 1, 1) := by decide +kernel
theorem dX0_nameAt_2 : decode cX0_nameAt 2 = .ok (.invokevirtual 39, 3) := by decide +kernel
theorem dX0_nameAt_5 : decode cX0_nameAt 5 = .ok (.ifCond .eq 23, 3) := by decide +kernel
theorem dX0_nameAt_8 : decode cX0_nameAt 8 = .ok (.iload_n 2, 1) := by decide +kernel
theorem dX0_nameAt_9 : decode cX0_nameAt 9 = .ok (.invokestatic 43, 3) := by decide +kernel
theorem dX0_nameAt_12 : decode cX0_nameAt 12 = .ok (.ifCond .eq 16, 3) := by decide +kernel
theorem dX0_nameAt_15 : decode cX0_nameAt 15 = .ok (.aload_n 0, 1) := by decide +kernel
theorem dX0_nameAt_16 : decode cX0_nameAt 16 = .ok (.getfield 24, 3) := by decide +kernel
theorem dX0_nameAt_19 : decode cX0_nameAt 19 = .ok (.iload_n 1, 1) := by decide +kernel
theorem dX0_nameAt_20 : decode cX0_nameAt 20 = .ok (.iconst 2, 1) := by decide +kernel
theorem dX0_nameAt_21 : decode cX0_nameAt 21 = .ok (.imul, 1) := by decide +kernel
theorem dX0_nameAt_22 : decode cX0_nameAt 22 = .ok (.iload_n 2, 1) := by decide +kernel
theorem dX0_nameAt_23 : decode cX0_nameAt 23 = .ok (.iadd, 1) := by decide +kernel
theorem dX0_nameAt_24 : decode cX0_nameAt 24 = .ok (.iaload, 1) := by decide +kernel
theorem dX0_nameAt_25 : decode cX0_nameAt 25 = .ok (.goto 6, 3) := by decide +kernel
theorem dX0_nameAt_28 : decode cX0_nameAt 28 = .ok (.sipush 300, 3) := by decide +kernel
theorem dX0_nameAt_31 : decode cX0_nameAt 31 = .ok (.ireturn, 1) := by decide +kernel
set_option maxRecDepth 20000 in
theorem ggX0_loseNoteAt_X0_isAt : GoodIn wsX0_loseNoteAt wsX0_isAt := goodIn_r _ [6, 7, 8, 9, 10, 11, 12] (by decide +kernel) (by decide +kernel)
set_option maxRecDepth 20000 in
theorem gX0_loseNoteAt_X0_isAt : GoodIn wsX0_loseNoteAt (wsV RX0 39 RX0 yX0_isAt wsX0_isAt) := goodIn_app (goodIn_of _ (by decide +kernel)) ggX0_loseNoteAt_X0_isAt
theorem dX0_loseNoteAt_0 : decode cX0_loseNoteAt 0 = .ok (.aload_n 0, 1) := by decide +kernel
theorem dX0_loseNoteAt_1 : decode cX0_loseNoteAt 1 = .ok (.iload_n 1, 1) := by decide +kernel
theorem dX0_loseNoteAt_2 : decode cX0_loseNoteAt 2 = .ok (.invokevirtual 39, 3) := by decide +kernel
theorem dX0_loseNoteAt_5 : decode cX0_loseNoteAt 5 = .ok (.ifCond .eq 12, 3) := by decide +kernel
theorem dX0_loseNoteAt_8 : decode cX0_loseNoteAt 8 = .ok (.aload_n 0, 1) := by decide +kernel
theorem dX0_loseNoteAt_9 : decode cX0_loseNoteAt 9 = .ok (.getfield 18, 3) := by decide +kernel
theorem dX0_loseNoteAt_12 : decode cX0_loseNoteAt 12 = .ok (.iload_n 1, 1) := by decide +kernel
theorem dX0_loseNoteAt_13 : decode cX0_loseNoteAt 13 = .ok (.sipush 300, 3) := by decide +kernel
theorem dX0_loseNoteAt_16 : decode cX0_loseNoteAt 16 = .ok (.iastore, 1) := by decide +kernel
theorem dX0_loseNoteAt_17 : decode cX0_loseNoteAt 17 = .ok (.return_, 1) := by decide +kernel
set_option maxRecDepth 20000 in
theorem ggX0_mark_X0_isAt : GoodIn wsX0_mark wsX0_isAt := goodIn_r _ [6, 7, 8, 9, 10, 11, 12] (by decide +kernel) (by decide +kernel)
set_option maxRecDepth 20000 in
theorem gX0_mark_X0_isAt : GoodIn wsX0_mark (wsV RX0 39 RX0 yX0_isAt wsX0_isAt) := goodIn_app (goodIn_of _ (by decide +kernel)) ggX0_mark_X0_isAt
theorem dX0_mark_0 : decode cX0_mark 0 = .ok (.aload_n 0, 1) := by decide +kernel
theorem dX0_mark_1 : decode cX0_mark 1 = .ok (.iload_n 1, 1) := by decide +kernel
theorem dX0_mark_2 : decode cX0_mark 2 = .ok (.invokevirtual 39, 3) := by decide +kernel
theorem dX0_mark_5 : decode cX0_mark 5 = .ok (.ifCond .eq 13, 3) := by decide +kernel
theorem dX0_mark_8 : decode cX0_mark 8 = .ok (.aload_n 0, 1) := by decide +kernel
theorem dX0_mark_9 : decode cX0_mark 9 = .ok (.getfield 21, 3) := by decide +kernel
theorem dX0_mark_12 : decode cX0_mark 12 = .ok (.iload_n 1, 1) := by decide +kernel
theorem dX0_mark_13 : decode cX0_mark 13 = .ok (.iaload, 1) := by decide +kernel
theorem dX0_mark_14 : decode cX0_mark 14 = .ok (.iconst 1, 1) := by decide +kernel
theorem dX0_mark_15 : decode cX0_mark 15 = .ok (.if_icmp .ne 5, 3) := by decide +kernel
theorem dX0_mark_18 : decode cX0_mark 18 = .ok (.iconst 0, 1) := by decide +kernel
theorem dX0_mark_19 : decode cX0_mark 19 = .ok (.ireturn, 1) := by decide +kernel
theorem dX0_mark_20 : decode cX0_mark 20 = .ok (.aload_n 0, 1) := by decide +kernel
theorem dX0_mark_21 : decode cX0_mark 21 = .ok (.getfield 21, 3) := by decide +kernel
theorem dX0_mark_24 : decode cX0_mark 24 = .ok (.iload_n 1, 1) := by decide +kernel
theorem dX0_mark_25 : decode cX0_mark 25 = .ok (.iconst 1, 1) := by decide +kernel
theorem dX0_mark_26 : decode cX0_mark 26 = .ok (.iastore, 1) := by decide +kernel
theorem dX0_mark_27 : decode cX0_mark 27 = .ok (.iconst 1, 1) := by decide +kernel
theorem dX0_mark_28 : decode cX0_mark 28 = .ok (.ireturn, 1) := by decide +kernel
set_option maxRecDepth 20000 in
theorem ggX0_setName_X0_isAt : GoodIn wsX0_setName wsX0_isAt := goodIn_r _ [6, 7, 11, 12, 13, 14, 15] (by decide +kernel) (by decide +kernel)
set_option maxRecDepth 20000 in
theorem gX0_setName_X0_isAt : GoodIn wsX0_setName (wsV RX0 39 RX0 yX0_isAt wsX0_isAt) := goodIn_app (goodIn_of _ (by decide +kernel)) ggX0_setName_X0_isAt
set_option maxRecDepth 20000 in
theorem ggX0_setName_X7_isName : GoodIn wsX0_setName wsX7_isName := goodIn_r _ [10] (by decide +kernel) (by decide +kernel)
set_option maxRecDepth 20000 in
theorem gX0_setName_X7_isName_n43 : GoodIn wsX0_setName (wsX7_isName) := ggX0_setName_X7_isName
theorem dX0_setName_0 : decode cX0_setName 0 = .ok (.aload_n 0, 1) := by decide +kernel
theorem dX0_setName_1 : decode cX0_setName 1 = .ok (.iload_n 1, 1) := by decide +kernel
theorem dX0_setName_2 : decode cX0_setName 2 = .ok (.invokevirtual 39, 3) := by decide +kernel
theorem dX0_setName_5 : decode cX0_setName 5 = .ok (.ifCond .eq 21, 3) := by decide +kernel
theorem dX0_setName_8 : decode cX0_setName 8 = .ok (.iload_n 2, 1) := by decide +kernel
theorem dX0_setName_9 : decode cX0_setName 9 = .ok (.invokestatic 43, 3) := by decide +kernel
theorem dX0_setName_12 : decode cX0_setName 12 = .ok (.ifCond .eq 14, 3) := by decide +kernel
theorem dX0_setName_15 : decode cX0_setName 15 = .ok (.aload_n 0, 1) := by decide +kernel
theorem dX0_setName_16 : decode cX0_setName 16 = .ok (.getfield 24, 3) := by decide +kernel
theorem dX0_setName_19 : decode cX0_setName 19 = .ok (.iload_n 1, 1) := by decide +kernel
theorem dX0_setName_20 : decode cX0_setName 20 = .ok (.iconst 2, 1) := by decide +kernel
theorem dX0_setName_21 : decode cX0_setName 21 = .ok (.imul, 1) := by decide +kernel
theorem dX0_setName_22 : decode cX0_setName 22 = .ok (.iload_n 2, 1) := by decide +kernel
theorem dX0_setName_23 : decode cX0_setName 23 = .ok (.iadd, 1) := by decide +kernel
theorem dX0_setName_24 : decode cX0_setName 24 = .ok (.iload_n 3, 1) := by decide +kernel
theorem dX0_setName_25 : decode cX0_setName 25 = .ok (.iastore, 1) := by decide +kernel
theorem dX0_setName_26 : decode cX0_setName 26 = .ok (.return_, 1) := by decide +kernel
theorem dX0_lay_0 : decode cX0_lay 0 = .ok (.iload_n 1, 1) := by decide +kernel
theorem dX0_lay_1 : decode cX0_lay 1 = .ok (.ifCond .lt 10, 3) := by decide +kernel
theorem dX0_lay_4 : decode cX0_lay 4 = .ok (.iload_n 1, 1) := by decide +kernel
theorem dX0_lay_5 : decode cX0_lay 5 = .ok (.sipush 260, 3) := by decide +kernel
theorem dX0_lay_8 : decode cX0_lay 8 = .ok (.if_icmp .lt 4, 3) := by decide +kernel
theorem dX0_lay_11 : decode cX0_lay 11 = .ok (.return_, 1) := by decide +kernel
theorem dX0_lay_12 : decode cX0_lay 12 = .ok (.aload_n 0, 1) := by decide +kernel
theorem dX0_lay_13 : decode cX0_lay 13 = .ok (.getfield 9, 3) := by decide +kernel
theorem dX0_lay_16 : decode cX0_lay 16 = .ok (.iload_n 1, 1) := by decide +kernel
theorem dX0_lay_17 : decode cX0_lay 17 = .ok (.iload_n 2, 1) := by decide +kernel
theorem dX0_lay_18 : decode cX0_lay 18 = .ok (.iastore, 1) := by decide +kernel
theorem dX0_lay_19 : decode cX0_lay 19 = .ok (.aload_n 0, 1) := by decide +kernel
theorem dX0_lay_20 : decode cX0_lay 20 = .ok (.getfield 15, 3) := by decide +kernel
theorem dX0_lay_23 : decode cX0_lay 23 = .ok (.iload_n 1, 1) := by decide +kernel
theorem dX0_lay_24 : decode cX0_lay 24 = .ok (.iload_n 3, 1) := by decide +kernel
theorem dX0_lay_25 : decode cX0_lay 25 = .ok (.iastore, 1) := by decide +kernel
theorem dX0_lay_26 : decode cX0_lay 26 = .ok (.aload_n 0, 1) := by decide +kernel
theorem dX0_lay_27 : decode cX0_lay 27 = .ok (.getfield 18, 3) := by decide +kernel
theorem dX0_lay_30 : decode cX0_lay 30 = .ok (.iload_n 1, 1) := by decide +kernel
theorem dX0_lay_31 : decode cX0_lay 31 = .ok (.sipush 300, 3) := by decide +kernel
theorem dX0_lay_34 : decode cX0_lay 34 = .ok (.iastore, 1) := by decide +kernel
theorem dX0_lay_35 : decode cX0_lay 35 = .ok (.aload_n 0, 1) := by decide +kernel
theorem dX0_lay_36 : decode cX0_lay 36 = .ok (.getfield 21, 3) := by decide +kernel
theorem dX0_lay_39 : decode cX0_lay 39 = .ok (.iload_n 1, 1) := by decide +kernel
theorem dX0_lay_40 : decode cX0_lay 40 = .ok (.iconst 0, 1) := by decide +kernel
theorem dX0_lay_41 : decode cX0_lay 41 = .ok (.iastore, 1) := by decide +kernel
theorem dX0_lay_42 : decode cX0_lay 42 = .ok (.aload_n 0, 1) := by decide +kernel
theorem dX0_lay_43 : decode cX0_lay 43 = .ok (.getfield 24, 3) := by decide +kernel
theorem dX0_lay_46 : decode cX0_lay 46 = .ok (.iload_n 1, 1) := by decide +kernel
theorem dX0_lay_47 : decode cX0_lay 47 = .ok (.iconst 2, 1) := by decide +kernel
theorem dX0_lay_48 : decode cX0_lay 48 = .ok (.imul, 1) := by decide +kernel
theorem dX0_lay_49 : decode cX0_lay 49 = .ok (.sipush 300, 3) := by decide +kernel
theorem dX0_lay_52 : decode cX0_lay 52 = .ok (.iastore, 1) := by decide +kernel
theorem dX0_lay_53 : decode cX0_lay 53 = .ok (.aload_n 0, 1) := by decide +kernel
theorem dX0_lay_54 : decode cX0_lay 54 = .ok (.getfield 24, 3) := by decide +kernel
theorem dX0_lay_57 : decode cX0_lay 57 = .ok (.iload_n 1, 1) := by decide +kernel
theorem dX0_lay_58 : decode cX0_lay 58 = .ok (.iconst 2, 1) := by decide +kernel
theorem dX0_lay_59 : decode cX0_lay 59 = .ok (.imul, 1) := by decide +kernel
theorem dX0_lay_60 : decode cX0_lay 60 = .ok (.iconst 1, 1) := by decide +kernel
theorem dX0_lay_61 : decode cX0_lay 61 = .ok (.iadd, 1) := by decide +kernel
theorem dX0_lay_62 : decode cX0_lay 62 = .ok (.sipush 300, 3) := by decide +kernel
theorem dX0_lay_65 : decode cX0_lay 65 = .ok (.iastore, 1) := by decide +kernel
theorem dX0_lay_66 : decode cX0_lay 66 = .ok (.return_, 1) := by decide +kernel
theorem dX0_layAgain_0 : decode cX0_layAgain 0 = .ok (.iload_n 1, 1) := by decide +kernel
theorem dX0_layAgain_1 : decode cX0_layAgain 1 = .ok (.ifCond .lt 21, 3) := by decide +kernel
theorem dX0_layAgain_4 : decode cX0_layAgain 4 = .ok (.iload_n 1, 1) := by decide +kernel
theorem dX0_layAgain_5 : decode cX0_layAgain 5 = .ok (.sipush 260, 3) := by decide +kernel
theorem dX0_layAgain_8 : decode cX0_layAgain 8 = .ok (.if_icmp .ge 14, 3) := by decide +kernel
theorem dX0_layAgain_11 : decode cX0_layAgain 11 = .ok (.iload_n 2, 1) := by decide +kernel
theorem dX0_layAgain_12 : decode cX0_layAgain 12 = .ok (.ifCond .lt 10, 3) := by decide +kernel
theorem dX0_layAgain_15 : decode cX0_layAgain 15 = .ok (.iload_n 2, 1) := by decide +kernel
theorem dX0_layAgain_16 : decode cX0_layAgain 16 = .ok (.sipush 260, 3) := by decide +kernel
theorem dX0_layAgain_19 : decode cX0_layAgain 19 = .ok (.if_icmp .lt 4, 3) := by decide +kernel
theorem dX0_layAgain_22 : decode cX0_layAgain 22 = .ok (.return_, 1) := by decide +kernel
theorem dX0_layAgain_23 : decode cX0_layAgain 23 = .ok (.aload_n 0, 1) := by decide +kernel
theorem dX0_layAgain_24 : decode cX0_layAgain 24 = .ok (.getfield 9, 3) := by decide +kernel
theorem dX0_layAgain_27 : decode cX0_layAgain 27 = .ok (.iload_n 2, 1) := by decide +kernel
theorem dX0_layAgain_28 : decode cX0_layAgain 28 = .ok (.aload_n 0, 1) := by decide +kernel
theorem dX0_layAgain_29 : decode cX0_layAgain 29 = .ok (.getfield 9, 3) := by decide +kernel
theorem dX0_layAgain_32 : decode cX0_layAgain 32 = .ok (.iload_n 1, 1) := by decide +kernel
theorem dX0_layAgain_33 : decode cX0_layAgain 33 = .ok (.iaload, 1) := by decide +kernel
theorem dX0_layAgain_34 : decode cX0_layAgain 34 = .ok (.iastore, 1) := by decide +kernel
theorem dX0_layAgain_35 : decode cX0_layAgain 35 = .ok (.aload_n 0, 1) := by decide +kernel
theorem dX0_layAgain_36 : decode cX0_layAgain 36 = .ok (.getfield 15, 3) := by decide +kernel
theorem dX0_layAgain_39 : decode cX0_layAgain 39 = .ok (.iload_n 2, 1) := by decide +kernel
theorem dX0_layAgain_40 : decode cX0_layAgain 40 = .ok (.aload_n 0, 1) := by decide +kernel
theorem dX0_layAgain_41 : decode cX0_layAgain 41 = .ok (.getfield 15, 3) := by decide +kernel
theorem dX0_layAgain_44 : decode cX0_layAgain 44 = .ok (.iload_n 1, 1) := by decide +kernel
theorem dX0_layAgain_45 : decode cX0_layAgain 45 = .ok (.iaload, 1) := by decide +kernel
theorem dX0_layAgain_46 : decode cX0_layAgain 46 = .ok (.iastore, 1) := by decide +kernel
theorem dX0_layAgain_47 : decode cX0_layAgain 47 = .ok (.aload_n 0, 1) := by decide +kernel
theorem dX0_layAgain_48 : decode cX0_layAgain 48 = .ok (.getfield 18, 3) := by decide +kernel
theorem dX0_layAgain_51 : decode cX0_layAgain 51 = .ok (.iload_n 2, 1) := by decide +kernel
theorem dX0_layAgain_52 : decode cX0_layAgain 52 = .ok (.sipush 300, 3) := by decide +kernel
theorem dX0_layAgain_55 : decode cX0_layAgain 55 = .ok (.iastore, 1) := by decide +kernel
theorem dX0_layAgain_56 : decode cX0_layAgain 56 = .ok (.aload_n 0, 1) := by decide +kernel
theorem dX0_layAgain_57 : decode cX0_layAgain 57 = .ok (.getfield 21, 3) := by decide +kernel
theorem dX0_layAgain_60 : decode cX0_layAgain 60 = .ok (.iload_n 2, 1) := by decide +kernel
theorem dX0_layAgain_61 : decode cX0_layAgain 61 = .ok (.iconst 0, 1) := by decide +kernel
theorem dX0_layAgain_62 : decode cX0_layAgain 62 = .ok (.iastore, 1) := by decide +kernel
theorem dX0_layAgain_63 : decode cX0_layAgain 63 = .ok (.aload_n 0, 1) := by decide +kernel
theorem dX0_layAgain_64 : decode cX0_layAgain 64 = .ok (.getfield 24, 3) := by decide +kernel
theorem dX0_layAgain_67 : decode cX0_layAgain 67 = .ok (.iload_n 2, 1) := by decide +kernel
theorem dX0_layAgain_68 : decode cX0_layAgain 68 = .ok (.iconst 2, 1) := by decide +kernel
theorem dX0_layAgain_69 : decode cX0_layAgain 69 = .ok (.imul, 1) := by decide +kernel
theorem dX0_layAgain_70 : decode cX0_layAgain 70 = .ok (.aload_n 0, 1) := by decide +kernel
theorem dX0_layAgain_71 : decode cX0_layAgain 71 = .ok (.getfield 24, 3) := by decide +kernel
theorem dX0_layAgain_74 : decode cX0_layAgain 74 = .ok (.iload_n 1, 1) := by decide +kernel
theorem dX0_layAgain_75 : decode cX0_layAgain 75 = .ok (.iconst 2, 1) := by decide +kernel
theorem dX0_layAgain_76 : decode cX0_layAgain 76 = .ok (.imul, 1) := by decide +kernel
theorem dX0_layAgain_77 : decode cX0_layAgain 77 = .ok (.iaload, 1) := by decide +kernel
theorem dX0_layAgain_78 : decode cX0_layAgain 78 = .ok (.iastore, 1) := by decide +kernel
theorem dX0_layAgain_79 : decode cX0_layAgain 79 = .ok (.aload_n 0, 1) := by decide +kernel
theorem dX0_layAgain_80 : decode cX0_layAgain 80 = .ok (.getfield 24, 3) := by decide +kernel
theorem dX0_layAgain_83 : decode cX0_layAgain 83 = .ok (.iload_n 2, 1) := by decide +kernel
theorem dX0_layAgain_84 : decode cX0_layAgain 84 = .ok (.iconst 2, 1) := by decide +kernel
theorem dX0_layAgain_85 : decode cX0_layAgain 85 = .ok (.imul, 1) := by decide +kernel
theorem dX0_layAgain_86 : decode cX0_layAgain 86 = .ok (.iconst 1, 1) := by decide +kernel
theorem dX0_layAgain_87 : decode cX0_layAgain 87 = .ok (.iadd, 1) := by decide +kernel
theorem dX0_layAgain_88 : decode cX0_layAgain 88 = .ok (.aload_n 0, 1) := by decide +kernel
theorem dX0_layAgain_89 : decode cX0_layAgain 89 = .ok (.getfield 24, 3) := by decide +kernel
theorem dX0_layAgain_92 : decode cX0_layAgain 92 = .ok (.iload_n 1, 1) := by decide +kernel
theorem dX0_layAgain_93 : decode cX0_layAgain 93 = .ok (.iconst 2, 1) := by decide +kernel
theorem dX0_layAgain_94 : decode cX0_layAgain 94 = .ok (.imul, 1) := by decide +kernel
theorem dX0_layAgain_95 : decode cX0_layAgain 95 = .ok (.iconst 1, 1) := by decide +kernel
theorem dX0_layAgain_96 : decode cX0_layAgain 96 = .ok (.iadd, 1) := by decide +kernel
theorem dX0_layAgain_97 : decode cX0_layAgain 97 = .ok (.iaload, 1) := by decide +kernel
theorem dX0_layAgain_98 : decode cX0_layAgain 98 = .ok (.iastore, 1) := by decide +kernel
theorem dX0_layAgain_99 : decode cX0_layAgain 99 = .ok (.aload_n 0, 1) := by decide +kernel
theorem dX0_layAgain_100 : decode cX0_layAgain 100 = .ok (.getfield 18, 3) := by decide +kernel
theorem dX0_layAgain_103 : decode cX0_layAgain 103 = .ok (.iload_n 1, 1) := by decide +kernel
theorem dX0_layAgain_104 : decode cX0_layAgain 104 = .ok (.iload_n 2, 1) := by decide +kernel
theorem dX0_layAgain_105 : decode cX0_layAgain 105 = .ok (.iastore, 1) := by decide +kernel
theorem dX0_layAgain_106 : decode cX0_layAgain 106 = .ok (.return_, 1) := by decide +kernel
theorem dX0_remove_0 : decode cX0_remove 0 = .ok (.iload_n 1, 1) := by decide +kernel
theorem dX0_remove_1 : decode cX0_remove 1 = .ok (.ifCond .lt 17, 3) := by decide +kernel
theorem dX0_remove_4 : decode cX0_remove 4 = .ok (.iload_n 1, 1) := by decide +kernel
theorem dX0_remove_5 : decode cX0_remove 5 = .ok (.sipush 260, 3) := by decide +kernel
theorem dX0_remove_8 : decode cX0_remove 8 = .ok (.if_icmp .ge 10, 3) := by decide +kernel
theorem dX0_remove_11 : decode cX0_remove 11 = .ok (.aload_n 0, 1) := by decide +kernel
theorem dX0_remove_12 : decode cX0_remove 12 = .ok (.getfield 15, 3) := by decide +kernel
theorem dX0_remove_15 : decode cX0_remove 15 = .ok (.iload_n 1, 1) := by decide +kernel
theorem dX0_remove_16 : decode cX0_remove 16 = .ok (.iconst 0, 1) := by decide +kernel
theorem dX0_remove_17 : decode cX0_remove 17 = .ok (.iastore, 1) := by decide +kernel
theorem dX0_remove_18 : decode cX0_remove 18 = .ok (.return_, 1) := by decide +kernel
set_option maxRecDepth 20000 in
theorem ggX0_addressOf_X0_isOf : GoodIn wsX0_addressOf wsX0_isOf := goodIn_r _ [5, 6, 7, 8, 9, 4, 10, 11, 12, 13, 14, 15, 16] (by decide +kernel) (by decide +kernel)
set_option maxRecDepth 20000 in
theorem gX0_addressOf_X0_isOf : GoodIn wsX0_addressOf (wsV RX0 46 RX0 yX0_isOf wsX0_isOf) := goodIn_app (goodIn_of _ (by decide +kernel)) ggX0_addressOf_X0_isOf
theorem dX0_addressOf_0 : decode cX0_addressOf 0 = .ok (.iconst 0, 1) := by decide +kernel
theorem dX0_addressOf_1 : decode cX0_addressOf 1 = .ok (.istore_n 3, 1) := by decide +kernel
theorem dX0_addressOf_2 : decode cX0_addressOf 2 = .ok (.iconst 0, 1) := by decide +kernel
theorem dX0_addressOf_3 : decode cX0_addressOf 3 = .ok (.istore 4, 2) := by decide +kernel
theorem dX0_addressOf_5 : decode cX0_addressOf 5 = .ok (.iload 4, 2) := by decide +kernel
theorem dX0_addressOf_7 : decode cX0_addressOf 7 = .ok (.sipush 260, 3) := by decide +kernel
theorem dX0_addressOf_10 : decode cX0_addressOf 10 = .ok (.if_icmp .ge 30, 3) := by decide +kernel
theorem dX0_addressOf_13 : decode cX0_addressOf 13 = .ok (.aload_n 0, 1) := by decide +kernel
theorem dX0_addressOf_14 : decode cX0_addressOf 14 = .ok (.iload_n 1, 1) := by decide +kernel
theorem dX0_addressOf_15 : decode cX0_addressOf 15 = .ok (.iload 4, 2) := by decide +kernel
theorem dX0_addressOf_17 : decode cX0_addressOf 17 = .ok (.invokevirtual 46, 3) := by decide +kernel
theorem dX0_addressOf_20 : decode cX0_addressOf 20 = .ok (.ifCond .eq 14, 3) := by decide +kernel
theorem dX0_addressOf_23 : decode cX0_addressOf 23 = .ok (.iload_n 3, 1) := by decide +kernel
theorem dX0_addressOf_24 : decode cX0_addressOf 24 = .ok (.iload_n 2, 1) := by decide +kernel
theorem dX0_addressOf_25 : decode cX0_addressOf 25 = .ok (.if_icmp .ne 6, 3) := by decide +kernel
theorem dX0_addressOf_28 : decode cX0_addressOf 28 = .ok (.iload 4, 2) := by decide +kernel
theorem dX0_addressOf_30 : decode cX0_addressOf 30 = .ok (.ireturn, 1) := by decide +kernel
theorem dX0_addressOf_31 : decode cX0_addressOf 31 = .ok (.iinc 3 1, 3) := by decide +kernel
theorem dX0_addressOf_34 : decode cX0_addressOf 34 = .ok (.iinc 4 1, 3) := by decide +kernel
theorem dX0_addressOf_37 : decode cX0_addressOf 37 = .ok (.goto (-32), 3) := by decide +kernel
theorem dX0_addressOf_40 : decode cX0_addressOf 40 = .ok (.sipush 300, 3) := by decide +kernel
theorem dX0_addressOf_43 : decode cX0_addressOf 43 = .ok (.ireturn, 1) := by decide +kernel
set_option maxRecDepth 20000 in
theorem ggX0_number_X0_isAt : GoodIn wsX0_number wsX0_isAt := goodIn_r _ [5, 6, 7, 8, 9, 10, 11] (by decide +kernel) (by decide +kernel)
set_option maxRecDepth 20000 in
theorem gX0_number_X0_isAt : GoodIn wsX0_number (wsV RX0 39 RX0 yX0_isAt wsX0_isAt) := goodIn_app (goodIn_of _ (by decide +kernel)) ggX0_number_X0_isAt
theorem dX0_number_0 : decode cX0_number 0 = .ok (.iconst 0, 1) := by decide +kernel
theorem dX0_number_1 : decode cX0_number 1 = .ok (.istore_n 1, 1) := by decide +kernel
theorem dX0_number_2 : decode cX0_number 2 = .ok (.iconst 0, 1) := by decide +kernel
theorem dX0_number_3 : decode cX0_number 3 = .ok (.istore_n 2, 1) := by decide +kernel
theorem dX0_number_4 : decode cX0_number 4 = .ok (.iload_n 2, 1) := by decide +kernel
theorem dX0_number_5 : decode cX0_number 5 = .ok (.sipush 260, 3) := by decide +kernel
theorem dX0_number_8 : decode cX0_number 8 = .ok (.if_icmp .ge 20, 3) := by decide +kernel
theorem dX0_number_11 : decode cX0_number 11 = .ok (.aload_n 0, 1) := by decide +kernel
theorem dX0_number_12 : decode cX0_number 12 = .ok (.iload_n 2, 1) := by decide +kernel
theorem dX0_number_13 : decode cX0_number 13 = .ok (.invokevirtual 39, 3) := by decide +kernel
theorem dX0_number_16 : decode cX0_number 16 = .ok (.ifCond .eq 6, 3) := by decide +kernel
theorem dX0_number_19 : decode cX0_number 19 = .ok (.iinc 1 1, 3) := by decide +kernel
theorem dX0_number_22 : decode cX0_number 22 = .ok (.iinc 2 1, 3) := by decide +kernel
theorem dX0_number_25 : decode cX0_number 25 = .ok (.goto (-21), 3) := by decide +kernel
theorem dX0_number_28 : decode cX0_number 28 = .ok (.iload_n 1, 1) := by decide +kernel
theorem dX0_number_29 : decode cX0_number 29 = .ok (.ireturn, 1) := by decide +kernel
set_option maxRecDepth 20000 in
theorem ggX0_floorTaken_X0_sizeAt : GoodIn wsX0_floorTaken wsX0_sizeAt := goodIn_r _ [5, 6, 7, 8, 9, 4, 10, 11, 12, 13, 14, 15] (by decide +kernel) (by decide +kernel)
set_option maxRecDepth 20000 in
theorem gX0_floorTaken_X0_sizeAt : GoodIn wsX0_floorTaken (wsV RX0 50 RX0 yX0_sizeAt wsX0_sizeAt) := goodIn_app (goodIn_of _ (by decide +kernel)) ggX0_floorTaken_X0_sizeAt
theorem dX0_floorTaken_0 : decode cX0_floorTaken 0 = .ok (.iconst 0, 1) := by decide +kernel
theorem dX0_floorTaken_1 : decode cX0_floorTaken 1 = .ok (.istore_n 1, 1) := by decide +kernel
theorem dX0_floorTaken_2 : decode cX0_floorTaken 2 = .ok (.iconst 0, 1) := by decide +kernel
theorem dX0_floorTaken_3 : decode cX0_floorTaken 3 = .ok (.istore_n 2, 1) := by decide +kernel
theorem dX0_floorTaken_4 : decode cX0_floorTaken 4 = .ok (.iload_n 2, 1) := by decide +kernel
theorem dX0_floorTaken_5 : decode cX0_floorTaken 5 = .ok (.bipush 60, 2) := by decide +kernel
theorem dX0_floorTaken_7 : decode cX0_floorTaken 7 = .ok (.if_icmp .ge 21, 3) := by decide +kernel
theorem dX0_floorTaken_10 : decode cX0_floorTaken 10 = .ok (.iload_n 1, 1) := by decide +kernel
theorem dX0_floorTaken_11 : decode cX0_floorTaken 11 = .ok (.aload_n 0, 1) := by decide +kernel
theorem dX0_floorTaken_12 : decode cX0_floorTaken 12 = .ok (.sipush 200, 3) := by decide +kernel
theorem dX0_floorTaken_15 : decode cX0_floorTaken 15 = .ok (.iload_n 2, 1) := by decide +kernel
theorem dX0_floorTaken_16 : decode cX0_floorTaken 16 = .ok (.iadd, 1) := by decide +kernel
theorem dX0_floorTaken_17 : decode cX0_floorTaken 17 = .ok (.invokevirtual 50, 3) := by decide +kernel
theorem dX0_floorTaken_20 : decode cX0_floorTaken 20 = .ok (.iadd, 1) := by decide +kernel
theorem dX0_floorTaken_21 : decode cX0_floorTaken 21 = .ok (.istore_n 1, 1) := by decide +kernel
theorem dX0_floorTaken_22 : decode cX0_floorTaken 22 = .ok (.iinc 2 1, 3) := by decide +kernel
theorem dX0_floorTaken_25 : decode cX0_floorTaken 25 = .ok (.goto (-21), 3) := by decide +kernel
theorem dX0_floorTaken_28 : decode cX0_floorTaken 28 = .ok (.iload_n 1, 1) := by decide +kernel
theorem dX0_floorTaken_29 : decode cX0_floorTaken 29 = .ok (.ireturn, 1) := by decide +kernel
set_option maxRecDepth 20000 in
theorem ggX0_floorAddressFor_X0_sizeAt : GoodIn wsX0_floorAddressFor wsX0_sizeAt := goodIn_r _ [5, 6, 7, 8, 9, 4, 10, 11, 12, 13, 14, 15] (by decide +kernel) (by decide +kernel)
set_option maxRecDepth 20000 in
theorem gX0_floorAddressFor_X0_sizeAt : GoodIn wsX0_floorAddressFor (wsV RX0 50 RX0 yX0_sizeAt wsX0_sizeAt) := goodIn_app (goodIn_of _ (by decide +kernel)) ggX0_floorAddressFor_X0_sizeAt
theorem dX0_floorAddressFor_0 : decode cX0_floorAddressFor 0 = .ok (.iconst 0, 1) := by decide +kernel
theorem dX0_floorAddressFor_1 : decode cX0_floorAddressFor 1 = .ok (.istore_n 2, 1) := by decide +kernel
theorem dX0_floorAddressFor_2 : decode cX0_floorAddressFor 2 = .ok (.iconst 0, 1) := by decide +kernel
theorem dX0_floorAddressFor_3 : decode cX0_floorAddressFor 3 = .ok (.istore_n 3, 1) := by decide +kernel
theorem dX0_floorAddressFor_4 : decode cX0_floorAddressFor 4 = .ok (.iload_n 3, 1) := by decide +kernel
theorem dX0_floorAddressFor_5 : decode cX0_floorAddressFor 5 = .ok (.bipush 60, 2) := by decide +kernel
theorem dX0_floorAddressFor_7 : decode cX0_floorAddressFor 7 = .ok (.if_icmp .ge 37, 3) := by decide +kernel
theorem dX0_floorAddressFor_10 : decode cX0_floorAddressFor 10 = .ok (.iload_n 3, 1) := by decide +kernel
theorem dX0_floorAddressFor_11 : decode cX0_floorAddressFor 11 = .ok (.iload_n 2, 1) := by decide +kernel
theorem dX0_floorAddressFor_12 : decode cX0_floorAddressFor 12 = .ok (.isub, 1) := by decide +kernel
theorem dX0_floorAddressFor_13 : decode cX0_floorAddressFor 13 = .ok (.iload_n 1, 1) := by decide +kernel
theorem dX0_floorAddressFor_14 : decode cX0_floorAddressFor 14 = .ok (.if_icmp .ge 30, 3) := by decide +kernel
theorem dX0_floorAddressFor_17 : decode cX0_floorAddressFor 17 = .ok (.aload_n 0, 1) := by decide +kernel
theorem dX0_floorAddressFor_18 : decode cX0_floorAddressFor 18 = .ok (.sipush 200, 3) := by decide +kernel
theorem dX0_floorAddressFor_21 : decode cX0_floorAddressFor 21 = .ok (.iload_n 3, 1) := by decide +kernel
theorem dX0_floorAddressFor_22 : decode cX0_floorAddressFor 22 = .ok (.iadd, 1) := by decide +kernel
theorem dX0_floorAddressFor_23 : decode cX0_floorAddressFor 23 = .ok (.invokevirtual 50, 3) := by decide +kernel
theorem dX0_floorAddressFor_26 : decode cX0_floorAddressFor 26 = .ok (.istore 4, 2) := by decide +kernel
theorem dX0_floorAddressFor_28 : decode cX0_floorAddressFor 28 = .ok (.iload 4, 2) := by decide +kernel
theorem dX0_floorAddressFor_30 : decode cX0_floorAddressFor 30 = .ok (.ifCond .le 8, 3) := by decide +kernel
theorem dX0_floorAddressFor_33 : decode cX0_floorAddressFor 33 = .ok (.iload_n 3, 1) := by decide +kernel
theorem dX0_floorAddressFor_34 : decode cX0_floorAddressFor 34 = .ok (.iload 4, 2) := by decide +kernel
theorem dX0_floorAddressFor_36 : decode cX0_floorAddressFor 36 = .ok (.iadd, 1) := by decide +kernel
theorem dX0_floorAddressFor_37 : decode cX0_floorAddressFor 37 = .ok (.istore_n 2, 1) := by decide +kernel
theorem dX0_floorAddressFor_38 : decode cX0_floorAddressFor 38 = .ok (.iinc 3 1, 3) := by decide +kernel
theorem dX0_floorAddressFor_41 : decode cX0_floorAddressFor 41 = .ok (.goto (-37), 3) := by decide +kernel
theorem dX0_floorAddressFor_44 : decode cX0_floorAddressFor 44 = .ok (.iload_n 2, 1) := by decide +kernel
theorem dX0_floorAddressFor_45 : decode cX0_floorAddressFor 45 = .ok (.iload_n 1, 1) := by decide +kernel
theorem dX0_floorAddressFor_46 : decode cX0_floorAddressFor 46 = .ok (.iadd, 1) := by decide +kernel
theorem dX0_floorAddressFor_47 : decode cX0_floorAddressFor 47 = .ok (.bipush 60, 2) := by decide +kernel
theorem dX0_floorAddressFor_49 : decode cX0_floorAddressFor 49 = .ok (.if_icmp .gt 11, 3) := by decide +kernel
theorem dX0_floorAddressFor_52 : decode cX0_floorAddressFor 52 = .ok (.sipush 200, 3) := by decide +kernel
theorem dX0_floorAddressFor_55 : decode cX0_floorAddressFor 55 = .ok (.iload_n 2, 1) := by decide +kernel
theorem dX0_floorAddressFor_56 : decode cX0_floorAddressFor 56 = .ok (.iadd, 1) := by decide +kernel
theorem dX0_floorAddressFor_57 : decode cX0_floorAddressFor 57 = .ok (.goto 6, 3) := by decide +kernel
theorem dX0_floorAddressFor_60 : decode cX0_floorAddressFor 60 = .ok (.sipush 300, 3) := by decide +kernel
theorem dX0_floorAddressFor_63 : decode cX0_floorAddressFor 63 = .ok (.ireturn, 1) := by decide +kernel
theorem dX0_replaceNames_0 : decode cX0_replaceNames 0 = .ok (.iconst 0, 1) := by decide +kernel
theorem dX0_replaceNames_1 : decode cX0_replaceNames 1 = .ok (.istore_n 3, 1) := by decide +kernel
theorem dX0_replaceNames_2 : decode cX0_replaceNames 2 = .ok (.iload_n 3, 1) := by decide +kernel
theorem dX0_replaceNames_3 : decode cX0_replaceNames 3 = .ok (.sipush 520, 3) := by decide +kernel
theorem dX0_replaceNames_6 : decode cX0_replaceNames 6 = .ok (.if_icmp .ge 26, 3) := by decide +kernel
theorem dX0_replaceNames_9 : decode cX0_replaceNames 9 = .ok (.aload_n 0, 1) := by decide +kernel
theorem dX0_replaceNames_10 : decode cX0_replaceNames 10 = .ok (.getfield 24, 3) := by decide +kernel
theorem dX0_replaceNames_13 : decode cX0_replaceNames 13 = .ok (.iload_n 3, 1) := by decide +kernel
theorem dX0_replaceNames_14 : decode cX0_replaceNames 14 = .ok (.iaload, 1) := by decide +kernel
theorem dX0_replaceNames_15 : decode cX0_replaceNames 15 = .ok (.iload_n 1, 1) := by decide +kernel
theorem dX0_replaceNames_16 : decode cX0_replaceNames 16 = .ok (.if_icmp .ne 10, 3) := by decide +kernel
theorem dX0_replaceNames_19 : decode cX0_replaceNames 19 = .ok (.aload_n 0, 1) := by decide +kernel
theorem dX0_replaceNames_20 : decode cX0_replaceNames 20 = .ok (.getfield 24, 3) := by decide +kernel
theorem dX0_replaceNames_23 : decode cX0_replaceNames 23 = .ok (.iload_n 3, 1) := by decide +kernel
theorem dX0_replaceNames_24 : decode cX0_replaceNames 24 = .ok (.iload_n 2, 1) := by decide +kernel
theorem dX0_replaceNames_25 : decode cX0_replaceNames 25 = .ok (.iastore, 1) := by decide +kernel
theorem dX0_replaceNames_26 : decode cX0_replaceNames 26 = .ok (.iinc 3 1, 3) := by decide +kernel
theorem dX0_replaceNames_29 : decode cX0_replaceNames 29 = .ok (.goto (-27), 3) := by decide +kernel
theorem dX0_replaceNames_32 : decode cX0_replaceNames 32 = .ok (.return_, 1) := by decide +kernel
set_option maxRecDepth 20000 in
theorem ggX0_emptyHalf_X0_remove : GoodIn wsX0_emptyHalf wsX0_remove := goodIn_r _ [5, 6, 7, 8, 9, 10, 11] (by decide +kernel) (by decide +kernel)
set_option maxRecDepth 20000 in
theorem gX0_emptyHalf_X0_remove : GoodIn wsX0_emptyHalf (wsV RX0 57 RX0 yX0_remove wsX0_remove) := goodIn_app (goodIn_of _ (by decide +kernel)) ggX0_emptyHalf_X0_remove
theorem dX0_emptyHalf_0 : decode cX0_emptyHalf 0 = .ok (.iconst 0, 1) := by decide +kernel
theorem dX0_emptyHalf_1 : decode cX0_emptyHalf 1 = .ok (.istore_n 2, 1) := by decide +kernel
theorem dX0_emptyHalf_2 : decode cX0_emptyHalf 2 = .ok (.iload_n 2, 1) := by decide +kernel
theorem dX0_emptyHalf_3 : decode cX0_emptyHalf 3 = .ok (.bipush 64, 2) := by decide +kernel
theorem dX0_emptyHalf_5 : decode cX0_emptyHalf 5 = .ok (.if_icmp .ge 19, 3) := by decide +kernel
theorem dX0_emptyHalf_8 : decode cX0_emptyHalf 8 = .ok (.aload_n 0, 1) := by decide +kernel
theorem dX0_emptyHalf_9 : decode cX0_emptyHalf 9 = .ok (.iload_n 1, 1) := by decide +kernel
theorem dX0_emptyHalf_10 : decode cX0_emptyHalf 10 = .ok (.bipush 100, 2) := by decide +kernel
theorem dX0_emptyHalf_12 : decode cX0_emptyHalf 12 = .ok (.imul, 1) := by decide +kernel
theorem dX0_emptyHalf_13 : decode cX0_emptyHalf 13 = .ok (.iload_n 2, 1) := by decide +kernel
theorem dX0_emptyHalf_14 : decode cX0_emptyHalf 14 = .ok (.iadd, 1) := by decide +kernel
theorem dX0_emptyHalf_15 : decode cX0_emptyHalf 15 = .ok (.invokevirtual 57, 3) := by decide +kernel
theorem dX0_emptyHalf_18 : decode cX0_emptyHalf 18 = .ok (.iinc 2 1, 3) := by decide +kernel
theorem dX0_emptyHalf_21 : decode cX0_emptyHalf 21 = .ok (.goto (-19), 3) := by decide +kernel
theorem dX0_emptyHalf_24 : decode cX0_emptyHalf 24 = .ok (.return_, 1) := by decide +kernel
set_option maxRecDepth 20000 in
theorem ggX0_sweepFloor_X0_remove : GoodIn wsX0_sweepFloor wsX0_remove := goodIn_r _ [6, 7, 8, 9, 10, 11, 12] (by decide +kernel) (by decide +kernel)
set_option maxRecDepth 20000 in
theorem gX0_sweepFloor_X0_remove : GoodIn wsX0_sweepFloor (wsV RX0 57 RX0 yX0_remove wsX0_remove) := goodIn_app (goodIn_of _ (by decide +kernel)) ggX0_sweepFloor_X0_remove
theorem dX0_sweepFloor_0 : decode cX0_sweepFloor 0 = .ok (.sipush 200, 3) := by decide +kernel
theorem dX0_sweepFloor_3 : decode cX0_sweepFloor 3 = .ok (.istore_n 1, 1) := by decide +kernel
theorem dX0_sweepFloor_4 : decode cX0_sweepFloor 4 = .ok (.iload_n 1, 1) := by decide +kernel
theorem dX0_sweepFloor_5 : decode cX0_sweepFloor 5 = .ok (.sipush 260, 3) := by decide +kernel
theorem dX0_sweepFloor_8 : decode cX0_sweepFloor 8 = .ok (.if_icmp .ge 30, 3) := by decide +kernel
theorem dX0_sweepFloor_11 : decode cX0_sweepFloor 11 = .ok (.aload_n 0, 1) := by decide +kernel
theorem dX0_sweepFloor_12 : decode cX0_sweepFloor 12 = .ok (.getfield 21, 3) := by decide +kernel
theorem dX0_sweepFloor_15 : decode cX0_sweepFloor 15 = .ok (.iload_n 1, 1) := by decide +kernel
theorem dX0_sweepFloor_16 : decode cX0_sweepFloor 16 = .ok (.iaload, 1) := by decide +kernel
theorem dX0_sweepFloor_17 : decode cX0_sweepFloor 17 = .ok (.ifCond .ne 8, 3) := by decide +kernel
theorem dX0_sweepFloor_20 : decode cX0_sweepFloor 20 = .ok (.aload_n 0, 1) := by decide +kernel
theorem dX0_sweepFloor_21 : decode cX0_sweepFloor 21 = .ok (.iload_n 1, 1) := by decide +kernel
theorem dX0_sweepFloor_22 : decode cX0_sweepFloor 22 = .ok (.invokevirtual 57, 3) := by decide +kernel
theorem dX0_sweepFloor_25 : decode cX0_sweepFloor 25 = .ok (.aload_n 0, 1) := by decide +kernel
theorem dX0_sweepFloor_26 : decode cX0_sweepFloor 26 = .ok (.getfield 21, 3) := by decide +kernel
theorem dX0_sweepFloor_29 : decode cX0_sweepFloor 29 = .ok (.iload_n 1, 1) := by decide +kernel
theorem dX0_sweepFloor_30 : decode cX0_sweepFloor 30 = .ok (.iconst 0, 1) := by decide +kernel
theorem dX0_sweepFloor_31 : decode cX0_sweepFloor 31 = .ok (.iastore, 1) := by decide +kernel
theorem dX0_sweepFloor_32 : decode cX0_sweepFloor 32 = .ok (.iinc 1 1, 3) := by decide +kernel
theorem dX0_sweepFloor_35 : decode cX0_sweepFloor 35 = .ok (.goto (-31), 3) := by decide +kernel
theorem dX0_sweepFloor_38 : decode cX0_sweepFloor 38 = .ok (.return_, 1) := by decide +kernel
theorem dX1_init_0 : decode cX1_init 0 = .ok (.aload_n 0, 1) := by decide +kernel
theorem dX1_init_1 : decode cX1_init 1 = .ok (.invokespecial 3, 3) := by decide +kernel
theorem dX1_init_4 : decode cX1_init 4 = .ok (.aload_n 0, 1) := by decide +kernel
theorem dX1_init_5 : decode cX1_init 5 = .ok (.iconst 3, 1) := by decide +kernel
theorem dX1_init_6 : decode cX1_init 6 = .ok (.newarray .int, 2) := by decide +kernel
theorem dX1_init_8 : decode cX1_init 8 = .ok (.putfield 9, 3) := by decide +kernel
theorem dX1_init_11 : decode cX1_init 11 = .ok (.return_, 1) := by decide +kernel
set_option maxRecDepth 20000 in
theorem ggX2_init_X5_init : GoodIn wsX2_init wsX5_init := goodIn_r _ [10, 11, 2, 3, 12, 13, 14, 15, 16, 17, 18, 19, 20, 21, 22, 23, 24, 25, 26, 27, 28, 29, 30, 31, 32, 33, 34, 35, 36, 37, 38, 39, 40, 44, 45, 46, 47, 48, 49, 50, 51, 52, 53, 54, 55, 56, 57, 58, 59, 60, 61] (by decide +kernel) (by decide +kernel)
set_option maxRecDepth 20000 in
theorem gX2_init_X5_init : GoodIn wsX2_init (wsX5_init) := ggX2_init_X5_init
theorem dX2_init_0 : decode cX2_init 0 = .ok (.aload_n 0, 1) := by decide +kernel
theorem dX2_init_1 : decode cX2_init 1 = .ok (.invokespecial 3, 3) := by decide +kernel
theorem dX2_init_4 : decode cX2_init 4 = .ok (.aload_n 0, 1) := by decide +kernel
theorem dX2_init_5 : decode cX2_init 5 = .ok (.bipush 6, 2) := by decide +kernel
theorem dX2_init_7 : decode cX2_init 7 = .ok (.anewarray 9, 3) := by decide +kernel
theorem dX2_init_10 : decode cX2_init 10 = .ok (.putfield 11, 3) := by decide +kernel
theorem dX2_init_13 : decode cX2_init 13 = .ok (.iconst 0, 1) := by decide +kernel
theorem dX2_init_14 : decode cX2_init 14 = .ok (.istore_n 1, 1) := by decide +kernel
theorem dX2_init_15 : decode cX2_init 15 = .ok (.iload_n 1, 1) := by decide +kernel
theorem dX2_init_16 : decode cX2_init 16 = .ok (.bipush 6, 2) := by decide +kernel
theorem dX2_init_18 : decode cX2_init 18 = .ok (.if_icmp .ge 22, 3) := by decide +kernel
theorem dX2_init_21 : decode cX2_init 21 = .ok (.aload_n 0, 1) := by decide +kernel
theorem dX2_init_22 : decode cX2_init 22 = .ok (.getfield 11, 3) := by decide +kernel
theorem dX2_init_25 : decode cX2_init 25 = .ok (.iload_n 1, 1) := by decide +kernel
theorem dX2_init_26 : decode cX2_init 26 = .ok (.new 9, 3) := by decide +kernel
theorem dX2_init_29 : decode cX2_init 29 = .ok (.dup, 1) := by decide +kernel
theorem dX2_init_30 : decode cX2_init 30 = .ok (.invokespecial 17, 3) := by decide +kernel
theorem dX2_init_33 : decode cX2_init 33 = .ok (.aastore, 1) := by decide +kernel
theorem dX2_init_34 : decode cX2_init 34 = .ok (.iinc 1 1, 3) := by decide +kernel
theorem dX2_init_37 : decode cX2_init 37 = .ok (.goto (-22), 3) := by decide +kernel
theorem dX2_init_40 : decode cX2_init 40 = .ok (.return_, 1) := by decide +kernel
theorem dX2_size_0 : decode cX2_size 0 = .ok (.aload_n 0, 1) := by decide +kernel
theorem dX2_size_1 : decode cX2_size 1 = .ok (.getfield 18, 3) := by decide +kernel
theorem dX2_size_4 : decode cX2_size 4 = .ok (.ireturn, 1) := by decide +kernel
set_option maxRecDepth 20000 in
theorem ggX2_slotOfDraft_J9_floorMod_7cf53 : GoodIn wsX2_slotOfDraft wsJ9_floorMod_7cf53 := goodIn_r _ [6] (by decide +kernel) (by decide +kernel)
set_option maxRecDepth 20000 in
theorem gX2_slotOfDraft_J9_floorMod_7cf53 : GoodIn wsX2_slotOfDraft (va_wsS RX2 25 yJ9_floorMod_7cf53 wsJ9_floorMod_7cf53) := goodIn_app (goodIn_of _ (by decide +kernel)) ggX2_slotOfDraft_J9_floorMod_7cf53
theorem dX2_slotOfDraft_0 : decode cX2_slotOfDraft 0 = .ok (.aload_n 0, 1) := by decide +kernel
theorem dX2_slotOfDraft_1 : decode cX2_slotOfDraft 1 = .ok (.getfield 22, 3) := by decide +kernel
theorem dX2_slotOfDraft_4 : decode cX2_slotOfDraft 4 = .ok (.aload_n 0, 1) := by decide +kernel
theorem dX2_slotOfDraft_5 : decode cX2_slotOfDraft 5 = .ok (.getfield 18, 3) := by decide +kernel
theorem dX2_slotOfDraft_8 : decode cX2_slotOfDraft 8 = .ok (.iadd, 1) := by decide +kernel
theorem dX2_slotOfDraft_9 : decode cX2_slotOfDraft 9 = .ok (.bipush 6, 2) := by decide +kernel
theorem dX2_slotOfDraft_11 : decode cX2_slotOfDraft 11 = .ok (.invokestatic 25, 3) := by decide +kernel
theorem dX2_slotOfDraft_14 : decode cX2_slotOfDraft 14 = .ok (.ireturn, 1) := by decide +kernel
set_option maxRecDepth 20000 in
theorem ggX2_draft_X2_slotOfDraft : GoodIn wsX2_draft wsX2_slotOfDraft := goodIn_r _ [6, 7, 8, 9, 10, 11, 12, 52, 53, 54] (by decide +kernel) (by decide +kernel)
set_option maxRecDepth 20000 in
theorem gX2_draft_X2_slotOfDraft : GoodIn wsX2_draft (wsV RX2 31 RX2 yX2_slotOfDraft wsX2_slotOfDraft) := goodIn_app (goodIn_of _ (by decide +kernel)) ggX2_draft_X2_slotOfDraft
set_option maxRecDepth 20000 in
theorem ggX2_draft_X5_become : GoodIn wsX2_draft wsX5_become := goodIn_r _ [17, 18, 19, 20, 21, 22, 23, 24, 25, 26, 27, 28, 29, 30, 31, 32, 33, 34, 35, 36, 37, 38, 39, 40, 41, 42, 43, 44, 45, 46, 47, 48, 49, 50, 51, 55, 56, 57, 58, 59, 60, 61, 62, 63, 64, 65, 66, 67, 68, 69, 70, 71, 72] (by decide +kernel) (by decide +kernel)
set_option maxRecDepth 20000 in
theorem gX2_draft_X5_become : GoodIn wsX2_draft (wsV RX2 35 RX5 yX5_become wsX5_become) := goodIn_app (goodIn_of _ (by decide +kernel)) ggX2_draft_X5_become
theorem dX2_draft_0 : decode cX2_draft 0 = .ok (.aload_n 0, 1) := by decide +kernel
theorem dX2_draft_1 : decode cX2_draft 1 = .ok (.getfield 11, 3) := by decide +kernel
theorem dX2_draft_4 : decode cX2_draft 4 = .ok (.aload_n 0, 1) := by decide +kernel
theorem dX2_draft_5 : decode cX2_draft 5 = .ok (.invokevirtual 31, 3) := by decide +kernel
theorem dX2_draft_8 : decode cX2_draft 8 = .ok (.aaload, 1) := by decide +kernel
theorem dX2_draft_9 : decode cX2_draft 9 = .ok (.astore_n 2, 1) := by decide +kernel
theorem dX2_draft_10 : decode cX2_draft 10 = .ok (.aload_n 2, 1) := by decide +kernel
theorem dX2_draft_11 : decode cX2_draft 11 = .ok (.ifnull 8, 3) := by decide +kernel
theorem dX2_draft_14 : decode cX2_draft 14 = .ok (.aload_n 2, 1) := by decide +kernel
theorem dX2_draft_15 : decode cX2_draft 15 = .ok (.aload_n 1, 1) := by decide +kernel
theorem dX2_draft_16 : decode cX2_draft 16 = .ok (.invokevirtual 35, 3) := by decide +kernel
theorem dX2_draft_19 : decode cX2_draft 19 = .ok (.return_, 1) := by decide +kernel
set_option maxRecDepth 20000 in
theorem ggX2_keepDraft_J9_floorMod_7cf53 : GoodIn wsX2_keepDraft wsJ9_floorMod_7cf53 := goodIn_r _ [6] (by decide +kernel) (by decide +kernel)
set_option maxRecDepth 20000 in
theorem gX2_keepDraft_J9_floorMod_7cf53 : GoodIn wsX2_keepDraft (va_wsS RX2 25 yJ9_floorMod_7cf53 wsJ9_floorMod_7cf53) := goodIn_app (goodIn_of _ (by decide +kernel)) ggX2_keepDraft_J9_floorMod_7cf53
theorem dX2_keepDraft_0 : decode cX2_keepDraft 0 = .ok (.aload_n 0, 1) := by decide +kernel
theorem dX2_keepDraft_1 : decode cX2_keepDraft 1 = .ok (.getfield 18, 3) := by decide +kernel
theorem dX2_keepDraft_4 : decode cX2_keepDraft 4 = .ok (.iconst 5, 1) := by decide +kernel
theorem dX2_keepDraft_5 : decode cX2_keepDraft 5 = .ok (.if_icmp .ge 16, 3) := by decide +kernel
theorem dX2_keepDraft_8 : decode cX2_keepDraft 8 = .ok (.aload_n 0, 1) := by decide +kernel
theorem dX2_keepDraft_9 : decode cX2_keepDraft 9 = .ok (.dup, 1) := by decide +kernel
theorem dX2_keepDraft_10 : decode cX2_keepDraft 10 = .ok (.getfield 18, 3) := by decide +kernel
theorem dX2_keepDraft_13 : decode cX2_keepDraft 13 = .ok (.iconst 1, 1) := by decide +kernel
theorem dX2_keepDraft_14 : decode cX2_keepDraft 14 = .ok (.iadd, 1) := by decide +kernel
theorem dX2_keepDraft_15 : decode cX2_keepDraft 15 = .ok (.putfield 18, 3) := by decide +kernel
theorem dX2_keepDraft_18 : decode cX2_keepDraft 18 = .ok (.goto 18, 3) := by decide +kernel
theorem dX2_keepDraft_21 : decode cX2_keepDraft 21 = .ok (.aload_n 0, 1) := by decide +kernel
theorem dX2_keepDraft_22 : decode cX2_keepDraft 22 = .ok (.aload_n 0, 1) := by decide +kernel
theorem dX2_keepDraft_23 : decode cX2_keepDraft 23 = .ok (.getfield 22, 3) := by decide +kernel
theorem dX2_keepDraft_26 : decode cX2_keepDraft 26 = .ok (.iconst 1, 1) := by decide +kernel
theorem dX2_keepDraft_27 : decode cX2_keepDraft 27 = .ok (.iadd, 1) := by decide +kernel
theorem dX2_keepDraft_28 : decode cX2_keepDraft 28 = .ok (.bipush 6, 2) := by decide +kernel
theorem dX2_keepDraft_30 : decode cX2_keepDraft 30 = .ok (.invokestatic 25, 3) := by decide +kernel
theorem dX2_keepDraft_33 : decode cX2_keepDraft 33 = .ok (.putfield 22, 3) := by decide +kernel
theorem dX2_keepDraft_36 : decode cX2_keepDraft 36 = .ok (.return_, 1) := by decide +kernel
theorem dX3_init_0 : decode cX3_init 0 = .ok (.aload_n 0, 1) := by decide +kernel
theorem dX3_init_1 : decode cX3_init 1 = .ok (.invokespecial 3, 3) := by decide +kernel
theorem dX3_init_4 : decode cX3_init 4 = .ok (.aload_n 0, 1) := by decide +kernel
theorem dX3_init_5 : decode cX3_init 5 = .ok (.bipush 124, 2) := by decide +kernel
theorem dX3_init_7 : decode cX3_init 7 = .ok (.newarray .int, 2) := by decide +kernel
theorem dX3_init_9 : decode cX3_init 9 = .ok (.putfield 9, 3) := by decide +kernel
theorem dX3_init_12 : decode cX3_init 12 = .ok (.return_, 1) := by decide +kernel
theorem dX3_become_0 : decode cX3_become 0 = .ok (.aload_n 1, 1) := by decide +kernel
theorem dX3_become_1 : decode cX3_become 1 = .ok (.getfield 9, 3) := by decide +kernel
theorem dX3_become_4 : decode cX3_become 4 = .ok (.iconst 0, 1) := by decide +kernel
theorem dX3_become_5 : decode cX3_become 5 = .ok (.aload_n 0, 1) := by decide +kernel
theorem dX3_become_6 : decode cX3_become 6 = .ok (.getfield 9, 3) := by decide +kernel
theorem dX3_become_9 : decode cX3_become 9 = .ok (.iconst 0, 1) := by decide +kernel
theorem dX3_become_10 : decode cX3_become 10 = .ok (.bipush 124, 2) := by decide +kernel
theorem dX3_become_12 : decode cX3_become 12 = .ok (.invokestatic 15, 3) := by decide +kernel
theorem dX3_become_15 : decode cX3_become 15 = .ok (.aload_n 0, 1) := by decide +kernel
theorem dX3_become_16 : decode cX3_become 16 = .ok (.aload_n 1, 1) := by decide +kernel
theorem dX3_become_17 : decode cX3_become 17 = .ok (.getfield 21, 3) := by decide +kernel
theorem dX3_become_20 : decode cX3_become 20 = .ok (.putfield 21, 3) := by decide +kernel
theorem dX3_become_23 : decode cX3_become 23 = .ok (.aload_n 0, 1) := by decide +kernel
theorem dX3_become_24 : decode cX3_become 24 = .ok (.aload_n 1, 1) := by decide +kernel
theorem dX3_become_25 : decode cX3_become 25 = .ok (.getfield 25, 3) := by decide +kernel
theorem dX3_become_28 : decode cX3_become 28 = .ok (.putfield 25, 3) := by decide +kernel
theorem dX3_become_31 : decode cX3_become 31 = .ok (.return_, 1) := by decide +kernel
theorem dX3_clear_0 : decode cX3_clear 0 = .ok (.aload_n 0, 1) := by decide +kernel
theorem dX3_clear_1 : decode cX3_clear 1 = .ok (.iconst 0, 1) := by decide +kernel
theorem dX3_clear_2 : decode cX3_clear 2 = .ok (.putfield 21, 3) := by decide +kernel
theorem dX3_clear_5 : decode cX3_clear 5 = .ok (.aload_n 0, 1) := by decide +kernel
theorem dX3_clear_6 : decode cX3_clear 6 = .ok (.iconst 0, 1) := by decide +kernel
theorem dX3_clear_7 : decode cX3_clear 7 = .ok (.putfield 25, 3) := by decide +kernel
theorem dX3_clear_10 : decode cX3_clear 10 = .ok (.return_, 1) := by decide +kernel
theorem dX3_size_0 : decode cX3_size 0 = .ok (.aload_n 0, 1) := by decide +kernel
theorem dX3_size_1 : decode cX3_size 1 = .ok (.getfield 25, 3) := by decide +kernel
theorem dX3_size_4 : decode cX3_size 4 = .ok (.aload_n 0, 1) := by decide +kernel
theorem dX3_size_5 : decode cX3_size 5 = .ok (.getfield 21, 3) := by decide +kernel
theorem dX3_size_8 : decode cX3_size 8 = .ok (.isub, 1) := by decide +kernel
theorem dX3_size_9 : decode cX3_size 9 = .ok (.ireturn, 1) := by decide +kernel
theorem dX3_join_0 : decode cX3_join 0 = .ok (.aload_n 0, 1) := by decide +kernel
theorem dX3_join_1 : decode cX3_join 1 = .ok (.getfield 25, 3) := by decide +kernel
theorem dX3_join_4 : decode cX3_join 4 = .ok (.ifCond .lt 32, 3) := by decide +kernel
theorem dX3_join_7 : decode cX3_join 7 = .ok (.aload_n 0, 1) := by decide +kernel
theorem dX3_join_8 : decode cX3_join 8 = .ok (.getfield 25, 3) := by decide +kernel
theorem dX3_join_11 : decode cX3_join 11 = .ok (.bipush 124, 2) := by decide +kernel
end
section
theorem dX3_join_13 : decode cX3_join 13 = .ok (.if_icmp .ge 23, 3) := by decide +kernel
theorem dX3_join_16 : decode cX3_join 16 = .ok (.aload_n 0, 1) := by decide +kernel
theorem dX3_join_17 : decode cX3_join 17 = .ok (.getfield 9, 3) := by decide +kernel
theorem dX3_join_20 : decode cX3_join 20 = .ok (.aload_n 0, 1) := by decide +kernel
theorem dX3_join_21 : decode cX3_join 21 = .ok (.getfield 25, 3) := by decide +kernel
theorem dX3_join_24 : decode cX3_join 24 = .ok (.iload_n 1, 1) := by decide +kernel
theorem dX3_join_25 : decode cX3_join 25 = .ok (.iastore, 1) := by decide +kernel
theorem dX3_join_26 : decode cX3_join 26 = .ok (.aload_n 0, 1) := by decide +kernel
theorem dX3_join_27 : decode cX3_join 27 = .ok (.dup, 1) := by decide +kernel
theorem dX3_join_28 : decode cX3_join 28 = .ok (.getfield 25, 3) := by decide +kernel
theorem dX3_join_31 : decode cX3_join 31 = .ok (.iconst 1, 1) := by decide +kernel
theorem dX3_join_32 : decode cX3_join 32 = .ok (.iadd, 1) := by decide +kernel
theorem dX3_join_33 : decode cX3_join 33 = .ok (.putfield 25, 3) := by decide +kernel
theorem dX3_join_36 : decode cX3_join 36 = .ok (.return_, 1) := by decide +kernel
theorem dX3_takeFirst_0 : decode cX3_takeFirst 0 = .ok (.aload_n 0, 1) := by decide +kernel
theorem dX3_takeFirst_1 : decode cX3_takeFirst 1 = .ok (.getfield 21, 3) := by decide +kernel
theorem dX3_takeFirst_4 : decode cX3_takeFirst 4 = .ok (.ifCond .lt 23, 3) := by decide +kernel
theorem dX3_takeFirst_7 : decode cX3_takeFirst 7 = .ok (.aload_n 0, 1) := by decide +kernel
theorem dX3_takeFirst_8 : decode cX3_takeFirst 8 = .ok (.getfield 21, 3) := by decide +kernel
theorem dX3_takeFirst_11 : decode cX3_takeFirst 11 = .ok (.aload_n 0, 1) := by decide +kernel
theorem dX3_takeFirst_12 : decode cX3_takeFirst 12 = .ok (.getfield 25, 3) := by decide +kernel
theorem dX3_takeFirst_15 : decode cX3_takeFirst 15 = .ok (.if_icmp .ge 12, 3) := by decide +kernel
theorem dX3_takeFirst_18 : decode cX3_takeFirst 18 = .ok (.aload_n 0, 1) := by decide +kernel
theorem dX3_takeFirst_19 : decode cX3_takeFirst 19 = .ok (.getfield 21, 3) := by decide +kernel
theorem dX3_takeFirst_22 : decode cX3_takeFirst 22 = .ok (.bipush 124, 2) := by decide +kernel
theorem dX3_takeFirst_24 : decode cX3_takeFirst 24 = .ok (.if_icmp .lt 7, 3) := by decide +kernel
theorem dX3_takeFirst_27 : decode cX3_takeFirst 27 = .ok (.sipush 300, 3) := by decide +kernel
theorem dX3_takeFirst_30 : decode cX3_takeFirst 30 = .ok (.ireturn, 1) := by decide +kernel
theorem dX3_takeFirst_31 : decode cX3_takeFirst 31 = .ok (.aload_n 0, 1) := by decide +kernel
theorem dX3_takeFirst_32 : decode cX3_takeFirst 32 = .ok (.dup, 1) := by decide +kernel
theorem dX3_takeFirst_33 : decode cX3_takeFirst 33 = .ok (.getfield 21, 3) := by decide +kernel
theorem dX3_takeFirst_36 : decode cX3_takeFirst 36 = .ok (.iconst 1, 1) := by decide +kernel
theorem dX3_takeFirst_37 : decode cX3_takeFirst 37 = .ok (.iadd, 1) := by decide +kernel
theorem dX3_takeFirst_38 : decode cX3_takeFirst 38 = .ok (.putfield 21, 3) := by decide +kernel
theorem dX3_takeFirst_41 : decode cX3_takeFirst 41 = .ok (.aload_n 0, 1) := by decide +kernel
theorem dX3_takeFirst_42 : decode cX3_takeFirst 42 = .ok (.getfield 9, 3) := by decide +kernel
theorem dX3_takeFirst_45 : decode cX3_takeFirst 45 = .ok (.aload_n 0, 1) := by decide +kernel
theorem dX3_takeFirst_46 : decode cX3_takeFirst 46 = .ok (.getfield 21, 3) := by decide +kernel
theorem dX3_takeFirst_49 : decode cX3_takeFirst 49 = .ok (.iconst 1, 1) := by decide +kernel
theorem dX3_takeFirst_50 : decode cX3_takeFirst 50 = .ok (.isub, 1) := by decide +kernel
theorem dX3_takeFirst_51 : decode cX3_takeFirst 51 = .ok (.iaload, 1) := by decide +kernel
theorem dX3_takeFirst_52 : decode cX3_takeFirst 52 = .ok (.ireturn, 1) := by decide +kernel
theorem dX4_init_0 : decode cX4_init 0 = .ok (.aload_n 0, 1) := by decide +kernel
theorem dX4_init_1 : decode cX4_init 1 = .ok (.invokespecial 3, 3) := by decide +kernel
theorem dX4_init_4 : decode cX4_init 4 = .ok (.aload_n 0, 1) := by decide +kernel
theorem dX4_init_5 : decode cX4_init 5 = .ok (.sipush 260, 3) := by decide +kernel
theorem dX4_init_8 : decode cX4_init 8 = .ok (.newarray .boolean, 2) := by decide +kernel
theorem dX4_init_10 : decode cX4_init 10 = .ok (.putfield 9, 3) := by decide +kernel
theorem dX4_init_13 : decode cX4_init 13 = .ok (.aload_n 0, 1) := by decide +kernel
theorem dX4_init_14 : decode cX4_init 14 = .ok (.sipush 260, 3) := by decide +kernel
theorem dX4_init_17 : decode cX4_init 17 = .ok (.newarray .int, 2) := by decide +kernel
theorem dX4_init_19 : decode cX4_init 19 = .ok (.putfield 15, 3) := by decide +kernel
theorem dX4_init_22 : decode cX4_init 22 = .ok (.aload_n 0, 1) := by decide +kernel
theorem dX4_init_23 : decode cX4_init 23 = .ok (.bipush 40, 2) := by decide +kernel
theorem dX4_init_25 : decode cX4_init 25 = .ok (.newarray .boolean, 2) := by decide +kernel
theorem dX4_init_27 : decode cX4_init 27 = .ok (.putfield 19, 3) := by decide +kernel
theorem dX4_init_30 : decode cX4_init 30 = .ok (.return_, 1) := by decide +kernel
set_option maxRecDepth 20000 in
theorem ggX5_init_X0_init : GoodIn wsX5_init wsX0_init := goodIn_r _ [17, 18, 2, 3, 4, 19, 20, 21, 22, 23, 24, 25, 26, 27, 43, 44, 45, 46, 47] (by decide +kernel) (by decide +kernel)
set_option maxRecDepth 20000 in
theorem gX5_init_X0_init : GoodIn wsX5_init (wsX0_init) := ggX5_init_X0_init
set_option maxRecDepth 20000 in
theorem ggX5_init_X3_init : GoodIn wsX5_init wsX3_init := goodIn_r _ [29, 30, 2, 3, 4, 31, 48, 49, 50] (by decide +kernel) (by decide +kernel)
set_option maxRecDepth 20000 in
theorem gX5_init_X3_init_n24 : GoodIn wsX5_init (wsX3_init) := ggX5_init_X3_init
set_option maxRecDepth 20000 in
theorem ggX5_init_J7_fill_53178 : GoodIn wsX5_init wsJ7_fill_53178 := goodIn_r _ [27] (by decide +kernel) (by decide +kernel)
set_option maxRecDepth 20000 in
theorem gX5_init_J7_fill_53178 : GoodIn wsX5_init (va_wsS RX5 33 yJ7_fill_53178 wsJ7_fill_53178) := goodIn_app (goodIn_of _ (by decide +kernel)) ggX5_init_J7_fill_53178
theorem dX5_init_0 : decode cX5_init 0 = .ok (.aload_n 0, 1) := by decide +kernel
theorem dX5_init_1 : decode cX5_init 1 = .ok (.invokespecial 3, 3) := by decide +kernel
theorem dX5_init_4 : decode cX5_init 4 = .ok (.aload_n 0, 1) := by decide +kernel
theorem dX5_init_5 : decode cX5_init 5 = .ok (.bipush 8, 2) := by decide +kernel
theorem dX5_init_7 : decode cX5_init 7 = .ok (.newarray .int, 2) := by decide +kernel
theorem dX5_init_9 : decode cX5_init 9 = .ok (.putfield 9, 3) := by decide +kernel
theorem dX5_init_12 : decode cX5_init 12 = .ok (.aload_n 0, 1) := by decide +kernel
theorem dX5_init_13 : decode cX5_init 13 = .ok (.new 15, 3) := by decide +kernel
theorem dX5_init_16 : decode cX5_init 16 = .ok (.dup, 1) := by decide +kernel
theorem dX5_init_17 : decode cX5_init 17 = .ok (.invokespecial 17, 3) := by decide +kernel
theorem dX5_init_20 : decode cX5_init 20 = .ok (.putfield 18, 3) := by decide +kernel
theorem dX5_init_23 : decode cX5_init 23 = .ok (.aload_n 0, 1) := by decide +kernel
theorem dX5_init_24 : decode cX5_init 24 = .ok (.new 22, 3) := by decide +kernel
theorem dX5_init_27 : decode cX5_init 27 = .ok (.dup, 1) := by decide +kernel
theorem dX5_init_28 : decode cX5_init 28 = .ok (.invokespecial 24, 3) := by decide +kernel
theorem dX5_init_31 : decode cX5_init 31 = .ok (.putfield 25, 3) := by decide +kernel
theorem dX5_init_34 : decode cX5_init 34 = .ok (.aload_n 0, 1) := by decide +kernel
theorem dX5_init_35 : decode cX5_init 35 = .ok (.bipush 6, 2) := by decide +kernel
theorem dX5_init_37 : decode cX5_init 37 = .ok (.putfield 29, 3) := by decide +kernel
theorem dX5_init_40 : decode cX5_init 40 = .ok (.aload_n 0, 1) := by decide +kernel
theorem dX5_init_41 : decode cX5_init 41 = .ok (.getfield 9, 3) := by decide +kernel
theorem dX5_init_44 : decode cX5_init 44 = .ok (.sipush 300, 3) := by decide +kernel
theorem dX5_init_47 : decode cX5_init 47 = .ok (.invokestatic 33, 3) := by decide +kernel
theorem dX5_init_50 : decode cX5_init 50 = .ok (.return_, 1) := by decide +kernel
set_option maxRecDepth 20000 in
theorem ggX5_become_X0_become : GoodIn wsX5_become wsX0_become := goodIn_r _ [19, 20, 21, 3, 4, 5, 22, 23, 24, 25, 45, 46, 47, 48, 49] (by decide +kernel) (by decide +kernel)
set_option maxRecDepth 20000 in
theorem gX5_become_X0_become : GoodIn wsX5_become (wsV RX5 45 RX0 yX0_become wsX0_become) := goodIn_app (goodIn_of _ (by decide +kernel)) ggX5_become_X0_become
set_option maxRecDepth 20000 in
theorem ggX5_become_X3_become : GoodIn wsX5_become wsX3_become := goodIn_r _ [30, 31, 32, 3, 4, 5, 33, 34, 50, 51, 52] (by decide +kernel) (by decide +kernel)
set_option maxRecDepth 20000 in
theorem gX5_become_X3_become : GoodIn wsX5_become (wsV RX5 49 RX3 yX3_become wsX3_become) := goodIn_app (goodIn_of _ (by decide +kernel)) ggX5_become_X3_become
theorem dX5_become_0 : decode cX5_become 0 = .ok (.aload_n 1, 1) := by decide +kernel
theorem dX5_become_1 : decode cX5_become 1 = .ok (.getfield 9, 3) := by decide +kernel
theorem dX5_become_4 : decode cX5_become 4 = .ok (.iconst 0, 1) := by decide +kernel
theorem dX5_become_5 : decode cX5_become 5 = .ok (.aload_n 0, 1) := by decide +kernel
theorem dX5_become_6 : decode cX5_become 6 = .ok (.getfield 9, 3) := by decide +kernel
theorem dX5_become_9 : decode cX5_become 9 = .ok (.iconst 0, 1) := by decide +kernel
theorem dX5_become_10 : decode cX5_become 10 = .ok (.bipush 8, 2) := by decide +kernel
theorem dX5_become_12 : decode cX5_become 12 = .ok (.invokestatic 39, 3) := by decide +kernel
theorem dX5_become_15 : decode cX5_become 15 = .ok (.aload_n 0, 1) := by decide +kernel
theorem dX5_become_16 : decode cX5_become 16 = .ok (.getfield 18, 3) := by decide +kernel
theorem dX5_become_19 : decode cX5_become 19 = .ok (.aload_n 1, 1) := by decide +kernel
theorem dX5_become_20 : decode cX5_become 20 = .ok (.getfield 18, 3) := by decide +kernel
theorem dX5_become_23 : decode cX5_become 23 = .ok (.invokevirtual 45, 3) := by decide +kernel
theorem dX5_become_26 : decode cX5_become 26 = .ok (.aload_n 0, 1) := by decide +kernel
theorem dX5_become_27 : decode cX5_become 27 = .ok (.getfield 25, 3) := by decide +kernel
theorem dX5_become_30 : decode cX5_become 30 = .ok (.aload_n 1, 1) := by decide +kernel
theorem dX5_become_31 : decode cX5_become 31 = .ok (.getfield 25, 3) := by decide +kernel
theorem dX5_become_34 : decode cX5_become 34 = .ok (.invokevirtual 49, 3) := by decide +kernel
theorem dX5_become_37 : decode cX5_become 37 = .ok (.aload_n 0, 1) := by decide +kernel
theorem dX5_become_38 : decode cX5_become 38 = .ok (.aload_n 1, 1) := by decide +kernel
theorem dX5_become_39 : decode cX5_become 39 = .ok (.getfield 29, 3) := by decide +kernel
theorem dX5_become_42 : decode cX5_become 42 = .ok (.putfield 29, 3) := by decide +kernel
theorem dX5_become_45 : decode cX5_become 45 = .ok (.aload_n 0, 1) := by decide +kernel
theorem dX5_become_46 : decode cX5_become 46 = .ok (.aload_n 1, 1) := by decide +kernel
theorem dX5_become_47 : decode cX5_become 47 = .ok (.getfield 52, 3) := by decide +kernel
theorem dX5_become_50 : decode cX5_become 50 = .ok (.putfield 52, 3) := by decide +kernel
theorem dX5_become_53 : decode cX5_become 53 = .ok (.aload_n 0, 1) := by decide +kernel
theorem dX5_become_54 : decode cX5_become 54 = .ok (.aload_n 1, 1) := by decide +kernel
theorem dX5_become_55 : decode cX5_become 55 = .ok (.getfield 55, 3) := by decide +kernel
theorem dX5_become_58 : decode cX5_become 58 = .ok (.putfield 55, 3) := by decide +kernel
theorem dX5_become_61 : decode cX5_become 61 = .ok (.aload_n 0, 1) := by decide +kernel
theorem dX5_become_62 : decode cX5_become 62 = .ok (.aload_n 1, 1) := by decide +kernel
theorem dX5_become_63 : decode cX5_become 63 = .ok (.getfield 59, 3) := by decide +kernel
theorem dX5_become_66 : decode cX5_become 66 = .ok (.putfield 59, 3) := by decide +kernel
theorem dX5_become_69 : decode cX5_become 69 = .ok (.aload_n 0, 1) := by decide +kernel
theorem dX5_become_70 : decode cX5_become 70 = .ok (.aload_n 1, 1) := by decide +kernel
theorem dX5_become_71 : decode cX5_become 71 = .ok (.getfield 62, 3) := by decide +kernel
theorem dX5_become_74 : decode cX5_become 74 = .ok (.putfield 62, 3) := by decide +kernel
theorem dX5_become_77 : decode cX5_become 77 = .ok (.aload_n 0, 1) := by decide +kernel
theorem dX5_become_78 : decode cX5_become 78 = .ok (.aload_n 1, 1) := by decide +kernel
theorem dX5_become_79 : decode cX5_become 79 = .ok (.getfield 65, 3) := by decide +kernel
theorem dX5_become_82 : decode cX5_become 82 = .ok (.putfield 65, 3) := by decide +kernel
theorem dX5_become_85 : decode cX5_become 85 = .ok (.aload_n 0, 1) := by decide +kernel
theorem dX5_become_86 : decode cX5_become 86 = .ok (.aload_n 1, 1) := by decide +kernel
theorem dX5_become_87 : decode cX5_become 87 = .ok (.getfield 68, 3) := by decide +kernel
theorem dX5_become_90 : decode cX5_become 90 = .ok (.putfield 68, 3) := by decide +kernel
theorem dX5_become_93 : decode cX5_become 93 = .ok (.return_, 1) := by decide +kernel
theorem dX5_isThing_0 : decode cX5_isThing 0 = .ok (.iload_n 1, 1) := by decide +kernel
theorem dX5_isThing_1 : decode cX5_isThing 1 = .ok (.ifCond .lt 15, 3) := by decide +kernel
theorem dX5_isThing_4 : decode cX5_isThing 4 = .ok (.iload_n 1, 1) := by decide +kernel
theorem dX5_isThing_5 : decode cX5_isThing 5 = .ok (.aload_n 0, 1) := by decide +kernel
theorem dX5_isThing_6 : decode cX5_isThing 6 = .ok (.getfield 52, 3) := by decide +kernel
theorem dX5_isThing_9 : decode cX5_isThing 9 = .ok (.if_icmp .ge 7, 3) := by decide +kernel
theorem dX5_isThing_12 : decode cX5_isThing 12 = .ok (.iconst 1, 1) := by decide +kernel
theorem dX5_isThing_13 : decode cX5_isThing 13 = .ok (.goto 4, 3) := by decide +kernel
theorem dX5_isThing_16 : decode cX5_isThing 16 = .ok (.iconst 0, 1) := by decide +kernel
theorem dX5_isThing_17 : decode cX5_isThing 17 = .ok (.ireturn, 1) := by decide +kernel
set_option maxRecDepth 20000 in
theorem ggX5_hungOn_X7_isHook : GoodIn wsX5_hungOn wsX7_isHook := goodIn_r _ [4] (by decide +kernel) (by decide +kernel)
set_option maxRecDepth 20000 in
theorem gX5_hungOn_X7_isHook_n71 : GoodIn wsX5_hungOn (wsX7_isHook) := ggX5_hungOn_X7_isHook
theorem dX5_hungOn_0 : decode cX5_hungOn 0 = .ok (.iload_n 1, 1) := by decide +kernel
theorem dX5_hungOn_1 : decode cX5_hungOn 1 = .ok (.invokestatic 71, 3) := by decide +kernel
theorem dX5_hungOn_4 : decode cX5_hungOn 4 = .ok (.ifCond .eq 12, 3) := by decide +kernel
theorem dX5_hungOn_7 : decode cX5_hungOn 7 = .ok (.aload_n 0, 1) := by decide +kernel
theorem dX5_hungOn_8 : decode cX5_hungOn 8 = .ok (.getfield 9, 3) := by decide +kernel
theorem dX5_hungOn_11 : decode cX5_hungOn 11 = .ok (.iload_n 1, 1) := by decide +kernel
theorem dX5_hungOn_12 : decode cX5_hungOn 12 = .ok (.iaload, 1) := by decide +kernel
theorem dX5_hungOn_13 : decode cX5_hungOn 13 = .ok (.goto 6, 3) := by decide +kernel
theorem dX5_hungOn_16 : decode cX5_hungOn 16 = .ok (.sipush 300, 3) := by decide +kernel
theorem dX5_hungOn_19 : decode cX5_hungOn 19 = .ok (.ireturn, 1) := by decide +kernel
theorem dX5_freeInHalf_0 : decode cX5_freeInHalf 0 = .ok (.bipush 64, 2) := by decide +kernel
theorem dX5_freeInHalf_2 : decode cX5_freeInHalf 2 = .ok (.aload_n 0, 1) := by decide +kernel
theorem dX5_freeInHalf_3 : decode cX5_freeInHalf 3 = .ok (.getfield 62, 3) := by decide +kernel
theorem dX5_freeInHalf_6 : decode cX5_freeInHalf 6 = .ok (.isub, 1) := by decide +kernel
theorem dX5_freeInHalf_7 : decode cX5_freeInHalf 7 = .ok (.ireturn, 1) := by decide +kernel
theorem dX5_addressOfHalf_0 : decode cX5_addressOfHalf 0 = .ok (.iload_n 1, 1) := by decide +kernel
theorem dX5_addressOfHalf_1 : decode cX5_addressOfHalf 1 = .ok (.bipush 100, 2) := by decide +kernel
theorem dX5_addressOfHalf_3 : decode cX5_addressOfHalf 3 = .ok (.imul, 1) := by decide +kernel
theorem dX5_addressOfHalf_4 : decode cX5_addressOfHalf 4 = .ok (.ireturn, 1) := by decide +kernel
set_option maxRecDepth 20000 in
theorem ggX5_isInOldHalf_X5_addressOfHalf : GoodIn wsX5_isInOldHalf wsX5_addressOfHalf := goodIn_r _ [7] (by decide +kernel) (by decide +kernel)
set_option maxRecDepth 20000 in
theorem gX5_isInOldHalf_X5_addressOfHalf : GoodIn wsX5_isInOldHalf (wsV RX5 75 RX5 yX5_addressOfHalf wsX5_addressOfHalf) := goodIn_app (goodIn_of _ (by decide +kernel)) ggX5_isInOldHalf_X5_addressOfHalf
theorem dX5_isInOldHalf_0 : decode cX5_isInOldHalf 0 = .ok (.iload_n 1, 1) := by decide +kernel
theorem dX5_isInOldHalf_1 : decode cX5_isInOldHalf 1 = .ok (.aload_n 0, 1) := by decide +kernel
theorem dX5_isInOldHalf_2 : decode cX5_isInOldHalf 2 = .ok (.iconst 1, 1) := by decide +kernel
theorem dX5_isInOldHalf_3 : decode cX5_isInOldHalf 3 = .ok (.aload_n 0, 1) := by decide +kernel
theorem dX5_isInOldHalf_4 : decode cX5_isInOldHalf 4 = .ok (.getfield 59, 3) := by decide +kernel
theorem dX5_isInOldHalf_7 : decode cX5_isInOldHalf 7 = .ok (.isub, 1) := by decide +kernel
theorem dX5_isInOldHalf_8 : decode cX5_isInOldHalf 8 = .ok (.invokevirtual 75, 3) := by decide +kernel
theorem dX5_isInOldHalf_11 : decode cX5_isInOldHalf 11 = .ok (.isub, 1) := by decide +kernel
theorem dX5_isInOldHalf_12 : decode cX5_isInOldHalf 12 = .ok (.istore_n 2, 1) := by decide +kernel
theorem dX5_isInOldHalf_13 : decode cX5_isInOldHalf 13 = .ok (.aload_n 0, 1) := by decide +kernel
theorem dX5_isInOldHalf_14 : decode cX5_isInOldHalf 14 = .ok (.getfield 55, 3) := by decide +kernel
theorem dX5_isInOldHalf_17 : decode cX5_isInOldHalf 17 = .ok (.ifCond .eq 17, 3) := by decide +kernel
theorem dX5_isInOldHalf_20 : decode cX5_isInOldHalf 20 = .ok (.iload_n 2, 1) := by decide +kernel
theorem dX5_isInOldHalf_21 : decode cX5_isInOldHalf 21 = .ok (.ifCond .lt 13, 3) := by decide +kernel
theorem dX5_isInOldHalf_24 : decode cX5_isInOldHalf 24 = .ok (.iload_n 2, 1) := by decide +kernel
theorem dX5_isInOldHalf_25 : decode cX5_isInOldHalf 25 = .ok (.bipush 64, 2) := by decide +kernel
theorem dX5_isInOldHalf_27 : decode cX5_isInOldHalf 27 = .ok (.if_icmp .ge 7, 3) := by decide +kernel
theorem dX5_isInOldHalf_30 : decode cX5_isInOldHalf 30 = .ok (.iconst 1, 1) := by decide +kernel
theorem dX5_isInOldHalf_31 : decode cX5_isInOldHalf 31 = .ok (.goto 4, 3) := by decide +kernel
theorem dX5_isInOldHalf_34 : decode cX5_isInOldHalf 34 = .ok (.iconst 0, 1) := by decide +kernel
theorem dX5_isInOldHalf_35 : decode cX5_isInOldHalf 35 = .ok (.ireturn, 1) := by decide +kernel
set_option maxRecDepth 20000 in
theorem ggX5_roomKept_X5_addressOfHalf : GoodIn wsX5_roomKept wsX5_addressOfHalf := goodIn_r _ [8] (by decide +kernel) (by decide +kernel)
set_option maxRecDepth 20000 in
theorem gX5_roomKept_X5_addressOfHalf : GoodIn wsX5_roomKept (wsV RX5 75 RX5 yX5_addressOfHalf wsX5_addressOfHalf) := goodIn_app (goodIn_of _ (by decide +kernel)) ggX5_roomKept_X5_addressOfHalf
set_option maxRecDepth 20000 in
theorem ggX5_roomKept_X0_noteAt : GoodIn wsX5_roomKept wsX0_noteAt := goodIn_r _ [13, 14, 15, 16, 17, 12, 18, 19, 34, 35, 36, 37, 38] (by decide +kernel) (by decide +kernel)
set_option maxRecDepth 20000 in
theorem gX5_roomKept_X0_noteAt : GoodIn wsX5_roomKept (wsV RX5 79 RX0 yX0_noteAt wsX0_noteAt) := goodIn_app (goodIn_of _ (by decide +kernel)) ggX5_roomKept_X0_noteAt
set_option maxRecDepth 20000 in
theorem ggX5_roomKept_X0_sizeAt : GoodIn wsX5_roomKept wsX0_sizeAt := goodIn_r _ [23, 19, 15, 16, 17, 12, 18, 34, 35, 36, 37, 38] (by decide +kernel) (by decide +kernel)
set_option maxRecDepth 20000 in
theorem gX5_roomKept_X0_sizeAt : GoodIn wsX5_roomKept (wsV RX5 82 RX0 yX0_sizeAt wsX0_sizeAt) := goodIn_app (goodIn_of _ (by decide +kernel)) ggX5_roomKept_X0_sizeAt
theorem dX5_roomKept_0 : decode cX5_roomKept 0 = .ok (.iconst 0, 1) := by decide +kernel
theorem dX5_roomKept_1 : decode cX5_roomKept 1 = .ok (.istore_n 1, 1) := by decide +kernel
theorem dX5_roomKept_2 : decode cX5_roomKept 2 = .ok (.aload_n 0, 1) := by decide +kernel
theorem dX5_roomKept_3 : decode cX5_roomKept 3 = .ok (.iconst 1, 1) := by decide +kernel
theorem dX5_roomKept_4 : decode cX5_roomKept 4 = .ok (.aload_n 0, 1) := by decide +kernel
theorem dX5_roomKept_5 : decode cX5_roomKept 5 = .ok (.getfield 59, 3) := by decide +kernel
theorem dX5_roomKept_8 : decode cX5_roomKept 8 = .ok (.isub, 1) := by decide +kernel
theorem dX5_roomKept_9 : decode cX5_roomKept 9 = .ok (.invokevirtual 75, 3) := by decide +kernel
theorem dX5_roomKept_12 : decode cX5_roomKept 12 = .ok (.istore_n 2, 1) := by decide +kernel
theorem dX5_roomKept_13 : decode cX5_roomKept 13 = .ok (.iconst 0, 1) := by decide +kernel
theorem dX5_roomKept_14 : decode cX5_roomKept 14 = .ok (.istore_n 3, 1) := by decide +kernel
theorem dX5_roomKept_15 : decode cX5_roomKept 15 = .ok (.aload_n 0, 1) := by decide +kernel
theorem dX5_roomKept_16 : decode cX5_roomKept 16 = .ok (.getfield 55, 3) := by decide +kernel
theorem dX5_roomKept_19 : decode cX5_roomKept 19 = .ok (.ifCond .eq 44, 3) := by decide +kernel
theorem dX5_roomKept_22 : decode cX5_roomKept 22 = .ok (.iload_n 3, 1) := by decide +kernel
theorem dX5_roomKept_23 : decode cX5_roomKept 23 = .ok (.bipush 64, 2) := by decide +kernel
theorem dX5_roomKept_25 : decode cX5_roomKept 25 = .ok (.if_icmp .ge 38, 3) := by decide +kernel
theorem dX5_roomKept_28 : decode cX5_roomKept 28 = .ok (.aload_n 0, 1) := by decide +kernel
theorem dX5_roomKept_29 : decode cX5_roomKept 29 = .ok (.getfield 18, 3) := by decide +kernel
theorem dX5_roomKept_32 : decode cX5_roomKept 32 = .ok (.iload_n 2, 1) := by decide +kernel
theorem dX5_roomKept_33 : decode cX5_roomKept 33 = .ok (.iload_n 3, 1) := by decide +kernel
theorem dX5_roomKept_34 : decode cX5_roomKept 34 = .ok (.iadd, 1) := by decide +kernel
theorem dX5_roomKept_35 : decode cX5_roomKept 35 = .ok (.invokevirtual 79, 3) := by decide +kernel
theorem dX5_roomKept_38 : decode cX5_roomKept 38 = .ok (.sipush 300, 3) := by decide +kernel
theorem dX5_roomKept_41 : decode cX5_roomKept 41 = .ok (.if_icmp .ne 16, 3) := by decide +kernel
theorem dX5_roomKept_44 : decode cX5_roomKept 44 = .ok (.iload_n 1, 1) := by decide +kernel
theorem dX5_roomKept_45 : decode cX5_roomKept 45 = .ok (.aload_n 0, 1) := by decide +kernel
theorem dX5_roomKept_46 : decode cX5_roomKept 46 = .ok (.getfield 18, 3) := by decide +kernel
theorem dX5_roomKept_49 : decode cX5_roomKept 49 = .ok (.iload_n 2, 1) := by decide +kernel
theorem dX5_roomKept_50 : decode cX5_roomKept 50 = .ok (.iload_n 3, 1) := by decide +kernel
theorem dX5_roomKept_51 : decode cX5_roomKept 51 = .ok (.iadd, 1) := by decide +kernel
theorem dX5_roomKept_52 : decode cX5_roomKept 52 = .ok (.invokevirtual 82, 3) := by decide +kernel
theorem dX5_roomKept_55 : decode cX5_roomKept 55 = .ok (.iadd, 1) := by decide +kernel
theorem dX5_roomKept_56 : decode cX5_roomKept 56 = .ok (.istore_n 1, 1) := by decide +kernel
theorem dX5_roomKept_57 : decode cX5_roomKept 57 = .ok (.iinc 3 1, 3) := by decide +kernel
theorem dX5_roomKept_60 : decode cX5_roomKept 60 = .ok (.goto (-45), 3) := by decide +kernel
theorem dX5_roomKept_63 : decode cX5_roomKept 63 = .ok (.iload_n 1, 1) := by decide +kernel
theorem dX5_roomKept_64 : decode cX5_roomKept 64 = .ok (.ireturn, 1) := by decide +kernel
set_option maxRecDepth 20000 in
theorem ggX5_hasTwins_X0_isOf : GoodIn wsX5_hasTwins wsX0_isOf := goodIn_r _ [6, 7, 8, 9, 10, 5, 11, 12, 34, 35, 36, 37, 38] (by decide +kernel) (by decide +kernel)
set_option maxRecDepth 20000 in
theorem gX5_hasTwins_X0_isOf : GoodIn wsX5_hasTwins (wsV RX5 85 RX0 yX0_isOf wsX0_isOf) := goodIn_app (goodIn_of _ (by decide +kernel)) ggX5_hasTwins_X0_isOf
set_option maxRecDepth 20000 in
theorem ggX5_hasTwins_X5_isInOldHalf : GoodIn wsX5_hasTwins wsX5_isInOldHalf := goodIn_r _ [17, 18, 19, 20, 21, 22, 16, 23, 24, 25, 26, 27, 28, 29, 30, 31, 32, 33] (by decide +kernel) (by decide +kernel)
set_option maxRecDepth 20000 in
theorem gX5_hasTwins_X5_isInOldHalf : GoodIn wsX5_hasTwins (wsV RX5 89 RX5 yX5_isInOldHalf wsX5_isInOldHalf) := goodIn_app (goodIn_of _ (by decide +kernel)) ggX5_hasTwins_X5_isInOldHalf
theorem dX5_hasTwins_0 : decode cX5_hasTwins 0 = .ok (.iconst 0, 1) := by decide +kernel
theorem dX5_hasTwins_1 : decode cX5_hasTwins 1 = .ok (.istore_n 2, 1) := by decide +kernel
theorem dX5_hasTwins_2 : decode cX5_hasTwins 2 = .ok (.iconst 0, 1) := by decide +kernel
theorem dX5_hasTwins_3 : decode cX5_hasTwins 3 = .ok (.istore_n 3, 1) := by decide +kernel
theorem dX5_hasTwins_4 : decode cX5_hasTwins 4 = .ok (.iload_n 3, 1) := by decide +kernel
theorem dX5_hasTwins_5 : decode cX5_hasTwins 5 = .ok (.sipush 260, 3) := by decide +kernel
theorem dX5_hasTwins_8 : decode cX5_hasTwins 8 = .ok (.if_icmp .ge 32, 3) := by decide +kernel
theorem dX5_hasTwins_11 : decode cX5_hasTwins 11 = .ok (.aload_n 0, 1) := by decide +kernel
theorem dX5_hasTwins_12 : decode cX5_hasTwins 12 = .ok (.getfield 18, 3) := by decide +kernel
theorem dX5_hasTwins_15 : decode cX5_hasTwins 15 = .ok (.iload_n 1, 1) := by decide +kernel
theorem dX5_hasTwins_16 : decode cX5_hasTwins 16 = .ok (.iload_n 3, 1) := by decide +kernel
theorem dX5_hasTwins_17 : decode cX5_hasTwins 17 = .ok (.invokevirtual 85, 3) := by decide +kernel
theorem dX5_hasTwins_20 : decode cX5_hasTwins 20 = .ok (.ifCond .eq 14, 3) := by decide +kernel
theorem dX5_hasTwins_23 : decode cX5_hasTwins 23 = .ok (.aload_n 0, 1) := by decide +kernel
theorem dX5_hasTwins_24 : decode cX5_hasTwins 24 = .ok (.iload_n 3, 1) := by decide +kernel
theorem dX5_hasTwins_25 : decode cX5_hasTwins 25 = .ok (.invokevirtual 89, 3) := by decide +kernel
theorem dX5_hasTwins_28 : decode cX5_hasTwins 28 = .ok (.ifCond .ne 6, 3) := by decide +kernel
theorem dX5_hasTwins_31 : decode cX5_hasTwins 31 = .ok (.iinc 2 1, 3) := by decide +kernel
theorem dX5_hasTwins_34 : decode cX5_hasTwins 34 = .ok (.iinc 3 1, 3) := by decide +kernel
theorem dX5_hasTwins_37 : decode cX5_hasTwins 37 = .ok (.goto (-33), 3) := by decide +kernel
theorem dX5_hasTwins_40 : decode cX5_hasTwins 40 = .ok (.iload_n 2, 1) := by decide +kernel
theorem dX5_hasTwins_41 : decode cX5_hasTwins 41 = .ok (.iconst 1, 1) := by decide +kernel
theorem dX5_hasTwins_42 : decode cX5_hasTwins 42 = .ok (.if_icmp .le 7, 3) := by decide +kernel
theorem dX5_hasTwins_45 : decode cX5_hasTwins 45 = .ok (.iconst 1, 1) := by decide +kernel
theorem dX5_hasTwins_46 : decode cX5_hasTwins 46 = .ok (.goto 4, 3) := by decide +kernel
theorem dX5_hasTwins_49 : decode cX5_hasTwins 49 = .ok (.iconst 0, 1) := by decide +kernel
theorem dX5_hasTwins_50 : decode cX5_hasTwins 50 = .ok (.ireturn, 1) := by decide +kernel
set_option maxRecDepth 20000 in
theorem ggX5_thingsWithTwins_X5_hasTwins : GoodIn wsX5_thingsWithTwins wsX5_hasTwins := goodIn_r _ [6, 7, 8, 9, 10, 11, 12, 13, 14, 15, 16, 17, 18, 19, 20, 21, 5, 22, 23, 24, 25, 26, 27, 28, 29, 30, 31, 32, 33, 34, 35, 36, 37, 38, 39, 40, 41, 42, 43] (by decide +kernel) (by decide +kernel)
set_option maxRecDepth 20000 in
theorem gX5_thingsWithTwins_X5_hasTwins : GoodIn wsX5_thingsWithTwins (wsV RX5 92 RX5 yX5_hasTwins wsX5_hasTwins) := goodIn_app (goodIn_of _ (by decide +kernel)) ggX5_thingsWithTwins_X5_hasTwins
theorem dX5_thingsWithTwins_0 : decode cX5_thingsWithTwins 0 = .ok (.iconst 0, 1) := by decide +kernel
theorem dX5_thingsWithTwins_1 : decode cX5_thingsWithTwins 1 = .ok (.istore_n 1, 1) := by decide +kernel
theorem dX5_thingsWithTwins_2 : decode cX5_thingsWithTwins 2 = .ok (.iconst 0, 1) := by decide +kernel
theorem dX5_thingsWithTwins_3 : decode cX5_thingsWithTwins 3 = .ok (.istore_n 2, 1) := by decide +kernel
theorem dX5_thingsWithTwins_4 : decode cX5_thingsWithTwins 4 = .ok (.iload_n 2, 1) := by decide +kernel
theorem dX5_thingsWithTwins_5 : decode cX5_thingsWithTwins 5 = .ok (.aload_n 0, 1) := by decide +kernel
theorem dX5_thingsWithTwins_6 : decode cX5_thingsWithTwins 6 = .ok (.getfield 52, 3) := by decide +kernel
theorem dX5_thingsWithTwins_9 : decode cX5_thingsWithTwins 9 = .ok (.if_icmp .ge 20, 3) := by decide +kernel
theorem dX5_thingsWithTwins_12 : decode cX5_thingsWithTwins 12 = .ok (.aload_n 0, 1) := by decide +kernel
theorem dX5_thingsWithTwins_13 : decode cX5_thingsWithTwins 13 = .ok (.iload_n 2, 1) := by decide +kernel
theorem dX5_thingsWithTwins_14 : decode cX5_thingsWithTwins 14 = .ok (.invokevirtual 92, 3) := by decide +kernel
theorem dX5_thingsWithTwins_17 : decode cX5_thingsWithTwins 17 = .ok (.ifCond .eq 6, 3) := by decide +kernel
theorem dX5_thingsWithTwins_20 : decode cX5_thingsWithTwins 20 = .ok (.iinc 1 1, 3) := by decide +kernel
theorem dX5_thingsWithTwins_23 : decode cX5_thingsWithTwins 23 = .ok (.iinc 2 1, 3) := by decide +kernel
theorem dX5_thingsWithTwins_26 : decode cX5_thingsWithTwins 26 = .ok (.goto (-22), 3) := by decide +kernel
theorem dX5_thingsWithTwins_29 : decode cX5_thingsWithTwins 29 = .ok (.iload_n 1, 1) := by decide +kernel
theorem dX5_thingsWithTwins_30 : decode cX5_thingsWithTwins 30 = .ok (.ireturn, 1) := by decide +kernel
set_option maxRecDepth 20000 in
theorem ggX5_numberOf_X0_number : GoodIn wsX5_numberOf wsX0_number := goodIn_r _ [13, 14, 15, 16, 12, 17, 18, 81, 82, 83, 84, 85] (by decide +kernel) (by decide +kernel)
set_option maxRecDepth 20000 in
theorem gX5_numberOf_X0_number : GoodIn wsX5_numberOf (wsV RX5 95 RX0 yX0_number wsX0_number) := goodIn_app (goodIn_of _ (by decide +kernel)) ggX5_numberOf_X0_number
set_option maxRecDepth 20000 in
theorem ggX5_numberOf_X5_freeInHalf : GoodIn wsX5_numberOf wsX5_freeInHalf := goodIn_r _ [23, 24, 71, 72, 73, 74, 75, 76, 77, 78, 79, 80] (by decide +kernel) (by decide +kernel)
set_option maxRecDepth 20000 in
theorem gX5_numberOf_X5_freeInHalf : GoodIn wsX5_numberOf (wsV RX5 99 RX5 yX5_freeInHalf wsX5_freeInHalf) := goodIn_app (goodIn_of _ (by decide +kernel)) ggX5_numberOf_X5_freeInHalf
set_option maxRecDepth 20000 in
theorem ggX5_numberOf_X0_floorTaken : GoodIn wsX5_numberOf wsX0_floorTaken := goodIn_r _ [28, 29, 30, 31, 12, 32, 18, 14, 15, 16, 17, 81, 82, 83, 84, 85] (by decide +kernel) (by decide +kernel)
set_option maxRecDepth 20000 in
theorem gX5_numberOf_X0_floorTaken : GoodIn wsX5_numberOf (wsV RX5 102 RX0 yX0_floorTaken wsX0_floorTaken) := goodIn_app (goodIn_of _ (by decide +kernel)) ggX5_numberOf_X0_floorTaken
set_option maxRecDepth 20000 in
theorem ggX5_numberOf_X3_size : GoodIn wsX5_numberOf wsX3_size := goodIn_r _ [37, 38, 39, 86, 87, 88] (by decide +kernel) (by decide +kernel)
set_option maxRecDepth 20000 in
theorem gX5_numberOf_X3_size : GoodIn wsX5_numberOf (wsV RX5 105 RX3 yX3_size wsX3_size) := goodIn_app (goodIn_of _ (by decide +kernel)) ggX5_numberOf_X3_size
set_option maxRecDepth 20000 in
theorem ggX5_numberOf_X5_roomKept : GoodIn wsX5_numberOf wsX5_roomKept := goodIn_r _ [43, 4, 3, 2, 44, 45, 46, 22, 47, 48, 49, 50, 12, 51, 52, 14, 15, 16, 17, 18, 53, 30, 31, 32, 71, 72, 73, 74, 75, 76, 77, 78, 79, 80, 81, 82, 83, 84, 85] (by decide +kernel) (by decide +kernel)
set_option maxRecDepth 20000 in
theorem gX5_numberOf_X5_roomKept : GoodIn wsX5_numberOf (wsV RX5 108 RX5 yX5_roomKept wsX5_roomKept) := goodIn_app (goodIn_of _ (by decide +kernel)) ggX5_numberOf_X5_roomKept
set_option maxRecDepth 20000 in
theorem ggX5_numberOf_X5_thingsWithTwins : GoodIn wsX5_numberOf wsX5_thingsWithTwins := goodIn_r _ [57, 1, 58, 59, 60, 22, 61, 2, 62, 63, 64, 12, 65, 66, 14, 15, 16, 17, 18, 67, 68, 69, 70, 4, 3, 44, 45, 46, 47, 71, 72, 73, 74, 75, 76, 77, 78, 79, 80, 81, 82, 83, 84, 85] (by decide +kernel) (by decide +kernel)
set_option maxRecDepth 20000 in
theorem gX5_numberOf_X5_thingsWithTwins : GoodIn wsX5_numberOf (wsV RX5 111 RX5 yX5_thingsWithTwins wsX5_thingsWithTwins) := goodIn_app (goodIn_of _ (by decide +kernel)) ggX5_numberOf_X5_thingsWithTwins
theorem dX5_numberOf_0 : decode cX5_numberOf 0 = .ok (.iload_n 1, 1) := by decide +kernel
theorem dX5_numberOf_1 : decode cX5_numberOf 1 = .ok (.tableswitch 143 0 11 #[63, 68, 76, 89, 94, 99, 110, 118, 123, 128, 133, 138], 63) := by decide +kernel
theorem dX5_numberOf_64 : decode cX5_numberOf 64 = .ok (.aload_n 0, 1) := by decide +kernel
theorem dX5_numberOf_65 : decode cX5_numberOf 65 = .ok (.getfield 52, 3) := by decide +kernel
theorem dX5_numberOf_68 : decode cX5_numberOf 68 = .ok (.ireturn, 1) := by decide +kernel
theorem dX5_numberOf_69 : decode cX5_numberOf 69 = .ok (.aload_n 0, 1) := by decide +kernel
theorem dX5_numberOf_70 : decode cX5_numberOf 70 = .ok (.getfield 18, 3) := by decide +kernel
theorem dX5_numberOf_73 : decode cX5_numberOf 73 = .ok (.invokevirtual 95, 3) := by decide +kernel
theorem dX5_numberOf_76 : decode cX5_numberOf 76 = .ok (.ireturn, 1) := by decide +kernel
theorem dX5_numberOf_77 : decode cX5_numberOf 77 = .ok (.aload_n 0, 1) := by decide +kernel
theorem dX5_numberOf_78 : decode cX5_numberOf 78 = .ok (.getfield 55, 3) := by decide +kernel
theorem dX5_numberOf_81 : decode cX5_numberOf 81 = .ok (.ifCond .eq 7, 3) := by decide +kernel
theorem dX5_numberOf_84 : decode cX5_numberOf 84 = .ok (.iconst 1, 1) := by decide +kernel
theorem dX5_numberOf_85 : decode cX5_numberOf 85 = .ok (.goto 4, 3) := by decide +kernel
theorem dX5_numberOf_88 : decode cX5_numberOf 88 = .ok (.iconst 0, 1) := by decide +kernel
theorem dX5_numberOf_89 : decode cX5_numberOf 89 = .ok (.ireturn, 1) := by decide +kernel
theorem dX5_numberOf_90 : decode cX5_numberOf 90 = .ok (.aload_n 0, 1) := by decide +kernel
theorem dX5_numberOf_91 : decode cX5_numberOf 91 = .ok (.getfield 59, 3) := by decide +kernel
theorem dX5_numberOf_94 : decode cX5_numberOf 94 = .ok (.ireturn, 1) := by decide +kernel
theorem dX5_numberOf_95 : decode cX5_numberOf 95 = .ok (.aload_n 0, 1) := by decide +kernel
theorem dX5_numberOf_96 : decode cX5_numberOf 96 = .ok (.invokevirtual 99, 3) := by decide +kernel
theorem dX5_numberOf_99 : decode cX5_numberOf 99 = .ok (.ireturn, 1) := by decide +kernel
theorem dX5_numberOf_100 : decode cX5_numberOf 100 = .ok (.bipush 60, 2) := by decide +kernel
theorem dX5_numberOf_102 : decode cX5_numberOf 102 = .ok (.aload_n 0, 1) := by decide +kernel
theorem dX5_numberOf_103 : decode cX5_numberOf 103 = .ok (.getfield 18, 3) := by decide +kernel
theorem dX5_numberOf_106 : decode cX5_numberOf 106 = .ok (.invokevirtual 102, 3) := by decide +kernel
theorem dX5_numberOf_109 : decode cX5_numberOf 109 = .ok (.isub, 1) := by decide +kernel
theorem dX5_numberOf_110 : decode cX5_numberOf 110 = .ok (.ireturn, 1) := by decide +kernel
theorem dX5_numberOf_111 : decode cX5_numberOf 111 = .ok (.aload_n 0, 1) := by decide +kernel
theorem dX5_numberOf_112 : decode cX5_numberOf 112 = .ok (.getfield 25, 3) := by decide +kernel
theorem dX5_numberOf_115 : decode cX5_numberOf 115 = .ok (.invokevirtual 105, 3) := by decide +kernel
theorem dX5_numberOf_118 : decode cX5_numberOf 118 = .ok (.ireturn, 1) := by decide +kernel
theorem dX5_numberOf_119 : decode cX5_numberOf 119 = .ok (.aload_n 0, 1) := by decide +kernel
theorem dX5_numberOf_120 : decode cX5_numberOf 120 = .ok (.invokevirtual 108, 3) := by decide +kernel
theorem dX5_numberOf_123 : decode cX5_numberOf 123 = .ok (.ireturn, 1) := by decide +kernel
theorem dX5_numberOf_124 : decode cX5_numberOf 124 = .ok (.aload_n 0, 1) := by decide +kernel
theorem dX5_numberOf_125 : decode cX5_numberOf 125 = .ok (.getfield 65, 3) := by decide +kernel
theorem dX5_numberOf_128 : decode cX5_numberOf 128 = .ok (.ireturn, 1) := by decide +kernel
theorem dX5_numberOf_129 : decode cX5_numberOf 129 = .ok (.aload_n 0, 1) := by decide +kernel
theorem dX5_numberOf_130 : decode cX5_numberOf 130 = .ok (.getfield 68, 3) := by decide +kernel
theorem dX5_numberOf_133 : decode cX5_numberOf 133 = .ok (.ireturn, 1) := by decide +kernel
theorem dX5_numberOf_134 : decode cX5_numberOf 134 = .ok (.aload_n 0, 1) := by decide +kernel
theorem dX5_numberOf_135 : decode cX5_numberOf 135 = .ok (.invokevirtual 111, 3) := by decide +kernel
theorem dX5_numberOf_138 : decode cX5_numberOf 138 = .ok (.ireturn, 1) := by decide +kernel
theorem dX5_numberOf_139 : decode cX5_numberOf 139 = .ok (.aload_n 0, 1) := by decide +kernel
theorem dX5_numberOf_140 : decode cX5_numberOf 140 = .ok (.getfield 29, 3) := by decide +kernel
theorem dX5_numberOf_143 : decode cX5_numberOf 143 = .ok (.ireturn, 1) := by decide +kernel
theorem dX5_numberOf_144 : decode cX5_numberOf 144 = .ok (.iconst (-1), 1) := by decide +kernel
theorem dX5_numberOf_145 : decode cX5_numberOf 145 = .ok (.ireturn, 1) := by decide +kernel
theorem dX5_changeBound_0 : decode cX5_changeBound 0 = .ok (.iload_n 1, 1) := by decide +kernel
theorem dX5_changeBound_1 : decode cX5_changeBound 1 = .ok (.iconst 2, 1) := by decide +kernel
theorem dX5_changeBound_2 : decode cX5_changeBound 2 = .ok (.if_icmp .lt 9, 3) := by decide +kernel
theorem dX5_changeBound_5 : decode cX5_changeBound 5 = .ok (.iload_n 1, 1) := by decide +kernel
theorem dX5_changeBound_6 : decode cX5_changeBound 6 = .ok (.bipush 13, 2) := by decide +kernel
theorem dX5_changeBound_8 : decode cX5_changeBound 8 = .ok (.if_icmp .le 5, 3) := by decide +kernel
theorem dX5_changeBound_11 : decode cX5_changeBound 11 = .ok (.iconst (-1), 1) := by decide +kernel
theorem dX5_changeBound_12 : decode cX5_changeBound 12 = .ok (.ireturn, 1) := by decide +kernel
theorem dX5_changeBound_13 : decode cX5_changeBound 13 = .ok (.aload_n 0, 1) := by decide +kernel
theorem dX5_changeBound_14 : decode cX5_changeBound 14 = .ok (.getfield 29, 3) := by decide +kernel
theorem dX5_changeBound_17 : decode cX5_changeBound 17 = .ok (.istore_n 2, 1) := by decide +kernel
theorem dX5_changeBound_18 : decode cX5_changeBound 18 = .ok (.aload_n 0, 1) := by decide +kernel
theorem dX5_changeBound_19 : decode cX5_changeBound 19 = .ok (.iload_n 1, 1) := by decide +kernel
theorem dX5_changeBound_20 : decode cX5_changeBound 20 = .ok (.putfield 29, 3) := by decide +kernel
theorem dX5_changeBound_23 : decode cX5_changeBound 23 = .ok (.iload_n 2, 1) := by decide +kernel
theorem dX5_changeBound_24 : decode cX5_changeBound 24 = .ok (.ireturn, 1) := by decide +kernel
set_option maxRecDepth 20000 in
theorem ggX5_makeThing_X7_isHook : GoodIn wsX5_makeThing wsX7_isHook := goodIn_r _ [9] (by decide +kernel) (by decide +kernel)
set_option maxRecDepth 20000 in
theorem gX5_makeThing_X7_isHook_n71 : GoodIn wsX5_makeThing (wsX7_isHook) := ggX5_makeThing_X7_isHook
set_option maxRecDepth 20000 in
theorem ggX5_makeThing_X0_floorAddressFor : GoodIn wsX5_makeThing wsX0_floorAddressFor := goodIn_r _ [14, 15, 16, 17, 13, 18, 19, 20, 21, 22, 23, 69, 70, 71, 72, 73] (by decide +kernel) (by decide +kernel)
set_option maxRecDepth 20000 in
theorem gX5_makeThing_X0_floorAddressFor : GoodIn wsX5_makeThing (wsV RX5 114 RX0 yX0_floorAddressFor wsX0_floorAddressFor) := goodIn_app (goodIn_of _ (by decide +kernel)) ggX5_makeThing_X0_floorAddressFor
set_option maxRecDepth 20000 in
theorem ggX5_makeThing_X5_halfAddressFor : GoodIn wsX5_makeThing wsX5_halfAddressFor := goodIn_r _ [28, 29, 4, 30, 31, 32, 27, 33, 34, 35, 36, 37, 5, 2, 38, 39, 40, 41, 42, 43, 44, 13, 45, 46, 20, 21, 22, 23, 19, 47, 16, 17, 18, 59, 60, 61, 62, 63, 64, 65, 66, 67, 68, 69, 70, 71, 72, 73] (by decide +kernel) (by decide +kernel)
set_option maxRecDepth 20000 in
theorem gX5_makeThing_X5_halfAddressFor : GoodIn wsX5_makeThing (wsV RX5 117 RX5 yX5_halfAddressFor wsX5_halfAddressFor) := goodIn_app (goodIn_of _ (by decide +kernel)) ggX5_makeThing_X5_halfAddressFor
set_option maxRecDepth 20000 in
theorem ggX5_makeThing_X0_lay : GoodIn wsX5_makeThing wsX0_lay := goodIn_r _ [51, 52, 19, 46, 53, 54, 69, 70, 71, 72, 73] (by decide +kernel) (by decide +kernel)
set_option maxRecDepth 20000 in
theorem gX5_makeThing_X0_lay : GoodIn wsX5_makeThing (wsV RX5 120 RX0 yX0_lay wsX0_lay) := goodIn_app (goodIn_of _ (by decide +kernel)) ggX5_makeThing_X0_lay
set_option maxRecDepth 20000 in
theorem ggX5_makeThing_X0_mark : GoodIn wsX5_makeThing wsX0_mark := goodIn_r _ [58, 53, 20, 21, 22, 13, 23, 19, 69, 70, 71, 72, 73] (by decide +kernel) (by decide +kernel)
set_option maxRecDepth 20000 in
theorem gX5_makeThing_X0_mark : GoodIn wsX5_makeThing (wsV RX5 124 RX0 yX0_mark wsX0_mark) := goodIn_app (goodIn_of _ (by decide +kernel)) ggX5_makeThing_X0_mark
theorem dX5_makeThing_0 : decode cX5_makeThing 0 = .ok (.iload_n 1, 1) := by decide +kernel
theorem dX5_makeThing_1 : decode cX5_makeThing 1 = .ok (.iconst 1, 1) := by decide +kernel
theorem dX5_makeThing_2 : decode cX5_makeThing 2 = .ok (.if_icmp .lt 16, 3) := by decide +kernel
theorem dX5_makeThing_5 : decode cX5_makeThing 5 = .ok (.iload_n 1, 1) := by decide +kernel
theorem dX5_makeThing_6 : decode cX5_makeThing 6 = .ok (.bipush 12, 2) := by decide +kernel
theorem dX5_makeThing_8 : decode cX5_makeThing 8 = .ok (.if_icmp .gt 10, 3) := by decide +kernel
theorem dX5_makeThing_11 : decode cX5_makeThing 11 = .ok (.iload_n 2, 1) := by decide +kernel
theorem dX5_makeThing_12 : decode cX5_makeThing 12 = .ok (.invokestatic 71, 3) := by decide +kernel
theorem dX5_makeThing_15 : decode cX5_makeThing 15 = .ok (.ifCond .ne 5, 3) := by decide +kernel
theorem dX5_makeThing_18 : decode cX5_makeThing 18 = .ok (.iconst (-1), 1) := by decide +kernel
theorem dX5_makeThing_19 : decode cX5_makeThing 19 = .ok (.ireturn, 1) := by decide +kernel
theorem dX5_makeThing_20 : decode cX5_makeThing 20 = .ok (.iload_n 1, 1) := by decide +kernel
theorem dX5_makeThing_21 : decode cX5_makeThing 21 = .ok (.aload_n 0, 1) := by decide +kernel
theorem dX5_makeThing_22 : decode cX5_makeThing 22 = .ok (.getfield 29, 3) := by decide +kernel
theorem dX5_makeThing_25 : decode cX5_makeThing 25 = .ok (.if_icmp .lt 7, 3) := by decide +kernel
theorem dX5_makeThing_28 : decode cX5_makeThing 28 = .ok (.iconst 1, 1) := by decide +kernel
theorem dX5_makeThing_29 : decode cX5_makeThing 29 = .ok (.goto 4, 3) := by decide +kernel
theorem dX5_makeThing_32 : decode cX5_makeThing 32 = .ok (.iconst 0, 1) := by decide +kernel
theorem dX5_makeThing_33 : decode cX5_makeThing 33 = .ok (.istore_n 3, 1) := by decide +kernel
theorem dX5_makeThing_34 : decode cX5_makeThing 34 = .ok (.iload_n 3, 1) := by decide +kernel
theorem dX5_makeThing_35 : decode cX5_makeThing 35 = .ok (.ifCond .eq 14, 3) := by decide +kernel
theorem dX5_makeThing_38 : decode cX5_makeThing 38 = .ok (.aload_n 0, 1) := by decide +kernel
theorem dX5_makeThing_39 : decode cX5_makeThing 39 = .ok (.getfield 18, 3) := by decide +kernel
theorem dX5_makeThing_42 : decode cX5_makeThing 42 = .ok (.iload_n 1, 1) := by decide +kernel
theorem dX5_makeThing_43 : decode cX5_makeThing 43 = .ok (.invokevirtual 114, 3) := by decide +kernel
theorem dX5_makeThing_46 : decode cX5_makeThing 46 = .ok (.goto 8, 3) := by decide +kernel
theorem dX5_makeThing_49 : decode cX5_makeThing 49 = .ok (.aload_n 0, 1) := by decide +kernel
theorem dX5_makeThing_50 : decode cX5_makeThing 50 = .ok (.iload_n 1, 1) := by decide +kernel
theorem dX5_makeThing_51 : decode cX5_makeThing 51 = .ok (.invokevirtual 117, 3) := by decide +kernel
theorem dX5_makeThing_54 : decode cX5_makeThing 54 = .ok (.istore 4, 2) := by decide +kernel
theorem dX5_makeThing_56 : decode cX5_makeThing 56 = .ok (.aload_n 0, 1) := by decide +kernel
theorem dX5_makeThing_57 : decode cX5_makeThing 57 = .ok (.getfield 52, 3) := by decide +kernel
theorem dX5_makeThing_60 : decode cX5_makeThing 60 = .ok (.bipush 40, 2) := by decide +kernel
theorem dX5_makeThing_62 : decode cX5_makeThing 62 = .ok (.if_icmp .ge 11, 3) := by decide +kernel
theorem dX5_makeThing_65 : decode cX5_makeThing 65 = .ok (.iload 4, 2) := by decide +kernel
theorem dX5_makeThing_67 : decode cX5_makeThing 67 = .ok (.sipush 300, 3) := by decide +kernel
theorem dX5_makeThing_70 : decode cX5_makeThing 70 = .ok (.if_icmp .ne 6, 3) := by decide +kernel
theorem dX5_makeThing_73 : decode cX5_makeThing 73 = .ok (.bipush (-3), 2) := by decide +kernel
theorem dX5_makeThing_75 : decode cX5_makeThing 75 = .ok (.ireturn, 1) := by decide +kernel
theorem dX5_makeThing_76 : decode cX5_makeThing 76 = .ok (.aload_n 0, 1) := by decide +kernel
theorem dX5_makeThing_77 : decode cX5_makeThing 77 = .ok (.getfield 18, 3) := by decide +kernel
theorem dX5_makeThing_80 : decode cX5_makeThing 80 = .ok (.iload 4, 2) := by decide +kernel
theorem dX5_makeThing_82 : decode cX5_makeThing 82 = .ok (.aload_n 0, 1) := by decide +kernel
theorem dX5_makeThing_83 : decode cX5_makeThing 83 = .ok (.getfield 52, 3) := by decide +kernel
theorem dX5_makeThing_86 : decode cX5_makeThing 86 = .ok (.iload_n 1, 1) := by decide +kernel
theorem dX5_makeThing_87 : decode cX5_makeThing 87 = .ok (.invokevirtual 120, 3) := by decide +kernel
theorem dX5_makeThing_90 : decode cX5_makeThing 90 = .ok (.iload_n 3, 1) := by decide +kernel
theorem dX5_makeThing_91 : decode cX5_makeThing 91 = .ok (.ifCond .ne 16, 3) := by decide +kernel
theorem dX5_makeThing_94 : decode cX5_makeThing 94 = .ok (.aload_n 0, 1) := by decide +kernel
theorem dX5_makeThing_95 : decode cX5_makeThing 95 = .ok (.dup, 1) := by decide +kernel
theorem dX5_makeThing_96 : decode cX5_makeThing 96 = .ok (.getfield 62, 3) := by decide +kernel
theorem dX5_makeThing_99 : decode cX5_makeThing 99 = .ok (.iload_n 1, 1) := by decide +kernel
theorem dX5_makeThing_100 : decode cX5_makeThing 100 = .ok (.iadd, 1) := by decide +kernel
theorem dX5_makeThing_101 : decode cX5_makeThing 101 = .ok (.putfield 62, 3) := by decide +kernel
theorem dX5_makeThing_104 : decode cX5_makeThing 104 = .ok (.goto 20, 3) := by decide +kernel
theorem dX5_makeThing_107 : decode cX5_makeThing 107 = .ok (.aload_n 0, 1) := by decide +kernel
theorem dX5_makeThing_108 : decode cX5_makeThing 108 = .ok (.getfield 55, 3) := by decide +kernel
theorem dX5_makeThing_111 : decode cX5_makeThing 111 = .ok (.ifCond .eq 13, 3) := by decide +kernel
theorem dX5_makeThing_114 : decode cX5_makeThing 114 = .ok (.aload_n 0, 1) := by decide +kernel
theorem dX5_makeThing_115 : decode cX5_makeThing 115 = .ok (.getfield 18, 3) := by decide +kernel
theorem dX5_makeThing_118 : decode cX5_makeThing 118 = .ok (.iload 4, 2) := by decide +kernel
theorem dX5_makeThing_120 : decode cX5_makeThing 120 = .ok (.invokevirtual 124, 3) := by decide +kernel
theorem dX5_makeThing_123 : decode cX5_makeThing 123 = .ok (.pop, 1) := by decide +kernel
theorem dX5_makeThing_124 : decode cX5_makeThing 124 = .ok (.aload_n 0, 1) := by decide +kernel
theorem dX5_makeThing_125 : decode cX5_makeThing 125 = .ok (.getfield 9, 3) := by decide +kernel
theorem dX5_makeThing_128 : decode cX5_makeThing 128 = .ok (.iload_n 2, 1) := by decide +kernel
theorem dX5_makeThing_129 : decode cX5_makeThing 129 = .ok (.iload 4, 2) := by decide +kernel
theorem dX5_makeThing_131 : decode cX5_makeThing 131 = .ok (.iastore, 1) := by decide +kernel
theorem dX5_makeThing_132 : decode cX5_makeThing 132 = .ok (.aload_n 0, 1) := by decide +kernel
theorem dX5_makeThing_133 : decode cX5_makeThing 133 = .ok (.dup, 1) := by decide +kernel
theorem dX5_makeThing_134 : decode cX5_makeThing 134 = .ok (.getfield 52, 3) := by decide +kernel
theorem dX5_makeThing_137 : decode cX5_makeThing 137 = .ok (.iconst 1, 1) := by decide +kernel
theorem dX5_makeThing_138 : decode cX5_makeThing 138 = .ok (.iadd, 1) := by decide +kernel
theorem dX5_makeThing_139 : decode cX5_makeThing 139 = .ok (.putfield 52, 3) := by decide +kernel
theorem dX5_makeThing_142 : decode cX5_makeThing 142 = .ok (.aload_n 0, 1) := by decide +kernel
theorem dX5_makeThing_143 : decode cX5_makeThing 143 = .ok (.getfield 52, 3) := by decide +kernel
theorem dX5_makeThing_146 : decode cX5_makeThing 146 = .ok (.iconst 1, 1) := by decide +kernel
theorem dX5_makeThing_147 : decode cX5_makeThing 147 = .ok (.isub, 1) := by decide +kernel
theorem dX5_makeThing_148 : decode cX5_makeThing 148 = .ok (.ireturn, 1) := by decide +kernel
set_option maxRecDepth 20000 in
theorem ggX5_halfAddressFor_X5_freeInHalf : GoodIn wsX5_halfAddressFor wsX5_freeInHalf := goodIn_r _ [7, 2, 33, 34, 35, 36, 37, 38, 39, 40, 41, 42] (by decide +kernel) (by decide +kernel)
set_option maxRecDepth 20000 in
theorem gX5_halfAddressFor_X5_freeInHalf : GoodIn wsX5_halfAddressFor (wsV RX5 99 RX5 yX5_freeInHalf wsX5_freeInHalf) := goodIn_app (goodIn_of _ (by decide +kernel)) ggX5_halfAddressFor_X5_freeInHalf
set_option maxRecDepth 20000 in
theorem ggX5_halfAddressFor_X5_roomKept : GoodIn wsX5_halfAddressFor wsX5_roomKept := goodIn_r _ [11, 1, 12, 13, 14, 15, 16, 6, 17, 18, 19, 20, 21, 22, 23, 24, 25, 26, 27, 28, 29, 30, 31, 32, 33, 34, 35, 36, 37, 38, 39, 40, 41, 42, 43, 44, 45, 46, 47] (by decide +kernel) (by decide +kernel)
set_option maxRecDepth 20000 in
theorem gX5_halfAddressFor_X5_roomKept : GoodIn wsX5_halfAddressFor (wsV RX5 108 RX5 yX5_roomKept wsX5_roomKept) := goodIn_app (goodIn_of _ (by decide +kernel)) ggX5_halfAddressFor_X5_roomKept
set_option maxRecDepth 20000 in
theorem ggX5_halfAddressFor_X5_addressOfHalf : GoodIn wsX5_halfAddressFor wsX5_addressOfHalf := goodIn_r _ [17] (by decide +kernel) (by decide +kernel)
set_option maxRecDepth 20000 in
theorem gX5_halfAddressFor_X5_addressOfHalf : GoodIn wsX5_halfAddressFor (wsV RX5 75 RX5 yX5_addressOfHalf wsX5_addressOfHalf) := goodIn_app (goodIn_of _ (by decide +kernel)) ggX5_halfAddressFor_X5_addressOfHalf
theorem dX5_halfAddressFor_0 : decode cX5_halfAddressFor 0 = .ok (.aload_n 0, 1) := by decide +kernel
theorem dX5_halfAddressFor_1 : decode cX5_halfAddressFor 1 = .ok (.invokevirtual 99, 3) := by decide +kernel
theorem dX5_halfAddressFor_4 : decode cX5_halfAddressFor 4 = .ok (.iload_n 1, 1) := by decide +kernel
theorem dX5_halfAddressFor_5 : decode cX5_halfAddressFor 5 = .ok (.isub, 1) := by decide +kernel
theorem dX5_halfAddressFor_6 : decode cX5_halfAddressFor 6 = .ok (.aload_n 0, 1) := by decide +kernel
theorem dX5_halfAddressFor_7 : decode cX5_halfAddressFor 7 = .ok (.invokevirtual 108, 3) := by decide +kernel
theorem dX5_halfAddressFor_10 : decode cX5_halfAddressFor 10 = .ok (.if_icmp .lt 19, 3) := by decide +kernel
theorem dX5_halfAddressFor_13 : decode cX5_halfAddressFor 13 = .ok (.aload_n 0, 1) := by decide +kernel
theorem dX5_halfAddressFor_14 : decode cX5_halfAddressFor 14 = .ok (.aload_n 0, 1) := by decide +kernel
theorem dX5_halfAddressFor_15 : decode cX5_halfAddressFor 15 = .ok (.getfield 59, 3) := by decide +kernel
theorem dX5_halfAddressFor_18 : decode cX5_halfAddressFor 18 = .ok (.invokevirtual 75, 3) := by decide +kernel
theorem dX5_halfAddressFor_21 : decode cX5_halfAddressFor 21 = .ok (.aload_n 0, 1) := by decide +kernel
theorem dX5_halfAddressFor_22 : decode cX5_halfAddressFor 22 = .ok (.getfield 62, 3) := by decide +kernel
theorem dX5_halfAddressFor_25 : decode cX5_halfAddressFor 25 = .ok (.iadd, 1) := by decide +kernel
theorem dX5_halfAddressFor_26 : decode cX5_halfAddressFor 26 = .ok (.goto 6, 3) := by decide +kernel
theorem dX5_halfAddressFor_29 : decode cX5_halfAddressFor 29 = .ok (.sipush 300, 3) := by decide +kernel
theorem dX5_halfAddressFor_32 : decode cX5_halfAddressFor 32 = .ok (.ireturn, 1) := by decide +kernel
set_option maxRecDepth 20000 in
theorem ggX5_linkHooks_X7_isHook : GoodIn wsX5_linkHooks wsX7_isHook := goodIn_r _ [5] (by decide +kernel) (by decide +kernel)
set_option maxRecDepth 20000 in
theorem gX5_linkHooks_X7_isHook_n71 : GoodIn wsX5_linkHooks (wsX7_isHook) := ggX5_linkHooks_X7_isHook
set_option maxRecDepth 20000 in
theorem ggX5_linkHooks_X7_isName : GoodIn wsX5_linkHooks wsX7_isName := goodIn_r _ [7] (by decide +kernel) (by decide +kernel)
set_option maxRecDepth 20000 in
theorem gX5_linkHooks_X7_isName_n127 : GoodIn wsX5_linkHooks (wsX7_isName) := ggX5_linkHooks_X7_isName
set_option maxRecDepth 20000 in
theorem ggX5_linkHooks_X5_readIn : GoodIn wsX5_linkHooks wsX5_readIn := goodIn_r _ [12, 2, 13, 14, 15, 16, 17, 11, 18, 19, 20, 21, 22, 23, 24, 25, 26, 27, 28, 29, 30, 31, 32, 33, 34, 35, 36, 37, 38, 39, 40, 41, 42, 43, 44, 45, 46, 47, 48, 49, 50, 51, 52, 53, 54, 55, 56, 57, 58, 59, 60, 61, 62, 63, 64, 65, 70, 71, 72, 73, 74, 75, 76, 77, 78, 79, 80, 81, 82, 83, 84, 85, 86, 87] (by decide +kernel) (by decide +kernel)
set_option maxRecDepth 20000 in
theorem gX5_linkHooks_X5_readIn : GoodIn wsX5_linkHooks (wsV RX5 130 RX5 yX5_readIn wsX5_readIn) := goodIn_app (goodIn_of _ (by decide +kernel)) ggX5_linkHooks_X5_readIn
set_option maxRecDepth 20000 in
theorem ggX5_linkHooks_X0_setName : GoodIn wsX5_linkHooks wsX0_setName := goodIn_r _ [69, 54, 30, 31, 32, 27, 33, 34, 6, 4, 7, 80, 81, 82, 83, 84] (by decide +kernel) (by decide +kernel)
set_option maxRecDepth 20000 in
theorem gX5_linkHooks_X0_setName : GoodIn wsX5_linkHooks (wsV RX5 134 RX0 yX0_setName wsX0_setName) := goodIn_app (goodIn_of _ (by decide +kernel)) ggX5_linkHooks_X0_setName
theorem dX5_linkHooks_0 : decode cX5_linkHooks 0 = .ok (.iload_n 1, 1) := by decide +kernel
theorem dX5_linkHooks_1 : decode cX5_linkHooks 1 = .ok (.invokestatic 71, 3) := by decide +kernel
theorem dX5_linkHooks_4 : decode cX5_linkHooks 4 = .ok (.ifCond .eq 17, 3) := by decide +kernel
theorem dX5_linkHooks_7 : decode cX5_linkHooks 7 = .ok (.iload_n 2, 1) := by decide +kernel
theorem dX5_linkHooks_8 : decode cX5_linkHooks 8 = .ok (.invokestatic 127, 3) := by decide +kernel
theorem dX5_linkHooks_11 : decode cX5_linkHooks 11 = .ok (.ifCond .eq 10, 3) := by decide +kernel
theorem dX5_linkHooks_14 : decode cX5_linkHooks 14 = .ok (.iload_n 3, 1) := by decide +kernel
theorem dX5_linkHooks_15 : decode cX5_linkHooks 15 = .ok (.invokestatic 71, 3) := by decide +kernel
theorem dX5_linkHooks_18 : decode cX5_linkHooks 18 = .ok (.ifCond .ne 5, 3) := by decide +kernel
theorem dX5_linkHooks_21 : decode cX5_linkHooks 21 = .ok (.iconst (-1), 1) := by decide +kernel
theorem dX5_linkHooks_22 : decode cX5_linkHooks 22 = .ok (.ireturn, 1) := by decide +kernel
theorem dX5_linkHooks_23 : decode cX5_linkHooks 23 = .ok (.aload_n 0, 1) := by decide +kernel
theorem dX5_linkHooks_24 : decode cX5_linkHooks 24 = .ok (.getfield 9, 3) := by decide +kernel
theorem dX5_linkHooks_27 : decode cX5_linkHooks 27 = .ok (.iload_n 1, 1) := by decide +kernel
theorem dX5_linkHooks_28 : decode cX5_linkHooks 28 = .ok (.iaload, 1) := by decide +kernel
theorem dX5_linkHooks_29 : decode cX5_linkHooks 29 = .ok (.sipush 300, 3) := by decide +kernel
theorem dX5_linkHooks_32 : decode cX5_linkHooks 32 = .ok (.if_icmp .ne 6, 3) := by decide +kernel
theorem dX5_linkHooks_35 : decode cX5_linkHooks 35 = .ok (.bipush (-2), 2) := by decide +kernel
theorem dX5_linkHooks_37 : decode cX5_linkHooks 37 = .ok (.ireturn, 1) := by decide +kernel
theorem dX5_linkHooks_38 : decode cX5_linkHooks 38 = .ok (.aload_n 0, 1) := by decide +kernel
theorem dX5_linkHooks_39 : decode cX5_linkHooks 39 = .ok (.aload_n 0, 1) := by decide +kernel
theorem dX5_linkHooks_40 : decode cX5_linkHooks 40 = .ok (.getfield 9, 3) := by decide +kernel
theorem dX5_linkHooks_43 : decode cX5_linkHooks 43 = .ok (.iload_n 1, 1) := by decide +kernel
theorem dX5_linkHooks_44 : decode cX5_linkHooks 44 = .ok (.invokevirtual 130, 3) := by decide +kernel
theorem dX5_linkHooks_47 : decode cX5_linkHooks 47 = .ok (.istore 4, 2) := by decide +kernel
theorem dX5_linkHooks_49 : decode cX5_linkHooks 49 = .ok (.aload_n 0, 1) := by decide +kernel
theorem dX5_linkHooks_50 : decode cX5_linkHooks 50 = .ok (.aload_n 0, 1) := by decide +kernel
theorem dX5_linkHooks_51 : decode cX5_linkHooks 51 = .ok (.getfield 9, 3) := by decide +kernel
theorem dX5_linkHooks_54 : decode cX5_linkHooks 54 = .ok (.iload_n 3, 1) := by decide +kernel
theorem dX5_linkHooks_55 : decode cX5_linkHooks 55 = .ok (.invokevirtual 130, 3) := by decide +kernel
theorem dX5_linkHooks_58 : decode cX5_linkHooks 58 = .ok (.istore 5, 2) := by decide +kernel
theorem dX5_linkHooks_60 : decode cX5_linkHooks 60 = .ok (.aload_n 0, 1) := by decide +kernel
theorem dX5_linkHooks_61 : decode cX5_linkHooks 61 = .ok (.getfield 18, 3) := by decide +kernel
theorem dX5_linkHooks_64 : decode cX5_linkHooks 64 = .ok (.iload 4, 2) := by decide +kernel
theorem dX5_linkHooks_66 : decode cX5_linkHooks 66 = .ok (.iload_n 2, 1) := by decide +kernel
theorem dX5_linkHooks_67 : decode cX5_linkHooks 67 = .ok (.iload 5, 2) := by decide +kernel
theorem dX5_linkHooks_69 : decode cX5_linkHooks 69 = .ok (.invokevirtual 134, 3) := by decide +kernel
theorem dX5_linkHooks_72 : decode cX5_linkHooks 72 = .ok (.iload 5, 2) := by decide +kernel
theorem dX5_linkHooks_74 : decode cX5_linkHooks 74 = .ok (.ireturn, 1) := by decide +kernel
set_option maxRecDepth 20000 in
theorem ggX5_followName_X7_isHook : GoodIn wsX5_followName wsX7_isHook := goodIn_r _ [5] (by decide +kernel) (by decide +kernel)
set_option maxRecDepth 20000 in
theorem gX5_followName_X7_isHook_n71 : GoodIn wsX5_followName (wsX7_isHook) := ggX5_followName_X7_isHook
set_option maxRecDepth 20000 in
theorem ggX5_followName_X7_isName : GoodIn wsX5_followName wsX7_isName := goodIn_r _ [7] (by decide +kernel) (by decide +kernel)
set_option maxRecDepth 20000 in
theorem gX5_followName_X7_isName_n127 : GoodIn wsX5_followName (wsX7_isName) := ggX5_followName_X7_isName
set_option maxRecDepth 20000 in
theorem ggX5_followName_X5_readIn : GoodIn wsX5_followName wsX5_readIn := goodIn_r _ [12, 2, 13, 14, 15, 16, 17, 11, 18, 19, 20, 21, 22, 23, 24, 25, 26, 27, 28, 29, 30, 31, 32, 33, 34, 35, 36, 37, 38, 39, 40, 41, 42, 43, 44, 45, 46, 47, 48, 49, 50, 51, 52, 53, 54, 55, 56, 57, 58, 59, 60, 61, 62, 63, 64, 65, 66, 67, 68, 69, 70, 71, 72, 73, 74, 75, 76, 77, 78, 79, 80, 81, 82, 83] (by decide +kernel) (by decide +kernel)
set_option maxRecDepth 20000 in
theorem gX5_followName_X5_readIn : GoodIn wsX5_followName (wsV RX5 130 RX5 yX5_readIn wsX5_readIn) := goodIn_app (goodIn_of _ (by decide +kernel)) ggX5_followName_X5_readIn
theorem dX5_followName_0 : decode cX5_followName 0 = .ok (.iload_n 1, 1) := by decide +kernel
theorem dX5_followName_1 : decode cX5_followName 1 = .ok (.invokestatic 71, 3) := by decide +kernel
theorem dX5_followName_4 : decode cX5_followName 4 = .ok (.ifCond .eq 17, 3) := by decide +kernel
theorem dX5_followName_7 : decode cX5_followName 7 = .ok (.iload_n 2, 1) := by decide +kernel
theorem dX5_followName_8 : decode cX5_followName 8 = .ok (.invokestatic 127, 3) := by decide +kernel
theorem dX5_followName_11 : decode cX5_followName 11 = .ok (.ifCond .eq 10, 3) := by decide +kernel
theorem dX5_followName_14 : decode cX5_followName 14 = .ok (.iload_n 3, 1) := by decide +kernel
theorem dX5_followName_15 : decode cX5_followName 15 = .ok (.invokestatic 71, 3) := by decide +kernel
theorem dX5_followName_18 : decode cX5_followName 18 = .ok (.ifCond .ne 5, 3) := by decide +kernel
theorem dX5_followName_21 : decode cX5_followName 21 = .ok (.iconst (-1), 1) := by decide +kernel
theorem dX5_followName_22 : decode cX5_followName 22 = .ok (.ireturn, 1) := by decide +kernel
theorem dX5_followName_23 : decode cX5_followName 23 = .ok (.aload_n 0, 1) := by decide +kernel
theorem dX5_followName_24 : decode cX5_followName 24 = .ok (.getfield 9, 3) := by decide +kernel
theorem dX5_followName_27 : decode cX5_followName 27 = .ok (.iload_n 1, 1) := by decide +kernel
theorem dX5_followName_28 : decode cX5_followName 28 = .ok (.iaload, 1) := by decide +kernel
theorem dX5_followName_29 : decode cX5_followName 29 = .ok (.sipush 300, 3) := by decide +kernel
theorem dX5_followName_32 : decode cX5_followName 32 = .ok (.if_icmp .ne 6, 3) := by decide +kernel
theorem dX5_followName_35 : decode cX5_followName 35 = .ok (.bipush (-2), 2) := by decide +kernel
theorem dX5_followName_37 : decode cX5_followName 37 = .ok (.ireturn, 1) := by decide +kernel
theorem dX5_followName_38 : decode cX5_followName 38 = .ok (.aload_n 0, 1) := by decide +kernel
theorem dX5_followName_39 : decode cX5_followName 39 = .ok (.aload_n 0, 1) := by decide +kernel
theorem dX5_followName_40 : decode cX5_followName 40 = .ok (.getfield 9, 3) := by decide +kernel
theorem dX5_followName_43 : decode cX5_followName 43 = .ok (.iload_n 1, 1) := by decide +kernel
theorem dX5_followName_44 : decode cX5_followName 44 = .ok (.invokevirtual 130, 3) := by decide +kernel
theorem dX5_followName_47 : decode cX5_followName 47 = .ok (.istore 4, 2) := by decide +kernel
theorem dX5_followName_49 : decode cX5_followName 49 = .ok (.aload_n 0, 1) := by decide +kernel
theorem dX5_followName_50 : decode cX5_followName 50 = .ok (.getfield 9, 3) := by decide +kernel
theorem dX5_followName_53 : decode cX5_followName 53 = .ok (.iload_n 3, 1) := by decide +kernel
theorem dX5_followName_54 : decode cX5_followName 54 = .ok (.aload_n 0, 1) := by decide +kernel
theorem dX5_followName_55 : decode cX5_followName 55 = .ok (.aload_n 0, 1) := by decide +kernel
theorem dX5_followName_56 : decode cX5_followName 56 = .ok (.getfield 18, 3) := by decide +kernel
theorem dX5_followName_59 : decode cX5_followName 59 = .ok (.getfield 137, 3) := by decide +kernel
theorem dX5_followName_62 : decode cX5_followName 62 = .ok (.iload 4, 2) := by decide +kernel
theorem dX5_followName_64 : decode cX5_followName 64 = .ok (.iconst 2, 1) := by decide +kernel
theorem dX5_followName_65 : decode cX5_followName 65 = .ok (.imul, 1) := by decide +kernel
theorem dX5_followName_66 : decode cX5_followName 66 = .ok (.iload_n 2, 1) := by decide +kernel
theorem dX5_followName_67 : decode cX5_followName 67 = .ok (.iadd, 1) := by decide +kernel
theorem dX5_followName_68 : decode cX5_followName 68 = .ok (.invokevirtual 130, 3) := by decide +kernel
theorem dX5_followName_71 : decode cX5_followName 71 = .ok (.iastore, 1) := by decide +kernel
theorem dX5_followName_72 : decode cX5_followName 72 = .ok (.aload_n 0, 1) := by decide +kernel
theorem dX5_followName_73 : decode cX5_followName 73 = .ok (.getfield 9, 3) := by decide +kernel
theorem dX5_followName_76 : decode cX5_followName 76 = .ok (.iload_n 3, 1) := by decide +kernel
theorem dX5_followName_77 : decode cX5_followName 77 = .ok (.iaload, 1) := by decide +kernel
theorem dX5_followName_78 : decode cX5_followName 78 = .ok (.ireturn, 1) := by decide +kernel
set_option maxRecDepth 20000 in
theorem ggX5_dropHook_X7_isHook : GoodIn wsX5_dropHook wsX7_isHook := goodIn_r _ [4] (by decide +kernel) (by decide +kernel)
set_option maxRecDepth 20000 in
theorem gX5_dropHook_X7_isHook_n71 : GoodIn wsX5_dropHook (wsX7_isHook) := ggX5_dropHook_X7_isHook
theorem dX5_dropHook_0 : decode cX5_dropHook 0 = .ok (.iload_n 1, 1) := by decide +kernel
theorem dX5_dropHook_1 : decode cX5_dropHook 1 = .ok (.invokestatic 71, 3) := by decide +kernel
theorem dX5_dropHook_4 : decode cX5_dropHook 4 = .ok (.ifCond .ne 5, 3) := by decide +kernel
theorem dX5_dropHook_7 : decode cX5_dropHook 7 = .ok (.iconst (-1), 1) := by decide +kernel
theorem dX5_dropHook_8 : decode cX5_dropHook 8 = .ok (.ireturn, 1) := by decide +kernel
theorem dX5_dropHook_9 : decode cX5_dropHook 9 = .ok (.aload_n 0, 1) := by decide +kernel
theorem dX5_dropHook_10 : decode cX5_dropHook 10 = .ok (.getfield 9, 3) := by decide +kernel
theorem dX5_dropHook_13 : decode cX5_dropHook 13 = .ok (.iload_n 1, 1) := by decide +kernel
end
section
theorem dX5_dropHook_14 : decode cX5_dropHook 14 = .ok (.iaload, 1) := by decide +kernel
theorem dX5_dropHook_15 : decode cX5_dropHook 15 = .ok (.istore_n 2, 1) := by decide +kernel
theorem dX5_dropHook_16 : decode cX5_dropHook 16 = .ok (.aload_n 0, 1) := by decide +kernel
theorem dX5_dropHook_17 : decode cX5_dropHook 17 = .ok (.getfield 9, 3) := by decide +kernel
theorem dX5_dropHook_20 : decode cX5_dropHook 20 = .ok (.iload_n 1, 1) := by decide +kernel
theorem dX5_dropHook_21 : decode cX5_dropHook 21 = .ok (.sipush 300, 3) := by decide +kernel
theorem dX5_dropHook_24 : decode cX5_dropHook 24 = .ok (.iastore, 1) := by decide +kernel
theorem dX5_dropHook_25 : decode cX5_dropHook 25 = .ok (.iload_n 2, 1) := by decide +kernel
theorem dX5_dropHook_26 : decode cX5_dropHook 26 = .ok (.ireturn, 1) := by decide +kernel
set_option maxRecDepth 20000 in
theorem ggX5_beginMove_X3_clear : GoodIn wsX5_beginMove wsX3_clear := goodIn_r _ [10, 11, 12, 97, 98, 99] (by decide +kernel) (by decide +kernel)
set_option maxRecDepth 20000 in
theorem gX5_beginMove_X3_clear : GoodIn wsX5_beginMove (wsV RX5 140 RX3 yX3_clear wsX3_clear) := goodIn_app (goodIn_of _ (by decide +kernel)) ggX5_beginMove_X3_clear
set_option maxRecDepth 20000 in
theorem ggX5_beginMove_X5_readIn : GoodIn wsX5_beginMove wsX5_readIn := goodIn_r _ [17, 18, 1, 4, 19, 20, 21, 16, 22, 2, 23, 24, 25, 26, 27, 28, 29, 30, 31, 32, 33, 34, 35, 36, 37, 38, 39, 40, 41, 42, 43, 44, 45, 3, 46, 47, 48, 49, 50, 51, 52, 53, 54, 55, 56, 57, 58, 59, 9, 60, 12, 61, 62, 63, 64, 65, 87, 88, 89, 90, 91, 92, 93, 94, 95, 96, 100, 101, 102, 103, 104, 97, 98, 99] (by decide +kernel) (by decide +kernel)
set_option maxRecDepth 20000 in
theorem gX5_beginMove_X5_readIn : GoodIn wsX5_beginMove (wsV RX5 130 RX5 yX5_readIn wsX5_readIn) := goodIn_app (goodIn_of _ (by decide +kernel)) ggX5_beginMove_X5_readIn
set_option maxRecDepth 20000 in
theorem ggX5_beginMove_X3_size : GoodIn wsX5_beginMove wsX3_size := goodIn_r _ [69, 12, 11, 97, 98, 99] (by decide +kernel) (by decide +kernel)
set_option maxRecDepth 20000 in
theorem gX5_beginMove_X3_size : GoodIn wsX5_beginMove (wsV RX5 105 RX3 yX3_size wsX3_size) := goodIn_app (goodIn_of _ (by decide +kernel)) ggX5_beginMove_X3_size
set_option maxRecDepth 20000 in
theorem ggX5_beginMove_X5_endMove : GoodIn wsX5_beginMove wsX5_endMove := goodIn_r _ [73, 18, 2, 1, 74, 75, 76, 77, 30, 78, 79, 80, 81, 82, 37, 83, 84, 85, 86, 55, 87, 88, 89, 90, 91, 92, 93, 94, 95, 96, 100, 101, 102, 103, 104] (by decide +kernel) (by decide +kernel)
set_option maxRecDepth 20000 in
theorem gX5_beginMove_X5_endMove : GoodIn wsX5_beginMove (wsV RX5 143 RX5 yX5_endMove wsX5_endMove) := goodIn_app (goodIn_of _ (by decide +kernel)) ggX5_beginMove_X5_endMove
theorem dX5_beginMove_0 : decode cX5_beginMove 0 = .ok (.aload_n 0, 1) := by decide +kernel
theorem dX5_beginMove_1 : decode cX5_beginMove 1 = .ok (.getfield 55, 3) := by decide +kernel
theorem dX5_beginMove_4 : decode cX5_beginMove 4 = .ok (.ifCond .eq 6, 3) := by decide +kernel
theorem dX5_beginMove_7 : decode cX5_beginMove 7 = .ok (.bipush (-2), 2) := by decide +kernel
theorem dX5_beginMove_9 : decode cX5_beginMove 9 = .ok (.ireturn, 1) := by decide +kernel
theorem dX5_beginMove_10 : decode cX5_beginMove 10 = .ok (.aload_n 0, 1) := by decide +kernel
theorem dX5_beginMove_11 : decode cX5_beginMove 11 = .ok (.iconst 1, 1) := by decide +kernel
theorem dX5_beginMove_12 : decode cX5_beginMove 12 = .ok (.putfield 55, 3) := by decide +kernel
theorem dX5_beginMove_15 : decode cX5_beginMove 15 = .ok (.aload_n 0, 1) := by decide +kernel
theorem dX5_beginMove_16 : decode cX5_beginMove 16 = .ok (.iconst 1, 1) := by decide +kernel
theorem dX5_beginMove_17 : decode cX5_beginMove 17 = .ok (.aload_n 0, 1) := by decide +kernel
theorem dX5_beginMove_18 : decode cX5_beginMove 18 = .ok (.getfield 59, 3) := by decide +kernel
theorem dX5_beginMove_21 : decode cX5_beginMove 21 = .ok (.isub, 1) := by decide +kernel
theorem dX5_beginMove_22 : decode cX5_beginMove 22 = .ok (.putfield 59, 3) := by decide +kernel
theorem dX5_beginMove_25 : decode cX5_beginMove 25 = .ok (.aload_n 0, 1) := by decide +kernel
theorem dX5_beginMove_26 : decode cX5_beginMove 26 = .ok (.iconst 0, 1) := by decide +kernel
theorem dX5_beginMove_27 : decode cX5_beginMove 27 = .ok (.putfield 62, 3) := by decide +kernel
theorem dX5_beginMove_30 : decode cX5_beginMove 30 = .ok (.aload_n 0, 1) := by decide +kernel
theorem dX5_beginMove_31 : decode cX5_beginMove 31 = .ok (.getfield 25, 3) := by decide +kernel
theorem dX5_beginMove_34 : decode cX5_beginMove 34 = .ok (.invokevirtual 140, 3) := by decide +kernel
theorem dX5_beginMove_37 : decode cX5_beginMove 37 = .ok (.iconst 0, 1) := by decide +kernel
theorem dX5_beginMove_38 : decode cX5_beginMove 38 = .ok (.istore_n 1, 1) := by decide +kernel
theorem dX5_beginMove_39 : decode cX5_beginMove 39 = .ok (.iload_n 1, 1) := by decide +kernel
theorem dX5_beginMove_40 : decode cX5_beginMove 40 = .ok (.bipush 8, 2) := by decide +kernel
theorem dX5_beginMove_42 : decode cX5_beginMove 42 = .ok (.if_icmp .ge 19, 3) := by decide +kernel
theorem dX5_beginMove_45 : decode cX5_beginMove 45 = .ok (.aload_n 0, 1) := by decide +kernel
theorem dX5_beginMove_46 : decode cX5_beginMove 46 = .ok (.aload_n 0, 1) := by decide +kernel
theorem dX5_beginMove_47 : decode cX5_beginMove 47 = .ok (.getfield 9, 3) := by decide +kernel
theorem dX5_beginMove_50 : decode cX5_beginMove 50 = .ok (.iload_n 1, 1) := by decide +kernel
theorem dX5_beginMove_51 : decode cX5_beginMove 51 = .ok (.invokevirtual 130, 3) := by decide +kernel
theorem dX5_beginMove_54 : decode cX5_beginMove 54 = .ok (.pop, 1) := by decide +kernel
theorem dX5_beginMove_55 : decode cX5_beginMove 55 = .ok (.iinc 1 1, 3) := by decide +kernel
theorem dX5_beginMove_58 : decode cX5_beginMove 58 = .ok (.goto (-19), 3) := by decide +kernel
theorem dX5_beginMove_61 : decode cX5_beginMove 61 = .ok (.aload_n 0, 1) := by decide +kernel
theorem dX5_beginMove_62 : decode cX5_beginMove 62 = .ok (.getfield 25, 3) := by decide +kernel
theorem dX5_beginMove_65 : decode cX5_beginMove 65 = .ok (.invokevirtual 105, 3) := by decide +kernel
theorem dX5_beginMove_68 : decode cX5_beginMove 68 = .ok (.istore_n 1, 1) := by decide +kernel
theorem dX5_beginMove_69 : decode cX5_beginMove 69 = .ok (.iload_n 1, 1) := by decide +kernel
theorem dX5_beginMove_70 : decode cX5_beginMove 70 = .ok (.ifCond .ne 7, 3) := by decide +kernel
theorem dX5_beginMove_73 : decode cX5_beginMove 73 = .ok (.aload_n 0, 1) := by decide +kernel
theorem dX5_beginMove_74 : decode cX5_beginMove 74 = .ok (.invokevirtual 143, 3) := by decide +kernel
theorem dX5_beginMove_77 : decode cX5_beginMove 77 = .ok (.iload_n 1, 1) := by decide +kernel
theorem dX5_beginMove_78 : decode cX5_beginMove 78 = .ok (.ireturn, 1) := by decide +kernel
set_option maxRecDepth 20000 in
theorem ggX5_carrySteps_X5_stepsUpTo : GoodIn wsX5_carrySteps wsX5_stepsUpTo := goodIn_r _ [6, 1, 7, 8, 9, 10, 11, 12, 13, 14, 15, 16, 17, 18, 19, 5, 20, 21, 22, 23, 24, 25, 26, 27, 28, 29, 30, 31, 32, 33, 34, 35, 36, 37, 38, 39, 40, 41, 42, 43, 44, 45, 46, 47, 48, 49, 50, 51, 52, 53, 54, 55, 56, 57, 58, 59, 60, 61, 62, 63, 64, 65, 66, 67, 68, 69, 70, 71, 72, 73, 74, 75, 76, 77, 78, 79, 80, 81, 82, 83, 84, 85, 86, 87, 88, 89, 90, 91, 92, 93, 94, 95, 96, 97, 98, 99, 100, 101, 102, 103, 104, 105, 106, 107] (by decide +kernel) (by decide +kernel)
set_option maxRecDepth 20000 in
theorem gX5_carrySteps_X5_stepsUpTo : GoodIn wsX5_carrySteps (wsV RX5 146 RX5 yX5_stepsUpTo wsX5_stepsUpTo) := goodIn_app (goodIn_of _ (by decide +kernel)) ggX5_carrySteps_X5_stepsUpTo
theorem dX5_carrySteps_0 : decode cX5_carrySteps 0 = .ok (.iload_n 1, 1) := by decide +kernel
theorem dX5_carrySteps_1 : decode cX5_carrySteps 1 = .ok (.iconst 1, 1) := by decide +kernel
theorem dX5_carrySteps_2 : decode cX5_carrySteps 2 = .ok (.if_icmp .lt 9, 3) := by decide +kernel
theorem dX5_carrySteps_5 : decode cX5_carrySteps 5 = .ok (.iload_n 1, 1) := by decide +kernel
theorem dX5_carrySteps_6 : decode cX5_carrySteps 6 = .ok (.bipush 99, 2) := by decide +kernel
theorem dX5_carrySteps_8 : decode cX5_carrySteps 8 = .ok (.if_icmp .le 5, 3) := by decide +kernel
theorem dX5_carrySteps_11 : decode cX5_carrySteps 11 = .ok (.iconst (-1), 1) := by decide +kernel
theorem dX5_carrySteps_12 : decode cX5_carrySteps 12 = .ok (.ireturn, 1) := by decide +kernel
theorem dX5_carrySteps_13 : decode cX5_carrySteps 13 = .ok (.aload_n 0, 1) := by decide +kernel
theorem dX5_carrySteps_14 : decode cX5_carrySteps 14 = .ok (.getfield 55, 3) := by decide +kernel
theorem dX5_carrySteps_17 : decode cX5_carrySteps 17 = .ok (.ifCond .eq 11, 3) := by decide +kernel
theorem dX5_carrySteps_20 : decode cX5_carrySteps 20 = .ok (.aload_n 0, 1) := by decide +kernel
theorem dX5_carrySteps_21 : decode cX5_carrySteps 21 = .ok (.iload_n 1, 1) := by decide +kernel
theorem dX5_carrySteps_22 : decode cX5_carrySteps 22 = .ok (.invokevirtual 146, 3) := by decide +kernel
theorem dX5_carrySteps_25 : decode cX5_carrySteps 25 = .ok (.goto 5, 3) := by decide +kernel
theorem dX5_carrySteps_28 : decode cX5_carrySteps 28 = .ok (.bipush (-2), 2) := by decide +kernel
theorem dX5_carrySteps_30 : decode cX5_carrySteps 30 = .ok (.ireturn, 1) := by decide +kernel
set_option maxRecDepth 20000 in
theorem ggX5_stepsUpTo_X3_takeFirst : GoodIn wsX5_stepsUpTo wsX3_takeFirst := goodIn_r _ [8, 9, 10, 11, 101, 102, 103] (by decide +kernel) (by decide +kernel)
set_option maxRecDepth 20000 in
theorem gX5_stepsUpTo_X3_takeFirst : GoodIn wsX5_stepsUpTo (wsV RX5 149 RX3 yX3_takeFirst wsX3_takeFirst) := goodIn_app (goodIn_of _ (by decide +kernel)) ggX5_stepsUpTo_X3_takeFirst
set_option maxRecDepth 20000 in
theorem ggX5_stepsUpTo_X5_readIn : GoodIn wsX5_stepsUpTo wsX5_readIn := goodIn_r _ [16, 3, 1, 2, 17, 18, 19, 15, 20, 21, 22, 23, 24, 25, 26, 27, 28, 29, 30, 31, 32, 33, 34, 35, 36, 37, 38, 39, 40, 41, 42, 43, 44, 45, 46, 47, 48, 49, 50, 51, 52, 53, 54, 55, 56, 57, 58, 59, 7, 60, 10, 11, 61, 62, 63, 64, 86, 87, 88, 89, 90, 91, 92, 93, 94, 95, 96, 97, 98, 99, 100, 101, 102, 103] (by decide +kernel) (by decide +kernel)
set_option maxRecDepth 20000 in
theorem gX5_stepsUpTo_X5_readIn : GoodIn wsX5_stepsUpTo (wsV RX5 130 RX5 yX5_readIn wsX5_readIn) := goodIn_app (goodIn_of _ (by decide +kernel)) ggX5_stepsUpTo_X5_readIn
set_option maxRecDepth 20000 in
theorem ggX5_stepsUpTo_X3_size : GoodIn wsX5_stepsUpTo wsX3_size := goodIn_r _ [68, 10, 9, 101, 102, 103] (by decide +kernel) (by decide +kernel)
set_option maxRecDepth 20000 in
theorem gX5_stepsUpTo_X3_size : GoodIn wsX5_stepsUpTo (wsV RX5 105 RX3 yX3_size wsX3_size) := goodIn_app (goodIn_of _ (by decide +kernel)) ggX5_stepsUpTo_X3_size
set_option maxRecDepth 20000 in
theorem ggX5_stepsUpTo_X5_endMove : GoodIn wsX5_stepsUpTo wsX5_endMove := goodIn_r _ [72, 3, 21, 1, 73, 74, 75, 76, 29, 77, 78, 79, 80, 81, 36, 82, 83, 84, 85, 55, 86, 87, 88, 89, 90, 91, 92, 93, 94, 95, 96, 97, 98, 99, 100] (by decide +kernel) (by decide +kernel)
set_option maxRecDepth 20000 in
theorem gX5_stepsUpTo_X5_endMove : GoodIn wsX5_stepsUpTo (wsV RX5 143 RX5 yX5_endMove wsX5_endMove) := goodIn_app (goodIn_of _ (by decide +kernel)) ggX5_stepsUpTo_X5_endMove
theorem dX5_stepsUpTo_0 : decode cX5_stepsUpTo 0 = .ok (.iconst 0, 1) := by decide +kernel
theorem dX5_stepsUpTo_1 : decode cX5_stepsUpTo 1 = .ok (.istore_n 2, 1) := by decide +kernel
theorem dX5_stepsUpTo_2 : decode cX5_stepsUpTo 2 = .ok (.aload_n 0, 1) := by decide +kernel
theorem dX5_stepsUpTo_3 : decode cX5_stepsUpTo 3 = .ok (.getfield 55, 3) := by decide +kernel
theorem dX5_stepsUpTo_6 : decode cX5_stepsUpTo 6 = .ok (.ifCond .eq 68, 3) := by decide +kernel
theorem dX5_stepsUpTo_9 : decode cX5_stepsUpTo 9 = .ok (.iload_n 2, 1) := by decide +kernel
theorem dX5_stepsUpTo_10 : decode cX5_stepsUpTo 10 = .ok (.iload_n 1, 1) := by decide +kernel
theorem dX5_stepsUpTo_11 : decode cX5_stepsUpTo 11 = .ok (.if_icmp .ge 63, 3) := by decide +kernel
theorem dX5_stepsUpTo_14 : decode cX5_stepsUpTo 14 = .ok (.aload_n 0, 1) := by decide +kernel
theorem dX5_stepsUpTo_15 : decode cX5_stepsUpTo 15 = .ok (.getfield 25, 3) := by decide +kernel
theorem dX5_stepsUpTo_18 : decode cX5_stepsUpTo 18 = .ok (.invokevirtual 149, 3) := by decide +kernel
theorem dX5_stepsUpTo_21 : decode cX5_stepsUpTo 21 = .ok (.istore_n 3, 1) := by decide +kernel
theorem dX5_stepsUpTo_22 : decode cX5_stepsUpTo 22 = .ok (.aload_n 0, 1) := by decide +kernel
theorem dX5_stepsUpTo_23 : decode cX5_stepsUpTo 23 = .ok (.aload_n 0, 1) := by decide +kernel
theorem dX5_stepsUpTo_24 : decode cX5_stepsUpTo 24 = .ok (.getfield 18, 3) := by decide +kernel
theorem dX5_stepsUpTo_27 : decode cX5_stepsUpTo 27 = .ok (.getfield 137, 3) := by decide +kernel
theorem dX5_stepsUpTo_30 : decode cX5_stepsUpTo 30 = .ok (.iload_n 3, 1) := by decide +kernel
theorem dX5_stepsUpTo_31 : decode cX5_stepsUpTo 31 = .ok (.iconst 2, 1) := by decide +kernel
theorem dX5_stepsUpTo_32 : decode cX5_stepsUpTo 32 = .ok (.imul, 1) := by decide +kernel
theorem dX5_stepsUpTo_33 : decode cX5_stepsUpTo 33 = .ok (.invokevirtual 130, 3) := by decide +kernel
theorem dX5_stepsUpTo_36 : decode cX5_stepsUpTo 36 = .ok (.pop, 1) := by decide +kernel
theorem dX5_stepsUpTo_37 : decode cX5_stepsUpTo 37 = .ok (.aload_n 0, 1) := by decide +kernel
theorem dX5_stepsUpTo_38 : decode cX5_stepsUpTo 38 = .ok (.aload_n 0, 1) := by decide +kernel
theorem dX5_stepsUpTo_39 : decode cX5_stepsUpTo 39 = .ok (.getfield 18, 3) := by decide +kernel
theorem dX5_stepsUpTo_42 : decode cX5_stepsUpTo 42 = .ok (.getfield 137, 3) := by decide +kernel
theorem dX5_stepsUpTo_45 : decode cX5_stepsUpTo 45 = .ok (.iload_n 3, 1) := by decide +kernel
theorem dX5_stepsUpTo_46 : decode cX5_stepsUpTo 46 = .ok (.iconst 2, 1) := by decide +kernel
theorem dX5_stepsUpTo_47 : decode cX5_stepsUpTo 47 = .ok (.imul, 1) := by decide +kernel
theorem dX5_stepsUpTo_48 : decode cX5_stepsUpTo 48 = .ok (.iconst 1, 1) := by decide +kernel
theorem dX5_stepsUpTo_49 : decode cX5_stepsUpTo 49 = .ok (.iadd, 1) := by decide +kernel
theorem dX5_stepsUpTo_50 : decode cX5_stepsUpTo 50 = .ok (.invokevirtual 130, 3) := by decide +kernel
theorem dX5_stepsUpTo_53 : decode cX5_stepsUpTo 53 = .ok (.pop, 1) := by decide +kernel
theorem dX5_stepsUpTo_54 : decode cX5_stepsUpTo 54 = .ok (.aload_n 0, 1) := by decide +kernel
theorem dX5_stepsUpTo_55 : decode cX5_stepsUpTo 55 = .ok (.getfield 25, 3) := by decide +kernel
theorem dX5_stepsUpTo_58 : decode cX5_stepsUpTo 58 = .ok (.invokevirtual 105, 3) := by decide +kernel
theorem dX5_stepsUpTo_61 : decode cX5_stepsUpTo 61 = .ok (.ifCond .ne 7, 3) := by decide +kernel
theorem dX5_stepsUpTo_64 : decode cX5_stepsUpTo 64 = .ok (.aload_n 0, 1) := by decide +kernel
theorem dX5_stepsUpTo_65 : decode cX5_stepsUpTo 65 = .ok (.invokevirtual 143, 3) := by decide +kernel
theorem dX5_stepsUpTo_68 : decode cX5_stepsUpTo 68 = .ok (.iinc 2 1, 3) := by decide +kernel
theorem dX5_stepsUpTo_71 : decode cX5_stepsUpTo 71 = .ok (.goto (-69), 3) := by decide +kernel
theorem dX5_stepsUpTo_74 : decode cX5_stepsUpTo 74 = .ok (.iload_n 2, 1) := by decide +kernel
theorem dX5_stepsUpTo_75 : decode cX5_stepsUpTo 75 = .ok (.ireturn, 1) := by decide +kernel
set_option maxRecDepth 20000 in
theorem ggX5_endMove_X0_emptyHalf : GoodIn wsX5_endMove wsX0_emptyHalf := goodIn_r _ [9, 10, 11, 12, 8, 13, 14, 30, 31, 32, 33, 34] (by decide +kernel) (by decide +kernel)
set_option maxRecDepth 20000 in
theorem gX5_endMove_X0_emptyHalf : GoodIn wsX5_endMove (wsV RX5 152 RX0 yX0_emptyHalf wsX0_emptyHalf) := goodIn_app (goodIn_of _ (by decide +kernel)) ggX5_endMove_X0_emptyHalf
set_option maxRecDepth 20000 in
theorem ggX5_endMove_X0_sweepFloor : GoodIn wsX5_endMove wsX0_sweepFloor := goodIn_r _ [18, 19, 10, 11, 12, 8, 13, 14, 30, 31, 32, 33, 34] (by decide +kernel) (by decide +kernel)
set_option maxRecDepth 20000 in
theorem gX5_endMove_X0_sweepFloor : GoodIn wsX5_endMove (wsV RX5 156 RX0 yX0_sweepFloor wsX0_sweepFloor) := goodIn_app (goodIn_of _ (by decide +kernel)) ggX5_endMove_X0_sweepFloor
theorem dX5_endMove_0 : decode cX5_endMove 0 = .ok (.aload_n 0, 1) := by decide +kernel
theorem dX5_endMove_1 : decode cX5_endMove 1 = .ok (.getfield 18, 3) := by decide +kernel
theorem dX5_endMove_4 : decode cX5_endMove 4 = .ok (.iconst 1, 1) := by decide +kernel
theorem dX5_endMove_5 : decode cX5_endMove 5 = .ok (.aload_n 0, 1) := by decide +kernel
theorem dX5_endMove_6 : decode cX5_endMove 6 = .ok (.getfield 59, 3) := by decide +kernel
theorem dX5_endMove_9 : decode cX5_endMove 9 = .ok (.isub, 1) := by decide +kernel
theorem dX5_endMove_10 : decode cX5_endMove 10 = .ok (.invokevirtual 152, 3) := by decide +kernel
theorem dX5_endMove_13 : decode cX5_endMove 13 = .ok (.aload_n 0, 1) := by decide +kernel
theorem dX5_endMove_14 : decode cX5_endMove 14 = .ok (.getfield 18, 3) := by decide +kernel
theorem dX5_endMove_17 : decode cX5_endMove 17 = .ok (.invokevirtual 156, 3) := by decide +kernel
theorem dX5_endMove_20 : decode cX5_endMove 20 = .ok (.aload_n 0, 1) := by decide +kernel
theorem dX5_endMove_21 : decode cX5_endMove 21 = .ok (.iconst 0, 1) := by decide +kernel
theorem dX5_endMove_22 : decode cX5_endMove 22 = .ok (.putfield 55, 3) := by decide +kernel
theorem dX5_endMove_25 : decode cX5_endMove 25 = .ok (.aload_n 0, 1) := by decide +kernel
theorem dX5_endMove_26 : decode cX5_endMove 26 = .ok (.dup, 1) := by decide +kernel
theorem dX5_endMove_27 : decode cX5_endMove 27 = .ok (.getfield 68, 3) := by decide +kernel
theorem dX5_endMove_30 : decode cX5_endMove 30 = .ok (.iconst 1, 1) := by decide +kernel
theorem dX5_endMove_31 : decode cX5_endMove 31 = .ok (.iadd, 1) := by decide +kernel
theorem dX5_endMove_32 : decode cX5_endMove 32 = .ok (.putfield 68, 3) := by decide +kernel
theorem dX5_endMove_35 : decode cX5_endMove 35 = .ok (.return_, 1) := by decide +kernel
set_option maxRecDepth 20000 in
theorem ggX5_loseNote_X5_isThing : GoodIn wsX5_loseNote wsX5_isThing := goodIn_r _ [7, 8, 52, 53, 54, 55, 56, 57, 58, 59, 60, 61] (by decide +kernel) (by decide +kernel)
set_option maxRecDepth 20000 in
theorem gX5_loseNote_X5_isThing : GoodIn wsX5_loseNote (wsV RX5 159 RX5 yX5_isThing wsX5_isThing) := goodIn_app (goodIn_of _ (by decide +kernel)) ggX5_loseNote_X5_isThing
set_option maxRecDepth 20000 in
theorem ggX5_loseNote_X5_firstWithNote : GoodIn wsX5_loseNote wsX5_firstWithNote := goodIn_r _ [12, 1, 13, 14, 15, 16, 17, 18, 19, 20, 21, 22, 23, 24, 25, 26, 27, 28, 52, 53, 54, 55, 56, 57, 58, 59, 60, 61, 62, 63, 64, 65, 66] (by decide +kernel) (by decide +kernel)
set_option maxRecDepth 20000 in
theorem gX5_loseNote_X5_firstWithNote : GoodIn wsX5_loseNote (wsV RX5 162 RX5 yX5_firstWithNote wsX5_firstWithNote) := goodIn_app (goodIn_of _ (by decide +kernel)) ggX5_loseNote_X5_firstWithNote
set_option maxRecDepth 20000 in
theorem ggX5_loseNote_X5_freeInHalf : GoodIn wsX5_loseNote wsX5_freeInHalf := goodIn_r _ [32, 33, 52, 53, 54, 55, 56, 57, 58, 59, 60, 61] (by decide +kernel) (by decide +kernel)
set_option maxRecDepth 20000 in
theorem gX5_loseNote_X5_freeInHalf : GoodIn wsX5_loseNote (wsV RX5 99 RX5 yX5_freeInHalf wsX5_freeInHalf) := goodIn_app (goodIn_of _ (by decide +kernel)) ggX5_loseNote_X5_freeInHalf
set_option maxRecDepth 20000 in
theorem ggX5_loseNote_X5_roomKept : GoodIn wsX5_loseNote wsX5_roomKept := goodIn_r _ [37, 38, 39, 1, 40, 41, 42, 6, 43, 24, 25, 26, 16, 27, 28, 19, 20, 21, 22, 23, 44, 45, 46, 47, 52, 53, 54, 55, 56, 57, 58, 59, 60, 61, 62, 63, 64, 65, 66] (by decide +kernel) (by decide +kernel)
set_option maxRecDepth 20000 in
theorem gX5_loseNote_X5_roomKept : GoodIn wsX5_loseNote (wsV RX5 108 RX5 yX5_roomKept wsX5_roomKept) := goodIn_app (goodIn_of _ (by decide +kernel)) ggX5_loseNote_X5_roomKept
set_option maxRecDepth 20000 in
theorem ggX5_loseNote_X0_sizeAt : GoodIn wsX5_loseNote wsX0_sizeAt := goodIn_r _ [47, 23, 19, 20, 21, 16, 22, 62, 63, 64, 65, 66] (by decide +kernel) (by decide +kernel)
set_option maxRecDepth 20000 in
theorem gX5_loseNote_X0_sizeAt : GoodIn wsX5_loseNote (wsV RX5 82 RX0 yX0_sizeAt wsX0_sizeAt) := goodIn_app (goodIn_of _ (by decide +kernel)) ggX5_loseNote_X0_sizeAt
set_option maxRecDepth 20000 in
theorem ggX5_loseNote_X0_loseNoteAt : GoodIn wsX5_loseNote wsX0_loseNoteAt := goodIn_r _ [51, 28, 19, 20, 21, 16, 22, 23, 62, 63, 64, 65, 66] (by decide +kernel) (by decide +kernel)
set_option maxRecDepth 20000 in
theorem gX5_loseNote_X0_loseNoteAt : GoodIn wsX5_loseNote (wsV RX5 165 RX0 yX0_loseNoteAt wsX0_loseNoteAt) := goodIn_app (goodIn_of _ (by decide +kernel)) ggX5_loseNote_X0_loseNoteAt
theorem dX5_loseNote_0 : decode cX5_loseNote 0 = .ok (.aload_n 0, 1) := by decide +kernel
theorem dX5_loseNote_1 : decode cX5_loseNote 1 = .ok (.iload_n 1, 1) := by decide +kernel
theorem dX5_loseNote_2 : decode cX5_loseNote 2 = .ok (.invokevirtual 159, 3) := by decide +kernel
theorem dX5_loseNote_5 : decode cX5_loseNote 5 = .ok (.ifCond .ne 5, 3) := by decide +kernel
theorem dX5_loseNote_8 : decode cX5_loseNote 8 = .ok (.iconst (-1), 1) := by decide +kernel
theorem dX5_loseNote_9 : decode cX5_loseNote 9 = .ok (.ireturn, 1) := by decide +kernel
theorem dX5_loseNote_10 : decode cX5_loseNote 10 = .ok (.aload_n 0, 1) := by decide +kernel
theorem dX5_loseNote_11 : decode cX5_loseNote 11 = .ok (.iload_n 1, 1) := by decide +kernel
theorem dX5_loseNote_12 : decode cX5_loseNote 12 = .ok (.invokevirtual 162, 3) := by decide +kernel
theorem dX5_loseNote_15 : decode cX5_loseNote 15 = .ok (.istore_n 2, 1) := by decide +kernel
theorem dX5_loseNote_16 : decode cX5_loseNote 16 = .ok (.iload_n 2, 1) := by decide +kernel
theorem dX5_loseNote_17 : decode cX5_loseNote 17 = .ok (.sipush 300, 3) := by decide +kernel
theorem dX5_loseNote_20 : decode cX5_loseNote 20 = .ok (.if_icmp .ne 6, 3) := by decide +kernel
theorem dX5_loseNote_23 : decode cX5_loseNote 23 = .ok (.bipush (-2), 2) := by decide +kernel
theorem dX5_loseNote_25 : decode cX5_loseNote 25 = .ok (.ireturn, 1) := by decide +kernel
theorem dX5_loseNote_26 : decode cX5_loseNote 26 = .ok (.aload_n 0, 1) := by decide +kernel
theorem dX5_loseNote_27 : decode cX5_loseNote 27 = .ok (.invokevirtual 99, 3) := by decide +kernel
theorem dX5_loseNote_30 : decode cX5_loseNote 30 = .ok (.aload_n 0, 1) := by decide +kernel
theorem dX5_loseNote_31 : decode cX5_loseNote 31 = .ok (.invokevirtual 108, 3) := by decide +kernel
theorem dX5_loseNote_34 : decode cX5_loseNote 34 = .ok (.aload_n 0, 1) := by decide +kernel
theorem dX5_loseNote_35 : decode cX5_loseNote 35 = .ok (.getfield 18, 3) := by decide +kernel
theorem dX5_loseNote_38 : decode cX5_loseNote 38 = .ok (.iload_n 2, 1) := by decide +kernel
theorem dX5_loseNote_39 : decode cX5_loseNote 39 = .ok (.invokevirtual 82, 3) := by decide +kernel
theorem dX5_loseNote_42 : decode cX5_loseNote 42 = .ok (.iadd, 1) := by decide +kernel
theorem dX5_loseNote_43 : decode cX5_loseNote 43 = .ok (.if_icmp .ge 6, 3) := by decide +kernel
theorem dX5_loseNote_46 : decode cX5_loseNote 46 = .ok (.bipush (-3), 2) := by decide +kernel
theorem dX5_loseNote_48 : decode cX5_loseNote 48 = .ok (.ireturn, 1) := by decide +kernel
theorem dX5_loseNote_49 : decode cX5_loseNote 49 = .ok (.aload_n 0, 1) := by decide +kernel
theorem dX5_loseNote_50 : decode cX5_loseNote 50 = .ok (.getfield 18, 3) := by decide +kernel
theorem dX5_loseNote_53 : decode cX5_loseNote 53 = .ok (.iload_n 2, 1) := by decide +kernel
theorem dX5_loseNote_54 : decode cX5_loseNote 54 = .ok (.invokevirtual 165, 3) := by decide +kernel
theorem dX5_loseNote_57 : decode cX5_loseNote 57 = .ok (.aload_n 0, 1) := by decide +kernel
theorem dX5_loseNote_58 : decode cX5_loseNote 58 = .ok (.dup, 1) := by decide +kernel
theorem dX5_loseNote_59 : decode cX5_loseNote 59 = .ok (.getfield 65, 3) := by decide +kernel
theorem dX5_loseNote_62 : decode cX5_loseNote 62 = .ok (.iconst 1, 1) := by decide +kernel
theorem dX5_loseNote_63 : decode cX5_loseNote 63 = .ok (.iadd, 1) := by decide +kernel
theorem dX5_loseNote_64 : decode cX5_loseNote 64 = .ok (.putfield 65, 3) := by decide +kernel
theorem dX5_loseNote_67 : decode cX5_loseNote 67 = .ok (.iload_n 2, 1) := by decide +kernel
theorem dX5_loseNote_68 : decode cX5_loseNote 68 = .ok (.ireturn, 1) := by decide +kernel
set_option maxRecDepth 20000 in
theorem ggX5_firstWithNote_X0_isOf : GoodIn wsX5_firstWithNote wsX0_isOf := goodIn_r _ [6, 7, 8, 9, 10, 5, 11, 12, 28, 29, 30, 31, 32] (by decide +kernel) (by decide +kernel)
set_option maxRecDepth 20000 in
theorem gX5_firstWithNote_X0_isOf : GoodIn wsX5_firstWithNote (wsV RX5 85 RX0 yX0_isOf wsX0_isOf) := goodIn_app (goodIn_of _ (by decide +kernel)) ggX5_firstWithNote_X0_isOf
set_option maxRecDepth 20000 in
theorem ggX5_firstWithNote_X0_noteAt : GoodIn wsX5_firstWithNote wsX0_noteAt := goodIn_r _ [16, 17, 8, 9, 10, 5, 11, 12, 28, 29, 30, 31, 32] (by decide +kernel) (by decide +kernel)
set_option maxRecDepth 20000 in
theorem gX5_firstWithNote_X0_noteAt : GoodIn wsX5_firstWithNote (wsV RX5 79 RX0 yX0_noteAt wsX0_noteAt) := goodIn_app (goodIn_of _ (by decide +kernel)) ggX5_firstWithNote_X0_noteAt
theorem dX5_firstWithNote_0 : decode cX5_firstWithNote 0 = .ok (.iconst 0, 1) := by decide +kernel
theorem dX5_firstWithNote_1 : decode cX5_firstWithNote 1 = .ok (.istore_n 2, 1) := by decide +kernel
theorem dX5_firstWithNote_2 : decode cX5_firstWithNote 2 = .ok (.iload_n 2, 1) := by decide +kernel
theorem dX5_firstWithNote_3 : decode cX5_firstWithNote 3 = .ok (.sipush 260, 3) := by decide +kernel
theorem dX5_firstWithNote_6 : decode cX5_firstWithNote 6 = .ok (.if_icmp .ge 37, 3) := by decide +kernel
theorem dX5_firstWithNote_9 : decode cX5_firstWithNote 9 = .ok (.aload_n 0, 1) := by decide +kernel
theorem dX5_firstWithNote_10 : decode cX5_firstWithNote 10 = .ok (.getfield 18, 3) := by decide +kernel
theorem dX5_firstWithNote_13 : decode cX5_firstWithNote 13 = .ok (.iload_n 1, 1) := by decide +kernel
theorem dX5_firstWithNote_14 : decode cX5_firstWithNote 14 = .ok (.iload_n 2, 1) := by decide +kernel
theorem dX5_firstWithNote_15 : decode cX5_firstWithNote 15 = .ok (.invokevirtual 85, 3) := by decide +kernel
theorem dX5_firstWithNote_18 : decode cX5_firstWithNote 18 = .ok (.ifCond .eq 19, 3) := by decide +kernel
theorem dX5_firstWithNote_21 : decode cX5_firstWithNote 21 = .ok (.aload_n 0, 1) := by decide +kernel
theorem dX5_firstWithNote_22 : decode cX5_firstWithNote 22 = .ok (.getfield 18, 3) := by decide +kernel
theorem dX5_firstWithNote_25 : decode cX5_firstWithNote 25 = .ok (.iload_n 2, 1) := by decide +kernel
theorem dX5_firstWithNote_26 : decode cX5_firstWithNote 26 = .ok (.invokevirtual 79, 3) := by decide +kernel
theorem dX5_firstWithNote_29 : decode cX5_firstWithNote 29 = .ok (.sipush 300, 3) := by decide +kernel
theorem dX5_firstWithNote_32 : decode cX5_firstWithNote 32 = .ok (.if_icmp .eq 5, 3) := by decide +kernel
theorem dX5_firstWithNote_35 : decode cX5_firstWithNote 35 = .ok (.iload_n 2, 1) := by decide +kernel
theorem dX5_firstWithNote_36 : decode cX5_firstWithNote 36 = .ok (.ireturn, 1) := by decide +kernel
theorem dX5_firstWithNote_37 : decode cX5_firstWithNote 37 = .ok (.iinc 2 1, 3) := by decide +kernel
theorem dX5_firstWithNote_40 : decode cX5_firstWithNote 40 = .ok (.goto (-38), 3) := by decide +kernel
theorem dX5_firstWithNote_43 : decode cX5_firstWithNote 43 = .ok (.sipush 300, 3) := by decide +kernel
theorem dX5_firstWithNote_46 : decode cX5_firstWithNote 46 = .ok (.ireturn, 1) := by decide +kernel
set_option maxRecDepth 20000 in
theorem ggX5_mendTwins_X5_isThing : GoodIn wsX5_mendTwins wsX5_isThing := goodIn_r _ [7, 8, 52, 53, 54, 55, 56, 57, 58, 59, 60, 61] (by decide +kernel) (by decide +kernel)
set_option maxRecDepth 20000 in
theorem gX5_mendTwins_X5_isThing : GoodIn wsX5_mendTwins (wsV RX5 159 RX5 yX5_isThing wsX5_isThing) := goodIn_app (goodIn_of _ (by decide +kernel)) ggX5_mendTwins_X5_isThing
set_option maxRecDepth 20000 in
theorem ggX5_mendTwins_X5_hasTwins : GoodIn wsX5_mendTwins wsX5_hasTwins := goodIn_r _ [12, 2, 13, 14, 15, 16, 17, 18, 19, 20, 21, 22, 23, 24, 25, 26, 6, 27, 28, 1, 29, 30, 31, 32, 52, 53, 54, 55, 56, 57, 58, 59, 60, 61, 62, 63, 64, 65, 66] (by decide +kernel) (by decide +kernel)
set_option maxRecDepth 20000 in
theorem gX5_mendTwins_X5_hasTwins : GoodIn wsX5_mendTwins (wsV RX5 92 RX5 yX5_hasTwins wsX5_hasTwins) := goodIn_app (goodIn_of _ (by decide +kernel)) ggX5_mendTwins_X5_hasTwins
set_option maxRecDepth 20000 in
theorem ggX5_mendTwins_X0_addressOf : GoodIn wsX5_mendTwins wsX0_addressOf := goodIn_r _ [36, 37, 14, 15, 16, 17, 18, 19, 20, 21, 22, 23, 62, 63, 64, 65, 66] (by decide +kernel) (by decide +kernel)
set_option maxRecDepth 20000 in
theorem gX5_mendTwins_X0_addressOf : GoodIn wsX5_mendTwins (wsV RX5 168 RX0 yX0_addressOf wsX0_addressOf) := goodIn_app (goodIn_of _ (by decide +kernel)) ggX5_mendTwins_X0_addressOf
set_option maxRecDepth 20000 in
theorem ggX5_mendTwins_X0_isOf : GoodIn wsX5_mendTwins wsX0_isOf := goodIn_r _ [17, 18, 19, 20, 21, 16, 22, 23, 62, 63, 64, 65, 66] (by decide +kernel) (by decide +kernel)
set_option maxRecDepth 20000 in
theorem gX5_mendTwins_X0_isOf : GoodIn wsX5_mendTwins (wsV RX5 85 RX0 yX0_isOf wsX0_isOf) := goodIn_app (goodIn_of _ (by decide +kernel)) ggX5_mendTwins_X0_isOf
set_option maxRecDepth 20000 in
theorem ggX5_mendTwins_X0_remove : GoodIn wsX5_mendTwins wsX0_remove := goodIn_r _ [41, 23, 62, 63, 64, 65, 66] (by decide +kernel) (by decide +kernel)
set_option maxRecDepth 20000 in
theorem gX5_mendTwins_X0_remove : GoodIn wsX5_mendTwins (wsV RX5 172 RX0 yX0_remove wsX0_remove) := goodIn_app (goodIn_of _ (by decide +kernel)) ggX5_mendTwins_X0_remove
set_option maxRecDepth 20000 in
theorem ggX5_mendTwins_X0_replaceNames : GoodIn wsX5_mendTwins wsX0_replaceNames := goodIn_r _ [45, 46, 62, 63, 64, 65, 66] (by decide +kernel) (by decide +kernel)
set_option maxRecDepth 20000 in
theorem gX5_mendTwins_X0_replaceNames : GoodIn wsX5_mendTwins (wsV RX5 175 RX0 yX0_replaceNames wsX0_replaceNames) := goodIn_app (goodIn_of _ (by decide +kernel)) ggX5_mendTwins_X0_replaceNames
set_option maxRecDepth 20000 in
theorem ggX5_mendTwins_X5_replaceHooks : GoodIn wsX5_mendTwins wsX5_replaceHooks := goodIn_r _ [50, 51, 52, 53, 54, 55, 56, 57, 58, 59, 60, 61] (by decide +kernel) (by decide +kernel)
set_option maxRecDepth 20000 in
theorem gX5_mendTwins_X5_replaceHooks : GoodIn wsX5_mendTwins (wsV RX5 179 RX5 yX5_replaceHooks wsX5_replaceHooks) := goodIn_app (goodIn_of _ (by decide +kernel)) ggX5_mendTwins_X5_replaceHooks
theorem dX5_mendTwins_0 : decode cX5_mendTwins 0 = .ok (.aload_n 0, 1) := by decide +kernel
theorem dX5_mendTwins_1 : decode cX5_mendTwins 1 = .ok (.iload_n 1, 1) := by decide +kernel
theorem dX5_mendTwins_2 : decode cX5_mendTwins 2 = .ok (.invokevirtual 159, 3) := by decide +kernel
theorem dX5_mendTwins_5 : decode cX5_mendTwins 5 = .ok (.ifCond .ne 5, 3) := by decide +kernel
theorem dX5_mendTwins_8 : decode cX5_mendTwins 8 = .ok (.iconst (-1), 1) := by decide +kernel
theorem dX5_mendTwins_9 : decode cX5_mendTwins 9 = .ok (.ireturn, 1) := by decide +kernel
theorem dX5_mendTwins_10 : decode cX5_mendTwins 10 = .ok (.aload_n 0, 1) := by decide +kernel
theorem dX5_mendTwins_11 : decode cX5_mendTwins 11 = .ok (.getfield 55, 3) := by decide +kernel
theorem dX5_mendTwins_14 : decode cX5_mendTwins 14 = .ok (.ifCond .ne 11, 3) := by decide +kernel
theorem dX5_mendTwins_17 : decode cX5_mendTwins 17 = .ok (.aload_n 0, 1) := by decide +kernel
theorem dX5_mendTwins_18 : decode cX5_mendTwins 18 = .ok (.iload_n 1, 1) := by decide +kernel
theorem dX5_mendTwins_19 : decode cX5_mendTwins 19 = .ok (.invokevirtual 92, 3) := by decide +kernel
theorem dX5_mendTwins_22 : decode cX5_mendTwins 22 = .ok (.ifCond .ne 6, 3) := by decide +kernel
theorem dX5_mendTwins_25 : decode cX5_mendTwins 25 = .ok (.bipush (-2), 2) := by decide +kernel
theorem dX5_mendTwins_27 : decode cX5_mendTwins 27 = .ok (.ireturn, 1) := by decide +kernel
theorem dX5_mendTwins_28 : decode cX5_mendTwins 28 = .ok (.aload_n 0, 1) := by decide +kernel
theorem dX5_mendTwins_29 : decode cX5_mendTwins 29 = .ok (.getfield 18, 3) := by decide +kernel
theorem dX5_mendTwins_32 : decode cX5_mendTwins 32 = .ok (.iload_n 1, 1) := by decide +kernel
theorem dX5_mendTwins_33 : decode cX5_mendTwins 33 = .ok (.iconst 0, 1) := by decide +kernel
theorem dX5_mendTwins_34 : decode cX5_mendTwins 34 = .ok (.invokevirtual 168, 3) := by decide +kernel
theorem dX5_mendTwins_37 : decode cX5_mendTwins 37 = .ok (.istore_n 2, 1) := by decide +kernel
theorem dX5_mendTwins_38 : decode cX5_mendTwins 38 = .ok (.iconst 0, 1) := by decide +kernel
theorem dX5_mendTwins_39 : decode cX5_mendTwins 39 = .ok (.istore_n 3, 1) := by decide +kernel
theorem dX5_mendTwins_40 : decode cX5_mendTwins 40 = .ok (.iload_n 2, 1) := by decide +kernel
theorem dX5_mendTwins_41 : decode cX5_mendTwins 41 = .ok (.iconst 1, 1) := by decide +kernel
theorem dX5_mendTwins_42 : decode cX5_mendTwins 42 = .ok (.iadd, 1) := by decide +kernel
theorem dX5_mendTwins_43 : decode cX5_mendTwins 43 = .ok (.istore 4, 2) := by decide +kernel
theorem dX5_mendTwins_45 : decode cX5_mendTwins 45 = .ok (.iload 4, 2) := by decide +kernel
theorem dX5_mendTwins_47 : decode cX5_mendTwins 47 = .ok (.sipush 260, 3) := by decide +kernel
theorem dX5_mendTwins_50 : decode cX5_mendTwins 50 = .ok (.if_icmp .ge 51, 3) := by decide +kernel
theorem dX5_mendTwins_53 : decode cX5_mendTwins 53 = .ok (.aload_n 0, 1) := by decide +kernel
theorem dX5_mendTwins_54 : decode cX5_mendTwins 54 = .ok (.getfield 18, 3) := by decide +kernel
theorem dX5_mendTwins_57 : decode cX5_mendTwins 57 = .ok (.iload_n 1, 1) := by decide +kernel
theorem dX5_mendTwins_58 : decode cX5_mendTwins 58 = .ok (.iload 4, 2) := by decide +kernel
theorem dX5_mendTwins_60 : decode cX5_mendTwins 60 = .ok (.invokevirtual 85, 3) := by decide +kernel
theorem dX5_mendTwins_63 : decode cX5_mendTwins 63 = .ok (.ifCond .eq 32, 3) := by decide +kernel
theorem dX5_mendTwins_66 : decode cX5_mendTwins 66 = .ok (.aload_n 0, 1) := by decide +kernel
theorem dX5_mendTwins_67 : decode cX5_mendTwins 67 = .ok (.getfield 18, 3) := by decide +kernel
theorem dX5_mendTwins_70 : decode cX5_mendTwins 70 = .ok (.iload 4, 2) := by decide +kernel
theorem dX5_mendTwins_72 : decode cX5_mendTwins 72 = .ok (.invokevirtual 172, 3) := by decide +kernel
theorem dX5_mendTwins_75 : decode cX5_mendTwins 75 = .ok (.aload_n 0, 1) := by decide +kernel
theorem dX5_mendTwins_76 : decode cX5_mendTwins 76 = .ok (.getfield 18, 3) := by decide +kernel
theorem dX5_mendTwins_79 : decode cX5_mendTwins 79 = .ok (.iload 4, 2) := by decide +kernel
theorem dX5_mendTwins_81 : decode cX5_mendTwins 81 = .ok (.iload_n 2, 1) := by decide +kernel
theorem dX5_mendTwins_82 : decode cX5_mendTwins 82 = .ok (.invokevirtual 175, 3) := by decide +kernel
theorem dX5_mendTwins_85 : decode cX5_mendTwins 85 = .ok (.aload_n 0, 1) := by decide +kernel
theorem dX5_mendTwins_86 : decode cX5_mendTwins 86 = .ok (.iload 4, 2) := by decide +kernel
theorem dX5_mendTwins_88 : decode cX5_mendTwins 88 = .ok (.iload_n 2, 1) := by decide +kernel
theorem dX5_mendTwins_89 : decode cX5_mendTwins 89 = .ok (.invokevirtual 179, 3) := by decide +kernel
theorem dX5_mendTwins_92 : decode cX5_mendTwins 92 = .ok (.iinc 3 1, 3) := by decide +kernel
theorem dX5_mendTwins_95 : decode cX5_mendTwins 95 = .ok (.iinc 4 1, 3) := by decide +kernel
theorem dX5_mendTwins_98 : decode cX5_mendTwins 98 = .ok (.goto (-53), 3) := by decide +kernel
theorem dX5_mendTwins_101 : decode cX5_mendTwins 101 = .ok (.iload_n 3, 1) := by decide +kernel
theorem dX5_mendTwins_102 : decode cX5_mendTwins 102 = .ok (.ireturn, 1) := by decide +kernel
theorem dX5_replaceHooks_0 : decode cX5_replaceHooks 0 = .ok (.iconst 0, 1) := by decide +kernel
theorem dX5_replaceHooks_1 : decode cX5_replaceHooks 1 = .ok (.istore_n 3, 1) := by decide +kernel
theorem dX5_replaceHooks_2 : decode cX5_replaceHooks 2 = .ok (.iload_n 3, 1) := by decide +kernel
theorem dX5_replaceHooks_3 : decode cX5_replaceHooks 3 = .ok (.bipush 8, 2) := by decide +kernel
theorem dX5_replaceHooks_5 : decode cX5_replaceHooks 5 = .ok (.if_icmp .ge 26, 3) := by decide +kernel
theorem dX5_replaceHooks_8 : decode cX5_replaceHooks 8 = .ok (.aload_n 0, 1) := by decide +kernel
theorem dX5_replaceHooks_9 : decode cX5_replaceHooks 9 = .ok (.getfield 9, 3) := by decide +kernel
theorem dX5_replaceHooks_12 : decode cX5_replaceHooks 12 = .ok (.iload_n 3, 1) := by decide +kernel
theorem dX5_replaceHooks_13 : decode cX5_replaceHooks 13 = .ok (.iaload, 1) := by decide +kernel
theorem dX5_replaceHooks_14 : decode cX5_replaceHooks 14 = .ok (.iload_n 1, 1) := by decide +kernel
theorem dX5_replaceHooks_15 : decode cX5_replaceHooks 15 = .ok (.if_icmp .ne 10, 3) := by decide +kernel
theorem dX5_replaceHooks_18 : decode cX5_replaceHooks 18 = .ok (.aload_n 0, 1) := by decide +kernel
theorem dX5_replaceHooks_19 : decode cX5_replaceHooks 19 = .ok (.getfield 9, 3) := by decide +kernel
theorem dX5_replaceHooks_22 : decode cX5_replaceHooks 22 = .ok (.iload_n 3, 1) := by decide +kernel
theorem dX5_replaceHooks_23 : decode cX5_replaceHooks 23 = .ok (.iload_n 2, 1) := by decide +kernel
theorem dX5_replaceHooks_24 : decode cX5_replaceHooks 24 = .ok (.iastore, 1) := by decide +kernel
theorem dX5_replaceHooks_25 : decode cX5_replaceHooks 25 = .ok (.iinc 3 1, 3) := by decide +kernel
theorem dX5_replaceHooks_28 : decode cX5_replaceHooks 28 = .ok (.goto (-26), 3) := by decide +kernel
theorem dX5_replaceHooks_31 : decode cX5_replaceHooks 31 = .ok (.return_, 1) := by decide +kernel
set_option maxRecDepth 20000 in
theorem ggX5_readIn_X5_isInOldHalf : GoodIn wsX5_readIn wsX5_isInOldHalf := goodIn_r _ [8, 9, 2, 10, 11, 12, 7, 13, 56, 57, 58, 59, 60, 61, 62, 63, 64, 65] (by decide +kernel) (by decide +kernel)
set_option maxRecDepth 20000 in
theorem gX5_readIn_X5_isInOldHalf : GoodIn wsX5_readIn (wsV RX5 89 RX5 yX5_isInOldHalf wsX5_isInOldHalf) := goodIn_app (goodIn_of _ (by decide +kernel)) ggX5_readIn_X5_isInOldHalf
set_option maxRecDepth 20000 in
theorem ggX5_readIn_X0_noteAt : GoodIn wsX5_readIn wsX0_noteAt := goodIn_r _ [18, 19, 20, 21, 22, 17, 23, 24, 66, 67, 68, 69, 70] (by decide +kernel) (by decide +kernel)
set_option maxRecDepth 20000 in
theorem gX5_readIn_X0_noteAt : GoodIn wsX5_readIn (wsV RX5 79 RX0 yX0_noteAt wsX0_noteAt) := goodIn_app (goodIn_of _ (by decide +kernel)) ggX5_readIn_X0_noteAt
set_option maxRecDepth 20000 in
theorem ggX5_readIn_X0_sizeAt : GoodIn wsX5_readIn wsX0_sizeAt := goodIn_r _ [28, 24, 20, 21, 22, 17, 23, 66, 67, 68, 69, 70] (by decide +kernel) (by decide +kernel)
set_option maxRecDepth 20000 in
theorem gX5_readIn_X0_sizeAt : GoodIn wsX5_readIn (wsV RX5 82 RX0 yX0_sizeAt wsX0_sizeAt) := goodIn_app (goodIn_of _ (by decide +kernel)) ggX5_readIn_X0_sizeAt
set_option maxRecDepth 20000 in
theorem ggX5_readIn_X5_carryOver : GoodIn wsX5_readIn wsX5_carryOver := goodIn_r _ [32, 9, 33, 1, 3, 34, 35, 36, 7, 37, 10, 11, 12, 13, 38, 39, 40, 17, 41, 42, 24, 19, 43, 44, 45, 46, 47, 48, 49, 50, 51, 56, 57, 58, 59, 60, 61, 62, 63, 64, 65, 66, 67, 68, 69, 70, 71, 72, 73] (by decide +kernel) (by decide +kernel)
set_option maxRecDepth 20000 in
theorem gX5_readIn_X5_carryOver : GoodIn wsX5_readIn (wsV RX5 182 RX5 yX5_carryOver wsX5_carryOver) := goodIn_app (goodIn_of _ (by decide +kernel)) ggX5_readIn_X5_carryOver
set_option maxRecDepth 20000 in
theorem ggX5_readIn_X0_mark : GoodIn wsX5_readIn wsX0_mark := goodIn_r _ [55, 43, 20, 21, 22, 17, 23, 24, 66, 67, 68, 69, 70] (by decide +kernel) (by decide +kernel)
set_option maxRecDepth 20000 in
theorem gX5_readIn_X0_mark : GoodIn wsX5_readIn (wsV RX5 124 RX0 yX0_mark wsX0_mark) := goodIn_app (goodIn_of _ (by decide +kernel)) ggX5_readIn_X0_mark
set_option maxRecDepth 20000 in
theorem ggX5_readIn_X3_join : GoodIn wsX5_readIn wsX3_join := goodIn_r _ [49, 50, 51, 71, 72, 73] (by decide +kernel) (by decide +kernel)
set_option maxRecDepth 20000 in
theorem gX5_readIn_X3_join : GoodIn wsX5_readIn (wsV RX5 185 RX3 yX3_join wsX3_join) := goodIn_app (goodIn_of _ (by decide +kernel)) ggX5_readIn_X3_join
theorem dX5_readIn_0 : decode cX5_readIn 0 = .ok (.aload_n 1, 1) := by decide +kernel
theorem dX5_readIn_1 : decode cX5_readIn 1 = .ok (.ifnull 13, 3) := by decide +kernel
theorem dX5_readIn_4 : decode cX5_readIn 4 = .ok (.iload_n 2, 1) := by decide +kernel
theorem dX5_readIn_5 : decode cX5_readIn 5 = .ok (.ifCond .lt 9, 3) := by decide +kernel
theorem dX5_readIn_8 : decode cX5_readIn 8 = .ok (.iload_n 2, 1) := by decide +kernel
theorem dX5_readIn_9 : decode cX5_readIn 9 = .ok (.aload_n 1, 1) := by decide +kernel
theorem dX5_readIn_10 : decode cX5_readIn 10 = .ok (.arraylength, 1) := by decide +kernel
theorem dX5_readIn_11 : decode cX5_readIn 11 = .ok (.if_icmp .lt 7, 3) := by decide +kernel
theorem dX5_readIn_14 : decode cX5_readIn 14 = .ok (.sipush 300, 3) := by decide +kernel
theorem dX5_readIn_17 : decode cX5_readIn 17 = .ok (.ireturn, 1) := by decide +kernel
theorem dX5_readIn_18 : decode cX5_readIn 18 = .ok (.aload_n 1, 1) := by decide +kernel
theorem dX5_readIn_19 : decode cX5_readIn 19 = .ok (.iload_n 2, 1) := by decide +kernel
theorem dX5_readIn_20 : decode cX5_readIn 20 = .ok (.iaload, 1) := by decide +kernel
theorem dX5_readIn_21 : decode cX5_readIn 21 = .ok (.istore_n 3, 1) := by decide +kernel
theorem dX5_readIn_22 : decode cX5_readIn 22 = .ok (.aload_n 0, 1) := by decide +kernel
theorem dX5_readIn_23 : decode cX5_readIn 23 = .ok (.iload_n 3, 1) := by decide +kernel
theorem dX5_readIn_24 : decode cX5_readIn 24 = .ok (.invokevirtual 89, 3) := by decide +kernel
theorem dX5_readIn_27 : decode cX5_readIn 27 = .ok (.ifCond .eq 45, 3) := by decide +kernel
theorem dX5_readIn_30 : decode cX5_readIn 30 = .ok (.aload_n 0, 1) := by decide +kernel
theorem dX5_readIn_31 : decode cX5_readIn 31 = .ok (.getfield 18, 3) := by decide +kernel
theorem dX5_readIn_34 : decode cX5_readIn 34 = .ok (.iload_n 3, 1) := by decide +kernel
theorem dX5_readIn_35 : decode cX5_readIn 35 = .ok (.invokevirtual 79, 3) := by decide +kernel
theorem dX5_readIn_38 : decode cX5_readIn 38 = .ok (.istore 4, 2) := by decide +kernel
theorem dX5_readIn_40 : decode cX5_readIn 40 = .ok (.aload_n 1, 1) := by decide +kernel
theorem dX5_readIn_41 : decode cX5_readIn 41 = .ok (.iload_n 2, 1) := by decide +kernel
theorem dX5_readIn_42 : decode cX5_readIn 42 = .ok (.iload 4, 2) := by decide +kernel
theorem dX5_readIn_44 : decode cX5_readIn 44 = .ok (.sipush 300, 3) := by decide +kernel
theorem dX5_readIn_47 : decode cX5_readIn 47 = .ok (.if_icmp .eq 8, 3) := by decide +kernel
theorem dX5_readIn_50 : decode cX5_readIn 50 = .ok (.iload 4, 2) := by decide +kernel
theorem dX5_readIn_52 : decode cX5_readIn 52 = .ok (.goto 16, 3) := by decide +kernel
theorem dX5_readIn_55 : decode cX5_readIn 55 = .ok (.aload_n 0, 1) := by decide +kernel
theorem dX5_readIn_56 : decode cX5_readIn 56 = .ok (.iload_n 3, 1) := by decide +kernel
theorem dX5_readIn_57 : decode cX5_readIn 57 = .ok (.aload_n 0, 1) := by decide +kernel
theorem dX5_readIn_58 : decode cX5_readIn 58 = .ok (.getfield 18, 3) := by decide +kernel
theorem dX5_readIn_61 : decode cX5_readIn 61 = .ok (.iload_n 3, 1) := by decide +kernel
theorem dX5_readIn_62 : decode cX5_readIn 62 = .ok (.invokevirtual 82, 3) := by decide +kernel
theorem dX5_readIn_65 : decode cX5_readIn 65 = .ok (.invokevirtual 182, 3) := by decide +kernel
theorem dX5_readIn_68 : decode cX5_readIn 68 = .ok (.iastore, 1) := by decide +kernel
theorem dX5_readIn_69 : decode cX5_readIn 69 = .ok (.goto 36, 3) := by decide +kernel
theorem dX5_readIn_72 : decode cX5_readIn 72 = .ok (.aload_n 0, 1) := by decide +kernel
theorem dX5_readIn_73 : decode cX5_readIn 73 = .ok (.getfield 55, 3) := by decide +kernel
theorem dX5_readIn_76 : decode cX5_readIn 76 = .ok (.ifCond .eq 29, 3) := by decide +kernel
theorem dX5_readIn_79 : decode cX5_readIn 79 = .ok (.iload_n 3, 1) := by decide +kernel
theorem dX5_readIn_80 : decode cX5_readIn 80 = .ok (.sipush 200, 3) := by decide +kernel
theorem dX5_readIn_83 : decode cX5_readIn 83 = .ok (.if_icmp .lt 22, 3) := by decide +kernel
theorem dX5_readIn_86 : decode cX5_readIn 86 = .ok (.aload_n 0, 1) := by decide +kernel
theorem dX5_readIn_87 : decode cX5_readIn 87 = .ok (.getfield 18, 3) := by decide +kernel
theorem dX5_readIn_90 : decode cX5_readIn 90 = .ok (.iload_n 3, 1) := by decide +kernel
theorem dX5_readIn_91 : decode cX5_readIn 91 = .ok (.invokevirtual 124, 3) := by decide +kernel
theorem dX5_readIn_94 : decode cX5_readIn 94 = .ok (.ifCond .eq 11, 3) := by decide +kernel
theorem dX5_readIn_97 : decode cX5_readIn 97 = .ok (.aload_n 0, 1) := by decide +kernel
theorem dX5_readIn_98 : decode cX5_readIn 98 = .ok (.getfield 25, 3) := by decide +kernel
theorem dX5_readIn_101 : decode cX5_readIn 101 = .ok (.iload_n 3, 1) := by decide +kernel
theorem dX5_readIn_102 : decode cX5_readIn 102 = .ok (.invokevirtual 185, 3) := by decide +kernel
theorem dX5_readIn_105 : decode cX5_readIn 105 = .ok (.aload_n 1, 1) := by decide +kernel
theorem dX5_readIn_106 : decode cX5_readIn 106 = .ok (.iload_n 2, 1) := by decide +kernel
theorem dX5_readIn_107 : decode cX5_readIn 107 = .ok (.iaload, 1) := by decide +kernel
theorem dX5_readIn_108 : decode cX5_readIn 108 = .ok (.ireturn, 1) := by decide +kernel
set_option maxRecDepth 20000 in
theorem ggX5_carryOver_X5_freeInHalf : GoodIn wsX5_carryOver wsX5_freeInHalf := goodIn_r _ [9, 2, 31, 32, 33, 34, 35, 36, 37, 38, 39, 40] (by decide +kernel) (by decide +kernel)
set_option maxRecDepth 20000 in
theorem gX5_carryOver_X5_freeInHalf : GoodIn wsX5_carryOver (wsV RX5 99 RX5 yX5_freeInHalf wsX5_freeInHalf) := goodIn_app (goodIn_of _ (by decide +kernel)) ggX5_carryOver_X5_freeInHalf
set_option maxRecDepth 20000 in
theorem ggX5_carryOver_X5_addressOfHalf : GoodIn wsX5_carryOver wsX5_addressOfHalf := goodIn_r _ [13] (by decide +kernel) (by decide +kernel)
set_option maxRecDepth 20000 in
theorem gX5_carryOver_X5_addressOfHalf : GoodIn wsX5_carryOver (wsV RX5 75 RX5 yX5_addressOfHalf wsX5_addressOfHalf) := goodIn_app (goodIn_of _ (by decide +kernel)) ggX5_carryOver_X5_addressOfHalf
set_option maxRecDepth 20000 in
theorem ggX5_carryOver_X0_layAgain : GoodIn wsX5_carryOver wsX0_layAgain := goodIn_r _ [18, 19, 20, 21, 22, 23, 41, 42, 43, 44, 45] (by decide +kernel) (by decide +kernel)
set_option maxRecDepth 20000 in
theorem gX5_carryOver_X0_layAgain : GoodIn wsX5_carryOver (wsV RX5 188 RX0 yX0_layAgain wsX0_layAgain) := goodIn_app (goodIn_of _ (by decide +kernel)) ggX5_carryOver_X0_layAgain
set_option maxRecDepth 20000 in
theorem ggX5_carryOver_X3_join : GoodIn wsX5_carryOver wsX3_join := goodIn_r _ [28, 29, 30, 46, 47, 48] (by decide +kernel) (by decide +kernel)
set_option maxRecDepth 20000 in
theorem gX5_carryOver_X3_join : GoodIn wsX5_carryOver (wsV RX5 185 RX3 yX3_join wsX3_join) := goodIn_app (goodIn_of _ (by decide +kernel)) ggX5_carryOver_X3_join
theorem dX5_carryOver_0 : decode cX5_carryOver 0 = .ok (.iload_n 2, 1) := by decide +kernel
theorem dX5_carryOver_1 : decode cX5_carryOver 1 = .ok (.ifCond .eq 11, 3) := by decide +kernel
theorem dX5_carryOver_4 : decode cX5_carryOver 4 = .ok (.iload_n 2, 1) := by decide +kernel
theorem dX5_carryOver_5 : decode cX5_carryOver 5 = .ok (.aload_n 0, 1) := by decide +kernel
theorem dX5_carryOver_6 : decode cX5_carryOver 6 = .ok (.invokevirtual 99, 3) := by decide +kernel
theorem dX5_carryOver_9 : decode cX5_carryOver 9 = .ok (.if_icmp .le 5, 3) := by decide +kernel
theorem dX5_carryOver_12 : decode cX5_carryOver 12 = .ok (.iload_n 1, 1) := by decide +kernel
theorem dX5_carryOver_13 : decode cX5_carryOver 13 = .ok (.ireturn, 1) := by decide +kernel
theorem dX5_carryOver_14 : decode cX5_carryOver 14 = .ok (.aload_n 0, 1) := by decide +kernel
theorem dX5_carryOver_15 : decode cX5_carryOver 15 = .ok (.aload_n 0, 1) := by decide +kernel
theorem dX5_carryOver_16 : decode cX5_carryOver 16 = .ok (.getfield 59, 3) := by decide +kernel
theorem dX5_carryOver_19 : decode cX5_carryOver 19 = .ok (.invokevirtual 75, 3) := by decide +kernel
theorem dX5_carryOver_22 : decode cX5_carryOver 22 = .ok (.aload_n 0, 1) := by decide +kernel
theorem dX5_carryOver_23 : decode cX5_carryOver 23 = .ok (.getfield 62, 3) := by decide +kernel
theorem dX5_carryOver_26 : decode cX5_carryOver 26 = .ok (.iadd, 1) := by decide +kernel
theorem dX5_carryOver_27 : decode cX5_carryOver 27 = .ok (.istore_n 3, 1) := by decide +kernel
theorem dX5_carryOver_28 : decode cX5_carryOver 28 = .ok (.aload_n 0, 1) := by decide +kernel
theorem dX5_carryOver_29 : decode cX5_carryOver 29 = .ok (.getfield 18, 3) := by decide +kernel
theorem dX5_carryOver_32 : decode cX5_carryOver 32 = .ok (.iload_n 1, 1) := by decide +kernel
theorem dX5_carryOver_33 : decode cX5_carryOver 33 = .ok (.iload_n 3, 1) := by decide +kernel
theorem dX5_carryOver_34 : decode cX5_carryOver 34 = .ok (.invokevirtual 188, 3) := by decide +kernel
theorem dX5_carryOver_37 : decode cX5_carryOver 37 = .ok (.aload_n 0, 1) := by decide +kernel
theorem dX5_carryOver_38 : decode cX5_carryOver 38 = .ok (.dup, 1) := by decide +kernel
theorem dX5_carryOver_39 : decode cX5_carryOver 39 = .ok (.getfield 62, 3) := by decide +kernel
theorem dX5_carryOver_42 : decode cX5_carryOver 42 = .ok (.iload_n 2, 1) := by decide +kernel
theorem dX5_carryOver_43 : decode cX5_carryOver 43 = .ok (.iadd, 1) := by decide +kernel
theorem dX5_carryOver_44 : decode cX5_carryOver 44 = .ok (.putfield 62, 3) := by decide +kernel
theorem dX5_carryOver_47 : decode cX5_carryOver 47 = .ok (.aload_n 0, 1) := by decide +kernel
theorem dX5_carryOver_48 : decode cX5_carryOver 48 = .ok (.getfield 25, 3) := by decide +kernel
theorem dX5_carryOver_51 : decode cX5_carryOver 51 = .ok (.iload_n 3, 1) := by decide +kernel
theorem dX5_carryOver_52 : decode cX5_carryOver 52 = .ok (.invokevirtual 185, 3) := by decide +kernel
theorem dX5_carryOver_55 : decode cX5_carryOver 55 = .ok (.iload_n 3, 1) := by decide +kernel
theorem dX5_carryOver_56 : decode cX5_carryOver 56 = .ok (.ireturn, 1) := by decide +kernel
theorem dX6_init_0 : decode cX6_init 0 = .ok (.aload_n 0, 1) := by decide +kernel
theorem dX6_init_1 : decode cX6_init 1 = .ok (.invokespecial 3, 3) := by decide +kernel
theorem dX6_init_4 : decode cX6_init 4 = .ok (.aload_n 0, 1) := by decide +kernel
theorem dX6_init_5 : decode cX6_init 5 = .ok (.bipush 80, 2) := by decide +kernel
theorem dX6_init_7 : decode cX6_init 7 = .ok (.newarray .int, 2) := by decide +kernel
theorem dX6_init_9 : decode cX6_init 9 = .ok (.putfield 9, 3) := by decide +kernel
theorem dX6_init_12 : decode cX6_init 12 = .ok (.return_, 1) := by decide +kernel
theorem dX6_size_0 : decode cX6_size 0 = .ok (.aload_n 0, 1) := by decide +kernel
theorem dX6_size_1 : decode cX6_size 1 = .ok (.getfield 15, 3) := by decide +kernel
theorem dX6_size_4 : decode cX6_size 4 = .ok (.ireturn, 1) := by decide +kernel
set_option maxRecDepth 20000 in
theorem ggX7_init_X5_init : GoodIn wsX7_init wsX5_init := goodIn_r _ [27, 28, 2, 3, 29, 30, 31, 32, 33, 34, 35, 36, 37, 38, 39, 40, 41, 42, 43, 44, 45, 46, 47, 48, 49, 50, 51, 52, 53, 54, 55, 56, 57, 80, 81, 82, 83, 84, 85, 86, 87, 88, 89, 108, 109, 110, 111, 112, 113, 114, 115] (by decide +kernel) (by decide +kernel)
set_option maxRecDepth 20000 in
theorem gX7_init_X5_init : GoodIn wsX7_init (wsX5_init) := ggX7_init_X5_init
set_option maxRecDepth 20000 in
theorem ggX7_init_X2_init : GoodIn wsX7_init wsX2_init := goodIn_r _ [60, 61, 2, 3, 62, 63, 5, 6, 64, 26, 27, 28, 29, 30, 31, 32, 33, 34, 35, 36, 37, 38, 39, 40, 41, 42, 43, 44, 45, 46, 47, 48, 49, 50, 51, 52, 53, 54, 55, 56, 57, 96, 97, 98, 80, 81, 82, 83, 84, 85, 86, 87, 88, 89, 108, 109, 110, 111, 112, 113, 114, 115] (by decide +kernel) (by decide +kernel)
set_option maxRecDepth 20000 in
theorem gX7_init_X2_init : GoodIn wsX7_init (wsX2_init) := ggX7_init_X2_init
set_option maxRecDepth 20000 in
theorem ggX7_init_X4_init : GoodIn wsX7_init wsX4_init := goodIn_r _ [66, 67, 2, 3, 68, 69, 29, 70, 71, 99, 100, 101, 102] (by decide +kernel) (by decide +kernel)
set_option maxRecDepth 20000 in
theorem gX7_init_X4_init_n28 : GoodIn wsX7_init (wsX4_init) := ggX7_init_X4_init
set_option maxRecDepth 20000 in
theorem ggX7_init_X6_init : GoodIn wsX7_init wsX6_init := goodIn_r _ [73, 74, 2, 3, 29, 75, 103, 104] (by decide +kernel) (by decide +kernel)
set_option maxRecDepth 20000 in
theorem gX7_init_X6_init_n35 : GoodIn wsX7_init (wsX6_init) := ggX7_init_X6_init
set_option maxRecDepth 20000 in
theorem ggX7_init_X1_init : GoodIn wsX7_init wsX1_init := goodIn_r _ [77, 78, 2, 3, 29, 79, 105, 106, 107] (by decide +kernel) (by decide +kernel)
set_option maxRecDepth 20000 in
theorem gX7_init_X1_init_n42 : GoodIn wsX7_init (wsX1_init) := ggX7_init_X1_init
theorem dX7_init_0 : decode cX7_init 0 = .ok (.aload_n 0, 1) := by decide +kernel
theorem dX7_init_1 : decode cX7_init 1 = .ok (.invokespecial 3, 3) := by decide +kernel
theorem dX7_init_4 : decode cX7_init 4 = .ok (.aload_n 0, 1) := by decide +kernel
theorem dX7_init_5 : decode cX7_init 5 = .ok (.new 9, 3) := by decide +kernel
theorem dX7_init_8 : decode cX7_init 8 = .ok (.dup, 1) := by decide +kernel
theorem dX7_init_9 : decode cX7_init 9 = .ok (.invokespecial 11, 3) := by decide +kernel
theorem dX7_init_12 : decode cX7_init 12 = .ok (.putfield 12, 3) := by decide +kernel
theorem dX7_init_15 : decode cX7_init 15 = .ok (.aload_n 0, 1) := by decide +kernel
theorem dX7_init_16 : decode cX7_init 16 = .ok (.new 9, 3) := by decide +kernel
theorem dX7_init_19 : decode cX7_init 19 = .ok (.dup, 1) := by decide +kernel
theorem dX7_init_20 : decode cX7_init 20 = .ok (.invokespecial 11, 3) := by decide +kernel
theorem dX7_init_23 : decode cX7_init 23 = .ok (.putfield 16, 3) := by decide +kernel
theorem dX7_init_26 : decode cX7_init 26 = .ok (.aload_n 0, 1) := by decide +kernel
theorem dX7_init_27 : decode cX7_init 27 = .ok (.new 19, 3) := by decide +kernel
theorem dX7_init_30 : decode cX7_init 30 = .ok (.dup, 1) := by decide +kernel
theorem dX7_init_31 : decode cX7_init 31 = .ok (.invokespecial 21, 3) := by decide +kernel
theorem dX7_init_34 : decode cX7_init 34 = .ok (.putfield 22, 3) := by decide +kernel
theorem dX7_init_37 : decode cX7_init 37 = .ok (.aload_n 0, 1) := by decide +kernel
theorem dX7_init_38 : decode cX7_init 38 = .ok (.new 26, 3) := by decide +kernel
theorem dX7_init_41 : decode cX7_init 41 = .ok (.dup, 1) := by decide +kernel
theorem dX7_init_42 : decode cX7_init 42 = .ok (.invokespecial 28, 3) := by decide +kernel
theorem dX7_init_45 : decode cX7_init 45 = .ok (.putfield 29, 3) := by decide +kernel
theorem dX7_init_48 : decode cX7_init 48 = .ok (.aload_n 0, 1) := by decide +kernel
theorem dX7_init_49 : decode cX7_init 49 = .ok (.new 33, 3) := by decide +kernel
theorem dX7_init_52 : decode cX7_init 52 = .ok (.dup, 1) := by decide +kernel
theorem dX7_init_53 : decode cX7_init 53 = .ok (.invokespecial 35, 3) := by decide +kernel
theorem dX7_init_56 : decode cX7_init 56 = .ok (.putfield 36, 3) := by decide +kernel
theorem dX7_init_59 : decode cX7_init 59 = .ok (.aload_n 0, 1) := by decide +kernel
theorem dX7_init_60 : decode cX7_init 60 = .ok (.new 40, 3) := by decide +kernel
theorem dX7_init_63 : decode cX7_init 63 = .ok (.dup, 1) := by decide +kernel
theorem dX7_init_64 : decode cX7_init 64 = .ok (.invokespecial 42, 3) := by decide +kernel
theorem dX7_init_67 : decode cX7_init 67 = .ok (.putfield 43, 3) := by decide +kernel
theorem dX7_init_70 : decode cX7_init 70 = .ok (.return_, 1) := by decide +kernel
set_option maxRecDepth 20000 in
theorem ggX7_setHeavy_X2_draft : GoodIn wsX7_setHeavy wsX2_draft := goodIn_r _ [7, 8, 9, 10, 11, 6, 12, 13, 14, 15, 16, 17, 18, 19, 20, 21, 22, 23, 24, 25, 26, 27, 28, 29, 30, 31, 32, 33, 34, 35, 36, 37, 38, 39, 40, 41, 42, 43, 44, 45, 46, 47, 48, 49, 50, 51, 52, 53, 54, 55, 56, 57, 77, 78, 79, 80, 81, 82, 83, 84, 85, 86, 87, 88, 89, 90, 91, 92, 93, 94, 95, 96, 97] (by decide +kernel) (by decide +kernel)
set_option maxRecDepth 20000 in
theorem gX7_setHeavy_X2_draft : GoodIn wsX7_setHeavy (wsV RX7 47 RX2 yX2_draft wsX2_draft) := goodIn_app (goodIn_of _ (by decide +kernel)) ggX7_setHeavy_X2_draft
set_option maxRecDepth 20000 in
theorem ggX7_setHeavy_X5_changeBound : GoodIn wsX7_setHeavy wsX5_changeBound := goodIn_r _ [61, 31, 80, 81, 82, 83, 84, 85, 86, 87, 88, 89] (by decide +kernel) (by decide +kernel)
set_option maxRecDepth 20000 in
theorem gX7_setHeavy_X5_changeBound : GoodIn wsX7_setHeavy (wsV RX7 51 RX5 yX5_changeBound wsX5_changeBound) := goodIn_app (goodIn_of _ (by decide +kernel)) ggX7_setHeavy_X5_changeBound
set_option maxRecDepth 20000 in
theorem ggX7_setHeavy_X7_recorded : GoodIn wsX7_setHeavy wsX7_recorded := goodIn_r _ [66, 1, 67, 68, 69, 6, 70, 14, 13, 15, 16, 17, 18, 71, 72, 73, 74, 75, 76, 77, 78, 79] (by decide +kernel) (by decide +kernel)
set_option maxRecDepth 20000 in
theorem gX7_setHeavy_X7_recorded : GoodIn wsX7_setHeavy (wsV RX7 55 RX7 yX7_recorded wsX7_recorded) := goodIn_app (goodIn_of _ (by decide +kernel)) ggX7_setHeavy_X7_recorded
theorem dX7_setHeavy_0 : decode cX7_setHeavy 0 = .ok (.aload_n 0, 1) := by decide +kernel
theorem dX7_setHeavy_1 : decode cX7_setHeavy 1 = .ok (.getfield 22, 3) := by decide +kernel
theorem dX7_setHeavy_4 : decode cX7_setHeavy 4 = .ok (.aload_n 0, 1) := by decide +kernel
theorem dX7_setHeavy_5 : decode cX7_setHeavy 5 = .ok (.getfield 12, 3) := by decide +kernel
theorem dX7_setHeavy_8 : decode cX7_setHeavy 8 = .ok (.invokevirtual 47, 3) := by decide +kernel
theorem dX7_setHeavy_11 : decode cX7_setHeavy 11 = .ok (.aload_n 0, 1) := by decide +kernel
theorem dX7_setHeavy_12 : decode cX7_setHeavy 12 = .ok (.aload_n 0, 1) := by decide +kernel
theorem dX7_setHeavy_13 : decode cX7_setHeavy 13 = .ok (.getfield 12, 3) := by decide +kernel
theorem dX7_setHeavy_16 : decode cX7_setHeavy 16 = .ok (.iload_n 1, 1) := by decide +kernel
theorem dX7_setHeavy_17 : decode cX7_setHeavy 17 = .ok (.invokevirtual 51, 3) := by decide +kernel
theorem dX7_setHeavy_20 : decode cX7_setHeavy 20 = .ok (.invokevirtual 55, 3) := by decide +kernel
theorem dX7_setHeavy_23 : decode cX7_setHeavy 23 = .ok (.ireturn, 1) := by decide +kernel
set_option maxRecDepth 20000 in
theorem ggX7_make_X2_draft : GoodIn wsX7_make wsX2_draft := goodIn_r _ [7, 8, 9, 10, 11, 6, 12, 13, 14, 15, 16, 17, 18, 19, 20, 21, 22, 23, 24, 25, 26, 27, 28, 29, 30, 31, 32, 33, 34, 35, 36, 37, 38, 39, 40, 41, 42, 43, 44, 45, 46, 47, 48, 49, 50, 51, 52, 53, 54, 55, 56, 57, 120, 121, 122, 123, 124, 125, 126, 127, 128, 129, 130, 131, 132, 133, 134, 135, 136, 137, 138, 139, 140] (by decide +kernel) (by decide +kernel)
set_option maxRecDepth 20000 in
theorem gX7_make_X2_draft : GoodIn wsX7_make (wsV RX7 47 RX2 yX2_draft wsX2_draft) := goodIn_app (goodIn_of _ (by decide +kernel)) ggX7_make_X2_draft
set_option maxRecDepth 20000 in
theorem ggX7_make_X5_makeThing : GoodIn wsX7_make wsX5_makeThing := goodIn_r _ [61, 31, 29, 32, 35, 33, 24, 62, 63, 64, 65, 66, 67, 41, 68, 69, 70, 71, 72, 45, 73, 74, 75, 76, 77, 78, 79, 22, 80, 34, 81, 82, 83, 84, 85, 86, 87, 88, 89, 90, 91, 92, 93, 94, 95, 96, 46, 97, 98, 99, 100, 101, 43, 47, 48, 102, 103, 104, 105, 123, 124, 125, 126, 127, 128, 129, 130, 131, 132, 133, 134, 135, 136, 137] (by decide +kernel) (by decide +kernel)
set_option maxRecDepth 20000 in
theorem gX7_make_X5_makeThing : GoodIn wsX7_make (wsV RX7 58 RX5 yX5_makeThing wsX5_makeThing) := goodIn_app (goodIn_of _ (by decide +kernel)) ggX7_make_X5_makeThing
set_option maxRecDepth 20000 in
theorem ggX7_make_X7_recorded : GoodIn wsX7_make wsX7_recorded := goodIn_r _ [109, 1, 110, 111, 112, 6, 113, 14, 13, 15, 16, 17, 18, 114, 115, 116, 117, 118, 119, 120, 121, 122] (by decide +kernel) (by decide +kernel)
set_option maxRecDepth 20000 in
theorem gX7_make_X7_recorded : GoodIn wsX7_make (wsV RX7 55 RX7 yX7_recorded wsX7_recorded) := goodIn_app (goodIn_of _ (by decide +kernel)) ggX7_make_X7_recorded
theorem dX7_make_0 : decode cX7_make 0 = .ok (.aload_n 0, 1) := by decide +kernel
theorem dX7_make_1 : decode cX7_make 1 = .ok (.getfield 22, 3) := by decide +kernel
theorem dX7_make_4 : decode cX7_make 4 = .ok (.aload_n 0, 1) := by decide +kernel
theorem dX7_make_5 : decode cX7_make 5 = .ok (.getfield 12, 3) := by decide +kernel
theorem dX7_make_8 : decode cX7_make 8 = .ok (.invokevirtual 47, 3) := by decide +kernel
theorem dX7_make_11 : decode cX7_make 11 = .ok (.aload_n 0, 1) := by decide +kernel
theorem dX7_make_12 : decode cX7_make 12 = .ok (.aload_n 0, 1) := by decide +kernel
theorem dX7_make_13 : decode cX7_make 13 = .ok (.getfield 12, 3) := by decide +kernel
theorem dX7_make_16 : decode cX7_make 16 = .ok (.iload_n 1, 1) := by decide +kernel
theorem dX7_make_17 : decode cX7_make 17 = .ok (.iload_n 2, 1) := by decide +kernel
theorem dX7_make_18 : decode cX7_make 18 = .ok (.invokevirtual 58, 3) := by decide +kernel
theorem dX7_make_21 : decode cX7_make 21 = .ok (.invokevirtual 55, 3) := by decide +kernel
theorem dX7_make_24 : decode cX7_make 24 = .ok (.ireturn, 1) := by decide +kernel
set_option maxRecDepth 20000 in
theorem ggX7_link_X2_draft : GoodIn wsX7_link wsX2_draft := goodIn_r _ [7, 8, 9, 10, 11, 6, 12, 13, 14, 15, 16, 17, 18, 19, 20, 21, 22, 23, 24, 25, 26, 27, 28, 29, 30, 31, 32, 33, 34, 35, 36, 37, 38, 39, 40, 41, 42, 43, 44, 45, 46, 47, 48, 49, 50, 51, 52, 53, 54, 55, 56, 57, 129, 130, 131, 132, 133, 134, 135, 136, 137, 138, 139, 140, 141, 142, 143, 144, 145, 146, 147, 148, 149] (by decide +kernel) (by decide +kernel)
set_option maxRecDepth 20000 in
theorem gX7_link_X2_draft : GoodIn wsX7_link (wsV RX7 47 RX2 yX2_draft wsX2_draft) := goodIn_app (goodIn_of _ (by decide +kernel)) ggX7_link_X2_draft
set_option maxRecDepth 20000 in
theorem ggX7_link_X5_linkHooks : GoodIn wsX7_link wsX5_linkHooks := goodIn_r _ [61, 24, 29, 62, 63, 64, 65, 66, 67, 68, 69, 22, 70, 33, 30, 71, 72, 73, 74, 34, 75, 76, 77, 78, 79, 80, 81, 41, 82, 46, 83, 84, 85, 86, 45, 87, 88, 89, 90, 91, 92, 93, 94, 35, 95, 96, 97, 98, 99, 100, 101, 102, 43, 47, 48, 103, 104, 105, 52, 106, 57, 54, 107, 108, 109, 110, 111, 112, 113, 114, 132, 133, 134, 135, 136, 137, 138, 139, 140, 141, 142, 143, 144, 145, 146, 147, 148, 149] (by decide +kernel) (by decide +kernel)
set_option maxRecDepth 20000 in
theorem gX7_link_X5_linkHooks : GoodIn wsX7_link (wsV RX7 62 RX5 yX5_linkHooks wsX5_linkHooks) := goodIn_app (goodIn_of _ (by decide +kernel)) ggX7_link_X5_linkHooks
set_option maxRecDepth 20000 in
theorem ggX7_link_X7_recorded : GoodIn wsX7_link wsX7_recorded := goodIn_r _ [118, 1, 119, 120, 121, 6, 122, 14, 13, 15, 16, 17, 18, 123, 124, 125, 126, 127, 128, 129, 130, 131] (by decide +kernel) (by decide +kernel)
set_option maxRecDepth 20000 in
theorem gX7_link_X7_recorded : GoodIn wsX7_link (wsV RX7 55 RX7 yX7_recorded wsX7_recorded) := goodIn_app (goodIn_of _ (by decide +kernel)) ggX7_link_X7_recorded
end
section
theorem dX7_link_0 : decode cX7_link 0 = .ok (.aload_n 0, 1) := by decide +kernel
theorem dX7_link_1 : decode cX7_link 1 = .ok (.getfield 22, 3) := by decide +kernel
theorem dX7_link_4 : decode cX7_link 4 = .ok (.aload_n 0, 1) := by decide +kernel
theorem dX7_link_5 : decode cX7_link 5 = .ok (.getfield 12, 3) := by decide +kernel
theorem dX7_link_8 : decode cX7_link 8 = .ok (.invokevirtual 47, 3) := by decide +kernel
theorem dX7_link_11 : decode cX7_link 11 = .ok (.aload_n 0, 1) := by decide +kernel
theorem dX7_link_12 : decode cX7_link 12 = .ok (.aload_n 0, 1) := by decide +kernel
theorem dX7_link_13 : decode cX7_link 13 = .ok (.getfield 12, 3) := by decide +kernel
theorem dX7_link_16 : decode cX7_link 16 = .ok (.iload_n 1, 1) := by decide +kernel
theorem dX7_link_17 : decode cX7_link 17 = .ok (.iload_n 2, 1) := by decide +kernel
theorem dX7_link_18 : decode cX7_link 18 = .ok (.iload_n 3, 1) := by decide +kernel
theorem dX7_link_19 : decode cX7_link 19 = .ok (.invokevirtual 62, 3) := by decide +kernel
theorem dX7_link_22 : decode cX7_link 22 = .ok (.invokevirtual 55, 3) := by decide +kernel
theorem dX7_link_25 : decode cX7_link 25 = .ok (.ireturn, 1) := by decide +kernel
set_option maxRecDepth 20000 in
theorem ggX7_follow_X2_draft : GoodIn wsX7_follow wsX2_draft := goodIn_r _ [7, 8, 9, 10, 11, 6, 12, 13, 14, 15, 16, 17, 18, 19, 20, 21, 22, 23, 24, 25, 26, 27, 28, 29, 30, 31, 32, 33, 34, 35, 36, 37, 38, 39, 40, 41, 42, 43, 44, 45, 46, 47, 48, 49, 50, 51, 52, 53, 54, 55, 56, 57, 125, 126, 127, 128, 129, 130, 131, 132, 133, 134, 135, 136, 137, 138, 139, 140, 141, 142, 143, 144, 145] (by decide +kernel) (by decide +kernel)
set_option maxRecDepth 20000 in
theorem gX7_follow_X2_draft : GoodIn wsX7_follow (wsV RX7 47 RX2 yX2_draft wsX2_draft) := goodIn_app (goodIn_of _ (by decide +kernel)) ggX7_follow_X2_draft
set_option maxRecDepth 20000 in
theorem ggX7_follow_X5_followName : GoodIn wsX7_follow wsX5_followName := goodIn_r _ [61, 24, 29, 62, 63, 64, 65, 66, 67, 68, 69, 22, 70, 33, 30, 71, 72, 73, 74, 34, 75, 76, 77, 78, 79, 80, 81, 41, 82, 46, 83, 84, 85, 86, 45, 87, 88, 89, 90, 91, 92, 93, 94, 35, 95, 96, 97, 98, 99, 100, 101, 102, 43, 47, 48, 103, 104, 105, 52, 106, 57, 54, 107, 108, 109, 110, 128, 129, 130, 131, 132, 133, 134, 135, 136, 137, 138, 139, 140, 141, 142, 143, 144, 145] (by decide +kernel) (by decide +kernel)
set_option maxRecDepth 20000 in
theorem gX7_follow_X5_followName : GoodIn wsX7_follow (wsV RX7 66 RX5 yX5_followName wsX5_followName) := goodIn_app (goodIn_of _ (by decide +kernel)) ggX7_follow_X5_followName
set_option maxRecDepth 20000 in
theorem ggX7_follow_X7_recorded : GoodIn wsX7_follow wsX7_recorded := goodIn_r _ [114, 1, 115, 116, 117, 6, 118, 14, 13, 15, 16, 17, 18, 119, 120, 121, 122, 123, 124, 125, 126, 127] (by decide +kernel) (by decide +kernel)
set_option maxRecDepth 20000 in
theorem gX7_follow_X7_recorded : GoodIn wsX7_follow (wsV RX7 55 RX7 yX7_recorded wsX7_recorded) := goodIn_app (goodIn_of _ (by decide +kernel)) ggX7_follow_X7_recorded
theorem dX7_follow_0 : decode cX7_follow 0 = .ok (.aload_n 0, 1) := by decide +kernel
theorem dX7_follow_1 : decode cX7_follow 1 = .ok (.getfield 22, 3) := by decide +kernel
theorem dX7_follow_4 : decode cX7_follow 4 = .ok (.aload_n 0, 1) := by decide +kernel
theorem dX7_follow_5 : decode cX7_follow 5 = .ok (.getfield 12, 3) := by decide +kernel
theorem dX7_follow_8 : decode cX7_follow 8 = .ok (.invokevirtual 47, 3) := by decide +kernel
theorem dX7_follow_11 : decode cX7_follow 11 = .ok (.aload_n 0, 1) := by decide +kernel
theorem dX7_follow_12 : decode cX7_follow 12 = .ok (.aload_n 0, 1) := by decide +kernel
theorem dX7_follow_13 : decode cX7_follow 13 = .ok (.getfield 12, 3) := by decide +kernel
theorem dX7_follow_16 : decode cX7_follow 16 = .ok (.iload_n 1, 1) := by decide +kernel
theorem dX7_follow_17 : decode cX7_follow 17 = .ok (.iload_n 2, 1) := by decide +kernel
theorem dX7_follow_18 : decode cX7_follow 18 = .ok (.iload_n 3, 1) := by decide +kernel
theorem dX7_follow_19 : decode cX7_follow 19 = .ok (.invokevirtual 66, 3) := by decide +kernel
theorem dX7_follow_22 : decode cX7_follow 22 = .ok (.invokevirtual 55, 3) := by decide +kernel
theorem dX7_follow_25 : decode cX7_follow 25 = .ok (.ireturn, 1) := by decide +kernel
set_option maxRecDepth 20000 in
theorem ggX7_drop_X2_draft : GoodIn wsX7_drop wsX2_draft := goodIn_r _ [7, 8, 9, 10, 11, 6, 12, 13, 14, 15, 16, 17, 18, 19, 20, 21, 22, 23, 24, 25, 26, 27, 28, 29, 30, 31, 32, 33, 34, 35, 36, 37, 38, 39, 40, 41, 42, 43, 44, 45, 46, 47, 48, 49, 50, 51, 52, 53, 54, 55, 56, 57, 79, 80, 81, 82, 83, 84, 85, 86, 87, 88, 89, 90, 91, 92, 93, 94, 95, 96, 97, 98, 99] (by decide +kernel) (by decide +kernel)
set_option maxRecDepth 20000 in
theorem gX7_drop_X2_draft : GoodIn wsX7_drop (wsV RX7 47 RX2 yX2_draft wsX2_draft) := goodIn_app (goodIn_of _ (by decide +kernel)) ggX7_drop_X2_draft
set_option maxRecDepth 20000 in
theorem ggX7_drop_X5_dropHook : GoodIn wsX7_drop wsX5_dropHook := goodIn_r _ [61, 24, 62, 63, 64, 82, 83, 84, 85, 86, 87, 88, 89, 90, 91] (by decide +kernel) (by decide +kernel)
set_option maxRecDepth 20000 in
theorem gX7_drop_X5_dropHook : GoodIn wsX7_drop (wsV RX7 69 RX5 yX5_dropHook wsX5_dropHook) := goodIn_app (goodIn_of _ (by decide +kernel)) ggX7_drop_X5_dropHook
set_option maxRecDepth 20000 in
theorem ggX7_drop_X7_recorded : GoodIn wsX7_drop wsX7_recorded := goodIn_r _ [68, 1, 69, 70, 71, 6, 72, 14, 13, 15, 16, 17, 18, 73, 74, 75, 76, 77, 78, 79, 80, 81] (by decide +kernel) (by decide +kernel)
set_option maxRecDepth 20000 in
theorem gX7_drop_X7_recorded : GoodIn wsX7_drop (wsV RX7 55 RX7 yX7_recorded wsX7_recorded) := goodIn_app (goodIn_of _ (by decide +kernel)) ggX7_drop_X7_recorded
theorem dX7_drop_0 : decode cX7_drop 0 = .ok (.aload_n 0, 1) := by decide +kernel
theorem dX7_drop_1 : decode cX7_drop 1 = .ok (.getfield 22, 3) := by decide +kernel
theorem dX7_drop_4 : decode cX7_drop 4 = .ok (.aload_n 0, 1) := by decide +kernel
theorem dX7_drop_5 : decode cX7_drop 5 = .ok (.getfield 12, 3) := by decide +kernel
theorem dX7_drop_8 : decode cX7_drop 8 = .ok (.invokevirtual 47, 3) := by decide +kernel
theorem dX7_drop_11 : decode cX7_drop 11 = .ok (.aload_n 0, 1) := by decide +kernel
theorem dX7_drop_12 : decode cX7_drop 12 = .ok (.aload_n 0, 1) := by decide +kernel
theorem dX7_drop_13 : decode cX7_drop 13 = .ok (.getfield 12, 3) := by decide +kernel
theorem dX7_drop_16 : decode cX7_drop 16 = .ok (.iload_n 1, 1) := by decide +kernel
theorem dX7_drop_17 : decode cX7_drop 17 = .ok (.invokevirtual 69, 3) := by decide +kernel
theorem dX7_drop_20 : decode cX7_drop 20 = .ok (.invokevirtual 55, 3) := by decide +kernel
theorem dX7_drop_23 : decode cX7_drop 23 = .ok (.ireturn, 1) := by decide +kernel
set_option maxRecDepth 20000 in
theorem ggX7_begin_X2_draft : GoodIn wsX7_begin wsX2_draft := goodIn_r _ [7, 8, 9, 10, 11, 6, 12, 13, 14, 15, 16, 17, 18, 19, 20, 21, 22, 23, 24, 25, 26, 27, 28, 29, 30, 31, 32, 33, 34, 35, 36, 37, 38, 39, 40, 41, 42, 43, 44, 45, 46, 47, 48, 49, 50, 51, 52, 53, 54, 55, 56, 57, 145, 146, 147, 148, 149, 150, 151, 152, 153, 154, 155, 156, 157, 158, 159, 160, 161, 162, 163, 164, 165] (by decide +kernel) (by decide +kernel)
set_option maxRecDepth 20000 in
theorem gX7_begin_X2_draft : GoodIn wsX7_begin (wsV RX7 47 RX2 yX2_draft wsX2_draft) := goodIn_app (goodIn_of _ (by decide +kernel)) ggX7_begin_X2_draft
set_option maxRecDepth 20000 in
theorem ggX7_begin_X5_beginMove : GoodIn wsX7_begin wsX5_beginMove := goodIn_r _ [61, 33, 34, 35, 30, 24, 62, 63, 64, 52, 65, 56, 57, 66, 67, 68, 22, 69, 29, 70, 71, 72, 73, 74, 75, 76, 77, 78, 79, 80, 41, 81, 46, 82, 83, 84, 85, 45, 86, 87, 88, 89, 90, 91, 92, 93, 94, 95, 96, 97, 98, 99, 100, 101, 43, 47, 48, 102, 103, 104, 105, 54, 106, 107, 108, 109, 110, 111, 112, 113, 114, 115, 116, 117, 37, 118, 119, 120, 121, 122, 123, 124, 125, 126, 127, 128, 129, 148, 149, 150, 151, 152, 153, 154, 155, 156, 157, 163, 164, 165, 158, 159, 160, 161, 162] (by decide +kernel) (by decide +kernel)
set_option maxRecDepth 20000 in
theorem gX7_begin_X5_beginMove : GoodIn wsX7_begin (wsV RX7 72 RX5 yX5_beginMove wsX5_beginMove) := goodIn_app (goodIn_of _ (by decide +kernel)) ggX7_begin_X5_beginMove
set_option maxRecDepth 20000 in
theorem ggX7_begin_X7_recorded : GoodIn wsX7_begin wsX7_recorded := goodIn_r _ [134, 1, 135, 136, 137, 6, 138, 14, 13, 15, 16, 17, 18, 139, 140, 141, 142, 143, 144, 145, 146, 147] (by decide +kernel) (by decide +kernel)
set_option maxRecDepth 20000 in
theorem gX7_begin_X7_recorded : GoodIn wsX7_begin (wsV RX7 55 RX7 yX7_recorded wsX7_recorded) := goodIn_app (goodIn_of _ (by decide +kernel)) ggX7_begin_X7_recorded
theorem dX7_begin_0 : decode cX7_begin 0 = .ok (.aload_n 0, 1) := by decide +kernel
theorem dX7_begin_1 : decode cX7_begin 1 = .ok (.getfield 22, 3) := by decide +kernel
theorem dX7_begin_4 : decode cX7_begin 4 = .ok (.aload_n 0, 1) := by decide +kernel
theorem dX7_begin_5 : decode cX7_begin 5 = .ok (.getfield 12, 3) := by decide +kernel
theorem dX7_begin_8 : decode cX7_begin 8 = .ok (.invokevirtual 47, 3) := by decide +kernel
theorem dX7_begin_11 : decode cX7_begin 11 = .ok (.aload_n 0, 1) := by decide +kernel
theorem dX7_begin_12 : decode cX7_begin 12 = .ok (.aload_n 0, 1) := by decide +kernel
theorem dX7_begin_13 : decode cX7_begin 13 = .ok (.getfield 12, 3) := by decide +kernel
theorem dX7_begin_16 : decode cX7_begin 16 = .ok (.invokevirtual 72, 3) := by decide +kernel
theorem dX7_begin_19 : decode cX7_begin 19 = .ok (.invokevirtual 55, 3) := by decide +kernel
theorem dX7_begin_22 : decode cX7_begin 22 = .ok (.ireturn, 1) := by decide +kernel
set_option maxRecDepth 20000 in
theorem ggX7_carry_X2_draft : GoodIn wsX7_carry wsX2_draft := goodIn_r _ [7, 8, 9, 10, 11, 6, 12, 13, 14, 15, 16, 17, 18, 19, 20, 21, 22, 23, 24, 25, 26, 27, 28, 29, 30, 31, 32, 33, 34, 35, 36, 37, 38, 39, 40, 41, 42, 43, 44, 45, 46, 47, 48, 49, 50, 51, 52, 53, 54, 55, 56, 57, 149, 150, 151, 152, 153, 154, 155, 156, 157, 158, 159, 160, 161, 162, 163, 164, 165, 166, 167, 168, 169] (by decide +kernel) (by decide +kernel)
set_option maxRecDepth 20000 in
theorem gX7_carry_X2_draft : GoodIn wsX7_carry (wsV RX7 47 RX2 yX2_draft wsX2_draft) := goodIn_app (goodIn_of _ (by decide +kernel)) ggX7_carry_X2_draft
set_option maxRecDepth 20000 in
theorem ggX7_carry_X5_carrySteps : GoodIn wsX7_carry wsX5_carrySteps := goodIn_r _ [61, 33, 62, 63, 64, 22, 65, 30, 29, 66, 67, 68, 52, 69, 56, 57, 54, 70, 71, 72, 73, 74, 75, 76, 77, 34, 78, 79, 80, 81, 82, 83, 84, 41, 85, 46, 86, 87, 88, 89, 45, 90, 91, 92, 93, 94, 95, 96, 97, 35, 98, 99, 100, 101, 102, 103, 104, 105, 43, 47, 48, 106, 107, 108, 109, 110, 111, 112, 113, 114, 115, 116, 117, 118, 119, 120, 121, 37, 122, 123, 124, 125, 126, 127, 128, 129, 130, 131, 132, 133, 152, 153, 154, 155, 156, 157, 158, 159, 160, 161, 162, 163, 164, 165, 166, 167, 168, 169] (by decide +kernel) (by decide +kernel)
set_option maxRecDepth 20000 in
theorem gX7_carry_X5_carrySteps : GoodIn wsX7_carry (wsV RX7 76 RX5 yX5_carrySteps wsX5_carrySteps) := goodIn_app (goodIn_of _ (by decide +kernel)) ggX7_carry_X5_carrySteps
set_option maxRecDepth 20000 in
theorem ggX7_carry_X7_recorded : GoodIn wsX7_carry wsX7_recorded := goodIn_r _ [138, 1, 139, 140, 141, 6, 142, 14, 13, 15, 16, 17, 18, 143, 144, 145, 146, 147, 148, 149, 150, 151] (by decide +kernel) (by decide +kernel)
set_option maxRecDepth 20000 in
theorem gX7_carry_X7_recorded : GoodIn wsX7_carry (wsV RX7 55 RX7 yX7_recorded wsX7_recorded) := goodIn_app (goodIn_of _ (by decide +kernel)) ggX7_carry_X7_recorded
theorem dX7_carry_0 : decode cX7_carry 0 = .ok (.aload_n 0, 1) := by decide +kernel
theorem dX7_carry_1 : decode cX7_carry 1 = .ok (.getfield 22, 3) := by decide +kernel
theorem dX7_carry_4 : decode cX7_carry 4 = .ok (.aload_n 0, 1) := by decide +kernel
theorem dX7_carry_5 : decode cX7_carry 5 = .ok (.getfield 12, 3) := by decide +kernel
theorem dX7_carry_8 : decode cX7_carry 8 = .ok (.invokevirtual 47, 3) := by decide +kernel
theorem dX7_carry_11 : decode cX7_carry 11 = .ok (.aload_n 0, 1) := by decide +kernel
theorem dX7_carry_12 : decode cX7_carry 12 = .ok (.aload_n 0, 1) := by decide +kernel
theorem dX7_carry_13 : decode cX7_carry 13 = .ok (.getfield 12, 3) := by decide +kernel
theorem dX7_carry_16 : decode cX7_carry 16 = .ok (.iload_n 1, 1) := by decide +kernel
theorem dX7_carry_17 : decode cX7_carry 17 = .ok (.invokevirtual 76, 3) := by decide +kernel
theorem dX7_carry_20 : decode cX7_carry 20 = .ok (.invokevirtual 55, 3) := by decide +kernel
theorem dX7_carry_23 : decode cX7_carry 23 = .ok (.ireturn, 1) := by decide +kernel
set_option maxRecDepth 20000 in
theorem ggX7_lose_X2_draft : GoodIn wsX7_lose wsX2_draft := goodIn_r _ [7, 8, 9, 10, 11, 6, 12, 13, 14, 15, 16, 17, 18, 19, 20, 21, 22, 23, 24, 25, 26, 27, 28, 29, 30, 31, 32, 33, 34, 35, 36, 37, 38, 39, 40, 41, 42, 43, 44, 45, 46, 47, 48, 49, 50, 51, 52, 53, 54, 55, 56, 57, 117, 118, 119, 120, 121, 122, 123, 124, 125, 126, 127, 128, 129, 130, 131, 132, 133, 134, 135, 136, 137] (by decide +kernel) (by decide +kernel)
set_option maxRecDepth 20000 in
theorem gX7_lose_X2_draft : GoodIn wsX7_lose (wsV RX7 47 RX2 yX2_draft wsX2_draft) := goodIn_app (goodIn_of _ (by decide +kernel)) ggX7_lose_X2_draft
set_option maxRecDepth 20000 in
theorem ggX7_lose_X5_loseNote : GoodIn wsX7_lose wsX5_loseNote := goodIn_r _ [61, 29, 36, 62, 63, 64, 22, 65, 32, 66, 67, 68, 69, 70, 71, 72, 41, 73, 43, 74, 75, 76, 77, 45, 78, 79, 80, 81, 46, 82, 83, 84, 85, 35, 86, 87, 88, 89, 34, 33, 90, 91, 92, 93, 94, 95, 96, 97, 98, 99, 100, 101, 120, 121, 122, 123, 124, 125, 126, 127, 128, 129, 130, 131, 132, 133, 134] (by decide +kernel) (by decide +kernel)
set_option maxRecDepth 20000 in
theorem gX7_lose_X5_loseNote : GoodIn wsX7_lose (wsV RX7 79 RX5 yX5_loseNote wsX5_loseNote) := goodIn_app (goodIn_of _ (by decide +kernel)) ggX7_lose_X5_loseNote
set_option maxRecDepth 20000 in
theorem ggX7_lose_X7_recorded : GoodIn wsX7_lose wsX7_recorded := goodIn_r _ [106, 1, 107, 108, 109, 6, 110, 14, 13, 15, 16, 17, 18, 111, 112, 113, 114, 115, 116, 117, 118, 119] (by decide +kernel) (by decide +kernel)
set_option maxRecDepth 20000 in
theorem gX7_lose_X7_recorded : GoodIn wsX7_lose (wsV RX7 55 RX7 yX7_recorded wsX7_recorded) := goodIn_app (goodIn_of _ (by decide +kernel)) ggX7_lose_X7_recorded
theorem dX7_lose_0 : decode cX7_lose 0 = .ok (.aload_n 0, 1) := by decide +kernel
theorem dX7_lose_1 : decode cX7_lose 1 = .ok (.getfield 22, 3) := by decide +kernel
theorem dX7_lose_4 : decode cX7_lose 4 = .ok (.aload_n 0, 1) := by decide +kernel
theorem dX7_lose_5 : decode cX7_lose 5 = .ok (.getfield 12, 3) := by decide +kernel
theorem dX7_lose_8 : decode cX7_lose 8 = .ok (.invokevirtual 47, 3) := by decide +kernel
theorem dX7_lose_11 : decode cX7_lose 11 = .ok (.aload_n 0, 1) := by decide +kernel
theorem dX7_lose_12 : decode cX7_lose 12 = .ok (.aload_n 0, 1) := by decide +kernel
theorem dX7_lose_13 : decode cX7_lose 13 = .ok (.getfield 12, 3) := by decide +kernel
theorem dX7_lose_16 : decode cX7_lose 16 = .ok (.iload_n 1, 1) := by decide +kernel
theorem dX7_lose_17 : decode cX7_lose 17 = .ok (.invokevirtual 79, 3) := by decide +kernel
theorem dX7_lose_20 : decode cX7_lose 20 = .ok (.invokevirtual 55, 3) := by decide +kernel
theorem dX7_lose_23 : decode cX7_lose 23 = .ok (.ireturn, 1) := by decide +kernel
set_option maxRecDepth 20000 in
theorem ggX7_mend_X2_draft : GoodIn wsX7_mend wsX2_draft := goodIn_r _ [7, 8, 9, 10, 11, 6, 12, 13, 14, 15, 16, 17, 18, 19, 20, 21, 22, 23, 24, 25, 26, 27, 28, 29, 30, 31, 32, 33, 34, 35, 36, 37, 38, 39, 40, 41, 42, 43, 44, 45, 46, 47, 48, 49, 50, 51, 52, 53, 54, 55, 56, 57, 118, 119, 120, 121, 122, 123, 124, 125, 126, 127, 128, 129, 130, 131, 132, 133, 134, 135, 136, 137, 138] (by decide +kernel) (by decide +kernel)
set_option maxRecDepth 20000 in
theorem gX7_mend_X2_draft : GoodIn wsX7_mend (wsV RX7 47 RX2 yX2_draft wsX2_draft) := goodIn_app (goodIn_of _ (by decide +kernel)) ggX7_mend_X2_draft
set_option maxRecDepth 20000 in
theorem ggX7_mend_X5_mendTwins : GoodIn wsX7_mend wsX5_mendTwins := goodIn_r _ [61, 33, 29, 62, 63, 64, 22, 65, 32, 66, 67, 68, 69, 70, 71, 72, 41, 73, 43, 74, 75, 76, 77, 45, 78, 79, 80, 81, 34, 82, 83, 84, 85, 86, 87, 88, 89, 90, 91, 92, 93, 94, 95, 96, 97, 98, 48, 99, 100, 101, 102, 24, 121, 122, 123, 124, 125, 126, 127, 128, 129, 130, 131, 132, 133, 134, 135] (by decide +kernel) (by decide +kernel)
set_option maxRecDepth 20000 in
theorem gX7_mend_X5_mendTwins : GoodIn wsX7_mend (wsV RX7 82 RX5 yX5_mendTwins wsX5_mendTwins) := goodIn_app (goodIn_of _ (by decide +kernel)) ggX7_mend_X5_mendTwins
set_option maxRecDepth 20000 in
theorem ggX7_mend_X7_recorded : GoodIn wsX7_mend wsX7_recorded := goodIn_r _ [107, 1, 108, 109, 110, 6, 111, 14, 13, 15, 16, 17, 18, 112, 113, 114, 115, 116, 117, 118, 119, 120] (by decide +kernel) (by decide +kernel)
set_option maxRecDepth 20000 in
theorem gX7_mend_X7_recorded : GoodIn wsX7_mend (wsV RX7 55 RX7 yX7_recorded wsX7_recorded) := goodIn_app (goodIn_of _ (by decide +kernel)) ggX7_mend_X7_recorded
theorem dX7_mend_0 : decode cX7_mend 0 = .ok (.aload_n 0, 1) := by decide +kernel
theorem dX7_mend_1 : decode cX7_mend 1 = .ok (.getfield 22, 3) := by decide +kernel
theorem dX7_mend_4 : decode cX7_mend 4 = .ok (.aload_n 0, 1) := by decide +kernel
theorem dX7_mend_5 : decode cX7_mend 5 = .ok (.getfield 12, 3) := by decide +kernel
theorem dX7_mend_8 : decode cX7_mend 8 = .ok (.invokevirtual 47, 3) := by decide +kernel
theorem dX7_mend_11 : decode cX7_mend 11 = .ok (.aload_n 0, 1) := by decide +kernel
theorem dX7_mend_12 : decode cX7_mend 12 = .ok (.aload_n 0, 1) := by decide +kernel
theorem dX7_mend_13 : decode cX7_mend 13 = .ok (.getfield 12, 3) := by decide +kernel
theorem dX7_mend_16 : decode cX7_mend 16 = .ok (.iload_n 1, 1) := by decide +kernel
theorem dX7_mend_17 : decode cX7_mend 17 = .ok (.invokevirtual 82, 3) := by decide +kernel
theorem dX7_mend_20 : decode cX7_mend 20 = .ok (.invokevirtual 55, 3) := by decide +kernel
theorem dX7_mend_23 : decode cX7_mend 23 = .ok (.ireturn, 1) := by decide +kernel
set_option maxRecDepth 20000 in
theorem ggX7_count_X2_size : GoodIn wsX7_count wsX2_size := goodIn_r _ [8, 9, 96, 97, 98] (by decide +kernel) (by decide +kernel)
set_option maxRecDepth 20000 in
theorem gX7_count_X2_size : GoodIn wsX7_count (wsV RX7 85 RX2 yX2_size wsX2_size) := goodIn_app (goodIn_of _ (by decide +kernel)) ggX7_count_X2_size
set_option maxRecDepth 20000 in
theorem ggX7_count_X6_size : GoodIn wsX7_count wsX6_size := goodIn_r _ [14, 15, 99, 100] (by decide +kernel) (by decide +kernel)
set_option maxRecDepth 20000 in
theorem gX7_count_X6_size : GoodIn wsX7_count (wsV RX7 94 RX6 yX6_size wsX6_size) := goodIn_app (goodIn_of _ (by decide +kernel)) ggX7_count_X6_size
set_option maxRecDepth 20000 in
theorem ggX7_count_X5_numberOf : GoodIn wsX7_count wsX5_numberOf := goodIn_r _ [20, 21, 22, 23, 24, 25, 26, 27, 28, 29, 30, 31, 32, 33, 34, 35, 36, 37, 38, 39, 40, 41, 19, 42, 43, 44, 45, 46, 47, 48, 49, 50, 51, 52, 53, 54, 55, 56, 57, 58, 59, 60, 61, 62, 63, 64, 65, 66, 67, 68, 69, 70, 71, 72, 73, 74, 75, 76, 77, 78, 79, 80, 81, 82, 83, 84, 85, 86, 87, 88, 89, 101, 102, 103, 104, 105, 106, 107, 108, 109, 110, 111, 112, 113, 114, 115, 116, 117, 118] (by decide +kernel) (by decide +kernel)
set_option maxRecDepth 20000 in
theorem gX7_count_X5_numberOf : GoodIn wsX7_count (wsV RX7 112 RX5 yX5_numberOf wsX5_numberOf) := goodIn_app (goodIn_of _ (by decide +kernel)) ggX7_count_X5_numberOf
theorem dX7_count_0 : decode cX7_count 0 = .ok (.iload_n 1, 1) := by decide +kernel
theorem dX7_count_1 : decode cX7_count 1 = .ok (.lookupswitch 43 #[(12, 27), (13, 35)], 27) := by decide +kernel
theorem dX7_count_28 : decode cX7_count 28 = .ok (.aload_n 0, 1) := by decide +kernel
theorem dX7_count_29 : decode cX7_count 29 = .ok (.getfield 22, 3) := by decide +kernel
theorem dX7_count_32 : decode cX7_count 32 = .ok (.invokevirtual 85, 3) := by decide +kernel
theorem dX7_count_35 : decode cX7_count 35 = .ok (.ireturn, 1) := by decide +kernel
theorem dX7_count_36 : decode cX7_count 36 = .ok (.aload_n 0, 1) := by decide +kernel
theorem dX7_count_37 : decode cX7_count 37 = .ok (.getfield 36, 3) := by decide +kernel
theorem dX7_count_40 : decode cX7_count 40 = .ok (.invokevirtual 94, 3) := by decide +kernel
theorem dX7_count_43 : decode cX7_count 43 = .ok (.ireturn, 1) := by decide +kernel
theorem dX7_count_44 : decode cX7_count 44 = .ok (.aload_n 0, 1) := by decide +kernel
theorem dX7_count_45 : decode cX7_count 45 = .ok (.getfield 12, 3) := by decide +kernel
theorem dX7_count_48 : decode cX7_count 48 = .ok (.iload_n 1, 1) := by decide +kernel
theorem dX7_count_49 : decode cX7_count 49 = .ok (.invokevirtual 112, 3) := by decide +kernel
theorem dX7_count_52 : decode cX7_count 52 = .ok (.ireturn, 1) := by decide +kernel
set_option maxRecDepth 20000 in
theorem ggX7_hook_X7_isHook : GoodIn wsX7_hook wsX7_isHook := goodIn_r _ [5] (by decide +kernel) (by decide +kernel)
set_option maxRecDepth 20000 in
theorem gX7_hook_X7_isHook : GoodIn wsX7_hook (va_wsS RX7 115 yX7_isHook wsX7_isHook) := goodIn_app (goodIn_of _ (by decide +kernel)) ggX7_hook_X7_isHook
set_option maxRecDepth 20000 in
theorem ggX7_hook_X5_hungOn : GoodIn wsX7_hook wsX5_hungOn := goodIn_r _ [10, 11, 3, 4, 5, 21, 22, 23, 24, 25, 26, 27, 28, 29, 30] (by decide +kernel) (by decide +kernel)
set_option maxRecDepth 20000 in
theorem gX7_hook_X5_hungOn : GoodIn wsX7_hook (wsV RX7 119 RX5 yX5_hungOn wsX5_hungOn) := goodIn_app (goodIn_of _ (by decide +kernel)) ggX7_hook_X5_hungOn
set_option maxRecDepth 20000 in
theorem ggX7_hook_X7_orNone : GoodIn wsX7_hook wsX7_orNone := goodIn_r _ [14] (by decide +kernel) (by decide +kernel)
set_option maxRecDepth 20000 in
theorem gX7_hook_X7_orNone : GoodIn wsX7_hook (va_wsS RX7 122 yX7_orNone wsX7_orNone) := goodIn_app (goodIn_of _ (by decide +kernel)) ggX7_hook_X7_orNone
theorem dX7_hook_0 : decode cX7_hook 0 = .ok (.iload_n 1, 1) := by decide +kernel
theorem dX7_hook_1 : decode cX7_hook 1 = .ok (.invokestatic 115, 3) := by decide +kernel
theorem dX7_hook_4 : decode cX7_hook 4 = .ok (.ifCond .ne 5, 3) := by decide +kernel
theorem dX7_hook_7 : decode cX7_hook 7 = .ok (.iconst (-1), 1) := by decide +kernel
theorem dX7_hook_8 : decode cX7_hook 8 = .ok (.ireturn, 1) := by decide +kernel
theorem dX7_hook_9 : decode cX7_hook 9 = .ok (.aload_n 0, 1) := by decide +kernel
theorem dX7_hook_10 : decode cX7_hook 10 = .ok (.getfield 12, 3) := by decide +kernel
theorem dX7_hook_13 : decode cX7_hook 13 = .ok (.iload_n 1, 1) := by decide +kernel
theorem dX7_hook_14 : decode cX7_hook 14 = .ok (.invokevirtual 119, 3) := by decide +kernel
theorem dX7_hook_17 : decode cX7_hook 17 = .ok (.invokestatic 122, 3) := by decide +kernel
theorem dX7_hook_20 : decode cX7_hook 20 = .ok (.ireturn, 1) := by decide +kernel
set_option maxRecDepth 20000 in
theorem ggX7_copy_X0_isAt : GoodIn wsX7_copy wsX0_isAt := goodIn_r _ [6, 7, 55, 56, 57, 58, 59] (by decide +kernel) (by decide +kernel)
set_option maxRecDepth 20000 in
theorem gX7_copy_X0_isAt : GoodIn wsX7_copy (wsV RX7 129 RX0 yX0_isAt wsX0_isAt) := goodIn_app (goodIn_of _ (by decide +kernel)) ggX7_copy_X0_isAt
set_option maxRecDepth 20000 in
theorem ggX7_copy_X0_thingAt : GoodIn wsX7_copy wsX0_thingAt := goodIn_r _ [11, 12, 13, 3, 4, 5, 6, 7, 55, 56, 57, 58, 59] (by decide +kernel) (by decide +kernel)
set_option maxRecDepth 20000 in
theorem gX7_copy_X0_thingAt : GoodIn wsX7_copy (wsV RX7 134 RX0 yX0_thingAt wsX0_thingAt) := goodIn_app (goodIn_of _ (by decide +kernel)) ggX7_copy_X0_thingAt
set_option maxRecDepth 20000 in
theorem ggX7_copy_X0_sizeAt : GoodIn wsX7_copy wsX0_sizeAt := goodIn_r _ [17, 7, 13, 3, 4, 5, 6, 55, 56, 57, 58, 59] (by decide +kernel) (by decide +kernel)
set_option maxRecDepth 20000 in
theorem gX7_copy_X0_sizeAt : GoodIn wsX7_copy (wsV RX7 137 RX0 yX0_sizeAt wsX0_sizeAt) := goodIn_app (goodIn_of _ (by decide +kernel)) ggX7_copy_X0_sizeAt
set_option maxRecDepth 20000 in
theorem ggX7_copy_X0_noteAt : GoodIn wsX7_copy wsX0_noteAt := goodIn_r _ [21, 22, 13, 3, 4, 5, 6, 7, 55, 56, 57, 58, 59] (by decide +kernel) (by decide +kernel)
set_option maxRecDepth 20000 in
theorem gX7_copy_X0_noteAt : GoodIn wsX7_copy (wsV RX7 140 RX0 yX0_noteAt wsX0_noteAt) := goodIn_app (goodIn_of _ (by decide +kernel)) ggX7_copy_X0_noteAt
set_option maxRecDepth 20000 in
theorem ggX7_copy_X7_orNone : GoodIn wsX7_copy wsX7_orNone := goodIn_r _ [26] (by decide +kernel) (by decide +kernel)
set_option maxRecDepth 20000 in
theorem gX7_copy_X7_orNone : GoodIn wsX7_copy (va_wsS RX7 122 yX7_orNone wsX7_orNone) := goodIn_app (goodIn_of _ (by decide +kernel)) ggX7_copy_X7_orNone
set_option maxRecDepth 20000 in
theorem ggX7_copy_X0_isMarked : GoodIn wsX7_copy wsX0_isMarked := goodIn_r _ [30, 31, 13, 3, 4, 5, 6, 7, 55, 56, 57, 58, 59] (by decide +kernel) (by decide +kernel)
set_option maxRecDepth 20000 in
theorem gX7_copy_X0_isMarked : GoodIn wsX7_copy (wsV RX7 143 RX0 yX0_isMarked wsX0_isMarked) := goodIn_app (goodIn_of _ (by decide +kernel)) ggX7_copy_X0_isMarked
set_option maxRecDepth 20000 in
theorem ggX7_copy_X0_nameAt : GoodIn wsX7_copy wsX0_nameAt := goodIn_r _ [35, 36, 13, 3, 4, 5, 6, 7, 37, 25, 38, 55, 56, 57, 58, 59] (by decide +kernel) (by decide +kernel)
set_option maxRecDepth 20000 in
theorem gX7_copy_X0_nameAt : GoodIn wsX7_copy (wsV RX7 146 RX0 yX0_nameAt wsX0_nameAt) := goodIn_app (goodIn_of _ (by decide +kernel)) ggX7_copy_X0_nameAt
theorem dX7_copy_0 : decode cX7_copy 0 = .ok (.aload_n 0, 1) := by decide +kernel
theorem dX7_copy_1 : decode cX7_copy 1 = .ok (.getfield 12, 3) := by decide +kernel
theorem dX7_copy_4 : decode cX7_copy 4 = .ok (.getfield 125, 3) := by decide +kernel
theorem dX7_copy_7 : decode cX7_copy 7 = .ok (.astore_n 3, 1) := by decide +kernel
theorem dX7_copy_8 : decode cX7_copy 8 = .ok (.aload_n 3, 1) := by decide +kernel
theorem dX7_copy_9 : decode cX7_copy 9 = .ok (.iload_n 1, 1) := by decide +kernel
theorem dX7_copy_10 : decode cX7_copy 10 = .ok (.invokevirtual 129, 3) := by decide +kernel
theorem dX7_copy_13 : decode cX7_copy 13 = .ok (.ifCond .ne 5, 3) := by decide +kernel
theorem dX7_copy_16 : decode cX7_copy 16 = .ok (.iconst (-1), 1) := by decide +kernel
theorem dX7_copy_17 : decode cX7_copy 17 = .ok (.ireturn, 1) := by decide +kernel
theorem dX7_copy_18 : decode cX7_copy 18 = .ok (.iload_n 2, 1) := by decide +kernel
theorem dX7_copy_19 : decode cX7_copy 19 = .ok (.tableswitch 92 0 5 #[37, 43, 49, 58, 72, 82], 37) := by decide +kernel
theorem dX7_copy_56 : decode cX7_copy 56 = .ok (.aload_n 3, 1) := by decide +kernel
theorem dX7_copy_57 : decode cX7_copy 57 = .ok (.iload_n 1, 1) := by decide +kernel
theorem dX7_copy_58 : decode cX7_copy 58 = .ok (.invokevirtual 134, 3) := by decide +kernel
theorem dX7_copy_61 : decode cX7_copy 61 = .ok (.ireturn, 1) := by decide +kernel
theorem dX7_copy_62 : decode cX7_copy 62 = .ok (.aload_n 3, 1) := by decide +kernel
theorem dX7_copy_63 : decode cX7_copy 63 = .ok (.iload_n 1, 1) := by decide +kernel
theorem dX7_copy_64 : decode cX7_copy 64 = .ok (.invokevirtual 137, 3) := by decide +kernel
theorem dX7_copy_67 : decode cX7_copy 67 = .ok (.ireturn, 1) := by decide +kernel
theorem dX7_copy_68 : decode cX7_copy 68 = .ok (.aload_n 3, 1) := by decide +kernel
theorem dX7_copy_69 : decode cX7_copy 69 = .ok (.iload_n 1, 1) := by decide +kernel
theorem dX7_copy_70 : decode cX7_copy 70 = .ok (.invokevirtual 140, 3) := by decide +kernel
theorem dX7_copy_73 : decode cX7_copy 73 = .ok (.invokestatic 122, 3) := by decide +kernel
theorem dX7_copy_76 : decode cX7_copy 76 = .ok (.ireturn, 1) := by decide +kernel
theorem dX7_copy_77 : decode cX7_copy 77 = .ok (.aload_n 3, 1) := by decide +kernel
theorem dX7_copy_78 : decode cX7_copy 78 = .ok (.iload_n 1, 1) := by decide +kernel
theorem dX7_copy_79 : decode cX7_copy 79 = .ok (.invokevirtual 143, 3) := by decide +kernel
theorem dX7_copy_82 : decode cX7_copy 82 = .ok (.ifCond .eq 7, 3) := by decide +kernel
theorem dX7_copy_85 : decode cX7_copy 85 = .ok (.iconst 1, 1) := by decide +kernel
theorem dX7_copy_86 : decode cX7_copy 86 = .ok (.goto 4, 3) := by decide +kernel
theorem dX7_copy_89 : decode cX7_copy 89 = .ok (.iconst 0, 1) := by decide +kernel
theorem dX7_copy_90 : decode cX7_copy 90 = .ok (.ireturn, 1) := by decide +kernel
theorem dX7_copy_91 : decode cX7_copy 91 = .ok (.aload_n 3, 1) := by decide +kernel
theorem dX7_copy_92 : decode cX7_copy 92 = .ok (.iload_n 1, 1) := by decide +kernel
theorem dX7_copy_93 : decode cX7_copy 93 = .ok (.iconst 0, 1) := by decide +kernel
theorem dX7_copy_94 : decode cX7_copy 94 = .ok (.invokevirtual 146, 3) := by decide +kernel
theorem dX7_copy_97 : decode cX7_copy 97 = .ok (.invokestatic 122, 3) := by decide +kernel
theorem dX7_copy_100 : decode cX7_copy 100 = .ok (.ireturn, 1) := by decide +kernel
theorem dX7_copy_101 : decode cX7_copy 101 = .ok (.aload_n 3, 1) := by decide +kernel
theorem dX7_copy_102 : decode cX7_copy 102 = .ok (.iload_n 1, 1) := by decide +kernel
theorem dX7_copy_103 : decode cX7_copy 103 = .ok (.iconst 1, 1) := by decide +kernel
theorem dX7_copy_104 : decode cX7_copy 104 = .ok (.invokevirtual 146, 3) := by decide +kernel
theorem dX7_copy_107 : decode cX7_copy 107 = .ok (.invokestatic 122, 3) := by decide +kernel
theorem dX7_copy_110 : decode cX7_copy 110 = .ok (.ireturn, 1) := by decide +kernel
theorem dX7_copy_111 : decode cX7_copy 111 = .ok (.iconst (-1), 1) := by decide +kernel
theorem dX7_copy_112 : decode cX7_copy 112 = .ok (.ireturn, 1) := by decide +kernel
set_option maxRecDepth 20000 in
theorem ggX7_where_X5_isThing : GoodIn wsX7_where wsX5_isThing := goodIn_r _ [6, 7, 33, 34, 35, 36, 37, 38, 39, 40, 41, 42] (by decide +kernel) (by decide +kernel)
set_option maxRecDepth 20000 in
theorem gX7_where_X5_isThing : GoodIn wsX7_where (wsV RX7 149 RX5 yX5_isThing wsX5_isThing) := goodIn_app (goodIn_of _ (by decide +kernel)) ggX7_where_X5_isThing
set_option maxRecDepth 20000 in
theorem ggX7_where_X0_addressOf : GoodIn wsX7_where wsX0_addressOf := goodIn_r _ [12, 13, 14, 15, 11, 16, 17, 18, 19, 20, 21, 22, 43, 44, 45, 46, 47] (by decide +kernel) (by decide +kernel)
set_option maxRecDepth 20000 in
theorem gX7_where_X0_addressOf : GoodIn wsX7_where (wsV RX7 152 RX0 yX0_addressOf wsX0_addressOf) := goodIn_app (goodIn_of _ (by decide +kernel)) ggX7_where_X0_addressOf
set_option maxRecDepth 20000 in
theorem ggX7_where_X7_orNone : GoodIn wsX7_where wsX7_orNone := goodIn_r _ [26] (by decide +kernel) (by decide +kernel)
set_option maxRecDepth 20000 in
theorem gX7_where_X7_orNone : GoodIn wsX7_where (va_wsS RX7 122 yX7_orNone wsX7_orNone) := goodIn_app (goodIn_of _ (by decide +kernel)) ggX7_where_X7_orNone
theorem dX7_where_0 : decode cX7_where 0 = .ok (.aload_n 0, 1) := by decide +kernel
theorem dX7_where_1 : decode cX7_where 1 = .ok (.getfield 12, 3) := by decide +kernel
theorem dX7_where_4 : decode cX7_where 4 = .ok (.iload_n 1, 1) := by decide +kernel
theorem dX7_where_5 : decode cX7_where 5 = .ok (.invokevirtual 149, 3) := by decide +kernel
theorem dX7_where_8 : decode cX7_where 8 = .ok (.ifCond .eq 7, 3) := by decide +kernel
theorem dX7_where_11 : decode cX7_where 11 = .ok (.iload_n 2, 1) := by decide +kernel
theorem dX7_where_12 : decode cX7_where 12 = .ok (.ifCond .ge 5, 3) := by decide +kernel
theorem dX7_where_15 : decode cX7_where 15 = .ok (.iconst (-1), 1) := by decide +kernel
theorem dX7_where_16 : decode cX7_where 16 = .ok (.ireturn, 1) := by decide +kernel
theorem dX7_where_17 : decode cX7_where 17 = .ok (.aload_n 0, 1) := by decide +kernel
theorem dX7_where_18 : decode cX7_where 18 = .ok (.getfield 12, 3) := by decide +kernel
theorem dX7_where_21 : decode cX7_where 21 = .ok (.getfield 125, 3) := by decide +kernel
theorem dX7_where_24 : decode cX7_where 24 = .ok (.iload_n 1, 1) := by decide +kernel
theorem dX7_where_25 : decode cX7_where 25 = .ok (.iload_n 2, 1) := by decide +kernel
theorem dX7_where_26 : decode cX7_where 26 = .ok (.invokevirtual 152, 3) := by decide +kernel
theorem dX7_where_29 : decode cX7_where 29 = .ok (.invokestatic 122, 3) := by decide +kernel
theorem dX7_where_32 : decode cX7_where 32 = .ok (.ireturn, 1) := by decide +kernel
theorem dX7_isHook_0 : decode cX7_isHook 0 = .ok (.iload_n 0, 1) := by decide +kernel
theorem dX7_isHook_1 : decode cX7_isHook 1 = .ok (.ifCond .lt 13, 3) := by decide +kernel
theorem dX7_isHook_4 : decode cX7_isHook 4 = .ok (.iload_n 0, 1) := by decide +kernel
theorem dX7_isHook_5 : decode cX7_isHook 5 = .ok (.bipush 8, 2) := by decide +kernel
theorem dX7_isHook_7 : decode cX7_isHook 7 = .ok (.if_icmp .ge 7, 3) := by decide +kernel
theorem dX7_isHook_10 : decode cX7_isHook 10 = .ok (.iconst 1, 1) := by decide +kernel
theorem dX7_isHook_11 : decode cX7_isHook 11 = .ok (.goto 4, 3) := by decide +kernel
theorem dX7_isHook_14 : decode cX7_isHook 14 = .ok (.iconst 0, 1) := by decide +kernel
theorem dX7_isHook_15 : decode cX7_isHook 15 = .ok (.ireturn, 1) := by decide +kernel
theorem dX7_isName_0 : decode cX7_isName 0 = .ok (.iload_n 0, 1) := by decide +kernel
theorem dX7_isName_1 : decode cX7_isName 1 = .ok (.ifCond .lt 12, 3) := by decide +kernel
theorem dX7_isName_4 : decode cX7_isName 4 = .ok (.iload_n 0, 1) := by decide +kernel
theorem dX7_isName_5 : decode cX7_isName 5 = .ok (.iconst 2, 1) := by decide +kernel
theorem dX7_isName_6 : decode cX7_isName 6 = .ok (.if_icmp .ge 7, 3) := by decide +kernel
theorem dX7_isName_9 : decode cX7_isName 9 = .ok (.iconst 1, 1) := by decide +kernel
theorem dX7_isName_10 : decode cX7_isName 10 = .ok (.goto 4, 3) := by decide +kernel
theorem dX7_isName_13 : decode cX7_isName 13 = .ok (.iconst 0, 1) := by decide +kernel
theorem dX7_isName_14 : decode cX7_isName 14 = .ok (.ireturn, 1) := by decide +kernel
theorem dX7_orNone_0 : decode cX7_orNone 0 = .ok (.iload_n 0, 1) := by decide +kernel
theorem dX7_orNone_1 : decode cX7_orNone 1 = .ok (.sipush 300, 3) := by decide +kernel
theorem dX7_orNone_4 : decode cX7_orNone 4 = .ok (.if_icmp .ne 8, 3) := by decide +kernel
theorem dX7_orNone_7 : decode cX7_orNone 7 = .ok (.bipush (-9), 2) := by decide +kernel
theorem dX7_orNone_9 : decode cX7_orNone 9 = .ok (.goto 4, 3) := by decide +kernel
theorem dX7_orNone_12 : decode cX7_orNone 12 = .ok (.iload_n 0, 1) := by decide +kernel
theorem dX7_orNone_13 : decode cX7_orNone 13 = .ok (.ireturn, 1) := by decide +kernel
set_option maxRecDepth 20000 in
theorem ggX7_recorded_X2_keepDraft : GoodIn wsX7_recorded wsX2_keepDraft := goodIn_r _ [6, 7, 8, 9, 10, 11, 12, 19, 20, 21] (by decide +kernel) (by decide +kernel)
set_option maxRecDepth 20000 in
theorem gX7_recorded_X2_keepDraft : GoodIn wsX7_recorded (wsV RX7 186 RX2 yX2_keepDraft wsX2_keepDraft) := goodIn_app (goodIn_of _ (by decide +kernel)) ggX7_recorded_X2_keepDraft
theorem dX7_recorded_0 : decode cX7_recorded 0 = .ok (.iload_n 1, 1) := by decide +kernel
theorem dX7_recorded_1 : decode cX7_recorded 1 = .ok (.ifCond .lt 10, 3) := by decide +kernel
theorem dX7_recorded_4 : decode cX7_recorded 4 = .ok (.aload_n 0, 1) := by decide +kernel
theorem dX7_recorded_5 : decode cX7_recorded 5 = .ok (.getfield 22, 3) := by decide +kernel
theorem dX7_recorded_8 : decode cX7_recorded 8 = .ok (.invokevirtual 186, 3) := by decide +kernel
theorem dX7_recorded_11 : decode cX7_recorded 11 = .ok (.iload_n 1, 1) := by decide +kernel
theorem dX7_recorded_12 : decode cX7_recorded 12 = .ok (.ireturn, 1) := by decide +kernel
theorem dJ9_floorMod_7cf53_0 : decode cJ9_floorMod_7cf53 0 = .ok (.iload_n 0, 1) := by decide +kernel
theorem dJ9_floorMod_7cf53_1 : decode cJ9_floorMod_7cf53 1 = .ok (.iload_n 1, 1) := by decide +kernel
theorem dJ9_floorMod_7cf53_2 : decode cJ9_floorMod_7cf53 2 = .ok (.irem, 1) := by decide +kernel
theorem dJ9_floorMod_7cf53_3 : decode cJ9_floorMod_7cf53 3 = .ok (.istore_n 2, 1) := by decide +kernel
theorem dJ9_floorMod_7cf53_4 : decode cJ9_floorMod_7cf53 4 = .ok (.iload_n 0, 1) := by decide +kernel
theorem dJ9_floorMod_7cf53_5 : decode cJ9_floorMod_7cf53 5 = .ok (.iload_n 1, 1) := by decide +kernel
theorem dJ9_floorMod_7cf53_6 : decode cJ9_floorMod_7cf53 6 = .ok (.ixor, 1) := by decide +kernel
theorem dJ9_floorMod_7cf53_7 : decode cJ9_floorMod_7cf53 7 = .ok (.ifCond .ge 11, 3) := by decide +kernel
theorem dJ9_floorMod_7cf53_10 : decode cJ9_floorMod_7cf53 10 = .ok (.iload_n 2, 1) := by decide +kernel
theorem dJ9_floorMod_7cf53_11 : decode cJ9_floorMod_7cf53 11 = .ok (.ifCond .eq 7, 3) := by decide +kernel
theorem dJ9_floorMod_7cf53_14 : decode cJ9_floorMod_7cf53 14 = .ok (.iload_n 2, 1) := by decide +kernel
theorem dJ9_floorMod_7cf53_15 : decode cJ9_floorMod_7cf53 15 = .ok (.iload_n 1, 1) := by decide +kernel
theorem dJ9_floorMod_7cf53_16 : decode cJ9_floorMod_7cf53 16 = .ok (.iadd, 1) := by decide +kernel
theorem dJ9_floorMod_7cf53_17 : decode cJ9_floorMod_7cf53 17 = .ok (.ireturn, 1) := by decide +kernel
theorem dJ9_floorMod_7cf53_18 : decode cJ9_floorMod_7cf53 18 = .ok (.iload_n 2, 1) := by decide +kernel
theorem dJ9_floorMod_7cf53_19 : decode cJ9_floorMod_7cf53 19 = .ok (.ireturn, 1) := by decide +kernel
theorem dJ7_fill_53178_0 : decode cJ7_fill_53178 0 = .ok (.iconst 0, 1) := by decide +kernel
theorem dJ7_fill_53178_1 : decode cJ7_fill_53178 1 = .ok (.istore_n 2, 1) := by decide +kernel
theorem dJ7_fill_53178_2 : decode cJ7_fill_53178 2 = .ok (.aload_n 0, 1) := by decide +kernel
theorem dJ7_fill_53178_3 : decode cJ7_fill_53178 3 = .ok (.arraylength, 1) := by decide +kernel
theorem dJ7_fill_53178_4 : decode cJ7_fill_53178 4 = .ok (.istore_n 3, 1) := by decide +kernel
theorem dJ7_fill_53178_5 : decode cJ7_fill_53178 5 = .ok (.iload_n 2, 1) := by decide +kernel
theorem dJ7_fill_53178_6 : decode cJ7_fill_53178 6 = .ok (.iload_n 3, 1) := by decide +kernel
theorem dJ7_fill_53178_7 : decode cJ7_fill_53178 7 = .ok (.if_icmp .ge 13, 3) := by decide +kernel
theorem dJ7_fill_53178_10 : decode cJ7_fill_53178 10 = .ok (.aload_n 0, 1) := by decide +kernel
theorem dJ7_fill_53178_11 : decode cJ7_fill_53178 11 = .ok (.iload_n 2, 1) := by decide +kernel
theorem dJ7_fill_53178_12 : decode cJ7_fill_53178 12 = .ok (.iload_n 1, 1) := by decide +kernel
theorem dJ7_fill_53178_13 : decode cJ7_fill_53178 13 = .ok (.iastore, 1) := by decide +kernel
theorem dJ7_fill_53178_14 : decode cJ7_fill_53178 14 = .ok (.iinc 2 1, 3) := by decide +kernel
theorem dJ7_fill_53178_17 : decode cJ7_fill_53178 17 = .ok (.goto (-12), 3) := by decide +kernel
theorem dJ7_fill_53178_20 : decode cJ7_fill_53178 20 = .ok (.return_, 1) := by decide +kernel
theorem dL_cell_0 : decode cL_cell 0 = .ok (.iload_n 1, 1) := by decide +kernel
theorem dL_cell_1 : decode cL_cell 1 = .ok (.aload_n 0, 1) := by decide +kernel
theorem dL_cell_2 : decode cL_cell 2 = .ok (.arraylength, 1) := by decide +kernel
theorem dL_cell_3 : decode cL_cell 3 = .ok (.if_icmp .ge 9, 3) := by decide +kernel
theorem dL_cell_6 : decode cL_cell 6 = .ok (.aload_n 0, 1) := by decide +kernel
theorem dL_cell_7 : decode cL_cell 7 = .ok (.iload_n 1, 1) := by decide +kernel
theorem dL_cell_8 : decode cL_cell 8 = .ok (.iaload, 1) := by decide +kernel
theorem dL_cell_9 : decode cL_cell 9 = .ok (.goto 9, 3) := by decide +kernel
theorem dL_cell_12 : decode cL_cell 12 = .ok (.ldc 7, 2) := by decide +kernel
theorem dL_cell_14 : decode cL_cell 14 = .ok (.iload_n 1, 1) := by decide +kernel
theorem dL_cell_15 : decode cL_cell 15 = .ok (.iconst 3, 1) := by decide +kernel
theorem dL_cell_16 : decode cL_cell 16 = .ok (.iadd, 1) := by decide +kernel
theorem dL_cell_17 : decode cL_cell 17 = .ok (.imul, 1) := by decide +kernel
theorem dL_cell_18 : decode cL_cell 18 = .ok (.ireturn, 1) := by decide +kernel
theorem dL_low_0 : decode cL_low 0 = .ok (.iload_n 0, 1) := by decide +kernel
theorem dL_low_1 : decode cL_low 1 = .ok (.ldc 8, 2) := by decide +kernel
theorem dL_low_3 : decode cL_low 3 = .ok (.iand, 1) := by decide +kernel
theorem dL_low_4 : decode cL_low 4 = .ok (.iload_n 1, 1) := by decide +kernel
theorem dL_low_5 : decode cL_low 5 = .ok (.irem, 1) := by decide +kernel
theorem dL_low_6 : decode cL_low 6 = .ok (.ireturn, 1) := by decide +kernel
theorem dL_at_0 : decode cL_at 0 = .ok (.iload_n 3, 1) := by decide +kernel
theorem dL_at_1 : decode cL_at 1 = .ok (.bipush 100, 2) := by decide +kernel
theorem dL_at_3 : decode cL_at 3 = .ok (.if_icmp .ge 9, 3) := by decide +kernel
theorem dL_at_6 : decode cL_at 6 = .ok (.aload_n 0, 1) := by decide +kernel
theorem dL_at_7 : decode cL_at 7 = .ok (.iload_n 3, 1) := by decide +kernel
theorem dL_at_8 : decode cL_at 8 = .ok (.laload, 1) := by decide +kernel
theorem dL_at_9 : decode cL_at 9 = .ok (.goto 26, 3) := by decide +kernel
theorem dL_at_12 : decode cL_at 12 = .ok (.iload_n 3, 1) := by decide +kernel
theorem dL_at_13 : decode cL_at 13 = .ok (.sipush 200, 3) := by decide +kernel
theorem dL_at_16 : decode cL_at 16 = .ok (.if_icmp .ge 12, 3) := by decide +kernel
theorem dL_at_19 : decode cL_at 19 = .ok (.aload_n 1, 1) := by decide +kernel
theorem dL_at_20 : decode cL_at 20 = .ok (.iload_n 3, 1) := by decide +kernel
theorem dL_at_21 : decode cL_at 21 = .ok (.bipush 100, 2) := by decide +kernel
theorem dL_at_23 : decode cL_at 23 = .ok (.isub, 1) := by decide +kernel
theorem dL_at_24 : decode cL_at 24 = .ok (.laload, 1) := by decide +kernel
theorem dL_at_25 : decode cL_at 25 = .ok (.goto 10, 3) := by decide +kernel
theorem dL_at_28 : decode cL_at 28 = .ok (.aload_n 2, 1) := by decide +kernel
theorem dL_at_29 : decode cL_at 29 = .ok (.iload_n 3, 1) := by decide +kernel
theorem dL_at_30 : decode cL_at 30 = .ok (.sipush 200, 3) := by decide +kernel
theorem dL_at_33 : decode cL_at 33 = .ok (.isub, 1) := by decide +kernel
theorem dL_at_34 : decode cL_at 34 = .ok (.laload, 1) := by decide +kernel
theorem dL_at_35 : decode cL_at 35 = .ok (.lreturn, 1) := by decide +kernel
theorem dL_puts_0 : decode cL_puts 0 = .ok (.iload_n 3, 1) := by decide +kernel
theorem dL_puts_1 : decode cL_puts 1 = .ok (.bipush 100, 2) := by decide +kernel
theorem dL_puts_3 : decode cL_puts 3 = .ok (.if_icmp .ge 11, 3) := by decide +kernel
theorem dL_puts_6 : decode cL_puts 6 = .ok (.aload_n 0, 1) := by decide +kernel
theorem dL_puts_7 : decode cL_puts 7 = .ok (.iload_n 3, 1) := by decide +kernel
theorem dL_puts_8 : decode cL_puts 8 = .ok (.lload 4, 2) := by decide +kernel
theorem dL_puts_10 : decode cL_puts 10 = .ok (.lastore, 1) := by decide +kernel
theorem dL_puts_11 : decode cL_puts 11 = .ok (.goto 30, 3) := by decide +kernel
theorem dL_puts_14 : decode cL_puts 14 = .ok (.iload_n 3, 1) := by decide +kernel
theorem dL_puts_15 : decode cL_puts 15 = .ok (.sipush 200, 3) := by decide +kernel
theorem dL_puts_18 : decode cL_puts 18 = .ok (.if_icmp .ge 14, 3) := by decide +kernel
theorem dL_puts_21 : decode cL_puts 21 = .ok (.aload_n 1, 1) := by decide +kernel
theorem dL_puts_22 : decode cL_puts 22 = .ok (.iload_n 3, 1) := by decide +kernel
theorem dL_puts_23 : decode cL_puts 23 = .ok (.bipush 100, 2) := by decide +kernel
theorem dL_puts_25 : decode cL_puts 25 = .ok (.isub, 1) := by decide +kernel
theorem dL_puts_26 : decode cL_puts 26 = .ok (.lload 4, 2) := by decide +kernel
theorem dL_puts_28 : decode cL_puts 28 = .ok (.lastore, 1) := by decide +kernel
theorem dL_puts_29 : decode cL_puts 29 = .ok (.goto 12, 3) := by decide +kernel
theorem dL_puts_32 : decode cL_puts 32 = .ok (.aload_n 2, 1) := by decide +kernel
theorem dL_puts_33 : decode cL_puts 33 = .ok (.iload_n 3, 1) := by decide +kernel
theorem dL_puts_34 : decode cL_puts 34 = .ok (.sipush 200, 3) := by decide +kernel
theorem dL_puts_37 : decode cL_puts 37 = .ok (.isub, 1) := by decide +kernel
theorem dL_puts_38 : decode cL_puts 38 = .ok (.lload 4, 2) := by decide +kernel
theorem dL_puts_40 : decode cL_puts 40 = .ok (.lastore, 1) := by decide +kernel
theorem dL_puts_41 : decode cL_puts 41 = .ok (.return_, 1) := by decide +kernel
theorem dL_pack_0 : decode cL_pack 0 = .ok (.iload_n 0, 1) := by decide +kernel
theorem dL_pack_1 : decode cL_pack 1 = .ok (.i2l, 1) := by decide +kernel
theorem dL_pack_2 : decode cL_pack 2 = .ok (.lconst 1, 1) := by decide +kernel
theorem dL_pack_3 : decode cL_pack 3 = .ok (.ladd, 1) := by decide +kernel
theorem dL_pack_4 : decode cL_pack 4 = .ok (.iload_n 1, 1) := by decide +kernel
theorem dL_pack_5 : decode cL_pack 5 = .ok (.i2l, 1) := by decide +kernel
theorem dL_pack_6 : decode cL_pack 6 = .ok (.ldc2_w 9, 3) := by decide +kernel
theorem dL_pack_9 : decode cL_pack 9 = .ok (.ladd, 1) := by decide +kernel
theorem dL_pack_10 : decode cL_pack 10 = .ok (.bipush 6, 2) := by decide +kernel
theorem dL_pack_12 : decode cL_pack 12 = .ok (.lshl, 1) := by decide +kernel
theorem dL_pack_13 : decode cL_pack 13 = .ok (.lor, 1) := by decide +kernel
theorem dL_pack_14 : decode cL_pack 14 = .ok (.iload_n 2, 1) := by decide +kernel
theorem dL_pack_15 : decode cL_pack 15 = .ok (.i2l, 1) := by decide +kernel
theorem dL_pack_16 : decode cL_pack 16 = .ok (.ldc2_w 9, 3) := by decide +kernel
theorem dL_pack_19 : decode cL_pack 19 = .ok (.ladd, 1) := by decide +kernel
theorem dL_pack_20 : decode cL_pack 20 = .ok (.bipush 15, 2) := by decide +kernel
theorem dL_pack_22 : decode cL_pack 22 = .ok (.lshl, 1) := by decide +kernel
theorem dL_pack_23 : decode cL_pack 23 = .ok (.lor, 1) := by decide +kernel
theorem dL_pack_24 : decode cL_pack 24 = .ok (.iload_n 3, 1) := by decide +kernel
theorem dL_pack_25 : decode cL_pack 25 = .ok (.i2l, 1) := by decide +kernel
theorem dL_pack_26 : decode cL_pack 26 = .ok (.ldc2_w 9, 3) := by decide +kernel
theorem dL_pack_29 : decode cL_pack 29 = .ok (.ladd, 1) := by decide +kernel
theorem dL_pack_30 : decode cL_pack 30 = .ok (.bipush 24, 2) := by decide +kernel
theorem dL_pack_32 : decode cL_pack 32 = .ok (.lshl, 1) := by decide +kernel
theorem dL_pack_33 : decode cL_pack 33 = .ok (.lor, 1) := by decide +kernel
theorem dL_pack_34 : decode cL_pack 34 = .ok (.iload 4, 2) := by decide +kernel
theorem dL_pack_36 : decode cL_pack 36 = .ok (.i2l, 1) := by decide +kernel
theorem dL_pack_37 : decode cL_pack 37 = .ok (.bipush 33, 2) := by decide +kernel
theorem dL_pack_39 : decode cL_pack 39 = .ok (.lshl, 1) := by decide +kernel
theorem dL_pack_40 : decode cL_pack 40 = .ok (.lor, 1) := by decide +kernel
theorem dL_pack_41 : decode cL_pack 41 = .ok (.lreturn, 1) := by decide +kernel
theorem dL_thing_0 : decode cL_thing 0 = .ok (.lload_n 0, 1) := by decide +kernel
theorem dL_thing_1 : decode cL_thing 1 = .ok (.ldc2_w 11, 3) := by decide +kernel
theorem dL_thing_4 : decode cL_thing 4 = .ok (.land, 1) := by decide +kernel
theorem dL_thing_5 : decode cL_thing 5 = .ok (.l2i, 1) := by decide +kernel
theorem dL_thing_6 : decode cL_thing 6 = .ok (.iconst 1, 1) := by decide +kernel
theorem dL_thing_7 : decode cL_thing 7 = .ok (.isub, 1) := by decide +kernel
theorem dL_thing_8 : decode cL_thing 8 = .ok (.ireturn, 1) := by decide +kernel
theorem dL_name_0 : decode cL_name 0 = .ok (.lload_n 0, 1) := by decide +kernel
theorem dL_name_1 : decode cL_name 1 = .ok (.bipush 6, 2) := by decide +kernel
theorem dL_name_3 : decode cL_name 3 = .ok (.bipush 9, 2) := by decide +kernel
theorem dL_name_5 : decode cL_name 5 = .ok (.iload_n 2, 1) := by decide +kernel
theorem dL_name_6 : decode cL_name 6 = .ok (.imul, 1) := by decide +kernel
theorem dL_name_7 : decode cL_name 7 = .ok (.iadd, 1) := by decide +kernel
theorem dL_name_8 : decode cL_name 8 = .ok (.lshr, 1) := by decide +kernel
theorem dL_name_9 : decode cL_name 9 = .ok (.ldc2_w 13, 3) := by decide +kernel
theorem dL_name_12 : decode cL_name 12 = .ok (.land, 1) := by decide +kernel
theorem dL_name_13 : decode cL_name 13 = .ok (.l2i, 1) := by decide +kernel
theorem dL_name_14 : decode cL_name 14 = .ok (.bipush 9, 2) := by decide +kernel
theorem dL_name_16 : decode cL_name 16 = .ok (.isub, 1) := by decide +kernel
theorem dL_name_17 : decode cL_name 17 = .ok (.ireturn, 1) := by decide +kernel
theorem dL_mark_0 : decode cL_mark 0 = .ok (.lload_n 0, 1) := by decide +kernel
theorem dL_mark_1 : decode cL_mark 1 = .ok (.bipush 33, 2) := by decide +kernel
theorem dL_mark_3 : decode cL_mark 3 = .ok (.lshr, 1) := by decide +kernel
theorem dL_mark_4 : decode cL_mark 4 = .ok (.lconst 1, 1) := by decide +kernel
theorem dL_mark_5 : decode cL_mark 5 = .ok (.land, 1) := by decide +kernel
theorem dL_mark_6 : decode cL_mark 6 = .ok (.l2i, 1) := by decide +kernel
theorem dL_mark_7 : decode cL_mark 7 = .ok (.ireturn, 1) := by decide +kernel
set_option maxRecDepth 20000 in
theorem ggL_kept_L_name : GoodIn wsL_kept wsL_name := goodIn_r _ [4, 5] (by decide +kernel) (by decide +kernel)
set_option maxRecDepth 20000 in
theorem gL_kept_L_name : GoodIn wsL_kept (va_wsS RL 15 yL_name wsL_name) := goodIn_app (goodIn_of _ (by decide +kernel)) ggL_kept_L_name
set_option maxRecDepth 20000 in
theorem ggL_kept_L_thing : GoodIn wsL_kept wsL_thing := goodIn_r _ [8, 9] (by decide +kernel) (by decide +kernel)
set_option maxRecDepth 20000 in
theorem gL_kept_L_thing : GoodIn wsL_kept (va_wsS RL 21 yL_thing wsL_thing) := goodIn_app (goodIn_of _ (by decide +kernel)) ggL_kept_L_thing
theorem dL_kept_0 : decode cL_kept 0 = .ok (.iconst 0, 1) := by decide +kernel
theorem dL_kept_1 : decode cL_kept 1 = .ok (.istore 4, 2) := by decide +kernel
theorem dL_kept_3 : decode cL_kept 3 = .ok (.iconst 0, 1) := by decide +kernel
theorem dL_kept_4 : decode cL_kept 4 = .ok (.istore 5, 2) := by decide +kernel
theorem dL_kept_6 : decode cL_kept 6 = .ok (.iload 5, 2) := by decide +kernel
theorem dL_kept_8 : decode cL_kept 8 = .ok (.bipush 64, 2) := by decide +kernel
theorem dL_kept_10 : decode cL_kept 10 = .ok (.if_icmp .ge 68, 3) := by decide +kernel
theorem dL_kept_13 : decode cL_kept 13 = .ok (.aload_n 0, 1) := by decide +kernel
theorem dL_kept_14 : decode cL_kept 14 = .ok (.iconst 2, 1) := by decide +kernel
theorem dL_kept_15 : decode cL_kept 15 = .ok (.iaload, 1) := by decide +kernel
theorem dL_kept_16 : decode cL_kept 16 = .ok (.iconst 1, 1) := by decide +kernel
theorem dL_kept_17 : decode cL_kept 17 = .ok (.if_icmp .ne 61, 3) := by decide +kernel
theorem dL_kept_20 : decode cL_kept 20 = .ok (.aload_n 0, 1) := by decide +kernel
theorem dL_kept_21 : decode cL_kept 21 = .ok (.iconst 3, 1) := by decide +kernel
theorem dL_kept_22 : decode cL_kept 22 = .ok (.iaload, 1) := by decide +kernel
theorem dL_kept_23 : decode cL_kept 23 = .ok (.iconst 1, 1) := by decide +kernel
theorem dL_kept_24 : decode cL_kept 24 = .ok (.if_icmp .ne 10, 3) := by decide +kernel
theorem dL_kept_27 : decode cL_kept 27 = .ok (.aload_n 2, 1) := by decide +kernel
theorem dL_kept_28 : decode cL_kept 28 = .ok (.iload 5, 2) := by decide +kernel
theorem dL_kept_30 : decode cL_kept 30 = .ok (.laload, 1) := by decide +kernel
theorem dL_kept_31 : decode cL_kept 31 = .ok (.goto 7, 3) := by decide +kernel
theorem dL_kept_34 : decode cL_kept 34 = .ok (.aload_n 3, 1) := by decide +kernel
theorem dL_kept_35 : decode cL_kept 35 = .ok (.iload 5, 2) := by decide +kernel
theorem dL_kept_37 : decode cL_kept 37 = .ok (.laload, 1) := by decide +kernel
theorem dL_kept_38 : decode cL_kept 38 = .ok (.lstore 6, 2) := by decide +kernel
theorem dL_kept_40 : decode cL_kept 40 = .ok (.iload 4, 2) := by decide +kernel
theorem dL_kept_42 : decode cL_kept 42 = .ok (.lload 6, 2) := by decide +kernel
theorem dL_kept_44 : decode cL_kept 44 = .ok (.lconst 0, 1) := by decide +kernel
theorem dL_kept_45 : decode cL_kept 45 = .ok (.lcmp, 1) := by decide +kernel
theorem dL_kept_46 : decode cL_kept 46 = .ok (.ifCond .eq 22, 3) := by decide +kernel
theorem dL_kept_49 : decode cL_kept 49 = .ok (.lload 6, 2) := by decide +kernel
theorem dL_kept_51 : decode cL_kept 51 = .ok (.iconst 2, 1) := by decide +kernel
theorem dL_kept_52 : decode cL_kept 52 = .ok (.invokestatic 15, 3) := by decide +kernel
theorem dL_kept_55 : decode cL_kept 55 = .ok (.ifCond .ge 13, 3) := by decide +kernel
theorem dL_kept_58 : decode cL_kept 58 = .ok (.aload_n 1, 1) := by decide +kernel
theorem dL_kept_59 : decode cL_kept 59 = .ok (.lload 6, 2) := by decide +kernel
theorem dL_kept_61 : decode cL_kept 61 = .ok (.invokestatic 21, 3) := by decide +kernel
theorem dL_kept_64 : decode cL_kept 64 = .ok (.iaload, 1) := by decide +kernel
theorem dL_kept_65 : decode cL_kept 65 = .ok (.goto 4, 3) := by decide +kernel
theorem dL_kept_68 : decode cL_kept 68 = .ok (.iconst 0, 1) := by decide +kernel
theorem dL_kept_69 : decode cL_kept 69 = .ok (.iadd, 1) := by decide +kernel
theorem dL_kept_70 : decode cL_kept 70 = .ok (.istore 4, 2) := by decide +kernel
theorem dL_kept_72 : decode cL_kept 72 = .ok (.iinc 5 1, 3) := by decide +kernel
theorem dL_kept_75 : decode cL_kept 75 = .ok (.goto (-69), 3) := by decide +kernel
theorem dL_kept_78 : decode cL_kept 78 = .ok (.iload 4, 2) := by decide +kernel
theorem dL_kept_80 : decode cL_kept 80 = .ok (.ireturn, 1) := by decide +kernel
set_option maxRecDepth 20000 in
theorem ggL_lays_L_pack : GoodIn wsL_lays wsL_pack := goodIn_r _ [4, 5] (by decide +kernel) (by decide +kernel)
set_option maxRecDepth 20000 in
theorem gL_lays_L_pack : GoodIn wsL_lays (va_wsS RL 25 yL_pack wsL_pack) := goodIn_app (goodIn_of _ (by decide +kernel)) ggL_lays_L_pack
set_option maxRecDepth 20000 in
theorem ggL_lays_L_puts : GoodIn wsL_lays wsL_puts := goodIn_r _ [8] (by decide +kernel) (by decide +kernel)
set_option maxRecDepth 20000 in
theorem gL_lays_L_puts : GoodIn wsL_lays (va_wsS RL 29 yL_puts wsL_puts) := goodIn_app (goodIn_of _ (by decide +kernel)) ggL_lays_L_puts
theorem dL_lays_0 : decode cL_lays 0 = .ok (.bipush 100, 2) := by decide +kernel
theorem dL_lays_2 : decode cL_lays 2 = .ok (.aload_n 0, 1) := by decide +kernel
theorem dL_lays_3 : decode cL_lays 3 = .ok (.iconst 3, 1) := by decide +kernel
theorem dL_lays_4 : decode cL_lays 4 = .ok (.iaload, 1) := by decide +kernel
theorem dL_lays_5 : decode cL_lays 5 = .ok (.imul, 1) := by decide +kernel
theorem dL_lays_6 : decode cL_lays 6 = .ok (.aload_n 0, 1) := by decide +kernel
theorem dL_lays_7 : decode cL_lays 7 = .ok (.iconst 4, 1) := by decide +kernel
theorem dL_lays_8 : decode cL_lays 8 = .ok (.aload_n 0, 1) := by decide +kernel
theorem dL_lays_9 : decode cL_lays 9 = .ok (.iconst 3, 1) := by decide +kernel
theorem dL_lays_10 : decode cL_lays 10 = .ok (.iaload, 1) := by decide +kernel
theorem dL_lays_11 : decode cL_lays 11 = .ok (.iadd, 1) := by decide +kernel
theorem dL_lays_12 : decode cL_lays 12 = .ok (.iaload, 1) := by decide +kernel
theorem dL_lays_13 : decode cL_lays 13 = .ok (.iadd, 1) := by decide +kernel
theorem dL_lays_14 : decode cL_lays 14 = .ok (.istore 8, 2) := by decide +kernel
theorem dL_lays_16 : decode cL_lays 16 = .ok (.aload_n 2, 1) := by decide +kernel
theorem dL_lays_17 : decode cL_lays 17 = .ok (.aload_n 3, 1) := by decide +kernel
theorem dL_lays_18 : decode cL_lays 18 = .ok (.aload 4, 2) := by decide +kernel
theorem dL_lays_20 : decode cL_lays 20 = .ok (.iload 8, 2) := by decide +kernel
theorem dL_lays_22 : decode cL_lays 22 = .ok (.iload 5, 2) := by decide +kernel
theorem dL_lays_24 : decode cL_lays 24 = .ok (.iload 6, 2) := by decide +kernel
theorem dL_lays_26 : decode cL_lays 26 = .ok (.iload 7, 2) := by decide +kernel
theorem dL_lays_28 : decode cL_lays 28 = .ok (.bipush (-9), 2) := by decide +kernel
theorem dL_lays_30 : decode cL_lays 30 = .ok (.iconst 0, 1) := by decide +kernel
theorem dL_lays_31 : decode cL_lays 31 = .ok (.invokestatic 25, 3) := by decide +kernel
theorem dL_lays_34 : decode cL_lays 34 = .ok (.invokestatic 29, 3) := by decide +kernel
theorem dL_lays_37 : decode cL_lays 37 = .ok (.aload_n 0, 1) := by decide +kernel
theorem dL_lays_38 : decode cL_lays 38 = .ok (.iconst 4, 1) := by decide +kernel
theorem dL_lays_39 : decode cL_lays 39 = .ok (.aload_n 0, 1) := by decide +kernel
theorem dL_lays_40 : decode cL_lays 40 = .ok (.iconst 3, 1) := by decide +kernel
theorem dL_lays_41 : decode cL_lays 41 = .ok (.iaload, 1) := by decide +kernel
theorem dL_lays_42 : decode cL_lays 42 = .ok (.iadd, 1) := by decide +kernel
theorem dL_lays_43 : decode cL_lays 43 = .ok (.dup2, 1) := by decide +kernel
theorem dL_lays_44 : decode cL_lays 44 = .ok (.iaload, 1) := by decide +kernel
theorem dL_lays_45 : decode cL_lays 45 = .ok (.aload_n 1, 1) := by decide +kernel
theorem dL_lays_46 : decode cL_lays 46 = .ok (.iload 5, 2) := by decide +kernel
theorem dL_lays_48 : decode cL_lays 48 = .ok (.iaload, 1) := by decide +kernel
theorem dL_lays_49 : decode cL_lays 49 = .ok (.iadd, 1) := by decide +kernel
theorem dL_lays_50 : decode cL_lays 50 = .ok (.iastore, 1) := by decide +kernel
theorem dL_lays_51 : decode cL_lays 51 = .ok (.iload 8, 2) := by decide +kernel
theorem dL_lays_53 : decode cL_lays 53 = .ok (.ireturn, 1) := by decide +kernel
set_option maxRecDepth 20000 in
theorem ggL_read_L_at : GoodIn wsL_read wsL_at := goodIn_r _ [5] (by decide +kernel) (by decide +kernel)
set_option maxRecDepth 20000 in
theorem gL_read_L_at : GoodIn wsL_read (va_wsS RL 33 yL_at wsL_at) := goodIn_app (goodIn_of _ (by decide +kernel)) ggL_read_L_at
set_option maxRecDepth 20000 in
theorem ggL_read_L_mark : GoodIn wsL_read wsL_mark := goodIn_r _ [8] (by decide +kernel) (by decide +kernel)
set_option maxRecDepth 20000 in
theorem gL_read_L_mark : GoodIn wsL_read (va_wsS RL 37 yL_mark wsL_mark) := goodIn_app (goodIn_of _ (by decide +kernel)) ggL_read_L_mark
set_option maxRecDepth 20000 in
theorem ggL_read_L_puts : GoodIn wsL_read wsL_puts := goodIn_r _ [11] (by decide +kernel) (by decide +kernel)
set_option maxRecDepth 20000 in
theorem gL_read_L_puts : GoodIn wsL_read (va_wsS RL 29 yL_puts wsL_puts) := goodIn_app (goodIn_of _ (by decide +kernel)) ggL_read_L_puts
set_option maxRecDepth 20000 in
theorem ggL_read_L_name : GoodIn wsL_read wsL_name := goodIn_r _ [14, 15] (by decide +kernel) (by decide +kernel)
set_option maxRecDepth 20000 in
theorem gL_read_L_name : GoodIn wsL_read (va_wsS RL 15 yL_name wsL_name) := goodIn_app (goodIn_of _ (by decide +kernel)) ggL_read_L_name
set_option maxRecDepth 20000 in
theorem ggL_read_L_thing : GoodIn wsL_read wsL_thing := goodIn_r _ [18, 19] (by decide +kernel) (by decide +kernel)
set_option maxRecDepth 20000 in
theorem gL_read_L_thing : GoodIn wsL_read (va_wsS RL 21 yL_thing wsL_thing) := goodIn_app (goodIn_of _ (by decide +kernel)) ggL_read_L_thing
set_option maxRecDepth 20000 in
theorem ggL_read_L_lays : GoodIn wsL_read wsL_lays := goodIn_r _ [22, 23, 24, 4, 25, 26, 9, 10, 11] (by decide +kernel) (by decide +kernel)
set_option maxRecDepth 20000 in
theorem gL_read_L_lays : GoodIn wsL_read (va_wsS RL 42 yL_lays wsL_lays) := goodIn_app (goodIn_of _ (by decide +kernel)) ggL_read_L_lays
set_option maxRecDepth 20000 in
theorem ggL_read_L_pack : GoodIn wsL_read wsL_pack := goodIn_r _ [25, 26] (by decide +kernel) (by decide +kernel)
set_option maxRecDepth 20000 in
theorem gL_read_L_pack : GoodIn wsL_read (va_wsS RL 25 yL_pack wsL_pack) := goodIn_app (goodIn_of _ (by decide +kernel)) ggL_read_L_pack
theorem dL_read_0 : decode cL_read 0 = .ok (.iload 6, 2) := by decide +kernel
theorem dL_read_2 : decode cL_read 2 = .ok (.ifCond .lt 20, 3) := by decide +kernel
theorem dL_read_5 : decode cL_read 5 = .ok (.aload_n 0, 1) := by decide +kernel
theorem dL_read_6 : decode cL_read 6 = .ok (.iconst 2, 1) := by decide +kernel
theorem dL_read_7 : decode cL_read 7 = .ok (.iaload, 1) := by decide +kernel
theorem dL_read_8 : decode cL_read 8 = .ok (.ifCond .eq 14, 3) := by decide +kernel
theorem dL_read_11 : decode cL_read 11 = .ok (.iload 6, 2) := by decide +kernel
theorem dL_read_13 : decode cL_read 13 = .ok (.bipush 100, 2) := by decide +kernel
theorem dL_read_15 : decode cL_read 15 = .ok (.idiv, 1) := by decide +kernel
theorem dL_read_16 : decode cL_read 16 = .ok (.aload_n 0, 1) := by decide +kernel
theorem dL_read_17 : decode cL_read 17 = .ok (.iconst 3, 1) := by decide +kernel
theorem dL_read_18 : decode cL_read 18 = .ok (.iaload, 1) := by decide +kernel
theorem dL_read_19 : decode cL_read 19 = .ok (.if_icmp .ne 6, 3) := by decide +kernel
theorem dL_read_22 : decode cL_read 22 = .ok (.iload 6, 2) := by decide +kernel
theorem dL_read_24 : decode cL_read 24 = .ok (.ireturn, 1) := by decide +kernel
theorem dL_read_25 : decode cL_read 25 = .ok (.aload_n 3, 1) := by decide +kernel
theorem dL_read_26 : decode cL_read 26 = .ok (.aload 4, 2) := by decide +kernel
theorem dL_read_28 : decode cL_read 28 = .ok (.aload 5, 2) := by decide +kernel
theorem dL_read_30 : decode cL_read 30 = .ok (.iload 6, 2) := by decide +kernel
theorem dL_read_32 : decode cL_read 32 = .ok (.invokestatic 33, 3) := by decide +kernel
theorem dL_read_35 : decode cL_read 35 = .ok (.lstore 7, 2) := by decide +kernel
theorem dL_read_37 : decode cL_read 37 = .ok (.iload 6, 2) := by decide +kernel
theorem dL_read_39 : decode cL_read 39 = .ok (.sipush 200, 3) := by decide +kernel
theorem dL_read_42 : decode cL_read 42 = .ok (.if_icmp .lt 46, 3) := by decide +kernel
theorem dL_read_45 : decode cL_read 45 = .ok (.lload 7, 2) := by decide +kernel
theorem dL_read_47 : decode cL_read 47 = .ok (.invokestatic 37, 3) := by decide +kernel
theorem dL_read_50 : decode cL_read 50 = .ok (.ifCond .ne 35, 3) := by decide +kernel
theorem dL_read_53 : decode cL_read 53 = .ok (.aload_n 3, 1) := by decide +kernel
theorem dL_read_54 : decode cL_read 54 = .ok (.aload 4, 2) := by decide +kernel
theorem dL_read_56 : decode cL_read 56 = .ok (.aload 5, 2) := by decide +kernel
theorem dL_read_58 : decode cL_read 58 = .ok (.iload 6, 2) := by decide +kernel
theorem dL_read_60 : decode cL_read 60 = .ok (.lload 7, 2) := by decide +kernel
theorem dL_read_62 : decode cL_read 62 = .ok (.ldc2_w 40, 3) := by decide +kernel
theorem dL_read_65 : decode cL_read 65 = .ok (.lor, 1) := by decide +kernel
theorem dL_read_66 : decode cL_read 66 = .ok (.invokestatic 29, 3) := by decide +kernel
theorem dL_read_69 : decode cL_read 69 = .ok (.aload_n 2, 1) := by decide +kernel
theorem dL_read_70 : decode cL_read 70 = .ok (.aload_n 0, 1) := by decide +kernel
theorem dL_read_71 : decode cL_read 71 = .ok (.bipush 8, 2) := by decide +kernel
theorem dL_read_73 : decode cL_read 73 = .ok (.iaload, 1) := by decide +kernel
theorem dL_read_74 : decode cL_read 74 = .ok (.iload 6, 2) := by decide +kernel
theorem dL_read_76 : decode cL_read 76 = .ok (.iastore, 1) := by decide +kernel
theorem dL_read_77 : decode cL_read 77 = .ok (.aload_n 0, 1) := by decide +kernel
theorem dL_read_78 : decode cL_read 78 = .ok (.bipush 8, 2) := by decide +kernel
theorem dL_read_80 : decode cL_read 80 = .ok (.dup2, 1) := by decide +kernel
theorem dL_read_81 : decode cL_read 81 = .ok (.iaload, 1) := by decide +kernel
theorem dL_read_82 : decode cL_read 82 = .ok (.iconst 1, 1) := by decide +kernel
theorem dL_read_83 : decode cL_read 83 = .ok (.iadd, 1) := by decide +kernel
theorem dL_read_84 : decode cL_read 84 = .ok (.iastore, 1) := by decide +kernel
end
section
theorem dL_read_85 : decode cL_read 85 = .ok (.iload 6, 2) := by decide +kernel
theorem dL_read_87 : decode cL_read 87 = .ok (.ireturn, 1) := by decide +kernel
theorem dL_read_88 : decode cL_read 88 = .ok (.lload 7, 2) := by decide +kernel
theorem dL_read_90 : decode cL_read 90 = .ok (.iconst 2, 1) := by decide +kernel
theorem dL_read_91 : decode cL_read 91 = .ok (.invokestatic 15, 3) := by decide +kernel
theorem dL_read_94 : decode cL_read 94 = .ok (.ifCond .ge 84, 3) := by decide +kernel
theorem dL_read_97 : decode cL_read 97 = .ok (.aload_n 0, 1) := by decide +kernel
theorem dL_read_98 : decode cL_read 98 = .ok (.aload_n 1, 1) := by decide +kernel
theorem dL_read_99 : decode cL_read 99 = .ok (.aload_n 3, 1) := by decide +kernel
theorem dL_read_100 : decode cL_read 100 = .ok (.aload 4, 2) := by decide +kernel
theorem dL_read_102 : decode cL_read 102 = .ok (.aload 5, 2) := by decide +kernel
theorem dL_read_104 : decode cL_read 104 = .ok (.lload 7, 2) := by decide +kernel
theorem dL_read_106 : decode cL_read 106 = .ok (.invokestatic 21, 3) := by decide +kernel
theorem dL_read_109 : decode cL_read 109 = .ok (.lload 7, 2) := by decide +kernel
theorem dL_read_111 : decode cL_read 111 = .ok (.iconst 0, 1) := by decide +kernel
theorem dL_read_112 : decode cL_read 112 = .ok (.invokestatic 15, 3) := by decide +kernel
theorem dL_read_115 : decode cL_read 115 = .ok (.lload 7, 2) := by decide +kernel
theorem dL_read_117 : decode cL_read 117 = .ok (.iconst 1, 1) := by decide +kernel
theorem dL_read_118 : decode cL_read 118 = .ok (.invokestatic 15, 3) := by decide +kernel
theorem dL_read_121 : decode cL_read 121 = .ok (.invokestatic 42, 3) := by decide +kernel
theorem dL_read_124 : decode cL_read 124 = .ok (.istore 9, 2) := by decide +kernel
theorem dL_read_126 : decode cL_read 126 = .ok (.aload_n 2, 1) := by decide +kernel
theorem dL_read_127 : decode cL_read 127 = .ok (.aload_n 0, 1) := by decide +kernel
theorem dL_read_128 : decode cL_read 128 = .ok (.bipush 8, 2) := by decide +kernel
theorem dL_read_130 : decode cL_read 130 = .ok (.iaload, 1) := by decide +kernel
theorem dL_read_131 : decode cL_read 131 = .ok (.iload 9, 2) := by decide +kernel
theorem dL_read_133 : decode cL_read 133 = .ok (.iastore, 1) := by decide +kernel
theorem dL_read_134 : decode cL_read 134 = .ok (.aload_n 0, 1) := by decide +kernel
theorem dL_read_135 : decode cL_read 135 = .ok (.bipush 8, 2) := by decide +kernel
theorem dL_read_137 : decode cL_read 137 = .ok (.dup2, 1) := by decide +kernel
theorem dL_read_138 : decode cL_read 138 = .ok (.iaload, 1) := by decide +kernel
theorem dL_read_139 : decode cL_read 139 = .ok (.iconst 1, 1) := by decide +kernel
theorem dL_read_140 : decode cL_read 140 = .ok (.iadd, 1) := by decide +kernel
theorem dL_read_141 : decode cL_read 141 = .ok (.iastore, 1) := by decide +kernel
theorem dL_read_142 : decode cL_read 142 = .ok (.aload_n 3, 1) := by decide +kernel
theorem dL_read_143 : decode cL_read 143 = .ok (.aload 4, 2) := by decide +kernel
theorem dL_read_145 : decode cL_read 145 = .ok (.aload 5, 2) := by decide +kernel
theorem dL_read_147 : decode cL_read 147 = .ok (.iload 6, 2) := by decide +kernel
theorem dL_read_149 : decode cL_read 149 = .ok (.lload 7, 2) := by decide +kernel
theorem dL_read_151 : decode cL_read 151 = .ok (.invokestatic 21, 3) := by decide +kernel
theorem dL_read_154 : decode cL_read 154 = .ok (.lload 7, 2) := by decide +kernel
theorem dL_read_156 : decode cL_read 156 = .ok (.iconst 0, 1) := by decide +kernel
theorem dL_read_157 : decode cL_read 157 = .ok (.invokestatic 15, 3) := by decide +kernel
theorem dL_read_160 : decode cL_read 160 = .ok (.lload 7, 2) := by decide +kernel
theorem dL_read_162 : decode cL_read 162 = .ok (.iconst 1, 1) := by decide +kernel
theorem dL_read_163 : decode cL_read 163 = .ok (.invokestatic 15, 3) := by decide +kernel
theorem dL_read_166 : decode cL_read 166 = .ok (.iload 9, 2) := by decide +kernel
theorem dL_read_168 : decode cL_read 168 = .ok (.iconst 0, 1) := by decide +kernel
theorem dL_read_169 : decode cL_read 169 = .ok (.invokestatic 25, 3) := by decide +kernel
theorem dL_read_172 : decode cL_read 172 = .ok (.invokestatic 29, 3) := by decide +kernel
theorem dL_read_175 : decode cL_read 175 = .ok (.iload 9, 2) := by decide +kernel
theorem dL_read_177 : decode cL_read 177 = .ok (.ireturn, 1) := by decide +kernel
theorem dL_read_178 : decode cL_read 178 = .ok (.lload 7, 2) := by decide +kernel
theorem dL_read_180 : decode cL_read 180 = .ok (.iconst 2, 1) := by decide +kernel
theorem dL_read_181 : decode cL_read 181 = .ok (.invokestatic 15, 3) := by decide +kernel
theorem dL_read_184 : decode cL_read 184 = .ok (.ireturn, 1) := by decide +kernel
set_option maxRecDepth 20000 in
theorem ggL_renames_L_at : GoodIn wsL_renames wsL_at := goodIn_r _ [4] (by decide +kernel) (by decide +kernel)
set_option maxRecDepth 20000 in
theorem gL_renames_L_at : GoodIn wsL_renames (va_wsS RL 33 yL_at wsL_at) := goodIn_app (goodIn_of _ (by decide +kernel)) ggL_renames_L_at
set_option maxRecDepth 20000 in
theorem ggL_renames_L_name : GoodIn wsL_renames wsL_name := goodIn_r _ [7, 8] (by decide +kernel) (by decide +kernel)
set_option maxRecDepth 20000 in
theorem gL_renames_L_name : GoodIn wsL_renames (va_wsS RL 15 yL_name wsL_name) := goodIn_app (goodIn_of _ (by decide +kernel)) ggL_renames_L_name
set_option maxRecDepth 20000 in
theorem ggL_renames_L_puts : GoodIn wsL_renames wsL_puts := goodIn_r _ [11] (by decide +kernel) (by decide +kernel)
set_option maxRecDepth 20000 in
theorem gL_renames_L_puts : GoodIn wsL_renames (va_wsS RL 29 yL_puts wsL_puts) := goodIn_app (goodIn_of _ (by decide +kernel)) ggL_renames_L_puts
theorem dL_renames_0 : decode cL_renames 0 = .ok (.aload_n 0, 1) := by decide +kernel
theorem dL_renames_1 : decode cL_renames 1 = .ok (.aload_n 1, 1) := by decide +kernel
theorem dL_renames_2 : decode cL_renames 2 = .ok (.aload_n 2, 1) := by decide +kernel
theorem dL_renames_3 : decode cL_renames 3 = .ok (.iload_n 3, 1) := by decide +kernel
theorem dL_renames_4 : decode cL_renames 4 = .ok (.invokestatic 33, 3) := by decide +kernel
theorem dL_renames_7 : decode cL_renames 7 = .ok (.lstore 6, 2) := by decide +kernel
theorem dL_renames_9 : decode cL_renames 9 = .ok (.aload_n 0, 1) := by decide +kernel
theorem dL_renames_10 : decode cL_renames 10 = .ok (.aload_n 1, 1) := by decide +kernel
theorem dL_renames_11 : decode cL_renames 11 = .ok (.aload_n 2, 1) := by decide +kernel
theorem dL_renames_12 : decode cL_renames 12 = .ok (.iload_n 3, 1) := by decide +kernel
theorem dL_renames_13 : decode cL_renames 13 = .ok (.lload 6, 2) := by decide +kernel
theorem dL_renames_15 : decode cL_renames 15 = .ok (.iload 5, 2) := by decide +kernel
theorem dL_renames_17 : decode cL_renames 17 = .ok (.lload 6, 2) := by decide +kernel
theorem dL_renames_19 : decode cL_renames 19 = .ok (.iload 4, 2) := by decide +kernel
theorem dL_renames_21 : decode cL_renames 21 = .ok (.invokestatic 15, 3) := by decide +kernel
theorem dL_renames_24 : decode cL_renames 24 = .ok (.isub, 1) := by decide +kernel
theorem dL_renames_25 : decode cL_renames 25 = .ok (.i2l, 1) := by decide +kernel
theorem dL_renames_26 : decode cL_renames 26 = .ok (.bipush 6, 2) := by decide +kernel
theorem dL_renames_28 : decode cL_renames 28 = .ok (.bipush 9, 2) := by decide +kernel
theorem dL_renames_30 : decode cL_renames 30 = .ok (.iload 4, 2) := by decide +kernel
theorem dL_renames_32 : decode cL_renames 32 = .ok (.imul, 1) := by decide +kernel
theorem dL_renames_33 : decode cL_renames 33 = .ok (.iadd, 1) := by decide +kernel
theorem dL_renames_34 : decode cL_renames 34 = .ok (.lshl, 1) := by decide +kernel
theorem dL_renames_35 : decode cL_renames 35 = .ok (.ladd, 1) := by decide +kernel
theorem dL_renames_36 : decode cL_renames 36 = .ok (.invokestatic 29, 3) := by decide +kernel
theorem dL_renames_39 : decode cL_renames 39 = .ok (.return_, 1) := by decide +kernel
set_option maxRecDepth 20000 in
theorem ggL_ends_L_mark : GoodIn wsL_ends wsL_mark := goodIn_r _ [5] (by decide +kernel) (by decide +kernel)
set_option maxRecDepth 20000 in
theorem gL_ends_L_mark : GoodIn wsL_ends (va_wsS RL 37 yL_mark wsL_mark) := goodIn_app (goodIn_of _ (by decide +kernel)) ggL_ends_L_mark
theorem dL_ends_0 : decode cL_ends 0 = .ok (.aload_n 0, 1) := by decide +kernel
theorem dL_ends_1 : decode cL_ends 1 = .ok (.bipush 8, 2) := by decide +kernel
theorem dL_ends_3 : decode cL_ends 3 = .ok (.iaload, 1) := by decide +kernel
theorem dL_ends_4 : decode cL_ends 4 = .ok (.ifCond .le 4, 3) := by decide +kernel
theorem dL_ends_7 : decode cL_ends 7 = .ok (.return_, 1) := by decide +kernel
theorem dL_ends_8 : decode cL_ends 8 = .ok (.iconst 0, 1) := by decide +kernel
theorem dL_ends_9 : decode cL_ends 9 = .ok (.istore 4, 2) := by decide +kernel
theorem dL_ends_11 : decode cL_ends 11 = .ok (.iload 4, 2) := by decide +kernel
theorem dL_ends_13 : decode cL_ends 13 = .ok (.bipush 64, 2) := by decide +kernel
theorem dL_ends_15 : decode cL_ends 15 = .ok (.if_icmp .ge 72, 3) := by decide +kernel
theorem dL_ends_18 : decode cL_ends 18 = .ok (.aload_n 1, 1) := by decide +kernel
theorem dL_ends_19 : decode cL_ends 19 = .ok (.iload 4, 2) := by decide +kernel
theorem dL_ends_21 : decode cL_ends 21 = .ok (.aload_n 0, 1) := by decide +kernel
theorem dL_ends_22 : decode cL_ends 22 = .ok (.iconst 3, 1) := by decide +kernel
theorem dL_ends_23 : decode cL_ends 23 = .ok (.iaload, 1) := by decide +kernel
theorem dL_ends_24 : decode cL_ends 24 = .ok (.iconst 1, 1) := by decide +kernel
theorem dL_ends_25 : decode cL_ends 25 = .ok (.if_icmp .ne 7, 3) := by decide +kernel
theorem dL_ends_28 : decode cL_ends 28 = .ok (.lconst 0, 1) := by decide +kernel
theorem dL_ends_29 : decode cL_ends 29 = .ok (.goto 7, 3) := by decide +kernel
theorem dL_ends_32 : decode cL_ends 32 = .ok (.aload_n 1, 1) := by decide +kernel
theorem dL_ends_33 : decode cL_ends 33 = .ok (.iload 4, 2) := by decide +kernel
theorem dL_ends_35 : decode cL_ends 35 = .ok (.laload, 1) := by decide +kernel
theorem dL_ends_36 : decode cL_ends 36 = .ok (.lastore, 1) := by decide +kernel
theorem dL_ends_37 : decode cL_ends 37 = .ok (.aload_n 2, 1) := by decide +kernel
theorem dL_ends_38 : decode cL_ends 38 = .ok (.iload 4, 2) := by decide +kernel
theorem dL_ends_40 : decode cL_ends 40 = .ok (.aload_n 0, 1) := by decide +kernel
theorem dL_ends_41 : decode cL_ends 41 = .ok (.iconst 3, 1) := by decide +kernel
theorem dL_ends_42 : decode cL_ends 42 = .ok (.iaload, 1) := by decide +kernel
theorem dL_ends_43 : decode cL_ends 43 = .ok (.ifCond .ne 7, 3) := by decide +kernel
theorem dL_ends_46 : decode cL_ends 46 = .ok (.lconst 0, 1) := by decide +kernel
theorem dL_ends_47 : decode cL_ends 47 = .ok (.goto 7, 3) := by decide +kernel
theorem dL_ends_50 : decode cL_ends 50 = .ok (.aload_n 2, 1) := by decide +kernel
theorem dL_ends_51 : decode cL_ends 51 = .ok (.iload 4, 2) := by decide +kernel
theorem dL_ends_53 : decode cL_ends 53 = .ok (.laload, 1) := by decide +kernel
theorem dL_ends_54 : decode cL_ends 54 = .ok (.lastore, 1) := by decide +kernel
theorem dL_ends_55 : decode cL_ends 55 = .ok (.aload_n 3, 1) := by decide +kernel
theorem dL_ends_56 : decode cL_ends 56 = .ok (.iload 4, 2) := by decide +kernel
theorem dL_ends_58 : decode cL_ends 58 = .ok (.aload_n 3, 1) := by decide +kernel
theorem dL_ends_59 : decode cL_ends 59 = .ok (.iload 4, 2) := by decide +kernel
theorem dL_ends_61 : decode cL_ends 61 = .ok (.laload, 1) := by decide +kernel
theorem dL_ends_62 : decode cL_ends 62 = .ok (.invokestatic 37, 3) := by decide +kernel
theorem dL_ends_65 : decode cL_ends 65 = .ok (.ifCond .ne 7, 3) := by decide +kernel
theorem dL_ends_68 : decode cL_ends 68 = .ok (.lconst 0, 1) := by decide +kernel
theorem dL_ends_69 : decode cL_ends 69 = .ok (.goto 11, 3) := by decide +kernel
theorem dL_ends_72 : decode cL_ends 72 = .ok (.aload_n 3, 1) := by decide +kernel
theorem dL_ends_73 : decode cL_ends 73 = .ok (.iload 4, 2) := by decide +kernel
theorem dL_ends_75 : decode cL_ends 75 = .ok (.laload, 1) := by decide +kernel
theorem dL_ends_76 : decode cL_ends 76 = .ok (.ldc2_w 46, 3) := by decide +kernel
theorem dL_ends_79 : decode cL_ends 79 = .ok (.land, 1) := by decide +kernel
theorem dL_ends_80 : decode cL_ends 80 = .ok (.lastore, 1) := by decide +kernel
theorem dL_ends_81 : decode cL_ends 81 = .ok (.iinc 4 1, 3) := by decide +kernel
theorem dL_ends_84 : decode cL_ends 84 = .ok (.goto (-73), 3) := by decide +kernel
theorem dL_ends_87 : decode cL_ends 87 = .ok (.aload_n 0, 1) := by decide +kernel
theorem dL_ends_88 : decode cL_ends 88 = .ok (.iconst 5, 1) := by decide +kernel
theorem dL_ends_89 : decode cL_ends 89 = .ok (.aload_n 0, 1) := by decide +kernel
theorem dL_ends_90 : decode cL_ends 90 = .ok (.iconst 3, 1) := by decide +kernel
theorem dL_ends_91 : decode cL_ends 91 = .ok (.iaload, 1) := by decide +kernel
theorem dL_ends_92 : decode cL_ends 92 = .ok (.isub, 1) := by decide +kernel
theorem dL_ends_93 : decode cL_ends 93 = .ok (.iconst 0, 1) := by decide +kernel
theorem dL_ends_94 : decode cL_ends 94 = .ok (.iastore, 1) := by decide +kernel
theorem dL_ends_95 : decode cL_ends 95 = .ok (.aload_n 0, 1) := by decide +kernel
theorem dL_ends_96 : decode cL_ends 96 = .ok (.iconst 2, 1) := by decide +kernel
theorem dL_ends_97 : decode cL_ends 97 = .ok (.iconst 0, 1) := by decide +kernel
theorem dL_ends_98 : decode cL_ends 98 = .ok (.iastore, 1) := by decide +kernel
theorem dL_ends_99 : decode cL_ends 99 = .ok (.aload_n 0, 1) := by decide +kernel
theorem dL_ends_100 : decode cL_ends 100 = .ok (.bipush 7, 2) := by decide +kernel
theorem dL_ends_102 : decode cL_ends 102 = .ok (.dup2, 1) := by decide +kernel
theorem dL_ends_103 : decode cL_ends 103 = .ok (.iaload, 1) := by decide +kernel
theorem dL_ends_104 : decode cL_ends 104 = .ok (.iconst 1, 1) := by decide +kernel
theorem dL_ends_105 : decode cL_ends 105 = .ok (.iadd, 1) := by decide +kernel
theorem dL_ends_106 : decode cL_ends 106 = .ok (.iastore, 1) := by decide +kernel
theorem dL_ends_107 : decode cL_ends 107 = .ok (.return_, 1) := by decide +kernel
set_option maxRecDepth 20000 in
theorem ggL_begins_L_read : GoodIn wsL_begins wsL_read := goodIn_r _ [4, 5, 6, 7, 3, 8, 9, 10, 11, 12, 13, 14, 15, 16, 17, 18, 19, 20, 21, 22, 23, 24, 25, 26, 27, 28, 29] (by decide +kernel) (by decide +kernel)
set_option maxRecDepth 20000 in
theorem gL_begins_L_read : GoodIn wsL_begins (va_wsS RL 48 yL_read wsL_read) := goodIn_app (goodIn_of _ (by decide +kernel)) ggL_begins_L_read
set_option maxRecDepth 20000 in
theorem ggL_begins_L_ends : GoodIn wsL_begins wsL_ends := goodIn_r _ [32, 33, 9, 10, 3, 11] (by decide +kernel) (by decide +kernel)
set_option maxRecDepth 20000 in
theorem gL_begins_L_ends : GoodIn wsL_begins (va_wsS RL 52 yL_ends wsL_ends) := goodIn_app (goodIn_of _ (by decide +kernel)) ggL_begins_L_ends
theorem dL_begins_0 : decode cL_begins 0 = .ok (.aload_n 0, 1) := by decide +kernel
theorem dL_begins_1 : decode cL_begins 1 = .ok (.iconst 3, 1) := by decide +kernel
theorem dL_begins_2 : decode cL_begins 2 = .ok (.iconst 1, 1) := by decide +kernel
theorem dL_begins_3 : decode cL_begins 3 = .ok (.aload_n 0, 1) := by decide +kernel
theorem dL_begins_4 : decode cL_begins 4 = .ok (.iconst 3, 1) := by decide +kernel
theorem dL_begins_5 : decode cL_begins 5 = .ok (.iaload, 1) := by decide +kernel
theorem dL_begins_6 : decode cL_begins 6 = .ok (.isub, 1) := by decide +kernel
theorem dL_begins_7 : decode cL_begins 7 = .ok (.iastore, 1) := by decide +kernel
theorem dL_begins_8 : decode cL_begins 8 = .ok (.aload_n 0, 1) := by decide +kernel
theorem dL_begins_9 : decode cL_begins 9 = .ok (.iconst 2, 1) := by decide +kernel
theorem dL_begins_10 : decode cL_begins 10 = .ok (.iconst 1, 1) := by decide +kernel
theorem dL_begins_11 : decode cL_begins 11 = .ok (.iastore, 1) := by decide +kernel
theorem dL_begins_12 : decode cL_begins 12 = .ok (.iconst 0, 1) := by decide +kernel
theorem dL_begins_13 : decode cL_begins 13 = .ok (.istore 7, 2) := by decide +kernel
theorem dL_begins_15 : decode cL_begins 15 = .ok (.iload 7, 2) := by decide +kernel
theorem dL_begins_17 : decode cL_begins 17 = .ok (.bipush 8, 2) := by decide +kernel
theorem dL_begins_19 : decode cL_begins 19 = .ok (.if_icmp .ge 29, 3) := by decide +kernel
theorem dL_begins_22 : decode cL_begins 22 = .ok (.aload_n 1, 1) := by decide +kernel
theorem dL_begins_23 : decode cL_begins 23 = .ok (.iload 7, 2) := by decide +kernel
theorem dL_begins_25 : decode cL_begins 25 = .ok (.aload_n 0, 1) := by decide +kernel
theorem dL_begins_26 : decode cL_begins 26 = .ok (.aload_n 2, 1) := by decide +kernel
theorem dL_begins_27 : decode cL_begins 27 = .ok (.aload_n 3, 1) := by decide +kernel
theorem dL_begins_28 : decode cL_begins 28 = .ok (.aload 4, 2) := by decide +kernel
theorem dL_begins_30 : decode cL_begins 30 = .ok (.aload 5, 2) := by decide +kernel
theorem dL_begins_32 : decode cL_begins 32 = .ok (.aload 6, 2) := by decide +kernel
theorem dL_begins_34 : decode cL_begins 34 = .ok (.aload_n 1, 1) := by decide +kernel
theorem dL_begins_35 : decode cL_begins 35 = .ok (.iload 7, 2) := by decide +kernel
theorem dL_begins_37 : decode cL_begins 37 = .ok (.iaload, 1) := by decide +kernel
theorem dL_begins_38 : decode cL_begins 38 = .ok (.invokestatic 48, 3) := by decide +kernel
theorem dL_begins_41 : decode cL_begins 41 = .ok (.iastore, 1) := by decide +kernel
theorem dL_begins_42 : decode cL_begins 42 = .ok (.iinc 7 1, 3) := by decide +kernel
theorem dL_begins_45 : decode cL_begins 45 = .ok (.goto (-30), 3) := by decide +kernel
theorem dL_begins_48 : decode cL_begins 48 = .ok (.aload_n 0, 1) := by decide +kernel
theorem dL_begins_49 : decode cL_begins 49 = .ok (.aload 4, 2) := by decide +kernel
theorem dL_begins_51 : decode cL_begins 51 = .ok (.aload 5, 2) := by decide +kernel
theorem dL_begins_53 : decode cL_begins 53 = .ok (.aload 6, 2) := by decide +kernel
theorem dL_begins_55 : decode cL_begins 55 = .ok (.invokestatic 52, 3) := by decide +kernel
theorem dL_begins_58 : decode cL_begins 58 = .ok (.return_, 1) := by decide +kernel
set_option maxRecDepth 20000 in
theorem ggL_step_L_at : GoodIn wsL_step wsL_at := goodIn_r _ [4] (by decide +kernel) (by decide +kernel)
set_option maxRecDepth 20000 in
theorem gL_step_L_at : GoodIn wsL_step (va_wsS RL 33 yL_at wsL_at) := goodIn_app (goodIn_of _ (by decide +kernel)) ggL_step_L_at
set_option maxRecDepth 20000 in
theorem ggL_step_L_name : GoodIn wsL_step wsL_name := goodIn_r _ [7, 8] (by decide +kernel) (by decide +kernel)
set_option maxRecDepth 20000 in
theorem gL_step_L_name : GoodIn wsL_step (va_wsS RL 15 yL_name wsL_name) := goodIn_app (goodIn_of _ (by decide +kernel)) ggL_step_L_name
set_option maxRecDepth 20000 in
theorem ggL_step_L_read : GoodIn wsL_step wsL_read := goodIn_r _ [11, 12, 1, 2, 3, 4, 13, 14, 15, 16, 17, 18, 5, 6, 7, 8, 19, 20, 21, 22, 23, 24, 25, 26, 27, 28, 29] (by decide +kernel) (by decide +kernel)
set_option maxRecDepth 20000 in
theorem gL_step_L_read : GoodIn wsL_step (va_wsS RL 48 yL_read wsL_read) := goodIn_app (goodIn_of _ (by decide +kernel)) ggL_step_L_read
set_option maxRecDepth 20000 in
theorem ggL_step_L_renames : GoodIn wsL_step wsL_renames := goodIn_r _ [32, 1, 2, 3, 4, 5, 6, 7, 8, 16, 17, 18] (by decide +kernel) (by decide +kernel)
set_option maxRecDepth 20000 in
theorem gL_step_L_renames : GoodIn wsL_step (va_wsS RL 56 yL_renames wsL_renames) := goodIn_app (goodIn_of _ (by decide +kernel)) ggL_step_L_renames
set_option maxRecDepth 20000 in
theorem ggL_step_L_ends : GoodIn wsL_step wsL_ends := goodIn_r _ [35, 36, 13, 14, 3, 15] (by decide +kernel) (by decide +kernel)
set_option maxRecDepth 20000 in
theorem gL_step_L_ends : GoodIn wsL_step (va_wsS RL 52 yL_ends wsL_ends) := goodIn_app (goodIn_of _ (by decide +kernel)) ggL_step_L_ends
theorem dL_step_0 : decode cL_step 0 = .ok (.aload_n 2, 1) := by decide +kernel
theorem dL_step_1 : decode cL_step 1 = .ok (.iconst 0, 1) := by decide +kernel
theorem dL_step_2 : decode cL_step 2 = .ok (.iaload, 1) := by decide +kernel
theorem dL_step_3 : decode cL_step 3 = .ok (.istore 6, 2) := by decide +kernel
theorem dL_step_5 : decode cL_step 5 = .ok (.aload_n 0, 1) := by decide +kernel
theorem dL_step_6 : decode cL_step 6 = .ok (.bipush 8, 2) := by decide +kernel
theorem dL_step_8 : decode cL_step 8 = .ok (.dup2, 1) := by decide +kernel
theorem dL_step_9 : decode cL_step 9 = .ok (.iaload, 1) := by decide +kernel
theorem dL_step_10 : decode cL_step 10 = .ok (.iconst 1, 1) := by decide +kernel
theorem dL_step_11 : decode cL_step 11 = .ok (.isub, 1) := by decide +kernel
theorem dL_step_12 : decode cL_step 12 = .ok (.iastore, 1) := by decide +kernel
theorem dL_step_13 : decode cL_step 13 = .ok (.iconst 0, 1) := by decide +kernel
theorem dL_step_14 : decode cL_step 14 = .ok (.istore 7, 2) := by decide +kernel
theorem dL_step_16 : decode cL_step 16 = .ok (.iload 7, 2) := by decide +kernel
theorem dL_step_18 : decode cL_step 18 = .ok (.aload_n 0, 1) := by decide +kernel
theorem dL_step_19 : decode cL_step 19 = .ok (.bipush 8, 2) := by decide +kernel
theorem dL_step_21 : decode cL_step 21 = .ok (.iaload, 1) := by decide +kernel
theorem dL_step_22 : decode cL_step 22 = .ok (.if_icmp .ge 19, 3) := by decide +kernel
theorem dL_step_25 : decode cL_step 25 = .ok (.aload_n 2, 1) := by decide +kernel
theorem dL_step_26 : decode cL_step 26 = .ok (.iload 7, 2) := by decide +kernel
theorem dL_step_28 : decode cL_step 28 = .ok (.aload_n 2, 1) := by decide +kernel
theorem dL_step_29 : decode cL_step 29 = .ok (.iload 7, 2) := by decide +kernel
theorem dL_step_31 : decode cL_step 31 = .ok (.iconst 1, 1) := by decide +kernel
theorem dL_step_32 : decode cL_step 32 = .ok (.iadd, 1) := by decide +kernel
theorem dL_step_33 : decode cL_step 33 = .ok (.iaload, 1) := by decide +kernel
theorem dL_step_34 : decode cL_step 34 = .ok (.iastore, 1) := by decide +kernel
theorem dL_step_35 : decode cL_step 35 = .ok (.iinc 7 1, 3) := by decide +kernel
theorem dL_step_38 : decode cL_step 38 = .ok (.goto (-22), 3) := by decide +kernel
theorem dL_step_41 : decode cL_step 41 = .ok (.iconst 0, 1) := by decide +kernel
theorem dL_step_42 : decode cL_step 42 = .ok (.istore 7, 2) := by decide +kernel
theorem dL_step_44 : decode cL_step 44 = .ok (.iload 7, 2) := by decide +kernel
theorem dL_step_46 : decode cL_step 46 = .ok (.iconst 2, 1) := by decide +kernel
theorem dL_step_47 : decode cL_step 47 = .ok (.if_icmp .ge 47, 3) := by decide +kernel
theorem dL_step_50 : decode cL_step 50 = .ok (.aload_n 3, 1) := by decide +kernel
theorem dL_step_51 : decode cL_step 51 = .ok (.aload 4, 2) := by decide +kernel
theorem dL_step_53 : decode cL_step 53 = .ok (.aload 5, 2) := by decide +kernel
theorem dL_step_55 : decode cL_step 55 = .ok (.iload 6, 2) := by decide +kernel
theorem dL_step_57 : decode cL_step 57 = .ok (.iload 7, 2) := by decide +kernel
theorem dL_step_59 : decode cL_step 59 = .ok (.aload_n 0, 1) := by decide +kernel
theorem dL_step_60 : decode cL_step 60 = .ok (.aload_n 1, 1) := by decide +kernel
theorem dL_step_61 : decode cL_step 61 = .ok (.aload_n 2, 1) := by decide +kernel
theorem dL_step_62 : decode cL_step 62 = .ok (.aload_n 3, 1) := by decide +kernel
theorem dL_step_63 : decode cL_step 63 = .ok (.aload 4, 2) := by decide +kernel
theorem dL_step_65 : decode cL_step 65 = .ok (.aload 5, 2) := by decide +kernel
theorem dL_step_67 : decode cL_step 67 = .ok (.aload_n 3, 1) := by decide +kernel
theorem dL_step_68 : decode cL_step 68 = .ok (.aload 4, 2) := by decide +kernel
theorem dL_step_70 : decode cL_step 70 = .ok (.aload 5, 2) := by decide +kernel
theorem dL_step_72 : decode cL_step 72 = .ok (.iload 6, 2) := by decide +kernel
theorem dL_step_74 : decode cL_step 74 = .ok (.invokestatic 33, 3) := by decide +kernel
theorem dL_step_77 : decode cL_step 77 = .ok (.iload 7, 2) := by decide +kernel
theorem dL_step_79 : decode cL_step 79 = .ok (.invokestatic 15, 3) := by decide +kernel
theorem dL_step_82 : decode cL_step 82 = .ok (.invokestatic 48, 3) := by decide +kernel
theorem dL_step_85 : decode cL_step 85 = .ok (.invokestatic 56, 3) := by decide +kernel
theorem dL_step_88 : decode cL_step 88 = .ok (.iinc 7 1, 3) := by decide +kernel
theorem dL_step_91 : decode cL_step 91 = .ok (.goto (-47), 3) := by decide +kernel
theorem dL_step_94 : decode cL_step 94 = .ok (.aload_n 0, 1) := by decide +kernel
theorem dL_step_95 : decode cL_step 95 = .ok (.aload_n 3, 1) := by decide +kernel
theorem dL_step_96 : decode cL_step 96 = .ok (.aload 4, 2) := by decide +kernel
theorem dL_step_98 : decode cL_step 98 = .ok (.aload 5, 2) := by decide +kernel
theorem dL_step_100 : decode cL_step 100 = .ok (.invokestatic 52, 3) := by decide +kernel
theorem dL_step_103 : decode cL_step 103 = .ok (.return_, 1) := by decide +kernel
set_option maxRecDepth 20000 in
theorem ggL_floor_L_thing : GoodIn wsL_floor wsL_thing := goodIn_r _ [4, 5] (by decide +kernel) (by decide +kernel)
set_option maxRecDepth 20000 in
theorem gL_floor_L_thing : GoodIn wsL_floor (va_wsS RL 21 yL_thing wsL_thing) := goodIn_app (goodIn_of _ (by decide +kernel)) ggL_floor_L_thing
theorem dL_floor_0 : decode cL_floor 0 = .ok (.lconst 0, 1) := by decide +kernel
theorem dL_floor_1 : decode cL_floor 1 = .ok (.lstore_n 3, 1) := by decide +kernel
theorem dL_floor_2 : decode cL_floor 2 = .ok (.iconst 0, 1) := by decide +kernel
theorem dL_floor_3 : decode cL_floor 3 = .ok (.istore 5, 2) := by decide +kernel
theorem dL_floor_5 : decode cL_floor 5 = .ok (.iload 5, 2) := by decide +kernel
theorem dL_floor_7 : decode cL_floor 7 = .ok (.bipush 60, 2) := by decide +kernel
theorem dL_floor_9 : decode cL_floor 9 = .ok (.if_icmp .ge 41, 3) := by decide +kernel
theorem dL_floor_12 : decode cL_floor 12 = .ok (.lload_n 3, 1) := by decide +kernel
theorem dL_floor_13 : decode cL_floor 13 = .ok (.aload_n 1, 1) := by decide +kernel
theorem dL_floor_14 : decode cL_floor 14 = .ok (.iload 5, 2) := by decide +kernel
theorem dL_floor_16 : decode cL_floor 16 = .ok (.laload, 1) := by decide +kernel
theorem dL_floor_17 : decode cL_floor 17 = .ok (.lconst 0, 1) := by decide +kernel
theorem dL_floor_18 : decode cL_floor 18 = .ok (.lcmp, 1) := by decide +kernel
theorem dL_floor_19 : decode cL_floor 19 = .ok (.ifCond .eq 22, 3) := by decide +kernel
theorem dL_floor_22 : decode cL_floor 22 = .ok (.lconst 1, 1) := by decide +kernel
theorem dL_floor_23 : decode cL_floor 23 = .ok (.aload_n 0, 1) := by decide +kernel
theorem dL_floor_24 : decode cL_floor 24 = .ok (.aload_n 1, 1) := by decide +kernel
theorem dL_floor_25 : decode cL_floor 25 = .ok (.iload 5, 2) := by decide +kernel
theorem dL_floor_27 : decode cL_floor 27 = .ok (.laload, 1) := by decide +kernel
theorem dL_floor_28 : decode cL_floor 28 = .ok (.invokestatic 21, 3) := by decide +kernel
theorem dL_floor_31 : decode cL_floor 31 = .ok (.iaload, 1) := by decide +kernel
theorem dL_floor_32 : decode cL_floor 32 = .ok (.lshl, 1) := by decide +kernel
theorem dL_floor_33 : decode cL_floor 33 = .ok (.lconst 1, 1) := by decide +kernel
theorem dL_floor_34 : decode cL_floor 34 = .ok (.lsub, 1) := by decide +kernel
theorem dL_floor_35 : decode cL_floor 35 = .ok (.iload 5, 2) := by decide +kernel
theorem dL_floor_37 : decode cL_floor 37 = .ok (.lshl, 1) := by decide +kernel
theorem dL_floor_38 : decode cL_floor 38 = .ok (.goto 4, 3) := by decide +kernel
theorem dL_floor_41 : decode cL_floor 41 = .ok (.lconst 0, 1) := by decide +kernel
theorem dL_floor_42 : decode cL_floor 42 = .ok (.lor, 1) := by decide +kernel
theorem dL_floor_43 : decode cL_floor 43 = .ok (.lstore_n 3, 1) := by decide +kernel
theorem dL_floor_44 : decode cL_floor 44 = .ok (.iinc 5 1, 3) := by decide +kernel
theorem dL_floor_47 : decode cL_floor 47 = .ok (.goto (-42), 3) := by decide +kernel
theorem dL_floor_50 : decode cL_floor 50 = .ok (.iconst 0, 1) := by decide +kernel
theorem dL_floor_51 : decode cL_floor 51 = .ok (.istore 5, 2) := by decide +kernel
theorem dL_floor_53 : decode cL_floor 53 = .ok (.iload 5, 2) := by decide +kernel
theorem dL_floor_55 : decode cL_floor 55 = .ok (.iload_n 2, 1) := by decide +kernel
theorem dL_floor_56 : decode cL_floor 56 = .ok (.iadd, 1) := by decide +kernel
theorem dL_floor_57 : decode cL_floor 57 = .ok (.bipush 60, 2) := by decide +kernel
theorem dL_floor_59 : decode cL_floor 59 = .ok (.if_icmp .gt 27, 3) := by decide +kernel
theorem dL_floor_62 : decode cL_floor 62 = .ok (.lload_n 3, 1) := by decide +kernel
theorem dL_floor_63 : decode cL_floor 63 = .ok (.iload 5, 2) := by decide +kernel
theorem dL_floor_65 : decode cL_floor 65 = .ok (.lshr, 1) := by decide +kernel
theorem dL_floor_66 : decode cL_floor 66 = .ok (.lconst 1, 1) := by decide +kernel
theorem dL_floor_67 : decode cL_floor 67 = .ok (.iload_n 2, 1) := by decide +kernel
theorem dL_floor_68 : decode cL_floor 68 = .ok (.lshl, 1) := by decide +kernel
theorem dL_floor_69 : decode cL_floor 69 = .ok (.lconst 1, 1) := by decide +kernel
theorem dL_floor_70 : decode cL_floor 70 = .ok (.lsub, 1) := by decide +kernel
theorem dL_floor_71 : decode cL_floor 71 = .ok (.land, 1) := by decide +kernel
theorem dL_floor_72 : decode cL_floor 72 = .ok (.lconst 0, 1) := by decide +kernel
theorem dL_floor_73 : decode cL_floor 73 = .ok (.lcmp, 1) := by decide +kernel
theorem dL_floor_74 : decode cL_floor 74 = .ok (.ifCond .ne 6, 3) := by decide +kernel
theorem dL_floor_77 : decode cL_floor 77 = .ok (.iload 5, 2) := by decide +kernel
theorem dL_floor_79 : decode cL_floor 79 = .ok (.ireturn, 1) := by decide +kernel
theorem dL_floor_80 : decode cL_floor 80 = .ok (.iinc 5 1, 3) := by decide +kernel
theorem dL_floor_83 : decode cL_floor 83 = .ok (.goto (-30), 3) := by decide +kernel
theorem dL_floor_86 : decode cL_floor 86 = .ok (.iconst (-1), 1) := by decide +kernel
theorem dL_floor_87 : decode cL_floor 87 = .ok (.ireturn, 1) := by decide +kernel
set_option maxRecDepth 20000 in
theorem ggL_makes_L_floor : GoodIn wsL_makes wsL_floor := goodIn_r _ [4, 5, 6, 3, 7, 8] (by decide +kernel) (by decide +kernel)
set_option maxRecDepth 20000 in
theorem gL_makes_L_floor : GoodIn wsL_makes (va_wsS RL 60 yL_floor wsL_floor) := goodIn_app (goodIn_of _ (by decide +kernel)) ggL_makes_L_floor
set_option maxRecDepth 20000 in
theorem ggL_makes_L_kept : GoodIn wsL_makes wsL_kept := goodIn_r _ [11, 12, 13, 3, 14, 15, 5, 6, 7, 8] (by decide +kernel) (by decide +kernel)
set_option maxRecDepth 20000 in
theorem gL_makes_L_kept : GoodIn wsL_makes (va_wsS RL 64 yL_kept wsL_kept) := goodIn_app (goodIn_of _ (by decide +kernel)) ggL_makes_L_kept
set_option maxRecDepth 20000 in
theorem ggL_makes_X7_make : GoodIn wsL_makes wsX7_make := goodIn_r _ [20, 21, 22, 23, 24, 25, 26, 27, 28, 29, 30, 31, 32, 33, 34, 35, 36, 37, 38, 39, 40, 41, 42, 43, 44, 45, 46, 47, 48, 49, 50, 51, 52, 53, 54, 55, 56, 57, 58, 59, 60, 61, 62, 63, 64, 65, 66, 67, 68, 69, 70, 71, 72, 73, 74, 75, 76, 77, 78, 79, 80, 81, 82, 19, 83, 84, 85, 86, 87, 88, 89, 90, 91, 92, 93, 94, 95, 96, 97, 98, 99, 100, 101, 102, 103, 104, 105, 106, 107, 108, 109, 110, 111, 112, 113, 114, 115, 116, 117, 118, 119, 120, 121, 122, 123, 124, 125, 126, 127, 128, 129, 130, 131, 132, 143, 144, 145, 146, 147, 148, 149, 150, 151, 152, 153, 154, 155, 156, 157, 158, 159, 160, 161, 162, 163, 164, 165, 166, 167, 168, 169] (by decide +kernel) (by decide +kernel)
set_option maxRecDepth 20000 in
theorem gL_makes_X7_make : GoodIn wsL_makes (wsV RL 68 RX7 yX7_make wsX7_make) := goodIn_app (goodIn_of _ (by decide +kernel)) ggL_makes_X7_make
set_option maxRecDepth 20000 in
theorem ggL_makes_L_pack : GoodIn wsL_makes wsL_pack := goodIn_r _ [135, 136] (by decide +kernel) (by decide +kernel)
set_option maxRecDepth 20000 in
theorem gL_makes_L_pack : GoodIn wsL_makes (va_wsS RL 25 yL_pack wsL_pack) := goodIn_app (goodIn_of _ (by decide +kernel)) ggL_makes_L_pack
set_option maxRecDepth 20000 in
theorem ggL_makes_L_lays : GoodIn wsL_makes wsL_lays := goodIn_r _ [139, 133, 134, 3, 135, 136, 140, 141, 142] (by decide +kernel) (by decide +kernel)
set_option maxRecDepth 20000 in
theorem gL_makes_L_lays : GoodIn wsL_makes (va_wsS RL 42 yL_lays wsL_lays) := goodIn_app (goodIn_of _ (by decide +kernel)) ggL_makes_L_lays
theorem dL_makes_0 : decode cL_makes 0 = .ok (.iload 7, 2) := by decide +kernel
theorem dL_makes_2 : decode cL_makes 2 = .ok (.iconst 5, 1) := by decide +kernel
theorem dL_makes_3 : decode cL_makes 3 = .ok (.irem, 1) := by decide +kernel
theorem dL_makes_4 : decode cL_makes 4 = .ok (.ifCond .le 14, 3) := by decide +kernel
theorem dL_makes_7 : decode cL_makes 7 = .ok (.iconst 1, 1) := by decide +kernel
theorem dL_makes_8 : decode cL_makes 8 = .ok (.iload 7, 2) := by decide +kernel
theorem dL_makes_10 : decode cL_makes 10 = .ok (.iconst 5, 1) := by decide +kernel
theorem dL_makes_11 : decode cL_makes 11 = .ok (.idiv, 1) := by decide +kernel
theorem dL_makes_12 : decode cL_makes 12 = .ok (.iconst 4, 1) := by decide +kernel
theorem dL_makes_13 : decode cL_makes 13 = .ok (.irem, 1) := by decide +kernel
theorem dL_makes_14 : decode cL_makes 14 = .ok (.iadd, 1) := by decide +kernel
theorem dL_makes_15 : decode cL_makes 15 = .ok (.goto 12, 3) := by decide +kernel
theorem dL_makes_18 : decode cL_makes 18 = .ok (.iconst 1, 1) := by decide +kernel
theorem dL_makes_19 : decode cL_makes 19 = .ok (.iload 7, 2) := by decide +kernel
theorem dL_makes_21 : decode cL_makes 21 = .ok (.iconst 5, 1) := by decide +kernel
theorem dL_makes_22 : decode cL_makes 22 = .ok (.idiv, 1) := by decide +kernel
theorem dL_makes_23 : decode cL_makes 23 = .ok (.bipush 12, 2) := by decide +kernel
theorem dL_makes_25 : decode cL_makes 25 = .ok (.irem, 1) := by decide +kernel
theorem dL_makes_26 : decode cL_makes 26 = .ok (.iadd, 1) := by decide +kernel
theorem dL_makes_27 : decode cL_makes 27 = .ok (.istore 8, 2) := by decide +kernel
theorem dL_makes_29 : decode cL_makes 29 = .ok (.iload 7, 2) := by decide +kernel
theorem dL_makes_31 : decode cL_makes 31 = .ok (.bipush 60, 2) := by decide +kernel
theorem dL_makes_33 : decode cL_makes 33 = .ok (.idiv, 1) := by decide +kernel
theorem dL_makes_34 : decode cL_makes 34 = .ok (.bipush 8, 2) := by decide +kernel
theorem dL_makes_36 : decode cL_makes 36 = .ok (.irem, 1) := by decide +kernel
theorem dL_makes_37 : decode cL_makes 37 = .ok (.istore 9, 2) := by decide +kernel
theorem dL_makes_39 : decode cL_makes 39 = .ok (.iload 8, 2) := by decide +kernel
theorem dL_makes_41 : decode cL_makes 41 = .ok (.aload_n 1, 1) := by decide +kernel
theorem dL_makes_42 : decode cL_makes 42 = .ok (.iconst 1, 1) := by decide +kernel
theorem dL_makes_43 : decode cL_makes 43 = .ok (.iaload, 1) := by decide +kernel
theorem dL_makes_44 : decode cL_makes 44 = .ok (.if_icmp .lt 7, 3) := by decide +kernel
theorem dL_makes_47 : decode cL_makes 47 = .ok (.iconst 1, 1) := by decide +kernel
theorem dL_makes_48 : decode cL_makes 48 = .ok (.goto 4, 3) := by decide +kernel
theorem dL_makes_51 : decode cL_makes 51 = .ok (.iconst 0, 1) := by decide +kernel
theorem dL_makes_52 : decode cL_makes 52 = .ok (.istore 10, 2) := by decide +kernel
theorem dL_makes_54 : decode cL_makes 54 = .ok (.iload 10, 2) := by decide +kernel
theorem dL_makes_56 : decode cL_makes 56 = .ok (.ifCond .eq 14, 3) := by decide +kernel
theorem dL_makes_59 : decode cL_makes 59 = .ok (.aload_n 3, 1) := by decide +kernel
theorem dL_makes_60 : decode cL_makes 60 = .ok (.aload 6, 2) := by decide +kernel
theorem dL_makes_62 : decode cL_makes 62 = .ok (.iload 8, 2) := by decide +kernel
theorem dL_makes_64 : decode cL_makes 64 = .ok (.invokestatic 60, 3) := by decide +kernel
theorem dL_makes_67 : decode cL_makes 67 = .ok (.goto 26, 3) := by decide +kernel
theorem dL_makes_70 : decode cL_makes 70 = .ok (.bipush 64, 2) := by decide +kernel
theorem dL_makes_72 : decode cL_makes 72 = .ok (.aload_n 1, 1) := by decide +kernel
theorem dL_makes_73 : decode cL_makes 73 = .ok (.iconst 4, 1) := by decide +kernel
theorem dL_makes_74 : decode cL_makes 74 = .ok (.aload_n 1, 1) := by decide +kernel
theorem dL_makes_75 : decode cL_makes 75 = .ok (.iconst 3, 1) := by decide +kernel
theorem dL_makes_76 : decode cL_makes 76 = .ok (.iaload, 1) := by decide +kernel
theorem dL_makes_77 : decode cL_makes 77 = .ok (.iadd, 1) := by decide +kernel
theorem dL_makes_78 : decode cL_makes 78 = .ok (.iaload, 1) := by decide +kernel
theorem dL_makes_79 : decode cL_makes 79 = .ok (.isub, 1) := by decide +kernel
theorem dL_makes_80 : decode cL_makes 80 = .ok (.aload_n 1, 1) := by decide +kernel
theorem dL_makes_81 : decode cL_makes 81 = .ok (.aload_n 3, 1) := by decide +kernel
theorem dL_makes_82 : decode cL_makes 82 = .ok (.aload 4, 2) := by decide +kernel
theorem dL_makes_84 : decode cL_makes 84 = .ok (.aload 5, 2) := by decide +kernel
theorem dL_makes_86 : decode cL_makes 86 = .ok (.invokestatic 64, 3) := by decide +kernel
theorem dL_makes_89 : decode cL_makes 89 = .ok (.isub, 1) := by decide +kernel
theorem dL_makes_90 : decode cL_makes 90 = .ok (.iload 8, 2) := by decide +kernel
theorem dL_makes_92 : decode cL_makes 92 = .ok (.isub, 1) := by decide +kernel
theorem dL_makes_93 : decode cL_makes 93 = .ok (.istore 11, 2) := by decide +kernel
theorem dL_makes_95 : decode cL_makes 95 = .ok (.aload_n 1, 1) := by decide +kernel
theorem dL_makes_96 : decode cL_makes 96 = .ok (.iconst 0, 1) := by decide +kernel
theorem dL_makes_97 : decode cL_makes 97 = .ok (.iaload, 1) := by decide +kernel
theorem dL_makes_98 : decode cL_makes 98 = .ok (.bipush 40, 2) := by decide +kernel
theorem dL_makes_100 : decode cL_makes 100 = .ok (.if_icmp .eq 8, 3) := by decide +kernel
theorem dL_makes_103 : decode cL_makes 103 = .ok (.iload 11, 2) := by decide +kernel
theorem dL_makes_105 : decode cL_makes 105 = .ok (.ifCond .ge 22, 3) := by decide +kernel
theorem dL_makes_108 : decode cL_makes 108 = .ok (.aload_n 0, 1) := by decide +kernel
theorem dL_makes_109 : decode cL_makes 109 = .ok (.iload 8, 2) := by decide +kernel
theorem dL_makes_111 : decode cL_makes 111 = .ok (.iload 9, 2) := by decide +kernel
theorem dL_makes_113 : decode cL_makes 113 = .ok (.invokevirtual 68, 3) := by decide +kernel
theorem dL_makes_116 : decode cL_makes 116 = .ok (.bipush (-3), 2) := by decide +kernel
theorem dL_makes_118 : decode cL_makes 118 = .ok (.if_icmp .ne 7, 3) := by decide +kernel
theorem dL_makes_121 : decode cL_makes 121 = .ok (.iconst 1, 1) := by decide +kernel
theorem dL_makes_122 : decode cL_makes 122 = .ok (.goto 4, 3) := by decide +kernel
theorem dL_makes_125 : decode cL_makes 125 = .ok (.iconst 0, 1) := by decide +kernel
theorem dL_makes_126 : decode cL_makes 126 = .ok (.ireturn, 1) := by decide +kernel
theorem dL_makes_127 : decode cL_makes 127 = .ok (.aload_n 3, 1) := by decide +kernel
theorem dL_makes_128 : decode cL_makes 128 = .ok (.aload_n 1, 1) := by decide +kernel
theorem dL_makes_129 : decode cL_makes 129 = .ok (.iconst 0, 1) := by decide +kernel
theorem dL_makes_130 : decode cL_makes 130 = .ok (.iaload, 1) := by decide +kernel
theorem dL_makes_131 : decode cL_makes 131 = .ok (.iload 8, 2) := by decide +kernel
theorem dL_makes_133 : decode cL_makes 133 = .ok (.iastore, 1) := by decide +kernel
theorem dL_makes_134 : decode cL_makes 134 = .ok (.iload 10, 2) := by decide +kernel
theorem dL_makes_136 : decode cL_makes 136 = .ok (.ifCond .eq 36, 3) := by decide +kernel
theorem dL_makes_139 : decode cL_makes 139 = .ok (.aload 6, 2) := by decide +kernel
theorem dL_makes_141 : decode cL_makes 141 = .ok (.iload 11, 2) := by decide +kernel
theorem dL_makes_143 : decode cL_makes 143 = .ok (.aload_n 1, 1) := by decide +kernel
theorem dL_makes_144 : decode cL_makes 144 = .ok (.iconst 0, 1) := by decide +kernel
theorem dL_makes_145 : decode cL_makes 145 = .ok (.iaload, 1) := by decide +kernel
theorem dL_makes_146 : decode cL_makes 146 = .ok (.bipush (-9), 2) := by decide +kernel
theorem dL_makes_148 : decode cL_makes 148 = .ok (.bipush (-9), 2) := by decide +kernel
theorem dL_makes_150 : decode cL_makes 150 = .ok (.bipush (-9), 2) := by decide +kernel
theorem dL_makes_152 : decode cL_makes 152 = .ok (.aload_n 1, 1) := by decide +kernel
theorem dL_makes_153 : decode cL_makes 153 = .ok (.iconst 2, 1) := by decide +kernel
theorem dL_makes_154 : decode cL_makes 154 = .ok (.iaload, 1) := by decide +kernel
theorem dL_makes_155 : decode cL_makes 155 = .ok (.invokestatic 25, 3) := by decide +kernel
theorem dL_makes_158 : decode cL_makes 158 = .ok (.lastore, 1) := by decide +kernel
theorem dL_makes_159 : decode cL_makes 159 = .ok (.aload_n 2, 1) := by decide +kernel
theorem dL_makes_160 : decode cL_makes 160 = .ok (.iload 9, 2) := by decide +kernel
theorem dL_makes_162 : decode cL_makes 162 = .ok (.sipush 200, 3) := by decide +kernel
theorem dL_makes_165 : decode cL_makes 165 = .ok (.iload 11, 2) := by decide +kernel
theorem dL_makes_167 : decode cL_makes 167 = .ok (.iadd, 1) := by decide +kernel
theorem dL_makes_168 : decode cL_makes 168 = .ok (.iastore, 1) := by decide +kernel
theorem dL_makes_169 : decode cL_makes 169 = .ok (.goto 25, 3) := by decide +kernel
theorem dL_makes_172 : decode cL_makes 172 = .ok (.aload_n 2, 1) := by decide +kernel
theorem dL_makes_173 : decode cL_makes 173 = .ok (.iload 9, 2) := by decide +kernel
theorem dL_makes_175 : decode cL_makes 175 = .ok (.aload_n 1, 1) := by decide +kernel
theorem dL_makes_176 : decode cL_makes 176 = .ok (.aload_n 3, 1) := by decide +kernel
theorem dL_makes_177 : decode cL_makes 177 = .ok (.aload 4, 2) := by decide +kernel
theorem dL_makes_179 : decode cL_makes 179 = .ok (.aload 5, 2) := by decide +kernel
theorem dL_makes_181 : decode cL_makes 181 = .ok (.aload 6, 2) := by decide +kernel
theorem dL_makes_183 : decode cL_makes 183 = .ok (.aload_n 1, 1) := by decide +kernel
theorem dL_makes_184 : decode cL_makes 184 = .ok (.iconst 0, 1) := by decide +kernel
theorem dL_makes_185 : decode cL_makes 185 = .ok (.iaload, 1) := by decide +kernel
theorem dL_makes_186 : decode cL_makes 186 = .ok (.bipush (-9), 2) := by decide +kernel
theorem dL_makes_188 : decode cL_makes 188 = .ok (.bipush (-9), 2) := by decide +kernel
theorem dL_makes_190 : decode cL_makes 190 = .ok (.invokestatic 42, 3) := by decide +kernel
theorem dL_makes_193 : decode cL_makes 193 = .ok (.iastore, 1) := by decide +kernel
theorem dL_makes_194 : decode cL_makes 194 = .ok (.aload_n 1, 1) := by decide +kernel
theorem dL_makes_195 : decode cL_makes 195 = .ok (.iconst 0, 1) := by decide +kernel
theorem dL_makes_196 : decode cL_makes 196 = .ok (.dup2, 1) := by decide +kernel
theorem dL_makes_197 : decode cL_makes 197 = .ok (.iaload, 1) := by decide +kernel
theorem dL_makes_198 : decode cL_makes 198 = .ok (.iconst 1, 1) := by decide +kernel
theorem dL_makes_199 : decode cL_makes 199 = .ok (.iadd, 1) := by decide +kernel
theorem dL_makes_200 : decode cL_makes 200 = .ok (.iastore, 1) := by decide +kernel
theorem dL_makes_201 : decode cL_makes 201 = .ok (.aload_n 0, 1) := by decide +kernel
theorem dL_makes_202 : decode cL_makes 202 = .ok (.iload 8, 2) := by decide +kernel
theorem dL_makes_204 : decode cL_makes 204 = .ok (.iload 9, 2) := by decide +kernel
theorem dL_makes_206 : decode cL_makes 206 = .ok (.invokevirtual 68, 3) := by decide +kernel
theorem dL_makes_209 : decode cL_makes 209 = .ok (.aload_n 1, 1) := by decide +kernel
theorem dL_makes_210 : decode cL_makes 210 = .ok (.iconst 0, 1) := by decide +kernel
theorem dL_makes_211 : decode cL_makes 211 = .ok (.iaload, 1) := by decide +kernel
theorem dL_makes_212 : decode cL_makes 212 = .ok (.iconst 1, 1) := by decide +kernel
theorem dL_makes_213 : decode cL_makes 213 = .ok (.isub, 1) := by decide +kernel
theorem dL_makes_214 : decode cL_makes 214 = .ok (.if_icmp .ne 7, 3) := by decide +kernel
theorem dL_makes_217 : decode cL_makes 217 = .ok (.iconst 1, 1) := by decide +kernel
theorem dL_makes_218 : decode cL_makes 218 = .ok (.goto 4, 3) := by decide +kernel
theorem dL_makes_221 : decode cL_makes 221 = .ok (.iconst 0, 1) := by decide +kernel
theorem dL_makes_222 : decode cL_makes 222 = .ok (.ireturn, 1) := by decide +kernel
set_option maxRecDepth 20000 in
theorem ggL_names_X7_link : GoodIn wsL_names wsX7_link := goodIn_r _ [5, 6, 7, 8, 9, 10, 11, 12, 13, 14, 15, 16, 17, 18, 19, 20, 21, 22, 23, 24, 25, 26, 27, 28, 29, 30, 31, 32, 33, 34, 35, 36, 37, 38, 39, 40, 41, 42, 43, 44, 45, 46, 47, 48, 49, 50, 51, 52, 53, 54, 55, 56, 57, 58, 59, 60, 61, 62, 63, 64, 65, 66, 67, 4, 68, 69, 70, 71, 72, 73, 74, 75, 76, 77, 78, 79, 80, 81, 82, 83, 84, 85, 86, 87, 88, 89, 90, 91, 92, 93, 94, 95, 96, 97, 98, 99, 100, 101, 102, 103, 104, 105, 106, 107, 108, 109, 110, 111, 112, 113, 114, 115, 116, 117, 118, 119, 120, 121, 122, 123, 124, 125, 126, 167, 168, 169, 170, 171, 172, 173, 174, 175, 176, 177, 178, 179, 180, 181, 182, 183, 184, 185, 186, 187, 188, 189, 190, 191, 192, 193] (by decide +kernel) (by decide +kernel)
set_option maxRecDepth 20000 in
theorem gL_names_X7_link : GoodIn wsL_names (wsV RL 74 RX7 yX7_link wsX7_link) := goodIn_app (goodIn_of _ (by decide +kernel)) ggL_names_X7_link
set_option maxRecDepth 20000 in
theorem ggL_names_X7_follow : GoodIn wsL_names wsX7_follow := goodIn_r _ [130, 6, 7, 8, 9, 10, 11, 12, 13, 14, 15, 16, 17, 18, 19, 20, 21, 22, 23, 24, 25, 26, 27, 28, 29, 30, 31, 32, 33, 34, 35, 36, 37, 38, 39, 40, 41, 42, 43, 44, 45, 46, 47, 48, 49, 50, 51, 52, 53, 54, 55, 56, 57, 58, 59, 60, 61, 62, 131, 132, 133, 134, 67, 4, 68, 69, 70, 71, 72, 73, 74, 75, 76, 77, 78, 79, 80, 81, 82, 83, 84, 85, 86, 87, 88, 89, 90, 91, 92, 93, 94, 95, 96, 97, 98, 99, 100, 101, 102, 103, 104, 105, 106, 107, 108, 109, 110, 111, 112, 113, 114, 119, 120, 121, 122, 123, 124, 125, 126, 167, 168, 169, 170, 171, 172, 173, 174, 175, 176, 177, 178, 179, 180, 181, 182, 183, 184, 185, 186, 187, 188, 189, 190, 191, 192, 193] (by decide +kernel) (by decide +kernel)
set_option maxRecDepth 20000 in
theorem gL_names_X7_follow : GoodIn wsL_names (wsV RL 78 RX7 yX7_follow wsX7_follow) := goodIn_app (goodIn_of _ (by decide +kernel)) ggL_names_X7_follow
set_option maxRecDepth 20000 in
theorem ggL_names_L_read : GoodIn wsL_names wsL_read := goodIn_r _ [138, 139, 140, 141, 137, 142, 143, 144, 145, 146, 147, 148, 149, 150, 151, 152, 153, 154, 155, 156, 157, 158, 159, 160, 161, 162, 163] (by decide +kernel) (by decide +kernel)
set_option maxRecDepth 20000 in
theorem gL_names_L_read : GoodIn wsL_names (va_wsS RL 48 yL_read wsL_read) := goodIn_app (goodIn_of _ (by decide +kernel)) ggL_names_L_read
set_option maxRecDepth 20000 in
theorem ggL_names_L_renames : GoodIn wsL_names wsL_renames := goodIn_r _ [166, 140, 141, 137, 142, 149, 150, 151, 152, 146, 147, 148] (by decide +kernel) (by decide +kernel)
set_option maxRecDepth 20000 in
theorem gL_names_L_renames : GoodIn wsL_names (va_wsS RL 56 yL_renames wsL_renames) := goodIn_app (goodIn_of _ (by decide +kernel)) ggL_names_L_renames
set_option maxRecDepth 20000 in
theorem ggL_names_L_at : GoodIn wsL_names wsL_at := goodIn_r _ [142] (by decide +kernel) (by decide +kernel)
set_option maxRecDepth 20000 in
theorem gL_names_L_at : GoodIn wsL_names (va_wsS RL 33 yL_at wsL_at) := goodIn_app (goodIn_of _ (by decide +kernel)) ggL_names_L_at
set_option maxRecDepth 20000 in
theorem ggL_names_L_name : GoodIn wsL_names wsL_name := goodIn_r _ [151, 152] (by decide +kernel) (by decide +kernel)
set_option maxRecDepth 20000 in
theorem gL_names_L_name : GoodIn wsL_names (va_wsS RL 15 yL_name wsL_name) := goodIn_app (goodIn_of _ (by decide +kernel)) ggL_names_L_name
theorem dL_names_0 : decode cL_names 0 = .ok (.iload 8, 2) := by decide +kernel
theorem dL_names_2 : decode cL_names 2 = .ok (.bipush 8, 2) := by decide +kernel
theorem dL_names_4 : decode cL_names 4 = .ok (.irem, 1) := by decide +kernel
theorem dL_names_5 : decode cL_names 5 = .ok (.istore 10, 2) := by decide +kernel
theorem dL_names_7 : decode cL_names 7 = .ok (.iload 8, 2) := by decide +kernel
theorem dL_names_9 : decode cL_names 9 = .ok (.bipush 8, 2) := by decide +kernel
theorem dL_names_11 : decode cL_names 11 = .ok (.idiv, 1) := by decide +kernel
theorem dL_names_12 : decode cL_names 12 = .ok (.iconst 2, 1) := by decide +kernel
theorem dL_names_13 : decode cL_names 13 = .ok (.irem, 1) := by decide +kernel
theorem dL_names_14 : decode cL_names 14 = .ok (.istore 11, 2) := by decide +kernel
theorem dL_names_16 : decode cL_names 16 = .ok (.iload 8, 2) := by decide +kernel
theorem dL_names_18 : decode cL_names 18 = .ok (.bipush 16, 2) := by decide +kernel
theorem dL_names_20 : decode cL_names 20 = .ok (.idiv, 1) := by decide +kernel
theorem dL_names_21 : decode cL_names 21 = .ok (.bipush 8, 2) := by decide +kernel
theorem dL_names_23 : decode cL_names 23 = .ok (.irem, 1) := by decide +kernel
theorem dL_names_24 : decode cL_names 24 = .ok (.istore 12, 2) := by decide +kernel
theorem dL_names_26 : decode cL_names 26 = .ok (.aload_n 2, 1) := by decide +kernel
theorem dL_names_27 : decode cL_names 27 = .ok (.iload 10, 2) := by decide +kernel
theorem dL_names_29 : decode cL_names 29 = .ok (.iaload, 1) := by decide +kernel
theorem dL_names_30 : decode cL_names 30 = .ok (.ifCond .ge 42, 3) := by decide +kernel
theorem dL_names_33 : decode cL_names 33 = .ok (.iload 9, 2) := by decide +kernel
theorem dL_names_35 : decode cL_names 35 = .ok (.ifCond .eq 16, 3) := by decide +kernel
theorem dL_names_38 : decode cL_names 38 = .ok (.aload_n 0, 1) := by decide +kernel
theorem dL_names_39 : decode cL_names 39 = .ok (.iload 10, 2) := by decide +kernel
theorem dL_names_41 : decode cL_names 41 = .ok (.iload 11, 2) := by decide +kernel
theorem dL_names_43 : decode cL_names 43 = .ok (.iload 12, 2) := by decide +kernel
theorem dL_names_45 : decode cL_names 45 = .ok (.invokevirtual 74, 3) := by decide +kernel
theorem dL_names_48 : decode cL_names 48 = .ok (.goto 13, 3) := by decide +kernel
theorem dL_names_51 : decode cL_names 51 = .ok (.aload_n 0, 1) := by decide +kernel
theorem dL_names_52 : decode cL_names 52 = .ok (.iload 10, 2) := by decide +kernel
theorem dL_names_54 : decode cL_names 54 = .ok (.iload 11, 2) := by decide +kernel
theorem dL_names_56 : decode cL_names 56 = .ok (.iload 12, 2) := by decide +kernel
theorem dL_names_58 : decode cL_names 58 = .ok (.invokevirtual 78, 3) := by decide +kernel
theorem dL_names_61 : decode cL_names 61 = .ok (.bipush (-2), 2) := by decide +kernel
theorem dL_names_63 : decode cL_names 63 = .ok (.if_icmp .ne 7, 3) := by decide +kernel
theorem dL_names_66 : decode cL_names 66 = .ok (.iconst 1, 1) := by decide +kernel
theorem dL_names_67 : decode cL_names 67 = .ok (.goto 4, 3) := by decide +kernel
theorem dL_names_70 : decode cL_names 70 = .ok (.iconst 0, 1) := by decide +kernel
theorem dL_names_71 : decode cL_names 71 = .ok (.ireturn, 1) := by decide +kernel
theorem dL_names_72 : decode cL_names 72 = .ok (.aload_n 2, 1) := by decide +kernel
theorem dL_names_73 : decode cL_names 73 = .ok (.iload 10, 2) := by decide +kernel
theorem dL_names_75 : decode cL_names 75 = .ok (.aload_n 1, 1) := by decide +kernel
theorem dL_names_76 : decode cL_names 76 = .ok (.aload_n 3, 1) := by decide +kernel
theorem dL_names_77 : decode cL_names 77 = .ok (.aload 4, 2) := by decide +kernel
theorem dL_names_79 : decode cL_names 79 = .ok (.aload 5, 2) := by decide +kernel
theorem dL_names_81 : decode cL_names 81 = .ok (.aload 6, 2) := by decide +kernel
theorem dL_names_83 : decode cL_names 83 = .ok (.aload 7, 2) := by decide +kernel
theorem dL_names_85 : decode cL_names 85 = .ok (.aload_n 2, 1) := by decide +kernel
theorem dL_names_86 : decode cL_names 86 = .ok (.iload 10, 2) := by decide +kernel
theorem dL_names_88 : decode cL_names 88 = .ok (.iaload, 1) := by decide +kernel
theorem dL_names_89 : decode cL_names 89 = .ok (.invokestatic 48, 3) := by decide +kernel
theorem dL_names_92 : decode cL_names 92 = .ok (.iastore, 1) := by decide +kernel
theorem dL_names_93 : decode cL_names 93 = .ok (.aload_n 2, 1) := by decide +kernel
theorem dL_names_94 : decode cL_names 94 = .ok (.iload 10, 2) := by decide +kernel
theorem dL_names_96 : decode cL_names 96 = .ok (.iaload, 1) := by decide +kernel
theorem dL_names_97 : decode cL_names 97 = .ok (.istore 13, 2) := by decide +kernel
theorem dL_names_99 : decode cL_names 99 = .ok (.iload 9, 2) := by decide +kernel
theorem dL_names_101 : decode cL_names 101 = .ok (.ifCond .eq 77, 3) := by decide +kernel
theorem dL_names_104 : decode cL_names 104 = .ok (.aload_n 2, 1) := by decide +kernel
theorem dL_names_105 : decode cL_names 105 = .ok (.iload 12, 2) := by decide +kernel
theorem dL_names_107 : decode cL_names 107 = .ok (.aload_n 1, 1) := by decide +kernel
theorem dL_names_108 : decode cL_names 108 = .ok (.aload_n 3, 1) := by decide +kernel
theorem dL_names_109 : decode cL_names 109 = .ok (.aload 4, 2) := by decide +kernel
theorem dL_names_111 : decode cL_names 111 = .ok (.aload 5, 2) := by decide +kernel
theorem dL_names_113 : decode cL_names 113 = .ok (.aload 6, 2) := by decide +kernel
theorem dL_names_115 : decode cL_names 115 = .ok (.aload 7, 2) := by decide +kernel
theorem dL_names_117 : decode cL_names 117 = .ok (.aload_n 2, 1) := by decide +kernel
theorem dL_names_118 : decode cL_names 118 = .ok (.iload 12, 2) := by decide +kernel
theorem dL_names_120 : decode cL_names 120 = .ok (.iaload, 1) := by decide +kernel
theorem dL_names_121 : decode cL_names 121 = .ok (.invokestatic 48, 3) := by decide +kernel
theorem dL_names_124 : decode cL_names 124 = .ok (.iastore, 1) := by decide +kernel
theorem dL_names_125 : decode cL_names 125 = .ok (.aload 5, 2) := by decide +kernel
theorem dL_names_127 : decode cL_names 127 = .ok (.aload 6, 2) := by decide +kernel
theorem dL_names_129 : decode cL_names 129 = .ok (.aload 7, 2) := by decide +kernel
theorem dL_names_131 : decode cL_names 131 = .ok (.iload 13, 2) := by decide +kernel
theorem dL_names_133 : decode cL_names 133 = .ok (.iload 11, 2) := by decide +kernel
theorem dL_names_135 : decode cL_names 135 = .ok (.aload_n 2, 1) := by decide +kernel
theorem dL_names_136 : decode cL_names 136 = .ok (.iload 12, 2) := by decide +kernel
theorem dL_names_138 : decode cL_names 138 = .ok (.iaload, 1) := by decide +kernel
theorem dL_names_139 : decode cL_names 139 = .ok (.invokestatic 56, 3) := by decide +kernel
theorem dL_names_142 : decode cL_names 142 = .ok (.aload_n 0, 1) := by decide +kernel
theorem dL_names_143 : decode cL_names 143 = .ok (.iload 10, 2) := by decide +kernel
theorem dL_names_145 : decode cL_names 145 = .ok (.iload 11, 2) := by decide +kernel
theorem dL_names_147 : decode cL_names 147 = .ok (.iload 12, 2) := by decide +kernel
theorem dL_names_149 : decode cL_names 149 = .ok (.invokevirtual 74, 3) := by decide +kernel
theorem dL_names_152 : decode cL_names 152 = .ok (.aload_n 2, 1) := by decide +kernel
theorem dL_names_153 : decode cL_names 153 = .ok (.iload 12, 2) := by decide +kernel
theorem dL_names_155 : decode cL_names 155 = .ok (.iaload, 1) := by decide +kernel
theorem dL_names_156 : decode cL_names 156 = .ok (.ifCond .ge 9, 3) := by decide +kernel
theorem dL_names_159 : decode cL_names 159 = .ok (.sipush 300, 3) := by decide +kernel
theorem dL_names_162 : decode cL_names 162 = .ok (.goto 7, 3) := by decide +kernel
theorem dL_names_165 : decode cL_names 165 = .ok (.aload_n 2, 1) := by decide +kernel
theorem dL_names_166 : decode cL_names 166 = .ok (.iload 12, 2) := by decide +kernel
theorem dL_names_168 : decode cL_names 168 = .ok (.iaload, 1) := by decide +kernel
theorem dL_names_169 : decode cL_names 169 = .ok (.if_icmp .ne 7, 3) := by decide +kernel
theorem dL_names_172 : decode cL_names 172 = .ok (.iconst 1, 1) := by decide +kernel
theorem dL_names_173 : decode cL_names 173 = .ok (.goto 4, 3) := by decide +kernel
theorem dL_names_176 : decode cL_names 176 = .ok (.iconst 0, 1) := by decide +kernel
theorem dL_names_177 : decode cL_names 177 = .ok (.ireturn, 1) := by decide +kernel
theorem dL_names_178 : decode cL_names 178 = .ok (.aload 5, 2) := by decide +kernel
theorem dL_names_180 : decode cL_names 180 = .ok (.aload 6, 2) := by decide +kernel
theorem dL_names_182 : decode cL_names 182 = .ok (.aload 7, 2) := by decide +kernel
theorem dL_names_184 : decode cL_names 184 = .ok (.iload 13, 2) := by decide +kernel
theorem dL_names_186 : decode cL_names 186 = .ok (.iload 11, 2) := by decide +kernel
theorem dL_names_188 : decode cL_names 188 = .ok (.aload_n 1, 1) := by decide +kernel
theorem dL_names_189 : decode cL_names 189 = .ok (.aload_n 3, 1) := by decide +kernel
theorem dL_names_190 : decode cL_names 190 = .ok (.aload 4, 2) := by decide +kernel
theorem dL_names_192 : decode cL_names 192 = .ok (.aload 5, 2) := by decide +kernel
theorem dL_names_194 : decode cL_names 194 = .ok (.aload 6, 2) := by decide +kernel
theorem dL_names_196 : decode cL_names 196 = .ok (.aload 7, 2) := by decide +kernel
theorem dL_names_198 : decode cL_names 198 = .ok (.aload 5, 2) := by decide +kernel
theorem dL_names_200 : decode cL_names 200 = .ok (.aload 6, 2) := by decide +kernel
theorem dL_names_202 : decode cL_names 202 = .ok (.aload 7, 2) := by decide +kernel
theorem dL_names_204 : decode cL_names 204 = .ok (.iload 13, 2) := by decide +kernel
theorem dL_names_206 : decode cL_names 206 = .ok (.invokestatic 33, 3) := by decide +kernel
theorem dL_names_209 : decode cL_names 209 = .ok (.iload 11, 2) := by decide +kernel
theorem dL_names_211 : decode cL_names 211 = .ok (.invokestatic 15, 3) := by decide +kernel
theorem dL_names_214 : decode cL_names 214 = .ok (.invokestatic 48, 3) := by decide +kernel
theorem dL_names_217 : decode cL_names 217 = .ok (.invokestatic 56, 3) := by decide +kernel
theorem dL_names_220 : decode cL_names 220 = .ok (.aload_n 2, 1) := by decide +kernel
theorem dL_names_221 : decode cL_names 221 = .ok (.iload 12, 2) := by decide +kernel
theorem dL_names_223 : decode cL_names 223 = .ok (.aload 5, 2) := by decide +kernel
theorem dL_names_225 : decode cL_names 225 = .ok (.aload 6, 2) := by decide +kernel
theorem dL_names_227 : decode cL_names 227 = .ok (.aload 7, 2) := by decide +kernel
theorem dL_names_229 : decode cL_names 229 = .ok (.iload 13, 2) := by decide +kernel
theorem dL_names_231 : decode cL_names 231 = .ok (.invokestatic 33, 3) := by decide +kernel
theorem dL_names_234 : decode cL_names 234 = .ok (.iload 11, 2) := by decide +kernel
theorem dL_names_236 : decode cL_names 236 = .ok (.invokestatic 15, 3) := by decide +kernel
theorem dL_names_239 : decode cL_names 239 = .ok (.iastore, 1) := by decide +kernel
theorem dL_names_240 : decode cL_names 240 = .ok (.aload_n 0, 1) := by decide +kernel
theorem dL_names_241 : decode cL_names 241 = .ok (.iload 10, 2) := by decide +kernel
theorem dL_names_243 : decode cL_names 243 = .ok (.iload 11, 2) := by decide +kernel
theorem dL_names_245 : decode cL_names 245 = .ok (.iload 12, 2) := by decide +kernel
theorem dL_names_247 : decode cL_names 247 = .ok (.invokevirtual 78, 3) := by decide +kernel
theorem dL_names_250 : decode cL_names 250 = .ok (.aload_n 2, 1) := by decide +kernel
theorem dL_names_251 : decode cL_names 251 = .ok (.iload 12, 2) := by decide +kernel
theorem dL_names_253 : decode cL_names 253 = .ok (.iaload, 1) := by decide +kernel
theorem dL_names_254 : decode cL_names 254 = .ok (.ifCond .ge 9, 3) := by decide +kernel
theorem dL_names_257 : decode cL_names 257 = .ok (.sipush 300, 3) := by decide +kernel
theorem dL_names_260 : decode cL_names 260 = .ok (.goto 7, 3) := by decide +kernel
theorem dL_names_263 : decode cL_names 263 = .ok (.aload_n 2, 1) := by decide +kernel
theorem dL_names_264 : decode cL_names 264 = .ok (.iload 12, 2) := by decide +kernel
theorem dL_names_266 : decode cL_names 266 = .ok (.iaload, 1) := by decide +kernel
theorem dL_names_267 : decode cL_names 267 = .ok (.if_icmp .ne 7, 3) := by decide +kernel
theorem dL_names_270 : decode cL_names 270 = .ok (.iconst 1, 1) := by decide +kernel
theorem dL_names_271 : decode cL_names 271 = .ok (.goto 4, 3) := by decide +kernel
theorem dL_names_274 : decode cL_names 274 = .ok (.iconst 0, 1) := by decide +kernel
theorem dL_names_275 : decode cL_names 275 = .ok (.ireturn, 1) := by decide +kernel
theorem dL_address_0 : decode cL_address 0 = .ok (.iload_n 0, 1) := by decide +kernel
theorem dL_address_1 : decode cL_address 1 = .ok (.bipush 64, 2) := by decide +kernel
theorem dL_address_3 : decode cL_address 3 = .ok (.idiv, 1) := by decide +kernel
theorem dL_address_4 : decode cL_address 4 = .ok (.bipush 100, 2) := by decide +kernel
theorem dL_address_6 : decode cL_address 6 = .ok (.imul, 1) := by decide +kernel
theorem dL_address_7 : decode cL_address 7 = .ok (.iload_n 0, 1) := by decide +kernel
theorem dL_address_8 : decode cL_address 8 = .ok (.bipush 64, 2) := by decide +kernel
theorem dL_address_10 : decode cL_address 10 = .ok (.irem, 1) := by decide +kernel
theorem dL_address_11 : decode cL_address 11 = .ok (.iadd, 1) := by decide +kernel
theorem dL_address_12 : decode cL_address 12 = .ok (.ireturn, 1) := by decide +kernel
set_option maxRecDepth 20000 in
theorem ggL_mends_L_address : GoodIn wsL_mends wsL_address := goodIn_r _ [4] (by decide +kernel) (by decide +kernel)
set_option maxRecDepth 20000 in
theorem gL_mends_L_address : GoodIn wsL_mends (va_wsS RL 81 yL_address wsL_address) := goodIn_app (goodIn_of _ (by decide +kernel)) ggL_mends_L_address
set_option maxRecDepth 20000 in
theorem ggL_mends_L_at : GoodIn wsL_mends wsL_at := goodIn_r _ [7] (by decide +kernel) (by decide +kernel)
set_option maxRecDepth 20000 in
theorem gL_mends_L_at : GoodIn wsL_mends (va_wsS RL 33 yL_at wsL_at) := goodIn_app (goodIn_of _ (by decide +kernel)) ggL_mends_L_at
set_option maxRecDepth 20000 in
theorem ggL_mends_L_thing : GoodIn wsL_mends wsL_thing := goodIn_r _ [10, 11] (by decide +kernel) (by decide +kernel)
set_option maxRecDepth 20000 in
theorem gL_mends_L_thing : GoodIn wsL_mends (va_wsS RL 21 yL_thing wsL_thing) := goodIn_app (goodIn_of _ (by decide +kernel)) ggL_mends_L_thing
set_option maxRecDepth 20000 in
theorem ggL_mends_X7_mend : GoodIn wsL_mends wsX7_mend := goodIn_r _ [16, 17, 18, 19, 20, 21, 22, 23, 24, 25, 26, 27, 28, 29, 30, 31, 32, 33, 34, 35, 36, 37, 38, 39, 40, 41, 42, 43, 44, 45, 46, 47, 48, 49, 50, 51, 52, 53, 54, 55, 56, 57, 58, 59, 60, 61, 62, 63, 64, 65, 66, 67, 68, 69, 70, 71, 72, 73, 74, 75, 76, 77, 78, 79, 80, 81, 82, 83, 84, 85, 86, 87, 88, 89, 90, 91, 92, 93, 94, 95, 96, 97, 98, 99, 100, 101, 102, 103, 104, 105, 106, 107, 108, 109, 110, 111, 112, 113, 114, 115, 116, 117, 118, 119, 120, 121, 15, 122, 123, 124, 125, 126, 137, 138, 139, 140, 141, 142, 143, 144, 145, 146, 147, 148, 149, 150, 151, 152, 153, 154, 155, 156, 157, 158, 159, 160, 161, 162, 163] (by decide +kernel) (by decide +kernel)
set_option maxRecDepth 20000 in
theorem gL_mends_X7_mend : GoodIn wsL_mends (wsV RL 85 RX7 yX7_mend wsX7_mend) := goodIn_app (goodIn_of _ (by decide +kernel)) ggL_mends_X7_mend
set_option maxRecDepth 20000 in
theorem ggL_mends_L_name : GoodIn wsL_mends wsL_name := goodIn_r _ [129, 130] (by decide +kernel) (by decide +kernel)
end
section
set_option maxRecDepth 20000 in
theorem gL_mends_L_name : GoodIn wsL_mends (va_wsS RL 15 yL_name wsL_name) := goodIn_app (goodIn_of _ (by decide +kernel)) ggL_mends_L_name
set_option maxRecDepth 20000 in
theorem ggL_mends_L_renames : GoodIn wsL_mends wsL_renames := goodIn_r _ [133, 5, 6, 3, 7, 127, 128, 129, 130, 134, 135, 136] (by decide +kernel) (by decide +kernel)
set_option maxRecDepth 20000 in
theorem gL_mends_L_renames : GoodIn wsL_mends (va_wsS RL 56 yL_renames wsL_renames) := goodIn_app (goodIn_of _ (by decide +kernel)) ggL_mends_L_renames
set_option maxRecDepth 20000 in
theorem ggL_mends_L_puts : GoodIn wsL_mends wsL_puts := goodIn_r _ [136] (by decide +kernel) (by decide +kernel)
set_option maxRecDepth 20000 in
theorem gL_mends_L_puts : GoodIn wsL_mends (va_wsS RL 29 yL_puts wsL_puts) := goodIn_app (goodIn_of _ (by decide +kernel)) ggL_mends_L_puts
theorem dL_mends_0 : decode cL_mends 0 = .ok (.iconst (-1), 1) := by decide +kernel
theorem dL_mends_1 : decode cL_mends 1 = .ok (.istore 7, 2) := by decide +kernel
theorem dL_mends_3 : decode cL_mends 3 = .ok (.iconst 0, 1) := by decide +kernel
theorem dL_mends_4 : decode cL_mends 4 = .ok (.istore 8, 2) := by decide +kernel
theorem dL_mends_6 : decode cL_mends 6 = .ok (.iconst 0, 1) := by decide +kernel
theorem dL_mends_7 : decode cL_mends 7 = .ok (.istore 9, 2) := by decide +kernel
theorem dL_mends_9 : decode cL_mends 9 = .ok (.iload 9, 2) := by decide +kernel
theorem dL_mends_11 : decode cL_mends 11 = .ok (.sipush 188, 3) := by decide +kernel
theorem dL_mends_14 : decode cL_mends 14 = .ok (.if_icmp .ge 50, 3) := by decide +kernel
theorem dL_mends_17 : decode cL_mends 17 = .ok (.aload_n 3, 1) := by decide +kernel
theorem dL_mends_18 : decode cL_mends 18 = .ok (.aload 4, 2) := by decide +kernel
theorem dL_mends_20 : decode cL_mends 20 = .ok (.aload 5, 2) := by decide +kernel
theorem dL_mends_22 : decode cL_mends 22 = .ok (.iload 9, 2) := by decide +kernel
theorem dL_mends_24 : decode cL_mends 24 = .ok (.invokestatic 81, 3) := by decide +kernel
theorem dL_mends_27 : decode cL_mends 27 = .ok (.invokestatic 33, 3) := by decide +kernel
theorem dL_mends_30 : decode cL_mends 30 = .ok (.invokestatic 21, 3) := by decide +kernel
theorem dL_mends_33 : decode cL_mends 33 = .ok (.iload 6, 2) := by decide +kernel
theorem dL_mends_35 : decode cL_mends 35 = .ok (.if_icmp .ne 23, 3) := by decide +kernel
theorem dL_mends_38 : decode cL_mends 38 = .ok (.iload 8, 2) := by decide +kernel
theorem dL_mends_40 : decode cL_mends 40 = .ok (.ifCond .ne 11, 3) := by decide +kernel
theorem dL_mends_43 : decode cL_mends 43 = .ok (.iload 9, 2) := by decide +kernel
theorem dL_mends_45 : decode cL_mends 45 = .ok (.invokestatic 81, 3) := by decide +kernel
theorem dL_mends_48 : decode cL_mends 48 = .ok (.goto 5, 3) := by decide +kernel
theorem dL_mends_51 : decode cL_mends 51 = .ok (.iload 7, 2) := by decide +kernel
theorem dL_mends_53 : decode cL_mends 53 = .ok (.istore 7, 2) := by decide +kernel
theorem dL_mends_55 : decode cL_mends 55 = .ok (.iinc 8 1, 3) := by decide +kernel
theorem dL_mends_58 : decode cL_mends 58 = .ok (.iinc 9 1, 3) := by decide +kernel
theorem dL_mends_61 : decode cL_mends 61 = .ok (.goto (-52), 3) := by decide +kernel
theorem dL_mends_64 : decode cL_mends 64 = .ok (.aload_n 1, 1) := by decide +kernel
theorem dL_mends_65 : decode cL_mends 65 = .ok (.iconst 2, 1) := by decide +kernel
theorem dL_mends_66 : decode cL_mends 66 = .ok (.iaload, 1) := by decide +kernel
theorem dL_mends_67 : decode cL_mends 67 = .ok (.iconst 1, 1) := by decide +kernel
theorem dL_mends_68 : decode cL_mends 68 = .ok (.if_icmp .eq 9, 3) := by decide +kernel
theorem dL_mends_71 : decode cL_mends 71 = .ok (.iload 8, 2) := by decide +kernel
theorem dL_mends_73 : decode cL_mends 73 = .ok (.iconst 2, 1) := by decide +kernel
theorem dL_mends_74 : decode cL_mends 74 = .ok (.if_icmp .ge 20, 3) := by decide +kernel
theorem dL_mends_77 : decode cL_mends 77 = .ok (.aload_n 0, 1) := by decide +kernel
theorem dL_mends_78 : decode cL_mends 78 = .ok (.iload 6, 2) := by decide +kernel
theorem dL_mends_80 : decode cL_mends 80 = .ok (.invokevirtual 85, 3) := by decide +kernel
theorem dL_mends_83 : decode cL_mends 83 = .ok (.bipush (-2), 2) := by decide +kernel
theorem dL_mends_85 : decode cL_mends 85 = .ok (.if_icmp .ne 7, 3) := by decide +kernel
theorem dL_mends_88 : decode cL_mends 88 = .ok (.iconst 1, 1) := by decide +kernel
theorem dL_mends_89 : decode cL_mends 89 = .ok (.goto 4, 3) := by decide +kernel
theorem dL_mends_92 : decode cL_mends 92 = .ok (.iconst 0, 1) := by decide +kernel
theorem dL_mends_93 : decode cL_mends 93 = .ok (.ireturn, 1) := by decide +kernel
theorem dL_mends_94 : decode cL_mends 94 = .ok (.iconst 0, 1) := by decide +kernel
theorem dL_mends_95 : decode cL_mends 95 = .ok (.istore 9, 2) := by decide +kernel
theorem dL_mends_97 : decode cL_mends 97 = .ok (.iload 9, 2) := by decide +kernel
theorem dL_mends_99 : decode cL_mends 99 = .ok (.bipush 8, 2) := by decide +kernel
theorem dL_mends_101 : decode cL_mends 101 = .ok (.if_icmp .ge 49, 3) := by decide +kernel
theorem dL_mends_104 : decode cL_mends 104 = .ok (.aload_n 2, 1) := by decide +kernel
theorem dL_mends_105 : decode cL_mends 105 = .ok (.iload 9, 2) := by decide +kernel
theorem dL_mends_107 : decode cL_mends 107 = .ok (.aload_n 2, 1) := by decide +kernel
theorem dL_mends_108 : decode cL_mends 108 = .ok (.iload 9, 2) := by decide +kernel
theorem dL_mends_110 : decode cL_mends 110 = .ok (.iaload, 1) := by decide +kernel
theorem dL_mends_111 : decode cL_mends 111 = .ok (.ifCond .lt 28, 3) := by decide +kernel
theorem dL_mends_114 : decode cL_mends 114 = .ok (.aload_n 3, 1) := by decide +kernel
theorem dL_mends_115 : decode cL_mends 115 = .ok (.aload 4, 2) := by decide +kernel
theorem dL_mends_117 : decode cL_mends 117 = .ok (.aload 5, 2) := by decide +kernel
theorem dL_mends_119 : decode cL_mends 119 = .ok (.aload_n 2, 1) := by decide +kernel
theorem dL_mends_120 : decode cL_mends 120 = .ok (.iload 9, 2) := by decide +kernel
theorem dL_mends_122 : decode cL_mends 122 = .ok (.iaload, 1) := by decide +kernel
theorem dL_mends_123 : decode cL_mends 123 = .ok (.invokestatic 33, 3) := by decide +kernel
theorem dL_mends_126 : decode cL_mends 126 = .ok (.invokestatic 21, 3) := by decide +kernel
theorem dL_mends_129 : decode cL_mends 129 = .ok (.iload 6, 2) := by decide +kernel
theorem dL_mends_131 : decode cL_mends 131 = .ok (.if_icmp .ne 8, 3) := by decide +kernel
theorem dL_mends_134 : decode cL_mends 134 = .ok (.iload 7, 2) := by decide +kernel
theorem dL_mends_136 : decode cL_mends 136 = .ok (.goto 7, 3) := by decide +kernel
theorem dL_mends_139 : decode cL_mends 139 = .ok (.aload_n 2, 1) := by decide +kernel
theorem dL_mends_140 : decode cL_mends 140 = .ok (.iload 9, 2) := by decide +kernel
theorem dL_mends_142 : decode cL_mends 142 = .ok (.iaload, 1) := by decide +kernel
theorem dL_mends_143 : decode cL_mends 143 = .ok (.iastore, 1) := by decide +kernel
theorem dL_mends_144 : decode cL_mends 144 = .ok (.iinc 9 1, 3) := by decide +kernel
theorem dL_mends_147 : decode cL_mends 147 = .ok (.goto (-50), 3) := by decide +kernel
theorem dL_mends_150 : decode cL_mends 150 = .ok (.iconst 0, 1) := by decide +kernel
theorem dL_mends_151 : decode cL_mends 151 = .ok (.istore 9, 2) := by decide +kernel
theorem dL_mends_153 : decode cL_mends 153 = .ok (.iload 9, 2) := by decide +kernel
theorem dL_mends_155 : decode cL_mends 155 = .ok (.sipush 376, 3) := by decide +kernel
theorem dL_mends_158 : decode cL_mends 158 = .ok (.if_icmp .ge 92, 3) := by decide +kernel
theorem dL_mends_161 : decode cL_mends 161 = .ok (.iload 9, 2) := by decide +kernel
theorem dL_mends_163 : decode cL_mends 163 = .ok (.iconst 2, 1) := by decide +kernel
theorem dL_mends_164 : decode cL_mends 164 = .ok (.idiv, 1) := by decide +kernel
theorem dL_mends_165 : decode cL_mends 165 = .ok (.invokestatic 81, 3) := by decide +kernel
theorem dL_mends_168 : decode cL_mends 168 = .ok (.istore 10, 2) := by decide +kernel
theorem dL_mends_170 : decode cL_mends 170 = .ok (.aload_n 3, 1) := by decide +kernel
theorem dL_mends_171 : decode cL_mends 171 = .ok (.aload 4, 2) := by decide +kernel
theorem dL_mends_173 : decode cL_mends 173 = .ok (.aload 5, 2) := by decide +kernel
theorem dL_mends_175 : decode cL_mends 175 = .ok (.iload 10, 2) := by decide +kernel
theorem dL_mends_177 : decode cL_mends 177 = .ok (.invokestatic 33, 3) := by decide +kernel
theorem dL_mends_180 : decode cL_mends 180 = .ok (.lstore 11, 2) := by decide +kernel
theorem dL_mends_182 : decode cL_mends 182 = .ok (.lload 11, 2) := by decide +kernel
theorem dL_mends_184 : decode cL_mends 184 = .ok (.lconst 0, 1) := by decide +kernel
theorem dL_mends_185 : decode cL_mends 185 = .ok (.lcmp, 1) := by decide +kernel
theorem dL_mends_186 : decode cL_mends 186 = .ok (.ifCond .ne 8, 3) := by decide +kernel
theorem dL_mends_189 : decode cL_mends 189 = .ok (.bipush (-9), 2) := by decide +kernel
theorem dL_mends_191 : decode cL_mends 191 = .ok (.goto 12, 3) := by decide +kernel
theorem dL_mends_194 : decode cL_mends 194 = .ok (.lload 11, 2) := by decide +kernel
theorem dL_mends_196 : decode cL_mends 196 = .ok (.iload 9, 2) := by decide +kernel
theorem dL_mends_198 : decode cL_mends 198 = .ok (.iconst 2, 1) := by decide +kernel
theorem dL_mends_199 : decode cL_mends 199 = .ok (.irem, 1) := by decide +kernel
theorem dL_mends_200 : decode cL_mends 200 = .ok (.invokestatic 15, 3) := by decide +kernel
theorem dL_mends_203 : decode cL_mends 203 = .ok (.istore 13, 2) := by decide +kernel
theorem dL_mends_205 : decode cL_mends 205 = .ok (.iload 13, 2) := by decide +kernel
theorem dL_mends_207 : decode cL_mends 207 = .ok (.ifCond .lt 37, 3) := by decide +kernel
theorem dL_mends_210 : decode cL_mends 210 = .ok (.aload_n 3, 1) := by decide +kernel
theorem dL_mends_211 : decode cL_mends 211 = .ok (.aload 4, 2) := by decide +kernel
theorem dL_mends_213 : decode cL_mends 213 = .ok (.aload 5, 2) := by decide +kernel
theorem dL_mends_215 : decode cL_mends 215 = .ok (.iload 13, 2) := by decide +kernel
theorem dL_mends_217 : decode cL_mends 217 = .ok (.invokestatic 33, 3) := by decide +kernel
theorem dL_mends_220 : decode cL_mends 220 = .ok (.invokestatic 21, 3) := by decide +kernel
theorem dL_mends_223 : decode cL_mends 223 = .ok (.iload 6, 2) := by decide +kernel
theorem dL_mends_225 : decode cL_mends 225 = .ok (.if_icmp .ne 19, 3) := by decide +kernel
theorem dL_mends_228 : decode cL_mends 228 = .ok (.aload_n 3, 1) := by decide +kernel
theorem dL_mends_229 : decode cL_mends 229 = .ok (.aload 4, 2) := by decide +kernel
theorem dL_mends_231 : decode cL_mends 231 = .ok (.aload 5, 2) := by decide +kernel
theorem dL_mends_233 : decode cL_mends 233 = .ok (.iload 10, 2) := by decide +kernel
theorem dL_mends_235 : decode cL_mends 235 = .ok (.iload 9, 2) := by decide +kernel
theorem dL_mends_237 : decode cL_mends 237 = .ok (.iconst 2, 1) := by decide +kernel
theorem dL_mends_238 : decode cL_mends 238 = .ok (.irem, 1) := by decide +kernel
theorem dL_mends_239 : decode cL_mends 239 = .ok (.iload 7, 2) := by decide +kernel
theorem dL_mends_241 : decode cL_mends 241 = .ok (.invokestatic 56, 3) := by decide +kernel
theorem dL_mends_244 : decode cL_mends 244 = .ok (.iinc 9 1, 3) := by decide +kernel
theorem dL_mends_247 : decode cL_mends 247 = .ok (.goto (-94), 3) := by decide +kernel
theorem dL_mends_250 : decode cL_mends 250 = .ok (.iconst 0, 1) := by decide +kernel
theorem dL_mends_251 : decode cL_mends 251 = .ok (.istore 9, 2) := by decide +kernel
theorem dL_mends_253 : decode cL_mends 253 = .ok (.iload 9, 2) := by decide +kernel
theorem dL_mends_255 : decode cL_mends 255 = .ok (.sipush 188, 3) := by decide +kernel
theorem dL_mends_258 : decode cL_mends 258 = .ok (.if_icmp .ge 54, 3) := by decide +kernel
theorem dL_mends_261 : decode cL_mends 261 = .ok (.iload 9, 2) := by decide +kernel
theorem dL_mends_263 : decode cL_mends 263 = .ok (.invokestatic 81, 3) := by decide +kernel
theorem dL_mends_266 : decode cL_mends 266 = .ok (.iload 7, 2) := by decide +kernel
theorem dL_mends_268 : decode cL_mends 268 = .ok (.if_icmp .eq 38, 3) := by decide +kernel
theorem dL_mends_271 : decode cL_mends 271 = .ok (.aload_n 3, 1) := by decide +kernel
theorem dL_mends_272 : decode cL_mends 272 = .ok (.aload 4, 2) := by decide +kernel
theorem dL_mends_274 : decode cL_mends 274 = .ok (.aload 5, 2) := by decide +kernel
theorem dL_mends_276 : decode cL_mends 276 = .ok (.iload 9, 2) := by decide +kernel
theorem dL_mends_278 : decode cL_mends 278 = .ok (.invokestatic 81, 3) := by decide +kernel
theorem dL_mends_281 : decode cL_mends 281 = .ok (.invokestatic 33, 3) := by decide +kernel
theorem dL_mends_284 : decode cL_mends 284 = .ok (.invokestatic 21, 3) := by decide +kernel
theorem dL_mends_287 : decode cL_mends 287 = .ok (.iload 6, 2) := by decide +kernel
theorem dL_mends_289 : decode cL_mends 289 = .ok (.if_icmp .ne 17, 3) := by decide +kernel
theorem dL_mends_292 : decode cL_mends 292 = .ok (.aload_n 3, 1) := by decide +kernel
theorem dL_mends_293 : decode cL_mends 293 = .ok (.aload 4, 2) := by decide +kernel
theorem dL_mends_295 : decode cL_mends 295 = .ok (.aload 5, 2) := by decide +kernel
theorem dL_mends_297 : decode cL_mends 297 = .ok (.iload 9, 2) := by decide +kernel
theorem dL_mends_299 : decode cL_mends 299 = .ok (.invokestatic 81, 3) := by decide +kernel
theorem dL_mends_302 : decode cL_mends 302 = .ok (.lconst 0, 1) := by decide +kernel
theorem dL_mends_303 : decode cL_mends 303 = .ok (.invokestatic 29, 3) := by decide +kernel
theorem dL_mends_306 : decode cL_mends 306 = .ok (.iinc 9 1, 3) := by decide +kernel
theorem dL_mends_309 : decode cL_mends 309 = .ok (.goto (-56), 3) := by decide +kernel
theorem dL_mends_312 : decode cL_mends 312 = .ok (.aload_n 0, 1) := by decide +kernel
theorem dL_mends_313 : decode cL_mends 313 = .ok (.iload 6, 2) := by decide +kernel
theorem dL_mends_315 : decode cL_mends 315 = .ok (.invokevirtual 85, 3) := by decide +kernel
theorem dL_mends_318 : decode cL_mends 318 = .ok (.iload 8, 2) := by decide +kernel
theorem dL_mends_320 : decode cL_mends 320 = .ok (.iconst 1, 1) := by decide +kernel
theorem dL_mends_321 : decode cL_mends 321 = .ok (.isub, 1) := by decide +kernel
theorem dL_mends_322 : decode cL_mends 322 = .ok (.if_icmp .ne 7, 3) := by decide +kernel
theorem dL_mends_325 : decode cL_mends 325 = .ok (.iconst 1, 1) := by decide +kernel
theorem dL_mends_326 : decode cL_mends 326 = .ok (.goto 4, 3) := by decide +kernel
theorem dL_mends_329 : decode cL_mends 329 = .ok (.iconst 0, 1) := by decide +kernel
theorem dL_mends_330 : decode cL_mends 330 = .ok (.ireturn, 1) := by decide +kernel
set_option maxRecDepth 20000 in
theorem ggL_loses_L_thing : GoodIn wsL_loses wsL_thing := goodIn_r _ [4, 5] (by decide +kernel) (by decide +kernel)
set_option maxRecDepth 20000 in
theorem gL_loses_L_thing : GoodIn wsL_loses (va_wsS RL 21 yL_thing wsL_thing) := goodIn_app (goodIn_of _ (by decide +kernel)) ggL_loses_L_thing
set_option maxRecDepth 20000 in
theorem ggL_loses_L_name : GoodIn wsL_loses wsL_name := goodIn_r _ [8, 9] (by decide +kernel) (by decide +kernel)
set_option maxRecDepth 20000 in
theorem gL_loses_L_name : GoodIn wsL_loses (va_wsS RL 15 yL_name wsL_name) := goodIn_app (goodIn_of _ (by decide +kernel)) ggL_loses_L_name
set_option maxRecDepth 20000 in
theorem ggL_loses_X7_lose : GoodIn wsL_loses wsX7_lose := goodIn_r _ [14, 15, 16, 17, 18, 19, 20, 21, 22, 23, 24, 25, 26, 27, 28, 29, 30, 31, 32, 33, 34, 35, 36, 37, 38, 39, 40, 41, 42, 43, 44, 45, 46, 47, 48, 49, 50, 51, 52, 53, 54, 55, 56, 57, 58, 59, 60, 61, 62, 63, 64, 65, 66, 67, 68, 69, 70, 71, 72, 73, 74, 75, 76, 77, 78, 79, 80, 81, 82, 83, 84, 85, 86, 87, 88, 89, 90, 91, 92, 93, 94, 95, 96, 97, 98, 99, 100, 101, 102, 103, 104, 105, 106, 107, 108, 109, 110, 111, 112, 113, 114, 115, 116, 117, 118, 13, 119, 120, 121, 122, 123, 136, 137, 138, 139, 140, 141, 142, 143, 144, 145, 146, 147, 148, 149, 150, 151, 152, 153, 154, 155, 156, 157, 158, 159, 160, 161, 162] (by decide +kernel) (by decide +kernel)
set_option maxRecDepth 20000 in
theorem gL_loses_X7_lose : GoodIn wsL_loses (wsV RL 88 RX7 yX7_lose wsX7_lose) := goodIn_app (goodIn_of _ (by decide +kernel)) ggL_loses_X7_lose
set_option maxRecDepth 20000 in
theorem ggL_loses_L_kept : GoodIn wsL_loses wsL_kept := goodIn_r _ [126, 6, 7, 3, 8, 9, 1, 2, 4, 5] (by decide +kernel) (by decide +kernel)
set_option maxRecDepth 20000 in
theorem gL_loses_L_kept : GoodIn wsL_loses (va_wsS RL 64 yL_kept wsL_kept) := goodIn_app (goodIn_of _ (by decide +kernel)) ggL_loses_L_kept
set_option maxRecDepth 20000 in
theorem ggL_loses_L_renames : GoodIn wsL_loses wsL_renames := goodIn_r _ [129, 130, 131, 3, 132, 6, 7, 8, 9, 133, 134, 135] (by decide +kernel) (by decide +kernel)
set_option maxRecDepth 20000 in
theorem gL_loses_L_renames : GoodIn wsL_loses (va_wsS RL 56 yL_renames wsL_renames) := goodIn_app (goodIn_of _ (by decide +kernel)) ggL_loses_L_renames
theorem dL_loses_0 : decode cL_loses 0 = .ok (.iconst (-1), 1) := by decide +kernel
theorem dL_loses_1 : decode cL_loses 1 = .ok (.istore 7, 2) := by decide +kernel
theorem dL_loses_3 : decode cL_loses 3 = .ok (.bipush 63, 2) := by decide +kernel
theorem dL_loses_5 : decode cL_loses 5 = .ok (.istore 8, 2) := by decide +kernel
theorem dL_loses_7 : decode cL_loses 7 = .ok (.iload 8, 2) := by decide +kernel
theorem dL_loses_9 : decode cL_loses 9 = .ok (.ifCond .lt 75, 3) := by decide +kernel
theorem dL_loses_12 : decode cL_loses 12 = .ok (.aload_n 1, 1) := by decide +kernel
theorem dL_loses_13 : decode cL_loses 13 = .ok (.iconst 3, 1) := by decide +kernel
theorem dL_loses_14 : decode cL_loses 14 = .ok (.iaload, 1) := by decide +kernel
theorem dL_loses_15 : decode cL_loses 15 = .ok (.iconst 1, 1) := by decide +kernel
theorem dL_loses_16 : decode cL_loses 16 = .ok (.if_icmp .ne 10, 3) := by decide +kernel
theorem dL_loses_19 : decode cL_loses 19 = .ok (.aload_n 3, 1) := by decide +kernel
theorem dL_loses_20 : decode cL_loses 20 = .ok (.iload 8, 2) := by decide +kernel
theorem dL_loses_22 : decode cL_loses 22 = .ok (.laload, 1) := by decide +kernel
theorem dL_loses_23 : decode cL_loses 23 = .ok (.goto 8, 3) := by decide +kernel
theorem dL_loses_26 : decode cL_loses 26 = .ok (.aload 4, 2) := by decide +kernel
theorem dL_loses_28 : decode cL_loses 28 = .ok (.iload 8, 2) := by decide +kernel
theorem dL_loses_30 : decode cL_loses 30 = .ok (.laload, 1) := by decide +kernel
theorem dL_loses_31 : decode cL_loses 31 = .ok (.lstore 9, 2) := by decide +kernel
theorem dL_loses_33 : decode cL_loses 33 = .ok (.aload_n 1, 1) := by decide +kernel
theorem dL_loses_34 : decode cL_loses 34 = .ok (.iconst 2, 1) := by decide +kernel
theorem dL_loses_35 : decode cL_loses 35 = .ok (.iaload, 1) := by decide +kernel
theorem dL_loses_36 : decode cL_loses 36 = .ok (.iconst 1, 1) := by decide +kernel
theorem dL_loses_37 : decode cL_loses 37 = .ok (.if_icmp .ne 37, 3) := by decide +kernel
theorem dL_loses_40 : decode cL_loses 40 = .ok (.lload 9, 2) := by decide +kernel
theorem dL_loses_42 : decode cL_loses 42 = .ok (.invokestatic 21, 3) := by decide +kernel
theorem dL_loses_45 : decode cL_loses 45 = .ok (.iload 6, 2) := by decide +kernel
theorem dL_loses_47 : decode cL_loses 47 = .ok (.if_icmp .ne 27, 3) := by decide +kernel
theorem dL_loses_50 : decode cL_loses 50 = .ok (.lload 9, 2) := by decide +kernel
theorem dL_loses_52 : decode cL_loses 52 = .ok (.iconst 2, 1) := by decide +kernel
theorem dL_loses_53 : decode cL_loses 53 = .ok (.invokestatic 15, 3) := by decide +kernel
theorem dL_loses_56 : decode cL_loses 56 = .ok (.ifCond .lt 18, 3) := by decide +kernel
theorem dL_loses_59 : decode cL_loses 59 = .ok (.bipush 100, 2) := by decide +kernel
theorem dL_loses_61 : decode cL_loses 61 = .ok (.bipush 100, 2) := by decide +kernel
theorem dL_loses_63 : decode cL_loses 63 = .ok (.aload_n 1, 1) := by decide +kernel
theorem dL_loses_64 : decode cL_loses 64 = .ok (.iconst 3, 1) := by decide +kernel
theorem dL_loses_65 : decode cL_loses 65 = .ok (.iaload, 1) := by decide +kernel
theorem dL_loses_66 : decode cL_loses 66 = .ok (.imul, 1) := by decide +kernel
theorem dL_loses_67 : decode cL_loses 67 = .ok (.isub, 1) := by decide +kernel
theorem dL_loses_68 : decode cL_loses 68 = .ok (.iload 8, 2) := by decide +kernel
theorem dL_loses_70 : decode cL_loses 70 = .ok (.iadd, 1) := by decide +kernel
theorem dL_loses_71 : decode cL_loses 71 = .ok (.goto 5, 3) := by decide +kernel
theorem dL_loses_74 : decode cL_loses 74 = .ok (.iload 7, 2) := by decide +kernel
theorem dL_loses_76 : decode cL_loses 76 = .ok (.istore 7, 2) := by decide +kernel
theorem dL_loses_78 : decode cL_loses 78 = .ok (.iinc 8 (-1), 3) := by decide +kernel
theorem dL_loses_81 : decode cL_loses 81 = .ok (.goto (-74), 3) := by decide +kernel
theorem dL_loses_84 : decode cL_loses 84 = .ok (.iload 7, 2) := by decide +kernel
theorem dL_loses_86 : decode cL_loses 86 = .ok (.ifCond .ge 20, 3) := by decide +kernel
theorem dL_loses_89 : decode cL_loses 89 = .ok (.aload_n 0, 1) := by decide +kernel
theorem dL_loses_90 : decode cL_loses 90 = .ok (.iload 6, 2) := by decide +kernel
theorem dL_loses_92 : decode cL_loses 92 = .ok (.invokevirtual 88, 3) := by decide +kernel
theorem dL_loses_95 : decode cL_loses 95 = .ok (.bipush (-2), 2) := by decide +kernel
theorem dL_loses_97 : decode cL_loses 97 = .ok (.if_icmp .ne 7, 3) := by decide +kernel
theorem dL_loses_100 : decode cL_loses 100 = .ok (.iconst 1, 1) := by decide +kernel
theorem dL_loses_101 : decode cL_loses 101 = .ok (.goto 4, 3) := by decide +kernel
theorem dL_loses_104 : decode cL_loses 104 = .ok (.iconst 0, 1) := by decide +kernel
theorem dL_loses_105 : decode cL_loses 105 = .ok (.ireturn, 1) := by decide +kernel
theorem dL_loses_106 : decode cL_loses 106 = .ok (.bipush 64, 2) := by decide +kernel
theorem dL_loses_108 : decode cL_loses 108 = .ok (.aload_n 1, 1) := by decide +kernel
theorem dL_loses_109 : decode cL_loses 109 = .ok (.iconst 4, 1) := by decide +kernel
theorem dL_loses_110 : decode cL_loses 110 = .ok (.aload_n 1, 1) := by decide +kernel
theorem dL_loses_111 : decode cL_loses 111 = .ok (.iconst 3, 1) := by decide +kernel
theorem dL_loses_112 : decode cL_loses 112 = .ok (.iaload, 1) := by decide +kernel
theorem dL_loses_113 : decode cL_loses 113 = .ok (.iadd, 1) := by decide +kernel
theorem dL_loses_114 : decode cL_loses 114 = .ok (.iaload, 1) := by decide +kernel
theorem dL_loses_115 : decode cL_loses 115 = .ok (.isub, 1) := by decide +kernel
theorem dL_loses_116 : decode cL_loses 116 = .ok (.aload_n 1, 1) := by decide +kernel
theorem dL_loses_117 : decode cL_loses 117 = .ok (.aload_n 2, 1) := by decide +kernel
theorem dL_loses_118 : decode cL_loses 118 = .ok (.aload_n 3, 1) := by decide +kernel
theorem dL_loses_119 : decode cL_loses 119 = .ok (.aload 4, 2) := by decide +kernel
theorem dL_loses_121 : decode cL_loses 121 = .ok (.invokestatic 64, 3) := by decide +kernel
theorem dL_loses_124 : decode cL_loses 124 = .ok (.aload_n 2, 1) := by decide +kernel
theorem dL_loses_125 : decode cL_loses 125 = .ok (.iload 6, 2) := by decide +kernel
theorem dL_loses_127 : decode cL_loses 127 = .ok (.iaload, 1) := by decide +kernel
theorem dL_loses_128 : decode cL_loses 128 = .ok (.iadd, 1) := by decide +kernel
theorem dL_loses_129 : decode cL_loses 129 = .ok (.if_icmp .ge 20, 3) := by decide +kernel
theorem dL_loses_132 : decode cL_loses 132 = .ok (.aload_n 0, 1) := by decide +kernel
theorem dL_loses_133 : decode cL_loses 133 = .ok (.iload 6, 2) := by decide +kernel
theorem dL_loses_135 : decode cL_loses 135 = .ok (.invokevirtual 88, 3) := by decide +kernel
theorem dL_loses_138 : decode cL_loses 138 = .ok (.bipush (-3), 2) := by decide +kernel
theorem dL_loses_140 : decode cL_loses 140 = .ok (.if_icmp .ne 7, 3) := by decide +kernel
theorem dL_loses_143 : decode cL_loses 143 = .ok (.iconst 1, 1) := by decide +kernel
theorem dL_loses_144 : decode cL_loses 144 = .ok (.goto 4, 3) := by decide +kernel
theorem dL_loses_147 : decode cL_loses 147 = .ok (.iconst 0, 1) := by decide +kernel
theorem dL_loses_148 : decode cL_loses 148 = .ok (.ireturn, 1) := by decide +kernel
theorem dL_loses_149 : decode cL_loses 149 = .ok (.aload_n 3, 1) := by decide +kernel
theorem dL_loses_150 : decode cL_loses 150 = .ok (.aload 4, 2) := by decide +kernel
theorem dL_loses_152 : decode cL_loses 152 = .ok (.aload 5, 2) := by decide +kernel
theorem dL_loses_154 : decode cL_loses 154 = .ok (.iload 7, 2) := by decide +kernel
theorem dL_loses_156 : decode cL_loses 156 = .ok (.iconst 2, 1) := by decide +kernel
theorem dL_loses_157 : decode cL_loses 157 = .ok (.bipush (-9), 2) := by decide +kernel
theorem dL_loses_159 : decode cL_loses 159 = .ok (.invokestatic 56, 3) := by decide +kernel
theorem dL_loses_162 : decode cL_loses 162 = .ok (.aload_n 1, 1) := by decide +kernel
theorem dL_loses_163 : decode cL_loses 163 = .ok (.bipush 6, 2) := by decide +kernel
theorem dL_loses_165 : decode cL_loses 165 = .ok (.dup2, 1) := by decide +kernel
theorem dL_loses_166 : decode cL_loses 166 = .ok (.iaload, 1) := by decide +kernel
theorem dL_loses_167 : decode cL_loses 167 = .ok (.iconst 1, 1) := by decide +kernel
theorem dL_loses_168 : decode cL_loses 168 = .ok (.iadd, 1) := by decide +kernel
theorem dL_loses_169 : decode cL_loses 169 = .ok (.iastore, 1) := by decide +kernel
theorem dL_loses_170 : decode cL_loses 170 = .ok (.aload_n 0, 1) := by decide +kernel
theorem dL_loses_171 : decode cL_loses 171 = .ok (.iload 6, 2) := by decide +kernel
theorem dL_loses_173 : decode cL_loses 173 = .ok (.invokevirtual 88, 3) := by decide +kernel
theorem dL_loses_176 : decode cL_loses 176 = .ok (.iload 7, 2) := by decide +kernel
theorem dL_loses_178 : decode cL_loses 178 = .ok (.if_icmp .ne 7, 3) := by decide +kernel
theorem dL_loses_181 : decode cL_loses 181 = .ok (.iconst 1, 1) := by decide +kernel
theorem dL_loses_182 : decode cL_loses 182 = .ok (.goto 4, 3) := by decide +kernel
theorem dL_loses_185 : decode cL_loses 185 = .ok (.iconst 0, 1) := by decide +kernel
theorem dL_loses_186 : decode cL_loses 186 = .ok (.ireturn, 1) := by decide +kernel
set_option maxRecDepth 20000 in
theorem ggL_acts_L_low : GoodIn wsL_acts wsL_low := goodIn_r _ [5, 6] (by decide +kernel) (by decide +kernel)
set_option maxRecDepth 20000 in
theorem gL_acts_L_low : GoodIn wsL_acts (va_wsS RL 92 yL_low wsL_low) := goodIn_app (goodIn_of _ (by decide +kernel)) ggL_acts_L_low
set_option maxRecDepth 20000 in
theorem ggL_acts_L_makes : GoodIn wsL_acts wsL_makes := goodIn_r _ [9, 10, 11, 4, 12, 13, 14, 15, 16, 17, 18, 19, 20, 21, 22, 23, 24, 25, 26, 27, 28, 29, 30, 31, 32, 33, 34, 35, 36, 37, 38, 39, 40, 41, 42, 43, 44, 45, 46, 47, 48, 49, 50, 51, 52, 53, 54, 55, 56, 57, 58, 59, 60, 61, 62, 63, 64, 65, 66, 67, 68, 69, 70, 71, 72, 73, 74, 75, 76, 77, 78, 79, 80, 81, 82, 83, 84, 85, 86, 87, 88, 89, 90, 91, 92, 93, 94, 95, 96, 97, 98, 99, 100, 101, 102, 103, 104, 105, 106, 107, 108, 109, 110, 111, 112, 113, 114, 115, 116, 117, 118, 119, 120, 121, 122, 123, 124, 125, 126, 127, 128, 129, 130, 131, 132, 133, 134, 135, 136, 137, 138, 139, 140, 141, 142, 143, 144, 145, 146, 147, 148, 149, 150, 342, 343, 344, 345, 346, 347, 348, 349, 350, 351, 352, 353, 354, 355, 356, 357, 358, 359, 360, 361, 362, 363, 364, 365, 366, 367, 368] (by decide +kernel) (by decide +kernel)
set_option maxRecDepth 20000 in
theorem gL_acts_L_makes : GoodIn wsL_acts (va_wsS RL 95 yL_makes wsL_makes) := goodIn_app (goodIn_of _ (by decide +kernel)) ggL_acts_L_makes
set_option maxRecDepth 20000 in
theorem ggL_acts_L_names : GoodIn wsL_acts wsL_names := goodIn_r _ [153, 154, 155, 156, 27, 157, 29, 30, 31, 32, 33, 34, 35, 36, 37, 38, 39, 40, 41, 42, 43, 44, 45, 46, 47, 48, 49, 50, 51, 52, 53, 54, 55, 56, 57, 58, 59, 60, 61, 62, 63, 64, 65, 66, 67, 68, 69, 70, 71, 72, 73, 74, 75, 76, 77, 78, 79, 80, 81, 82, 83, 84, 85, 158, 159, 160, 161, 90, 91, 162, 163, 164, 165, 166, 167, 168, 169, 170, 171, 116, 117, 118, 119, 120, 121, 122, 123, 100, 101, 102, 103, 124, 97, 98, 99, 172, 173, 174, 175, 108, 109, 110, 111, 176, 177, 178, 179, 180, 181, 182, 183, 129, 130, 131, 132, 184, 185, 186, 187, 133, 134, 135, 136, 137, 138, 139, 140, 188, 189, 190, 191, 192, 193, 194, 195, 196, 197, 4, 198, 199, 200, 201, 202, 203, 204, 205, 148, 149, 150, 20, 21, 22, 23, 13, 14, 15, 16, 145, 146, 147, 141, 142, 143, 144, 206, 207, 208, 342, 343, 344, 345, 346, 347, 348, 349, 350, 351, 352, 353, 354, 355, 356, 357, 358, 359, 360, 361, 362, 363, 364, 365, 366, 367, 368] (by decide +kernel) (by decide +kernel)
set_option maxRecDepth 20000 in
theorem gL_acts_L_names : GoodIn wsL_acts (va_wsS RL 99 yL_names wsL_names) := goodIn_app (goodIn_of _ (by decide +kernel)) ggL_acts_L_names
set_option maxRecDepth 20000 in
theorem ggL_acts_X7_drop : GoodIn wsL_acts wsX7_drop := goodIn_r _ [212, 29, 30, 31, 32, 33, 34, 35, 36, 37, 38, 39, 40, 41, 42, 43, 44, 45, 46, 47, 48, 49, 50, 51, 52, 53, 54, 55, 56, 57, 58, 59, 60, 61, 62, 63, 64, 65, 66, 67, 68, 69, 70, 71, 72, 73, 74, 75, 76, 77, 78, 79, 80, 81, 82, 83, 84, 85, 213, 214, 215, 216, 90, 27, 91, 133, 134, 135, 136, 137, 138, 139, 140, 342, 343, 344, 345, 346, 347, 348, 349, 350, 351, 352, 353, 354, 355, 356, 357, 358, 359, 360, 361, 362, 363, 364, 365, 366, 367, 368] (by decide +kernel) (by decide +kernel)
set_option maxRecDepth 20000 in
theorem gL_acts_X7_drop : GoodIn wsL_acts (wsV RL 103 RX7 yX7_drop wsX7_drop) := goodIn_app (goodIn_of _ (by decide +kernel)) ggL_acts_X7_drop
set_option maxRecDepth 20000 in
theorem ggL_acts_X7_begin : GoodIn wsL_acts wsX7_begin := goodIn_r _ [220, 29, 30, 31, 32, 33, 34, 35, 36, 37, 38, 39, 40, 41, 42, 43, 44, 45, 46, 47, 48, 49, 50, 51, 52, 53, 54, 55, 56, 57, 58, 59, 60, 61, 62, 63, 64, 65, 66, 67, 68, 69, 70, 71, 72, 73, 74, 75, 76, 77, 78, 79, 80, 81, 82, 83, 84, 85, 221, 222, 223, 224, 225, 226, 227, 228, 164, 165, 166, 167, 168, 169, 170, 171, 116, 117, 118, 119, 120, 121, 122, 123, 100, 101, 102, 103, 124, 97, 98, 99, 172, 173, 174, 175, 108, 109, 110, 111, 176, 177, 178, 179, 180, 181, 182, 183, 129, 130, 131, 132, 229, 230, 231, 232, 233, 234, 235, 236, 237, 238, 239, 240, 241, 242, 243, 244, 245, 246, 247, 248, 133, 134, 135, 27, 136, 137, 138, 139, 140, 342, 343, 344, 345, 346, 347, 348, 349, 350, 351, 352, 353, 354, 355, 356, 357, 358, 359, 360, 361, 362, 363, 364, 365, 366, 367, 368] (by decide +kernel) (by decide +kernel)
set_option maxRecDepth 20000 in
theorem gL_acts_X7_begin : GoodIn wsL_acts (wsV RL 106 RX7 yX7_begin wsX7_begin) := goodIn_app (goodIn_of _ (by decide +kernel)) ggL_acts_X7_begin
set_option maxRecDepth 20000 in
theorem ggL_acts_L_begins : GoodIn wsL_acts wsL_begins := goodIn_r _ [251, 196, 197, 4, 198, 199, 200, 201, 202, 203, 204, 205, 148, 149, 150, 20, 21, 22, 23, 13, 14, 15, 16, 145, 146, 147, 141, 142, 143, 144, 252, 253, 254, 255] (by decide +kernel) (by decide +kernel)
set_option maxRecDepth 20000 in
theorem gL_acts_L_begins : GoodIn wsL_acts (va_wsS RL 110 yL_begins wsL_begins) := goodIn_app (goodIn_of _ (by decide +kernel)) ggL_acts_L_begins
set_option maxRecDepth 20000 in
theorem ggL_acts_X7_carry : GoodIn wsL_acts wsX7_carry := goodIn_r _ [259, 29, 30, 31, 32, 33, 34, 35, 36, 37, 38, 39, 40, 41, 42, 43, 44, 45, 46, 47, 48, 49, 50, 51, 52, 53, 54, 55, 56, 57, 58, 59, 60, 61, 62, 63, 64, 65, 66, 67, 68, 69, 70, 71, 72, 73, 74, 75, 76, 77, 78, 79, 80, 81, 82, 83, 84, 85, 260, 261, 262, 263, 264, 265, 266, 267, 268, 269, 270, 271, 164, 165, 166, 167, 168, 169, 170, 171, 116, 117, 118, 119, 120, 121, 122, 123, 100, 101, 102, 103, 124, 97, 98, 99, 172, 173, 174, 175, 108, 109, 110, 111, 176, 177, 178, 179, 180, 181, 182, 183, 129, 130, 131, 132, 229, 230, 231, 232, 233, 234, 235, 236, 237, 238, 239, 240, 241, 242, 243, 244, 245, 246, 247, 248, 133, 134, 135, 27, 136, 137, 138, 139, 140, 342, 343, 344, 345, 346, 347, 348, 349, 350, 351, 352, 353, 354, 355, 356, 357, 358, 359, 360, 361, 362, 363, 364, 365, 366, 367, 368] (by decide +kernel) (by decide +kernel)
set_option maxRecDepth 20000 in
theorem gL_acts_X7_carry : GoodIn wsL_acts (wsV RL 114 RX7 yX7_carry wsX7_carry) := goodIn_app (goodIn_of _ (by decide +kernel)) ggL_acts_X7_carry
set_option maxRecDepth 20000 in
theorem ggL_acts_L_step : GoodIn wsL_acts wsL_step := goodIn_r _ [274, 200, 201, 4, 202, 20, 21, 22, 23, 196, 197, 198, 199, 203, 204, 205, 148, 149, 150, 13, 14, 15, 16, 145, 146, 147, 141, 142, 143, 144, 206, 207, 208, 252, 253, 254, 255] (by decide +kernel) (by decide +kernel)
set_option maxRecDepth 20000 in
theorem gL_acts_L_step : GoodIn wsL_acts (va_wsS RL 117 yL_step wsL_step) := goodIn_app (goodIn_of _ (by decide +kernel)) ggL_acts_L_step
set_option maxRecDepth 20000 in
theorem ggL_acts_X7_setHeavy : GoodIn wsL_acts wsX7_setHeavy := goodIn_r _ [278, 29, 30, 31, 32, 33, 34, 35, 36, 37, 38, 39, 40, 41, 42, 43, 44, 45, 46, 47, 48, 49, 50, 51, 52, 53, 54, 55, 56, 57, 58, 59, 60, 61, 62, 63, 64, 65, 66, 67, 68, 69, 70, 71, 72, 73, 74, 75, 76, 77, 78, 79, 80, 81, 82, 83, 84, 85, 279, 280, 281, 282, 133, 134, 135, 27, 136, 137, 138, 139, 140, 342, 343, 344, 345, 346, 347, 348, 349, 350, 351, 352, 353, 354, 355, 356, 357, 358, 359, 360, 361, 362, 363, 364, 365, 366, 367, 368] (by decide +kernel) (by decide +kernel)
set_option maxRecDepth 20000 in
theorem gL_acts_X7_setHeavy : GoodIn wsL_acts (wsV RL 121 RX7 yX7_setHeavy wsX7_setHeavy) := goodIn_app (goodIn_of _ (by decide +kernel)) ggL_acts_X7_setHeavy
set_option maxRecDepth 20000 in
theorem ggL_acts_X7_lose : GoodIn wsL_acts wsX7_lose := goodIn_r _ [286, 29, 30, 31, 32, 33, 34, 35, 36, 37, 38, 39, 40, 41, 42, 43, 44, 45, 46, 47, 48, 49, 50, 51, 52, 53, 54, 55, 56, 57, 58, 59, 60, 61, 62, 63, 64, 65, 66, 67, 68, 69, 70, 71, 72, 73, 74, 75, 76, 77, 78, 79, 80, 81, 82, 83, 84, 85, 287, 288, 289, 290, 291, 292, 293, 294, 295, 296, 297, 298, 299, 300, 301, 302, 100, 101, 102, 103, 120, 121, 122, 123, 108, 109, 110, 111, 112, 113, 114, 115, 116, 117, 118, 119, 124, 97, 98, 99, 303, 304, 305, 306, 133, 134, 135, 27, 136, 137, 138, 139, 140, 342, 343, 344, 345, 346, 347, 348, 349, 350, 351, 352, 353, 354, 355, 356, 357, 358, 359, 360, 361, 362, 363, 364, 365, 366, 367, 368] (by decide +kernel) (by decide +kernel)
set_option maxRecDepth 20000 in
theorem gL_acts_X7_lose : GoodIn wsL_acts (wsV RL 88 RX7 yX7_lose wsX7_lose) := goodIn_app (goodIn_of _ (by decide +kernel)) ggL_acts_X7_lose
set_option maxRecDepth 20000 in
theorem ggL_acts_X7_mend : GoodIn wsL_acts wsX7_mend := goodIn_r _ [310, 29, 30, 31, 32, 33, 34, 35, 36, 37, 38, 39, 40, 41, 42, 43, 44, 45, 46, 47, 48, 49, 50, 51, 52, 53, 54, 55, 56, 57, 58, 59, 60, 61, 62, 63, 64, 65, 66, 67, 68, 69, 70, 71, 72, 73, 74, 75, 76, 77, 78, 79, 80, 81, 82, 83, 84, 85, 311, 312, 313, 314, 291, 292, 293, 294, 315, 316, 317, 318, 299, 300, 301, 302, 100, 101, 102, 103, 168, 169, 170, 171, 116, 117, 118, 119, 319, 320, 321, 322, 323, 324, 242, 243, 244, 325, 326, 327, 328, 329, 330, 331, 332, 133, 134, 135, 27, 136, 137, 138, 139, 140, 342, 343, 344, 345, 346, 347, 348, 349, 350, 351, 352, 353, 354, 355, 356, 357, 358, 359, 360, 361, 362, 363, 364, 365, 366, 367, 368] (by decide +kernel) (by decide +kernel)
set_option maxRecDepth 20000 in
theorem gL_acts_X7_mend : GoodIn wsL_acts (wsV RL 85 RX7 yX7_mend wsX7_mend) := goodIn_app (goodIn_of _ (by decide +kernel)) ggL_acts_X7_mend
set_option maxRecDepth 20000 in
theorem ggL_acts_L_loses : GoodIn wsL_acts wsL_loses := goodIn_r _ [335, 13, 14, 4, 15, 16, 20, 21, 22, 23, 283, 284, 285, 27, 286, 29, 30, 31, 32, 33, 34, 35, 36, 37, 38, 39, 40, 41, 42, 43, 44, 45, 46, 47, 48, 49, 50, 51, 52, 53, 54, 55, 56, 57, 58, 59, 60, 61, 62, 63, 64, 65, 66, 67, 68, 69, 70, 71, 72, 73, 74, 75, 76, 77, 78, 79, 80, 81, 82, 83, 84, 85, 287, 288, 289, 290, 291, 292, 293, 294, 295, 296, 297, 298, 299, 300, 301, 302, 100, 101, 102, 103, 120, 121, 122, 123, 108, 109, 110, 111, 112, 113, 114, 115, 116, 117, 118, 119, 124, 97, 98, 99, 303, 304, 305, 306, 133, 134, 135, 136, 137, 138, 139, 140, 17, 18, 19, 206, 207, 208, 200, 201, 202, 148, 149, 150, 342, 343, 344, 345, 346, 347, 348, 349, 350, 351, 352, 353, 354, 355, 356, 357, 358, 359, 360, 361, 362, 363, 364, 365, 366, 367, 368] (by decide +kernel) (by decide +kernel)
set_option maxRecDepth 20000 in
theorem gL_acts_L_loses : GoodIn wsL_acts (va_wsS RL 124 yL_loses wsL_loses) := goodIn_app (goodIn_of _ (by decide +kernel)) ggL_acts_L_loses
set_option maxRecDepth 20000 in
theorem ggL_acts_L_mends : GoodIn wsL_acts wsL_mends := goodIn_r _ [338, 339, 340, 4, 341, 200, 201, 202, 13, 14, 15, 16, 307, 308, 309, 27, 310, 29, 30, 31, 32, 33, 34, 35, 36, 37, 38, 39, 40, 41, 42, 43, 44, 45, 46, 47, 48, 49, 50, 51, 52, 53, 54, 55, 56, 57, 58, 59, 60, 61, 62, 63, 64, 65, 66, 67, 68, 69, 70, 71, 72, 73, 74, 75, 76, 77, 78, 79, 80, 81, 82, 83, 84, 85, 311, 312, 313, 314, 291, 292, 293, 294, 315, 316, 317, 318, 299, 300, 301, 302, 100, 101, 102, 103, 168, 169, 170, 171, 116, 117, 118, 119, 319, 320, 321, 322, 323, 324, 242, 243, 244, 325, 326, 327, 328, 329, 330, 331, 332, 133, 134, 135, 136, 137, 138, 139, 140, 20, 21, 22, 23, 206, 207, 208, 148, 149, 150, 342, 343, 344, 345, 346, 347, 348, 349, 350, 351, 352, 353, 354, 355, 356, 357, 358, 359, 360, 361, 362, 363, 364, 365, 366, 367, 368] (by decide +kernel) (by decide +kernel)
set_option maxRecDepth 20000 in
theorem gL_acts_L_mends : GoodIn wsL_acts (va_wsS RL 128 yL_mends wsL_mends) := goodIn_app (goodIn_of _ (by decide +kernel)) ggL_acts_L_mends
theorem dL_acts_0 : decode cL_acts 0 = .ok (.iload 8, 2) := by decide +kernel
theorem dL_acts_2 : decode cL_acts 2 = .ok (.iconst 5, 1) := by decide +kernel
theorem dL_acts_3 : decode cL_acts 3 = .ok (.ishr, 1) := by decide +kernel
theorem dL_acts_4 : decode cL_acts 4 = .ok (.ldc 91, 2) := by decide +kernel
theorem dL_acts_6 : decode cL_acts 6 = .ok (.invokestatic 92, 3) := by decide +kernel
theorem dL_acts_9 : decode cL_acts 9 = .ok (.istore 9, 2) := by decide +kernel
theorem dL_acts_11 : decode cL_acts 11 = .ok (.iload 8, 2) := by decide +kernel
theorem dL_acts_13 : decode cL_acts 13 = .ok (.bipush 27, 2) := by decide +kernel
theorem dL_acts_15 : decode cL_acts 15 = .ok (.invokestatic 92, 3) := by decide +kernel
theorem dL_acts_18 : decode cL_acts 18 = .ok (.istore 10, 2) := by decide +kernel
theorem dL_acts_20 : decode cL_acts 20 = .ok (.iload 10, 2) := by decide +kernel
theorem dL_acts_22 : decode cL_acts 22 = .ok (.bipush 8, 2) := by decide +kernel
theorem dL_acts_24 : decode cL_acts 24 = .ok (.if_icmp .ge 19, 3) := by decide +kernel
theorem dL_acts_27 : decode cL_acts 27 = .ok (.aload_n 0, 1) := by decide +kernel
theorem dL_acts_28 : decode cL_acts 28 = .ok (.aload_n 1, 1) := by decide +kernel
theorem dL_acts_29 : decode cL_acts 29 = .ok (.aload_n 2, 1) := by decide +kernel
theorem dL_acts_30 : decode cL_acts 30 = .ok (.aload_n 3, 1) := by decide +kernel
theorem dL_acts_31 : decode cL_acts 31 = .ok (.aload 5, 2) := by decide +kernel
theorem dL_acts_33 : decode cL_acts 33 = .ok (.aload 6, 2) := by decide +kernel
theorem dL_acts_35 : decode cL_acts 35 = .ok (.aload 7, 2) := by decide +kernel
theorem dL_acts_37 : decode cL_acts 37 = .ok (.iload 9, 2) := by decide +kernel
theorem dL_acts_39 : decode cL_acts 39 = .ok (.invokestatic 95, 3) := by decide +kernel
theorem dL_acts_42 : decode cL_acts 42 = .ok (.ireturn, 1) := by decide +kernel
theorem dL_acts_43 : decode cL_acts 43 = .ok (.iload 10, 2) := by decide +kernel
theorem dL_acts_45 : decode cL_acts 45 = .ok (.bipush 16, 2) := by decide +kernel
theorem dL_acts_47 : decode cL_acts 47 = .ok (.if_icmp .ge 33, 3) := by decide +kernel
theorem dL_acts_50 : decode cL_acts 50 = .ok (.aload_n 0, 1) := by decide +kernel
theorem dL_acts_51 : decode cL_acts 51 = .ok (.aload_n 1, 1) := by decide +kernel
theorem dL_acts_52 : decode cL_acts 52 = .ok (.aload_n 2, 1) := by decide +kernel
theorem dL_acts_53 : decode cL_acts 53 = .ok (.aload_n 3, 1) := by decide +kernel
theorem dL_acts_54 : decode cL_acts 54 = .ok (.aload 4, 2) := by decide +kernel
theorem dL_acts_56 : decode cL_acts 56 = .ok (.aload 5, 2) := by decide +kernel
theorem dL_acts_58 : decode cL_acts 58 = .ok (.aload 6, 2) := by decide +kernel
theorem dL_acts_60 : decode cL_acts 60 = .ok (.aload 7, 2) := by decide +kernel
theorem dL_acts_62 : decode cL_acts 62 = .ok (.iload 9, 2) := by decide +kernel
theorem dL_acts_64 : decode cL_acts 64 = .ok (.iload 10, 2) := by decide +kernel
theorem dL_acts_66 : decode cL_acts 66 = .ok (.bipush 13, 2) := by decide +kernel
theorem dL_acts_68 : decode cL_acts 68 = .ok (.if_icmp .ge 7, 3) := by decide +kernel
theorem dL_acts_71 : decode cL_acts 71 = .ok (.iconst 1, 1) := by decide +kernel
theorem dL_acts_72 : decode cL_acts 72 = .ok (.goto 4, 3) := by decide +kernel
theorem dL_acts_75 : decode cL_acts 75 = .ok (.iconst 0, 1) := by decide +kernel
theorem dL_acts_76 : decode cL_acts 76 = .ok (.invokestatic 99, 3) := by decide +kernel
theorem dL_acts_79 : decode cL_acts 79 = .ok (.ireturn, 1) := by decide +kernel
theorem dL_acts_80 : decode cL_acts 80 = .ok (.iload 10, 2) := by decide +kernel
theorem dL_acts_82 : decode cL_acts 82 = .ok (.bipush 18, 2) := by decide +kernel
theorem dL_acts_84 : decode cL_acts 84 = .ok (.if_icmp .ge 52, 3) := by decide +kernel
theorem dL_acts_87 : decode cL_acts 87 = .ok (.aload_n 2, 1) := by decide +kernel
theorem dL_acts_88 : decode cL_acts 88 = .ok (.iload 9, 2) := by decide +kernel
theorem dL_acts_90 : decode cL_acts 90 = .ok (.bipush 8, 2) := by decide +kernel
theorem dL_acts_92 : decode cL_acts 92 = .ok (.irem, 1) := by decide +kernel
theorem dL_acts_93 : decode cL_acts 93 = .ok (.iaload, 1) := by decide +kernel
theorem dL_acts_94 : decode cL_acts 94 = .ok (.istore 11, 2) := by decide +kernel
theorem dL_acts_96 : decode cL_acts 96 = .ok (.aload_n 2, 1) := by decide +kernel
theorem dL_acts_97 : decode cL_acts 97 = .ok (.iload 9, 2) := by decide +kernel
theorem dL_acts_99 : decode cL_acts 99 = .ok (.bipush 8, 2) := by decide +kernel
theorem dL_acts_101 : decode cL_acts 101 = .ok (.irem, 1) := by decide +kernel
theorem dL_acts_102 : decode cL_acts 102 = .ok (.bipush (-9), 2) := by decide +kernel
theorem dL_acts_104 : decode cL_acts 104 = .ok (.iastore, 1) := by decide +kernel
theorem dL_acts_105 : decode cL_acts 105 = .ok (.aload_n 0, 1) := by decide +kernel
theorem dL_acts_106 : decode cL_acts 106 = .ok (.iload 9, 2) := by decide +kernel
theorem dL_acts_108 : decode cL_acts 108 = .ok (.bipush 8, 2) := by decide +kernel
theorem dL_acts_110 : decode cL_acts 110 = .ok (.irem, 1) := by decide +kernel
theorem dL_acts_111 : decode cL_acts 111 = .ok (.invokevirtual 103, 3) := by decide +kernel
theorem dL_acts_114 : decode cL_acts 114 = .ok (.iload 11, 2) := by decide +kernel
theorem dL_acts_116 : decode cL_acts 116 = .ok (.ifCond .ge 9, 3) := by decide +kernel
theorem dL_acts_119 : decode cL_acts 119 = .ok (.sipush 300, 3) := by decide +kernel
theorem dL_acts_122 : decode cL_acts 122 = .ok (.goto 5, 3) := by decide +kernel
theorem dL_acts_125 : decode cL_acts 125 = .ok (.iload 11, 2) := by decide +kernel
theorem dL_acts_127 : decode cL_acts 127 = .ok (.if_icmp .ne 7, 3) := by decide +kernel
theorem dL_acts_130 : decode cL_acts 130 = .ok (.iconst 1, 1) := by decide +kernel
theorem dL_acts_131 : decode cL_acts 131 = .ok (.goto 4, 3) := by decide +kernel
theorem dL_acts_134 : decode cL_acts 134 = .ok (.iconst 0, 1) := by decide +kernel
theorem dL_acts_135 : decode cL_acts 135 = .ok (.ireturn, 1) := by decide +kernel
theorem dL_acts_136 : decode cL_acts 136 = .ok (.iload 10, 2) := by decide +kernel
theorem dL_acts_138 : decode cL_acts 138 = .ok (.bipush 20, 2) := by decide +kernel
theorem dL_acts_140 : decode cL_acts 140 = .ok (.if_icmp .ge 56, 3) := by decide +kernel
theorem dL_acts_143 : decode cL_acts 143 = .ok (.aload_n 1, 1) := by decide +kernel
theorem dL_acts_144 : decode cL_acts 144 = .ok (.iconst 2, 1) := by decide +kernel
theorem dL_acts_145 : decode cL_acts 145 = .ok (.iaload, 1) := by decide +kernel
theorem dL_acts_146 : decode cL_acts 146 = .ok (.iconst 1, 1) := by decide +kernel
theorem dL_acts_147 : decode cL_acts 147 = .ok (.if_icmp .ne 18, 3) := by decide +kernel
theorem dL_acts_150 : decode cL_acts 150 = .ok (.aload_n 0, 1) := by decide +kernel
theorem dL_acts_151 : decode cL_acts 151 = .ok (.invokevirtual 106, 3) := by decide +kernel
theorem dL_acts_154 : decode cL_acts 154 = .ok (.bipush (-2), 2) := by decide +kernel
theorem dL_acts_156 : decode cL_acts 156 = .ok (.if_icmp .ne 7, 3) := by decide +kernel
theorem dL_acts_159 : decode cL_acts 159 = .ok (.iconst 1, 1) := by decide +kernel
theorem dL_acts_160 : decode cL_acts 160 = .ok (.goto 4, 3) := by decide +kernel
theorem dL_acts_163 : decode cL_acts 163 = .ok (.iconst 0, 1) := by decide +kernel
theorem dL_acts_164 : decode cL_acts 164 = .ok (.ireturn, 1) := by decide +kernel
theorem dL_acts_165 : decode cL_acts 165 = .ok (.aload_n 1, 1) := by decide +kernel
theorem dL_acts_166 : decode cL_acts 166 = .ok (.aload_n 2, 1) := by decide +kernel
theorem dL_acts_167 : decode cL_acts 167 = .ok (.aload_n 3, 1) := by decide +kernel
theorem dL_acts_168 : decode cL_acts 168 = .ok (.aload 4, 2) := by decide +kernel
theorem dL_acts_170 : decode cL_acts 170 = .ok (.aload 5, 2) := by decide +kernel
theorem dL_acts_172 : decode cL_acts 172 = .ok (.aload 6, 2) := by decide +kernel
theorem dL_acts_174 : decode cL_acts 174 = .ok (.aload 7, 2) := by decide +kernel
theorem dL_acts_176 : decode cL_acts 176 = .ok (.invokestatic 110, 3) := by decide +kernel
theorem dL_acts_179 : decode cL_acts 179 = .ok (.aload_n 0, 1) := by decide +kernel
theorem dL_acts_180 : decode cL_acts 180 = .ok (.invokevirtual 106, 3) := by decide +kernel
theorem dL_acts_183 : decode cL_acts 183 = .ok (.aload_n 1, 1) := by decide +kernel
theorem dL_acts_184 : decode cL_acts 184 = .ok (.bipush 8, 2) := by decide +kernel
theorem dL_acts_186 : decode cL_acts 186 = .ok (.iaload, 1) := by decide +kernel
theorem dL_acts_187 : decode cL_acts 187 = .ok (.if_icmp .ne 7, 3) := by decide +kernel
theorem dL_acts_190 : decode cL_acts 190 = .ok (.iconst 1, 1) := by decide +kernel
theorem dL_acts_191 : decode cL_acts 191 = .ok (.goto 4, 3) := by decide +kernel
theorem dL_acts_194 : decode cL_acts 194 = .ok (.iconst 0, 1) := by decide +kernel
theorem dL_acts_195 : decode cL_acts 195 = .ok (.ireturn, 1) := by decide +kernel
theorem dL_acts_196 : decode cL_acts 196 = .ok (.iload 10, 2) := by decide +kernel
theorem dL_acts_198 : decode cL_acts 198 = .ok (.bipush 23, 2) := by decide +kernel
theorem dL_acts_200 : decode cL_acts 200 = .ok (.if_icmp .ge 96, 3) := by decide +kernel
theorem dL_acts_203 : decode cL_acts 203 = .ok (.iconst 1, 1) := by decide +kernel
theorem dL_acts_204 : decode cL_acts 204 = .ok (.iload 9, 2) := by decide +kernel
theorem dL_acts_206 : decode cL_acts 206 = .ok (.iconst 4, 1) := by decide +kernel
theorem dL_acts_207 : decode cL_acts 207 = .ok (.irem, 1) := by decide +kernel
theorem dL_acts_208 : decode cL_acts 208 = .ok (.iadd, 1) := by decide +kernel
theorem dL_acts_209 : decode cL_acts 209 = .ok (.istore 11, 2) := by decide +kernel
theorem dL_acts_211 : decode cL_acts 211 = .ok (.aload_n 1, 1) := by decide +kernel
theorem dL_acts_212 : decode cL_acts 212 = .ok (.iconst 2, 1) := by decide +kernel
theorem dL_acts_213 : decode cL_acts 213 = .ok (.iaload, 1) := by decide +kernel
theorem dL_acts_214 : decode cL_acts 214 = .ok (.ifCond .ne 29, 3) := by decide +kernel
theorem dL_acts_217 : decode cL_acts 217 = .ok (.aload_n 0, 1) := by decide +kernel
theorem dL_acts_218 : decode cL_acts 218 = .ok (.iload 11, 2) := by decide +kernel
theorem dL_acts_220 : decode cL_acts 220 = .ok (.invokevirtual 114, 3) := by decide +kernel
theorem dL_acts_223 : decode cL_acts 223 = .ok (.bipush (-2), 2) := by decide +kernel
theorem dL_acts_225 : decode cL_acts 225 = .ok (.if_icmp .ne 16, 3) := by decide +kernel
theorem dL_acts_228 : decode cL_acts 228 = .ok (.aload_n 0, 1) := by decide +kernel
theorem dL_acts_229 : decode cL_acts 229 = .ok (.iconst 0, 1) := by decide +kernel
theorem dL_acts_230 : decode cL_acts 230 = .ok (.invokevirtual 114, 3) := by decide +kernel
theorem dL_acts_233 : decode cL_acts 233 = .ok (.iconst (-1), 1) := by decide +kernel
theorem dL_acts_234 : decode cL_acts 234 = .ok (.if_icmp .ne 7, 3) := by decide +kernel
theorem dL_acts_237 : decode cL_acts 237 = .ok (.iconst 1, 1) := by decide +kernel
theorem dL_acts_238 : decode cL_acts 238 = .ok (.goto 4, 3) := by decide +kernel
theorem dL_acts_241 : decode cL_acts 241 = .ok (.iconst 0, 1) := by decide +kernel
theorem dL_acts_242 : decode cL_acts 242 = .ok (.ireturn, 1) := by decide +kernel
theorem dL_acts_243 : decode cL_acts 243 = .ok (.iconst 0, 1) := by decide +kernel
theorem dL_acts_244 : decode cL_acts 244 = .ok (.istore 12, 2) := by decide +kernel
theorem dL_acts_246 : decode cL_acts 246 = .ok (.iload 12, 2) := by decide +kernel
theorem dL_acts_248 : decode cL_acts 248 = .ok (.iload 11, 2) := by decide +kernel
theorem dL_acts_250 : decode cL_acts 250 = .ok (.if_icmp .ge 29, 3) := by decide +kernel
theorem dL_acts_253 : decode cL_acts 253 = .ok (.aload_n 1, 1) := by decide +kernel
theorem dL_acts_254 : decode cL_acts 254 = .ok (.iconst 2, 1) := by decide +kernel
theorem dL_acts_255 : decode cL_acts 255 = .ok (.iaload, 1) := by decide +kernel
theorem dL_acts_256 : decode cL_acts 256 = .ok (.iconst 1, 1) := by decide +kernel
theorem dL_acts_257 : decode cL_acts 257 = .ok (.if_icmp .ne 22, 3) := by decide +kernel
theorem dL_acts_260 : decode cL_acts 260 = .ok (.aload_n 1, 1) := by decide +kernel
theorem dL_acts_261 : decode cL_acts 261 = .ok (.aload_n 3, 1) := by decide +kernel
theorem dL_acts_262 : decode cL_acts 262 = .ok (.aload 4, 2) := by decide +kernel
theorem dL_acts_264 : decode cL_acts 264 = .ok (.aload 5, 2) := by decide +kernel
theorem dL_acts_266 : decode cL_acts 266 = .ok (.aload 6, 2) := by decide +kernel
theorem dL_acts_268 : decode cL_acts 268 = .ok (.aload 7, 2) := by decide +kernel
theorem dL_acts_270 : decode cL_acts 270 = .ok (.invokestatic 117, 3) := by decide +kernel
theorem dL_acts_273 : decode cL_acts 273 = .ok (.iinc 12 1, 3) := by decide +kernel
theorem dL_acts_276 : decode cL_acts 276 = .ok (.goto (-30), 3) := by decide +kernel
theorem dL_acts_279 : decode cL_acts 279 = .ok (.aload_n 0, 1) := by decide +kernel
theorem dL_acts_280 : decode cL_acts 280 = .ok (.iload 11, 2) := by decide +kernel
theorem dL_acts_282 : decode cL_acts 282 = .ok (.invokevirtual 114, 3) := by decide +kernel
theorem dL_acts_285 : decode cL_acts 285 = .ok (.iload 12, 2) := by decide +kernel
theorem dL_acts_287 : decode cL_acts 287 = .ok (.if_icmp .ne 7, 3) := by decide +kernel
theorem dL_acts_290 : decode cL_acts 290 = .ok (.iconst 1, 1) := by decide +kernel
theorem dL_acts_291 : decode cL_acts 291 = .ok (.goto 4, 3) := by decide +kernel
theorem dL_acts_294 : decode cL_acts 294 = .ok (.iconst 0, 1) := by decide +kernel
theorem dL_acts_295 : decode cL_acts 295 = .ok (.ireturn, 1) := by decide +kernel
theorem dL_acts_296 : decode cL_acts 296 = .ok (.iload 10, 2) := by decide +kernel
theorem dL_acts_298 : decode cL_acts 298 = .ok (.bipush 23, 2) := by decide +kernel
theorem dL_acts_300 : decode cL_acts 300 = .ok (.if_icmp .ne 36, 3) := by decide +kernel
theorem dL_acts_303 : decode cL_acts 303 = .ok (.aload_n 1, 1) := by decide +kernel
theorem dL_acts_304 : decode cL_acts 304 = .ok (.iconst 1, 1) := by decide +kernel
theorem dL_acts_305 : decode cL_acts 305 = .ok (.iaload, 1) := by decide +kernel
theorem dL_acts_306 : decode cL_acts 306 = .ok (.istore 11, 2) := by decide +kernel
theorem dL_acts_308 : decode cL_acts 308 = .ok (.aload_n 1, 1) := by decide +kernel
theorem dL_acts_309 : decode cL_acts 309 = .ok (.iconst 1, 1) := by decide +kernel
theorem dL_acts_310 : decode cL_acts 310 = .ok (.iconst 2, 1) := by decide +kernel
theorem dL_acts_311 : decode cL_acts 311 = .ok (.iload 9, 2) := by decide +kernel
theorem dL_acts_313 : decode cL_acts 313 = .ok (.bipush 12, 2) := by decide +kernel
theorem dL_acts_315 : decode cL_acts 315 = .ok (.irem, 1) := by decide +kernel
theorem dL_acts_316 : decode cL_acts 316 = .ok (.iadd, 1) := by decide +kernel
theorem dL_acts_317 : decode cL_acts 317 = .ok (.iastore, 1) := by decide +kernel
theorem dL_acts_318 : decode cL_acts 318 = .ok (.aload_n 0, 1) := by decide +kernel
theorem dL_acts_319 : decode cL_acts 319 = .ok (.aload_n 1, 1) := by decide +kernel
theorem dL_acts_320 : decode cL_acts 320 = .ok (.iconst 1, 1) := by decide +kernel
theorem dL_acts_321 : decode cL_acts 321 = .ok (.iaload, 1) := by decide +kernel
theorem dL_acts_322 : decode cL_acts 322 = .ok (.invokevirtual 121, 3) := by decide +kernel
theorem dL_acts_325 : decode cL_acts 325 = .ok (.iload 11, 2) := by decide +kernel
theorem dL_acts_327 : decode cL_acts 327 = .ok (.if_icmp .ne 7, 3) := by decide +kernel
theorem dL_acts_330 : decode cL_acts 330 = .ok (.iconst 1, 1) := by decide +kernel
theorem dL_acts_331 : decode cL_acts 331 = .ok (.goto 4, 3) := by decide +kernel
theorem dL_acts_334 : decode cL_acts 334 = .ok (.iconst 0, 1) := by decide +kernel
theorem dL_acts_335 : decode cL_acts 335 = .ok (.ireturn, 1) := by decide +kernel
theorem dL_acts_336 : decode cL_acts 336 = .ok (.aload_n 1, 1) := by decide +kernel
theorem dL_acts_337 : decode cL_acts 337 = .ok (.iconst 0, 1) := by decide +kernel
theorem dL_acts_338 : decode cL_acts 338 = .ok (.iaload, 1) := by decide +kernel
theorem dL_acts_339 : decode cL_acts 339 = .ok (.ifCond .ne 7, 3) := by decide +kernel
theorem dL_acts_342 : decode cL_acts 342 = .ok (.iconst 0, 1) := by decide +kernel
theorem dL_acts_343 : decode cL_acts 343 = .ok (.goto 9, 3) := by decide +kernel
theorem dL_acts_346 : decode cL_acts 346 = .ok (.iload 9, 2) := by decide +kernel
theorem dL_acts_348 : decode cL_acts 348 = .ok (.aload_n 1, 1) := by decide +kernel
theorem dL_acts_349 : decode cL_acts 349 = .ok (.iconst 0, 1) := by decide +kernel
theorem dL_acts_350 : decode cL_acts 350 = .ok (.iaload, 1) := by decide +kernel
theorem dL_acts_351 : decode cL_acts 351 = .ok (.irem, 1) := by decide +kernel
theorem dL_acts_352 : decode cL_acts 352 = .ok (.istore 11, 2) := by decide +kernel
theorem dL_acts_354 : decode cL_acts 354 = .ok (.aload_n 1, 1) := by decide +kernel
theorem dL_acts_355 : decode cL_acts 355 = .ok (.iconst 0, 1) := by decide +kernel
theorem dL_acts_356 : decode cL_acts 356 = .ok (.iaload, 1) := by decide +kernel
theorem dL_acts_357 : decode cL_acts 357 = .ok (.ifCond .ne 27, 3) := by decide +kernel
theorem dL_acts_360 : decode cL_acts 360 = .ok (.aload_n 0, 1) := by decide +kernel
theorem dL_acts_361 : decode cL_acts 361 = .ok (.iconst 0, 1) := by decide +kernel
theorem dL_acts_362 : decode cL_acts 362 = .ok (.invokevirtual 88, 3) := by decide +kernel
theorem dL_acts_365 : decode cL_acts 365 = .ok (.iconst (-1), 1) := by decide +kernel
theorem dL_acts_366 : decode cL_acts 366 = .ok (.if_icmp .ne 16, 3) := by decide +kernel
theorem dL_acts_369 : decode cL_acts 369 = .ok (.aload_n 0, 1) := by decide +kernel
theorem dL_acts_370 : decode cL_acts 370 = .ok (.iconst 0, 1) := by decide +kernel
theorem dL_acts_371 : decode cL_acts 371 = .ok (.invokevirtual 85, 3) := by decide +kernel
theorem dL_acts_374 : decode cL_acts 374 = .ok (.iconst (-1), 1) := by decide +kernel
theorem dL_acts_375 : decode cL_acts 375 = .ok (.if_icmp .ne 7, 3) := by decide +kernel
theorem dL_acts_378 : decode cL_acts 378 = .ok (.iconst 1, 1) := by decide +kernel
theorem dL_acts_379 : decode cL_acts 379 = .ok (.goto 4, 3) := by decide +kernel
theorem dL_acts_382 : decode cL_acts 382 = .ok (.iconst 0, 1) := by decide +kernel
theorem dL_acts_383 : decode cL_acts 383 = .ok (.ireturn, 1) := by decide +kernel
theorem dL_acts_384 : decode cL_acts 384 = .ok (.iload 10, 2) := by decide +kernel
theorem dL_acts_386 : decode cL_acts 386 = .ok (.bipush 26, 2) := by decide +kernel
theorem dL_acts_388 : decode cL_acts 388 = .ok (.if_icmp .ge 20, 3) := by decide +kernel
theorem dL_acts_391 : decode cL_acts 391 = .ok (.aload_n 0, 1) := by decide +kernel
theorem dL_acts_392 : decode cL_acts 392 = .ok (.aload_n 1, 1) := by decide +kernel
theorem dL_acts_393 : decode cL_acts 393 = .ok (.aload_n 3, 1) := by decide +kernel
theorem dL_acts_394 : decode cL_acts 394 = .ok (.aload 5, 2) := by decide +kernel
theorem dL_acts_396 : decode cL_acts 396 = .ok (.aload 6, 2) := by decide +kernel
theorem dL_acts_398 : decode cL_acts 398 = .ok (.aload 7, 2) := by decide +kernel
theorem dL_acts_400 : decode cL_acts 400 = .ok (.iload 11, 2) := by decide +kernel
theorem dL_acts_402 : decode cL_acts 402 = .ok (.invokestatic 124, 3) := by decide +kernel
theorem dL_acts_405 : decode cL_acts 405 = .ok (.goto 17, 3) := by decide +kernel
theorem dL_acts_408 : decode cL_acts 408 = .ok (.aload_n 0, 1) := by decide +kernel
theorem dL_acts_409 : decode cL_acts 409 = .ok (.aload_n 1, 1) := by decide +kernel
theorem dL_acts_410 : decode cL_acts 410 = .ok (.aload_n 2, 1) := by decide +kernel
theorem dL_acts_411 : decode cL_acts 411 = .ok (.aload 5, 2) := by decide +kernel
theorem dL_acts_413 : decode cL_acts 413 = .ok (.aload 6, 2) := by decide +kernel
theorem dL_acts_415 : decode cL_acts 415 = .ok (.aload 7, 2) := by decide +kernel
theorem dL_acts_417 : decode cL_acts 417 = .ok (.iload 11, 2) := by decide +kernel
theorem dL_acts_419 : decode cL_acts 419 = .ok (.invokestatic 128, 3) := by decide +kernel
theorem dL_acts_422 : decode cL_acts 422 = .ok (.ireturn, 1) := by decide +kernel
set_option maxRecDepth 20000 in
theorem ggL_isSo_X7_hook : GoodIn wsL_isSo wsX7_hook := goodIn_r _ [5, 6, 7, 8, 4, 9, 10, 11, 12, 13, 14, 15, 16, 17, 18, 167, 168, 169, 170, 171, 172, 173, 174, 175, 176, 177, 178, 179, 180, 181, 182] (by decide +kernel) (by decide +kernel)
set_option maxRecDepth 20000 in
theorem gL_isSo_X7_hook : GoodIn wsL_isSo (wsV RL 131 RX7 yX7_hook wsX7_hook) := goodIn_app (goodIn_of _ (by decide +kernel)) ggL_isSo_X7_hook
set_option maxRecDepth 20000 in
theorem ggL_isSo_L_address : GoodIn wsL_isSo wsL_address := goodIn_r _ [22] (by decide +kernel) (by decide +kernel)
set_option maxRecDepth 20000 in
theorem gL_isSo_L_address : GoodIn wsL_isSo (va_wsS RL 81 yL_address wsL_address) := goodIn_app (goodIn_of _ (by decide +kernel)) ggL_isSo_L_address
set_option maxRecDepth 20000 in
theorem ggL_isSo_L_at : GoodIn wsL_isSo wsL_at := goodIn_r _ [25] (by decide +kernel) (by decide +kernel)
set_option maxRecDepth 20000 in
theorem gL_isSo_L_at : GoodIn wsL_isSo (va_wsS RL 33 yL_at wsL_at) := goodIn_app (goodIn_of _ (by decide +kernel)) ggL_isSo_L_at
set_option maxRecDepth 20000 in
theorem ggL_isSo_X7_copy : GoodIn wsL_isSo wsX7_copy := goodIn_r _ [29, 6, 30, 31, 32, 33, 34, 35, 36, 37, 38, 39, 40, 41, 42, 43, 44, 45, 46, 47, 48, 49, 50, 16, 17, 4, 18, 51, 52, 53, 54, 55, 56, 57, 58, 59, 60, 61, 62, 167, 168, 169, 170, 171, 172, 173, 174, 175, 176, 177, 178, 179, 180, 181, 182, 183, 184, 185, 186, 187] (by decide +kernel) (by decide +kernel)
set_option maxRecDepth 20000 in
theorem gL_isSo_X7_copy : GoodIn wsL_isSo (wsV RL 134 RX7 yX7_copy wsX7_copy) := goodIn_app (goodIn_of _ (by decide +kernel)) ggL_isSo_X7_copy
set_option maxRecDepth 20000 in
theorem ggL_isSo_L_thing : GoodIn wsL_isSo wsL_thing := goodIn_r _ [65, 66] (by decide +kernel) (by decide +kernel)
set_option maxRecDepth 20000 in
theorem gL_isSo_L_thing : GoodIn wsL_isSo (va_wsS RL 21 yL_thing wsL_thing) := goodIn_app (goodIn_of _ (by decide +kernel)) ggL_isSo_L_thing
set_option maxRecDepth 20000 in
theorem ggL_isSo_L_name : GoodIn wsL_isSo wsL_name := goodIn_r _ [69, 70] (by decide +kernel) (by decide +kernel)
set_option maxRecDepth 20000 in
theorem gL_isSo_L_name : GoodIn wsL_isSo (va_wsS RL 15 yL_name wsL_name) := goodIn_app (goodIn_of _ (by decide +kernel)) ggL_isSo_L_name
set_option maxRecDepth 20000 in
theorem ggL_isSo_L_mark : GoodIn wsL_isSo wsL_mark := goodIn_r _ [73] (by decide +kernel) (by decide +kernel)
set_option maxRecDepth 20000 in
theorem gL_isSo_L_mark : GoodIn wsL_isSo (va_wsS RL 37 yL_mark wsL_mark) := goodIn_app (goodIn_of _ (by decide +kernel)) ggL_isSo_L_mark
set_option maxRecDepth 20000 in
theorem ggL_isSo_X7_where : GoodIn wsL_isSo wsX7_where := goodIn_r _ [77, 6, 78, 79, 80, 13, 81, 82, 83, 84, 85, 33, 86, 87, 88, 89, 90, 40, 41, 31, 32, 34, 35, 16, 17, 4, 18, 167, 168, 169, 170, 171, 172, 173, 174, 175, 176, 177, 178, 179, 180, 181, 182, 183, 184, 185, 186, 187] (by decide +kernel) (by decide +kernel)
set_option maxRecDepth 20000 in
theorem gL_isSo_X7_where : GoodIn wsL_isSo (wsV RL 137 RX7 yX7_where wsX7_where) := goodIn_app (goodIn_of _ (by decide +kernel)) ggL_isSo_X7_where
set_option maxRecDepth 20000 in
theorem ggL_isSo_X7_count : GoodIn wsL_isSo wsX7_count := goodIn_r _ [94, 95, 96, 6, 97, 98, 99, 100, 101, 102, 103, 104, 105, 106, 107, 108, 109, 110, 111, 13, 112, 82, 113, 114, 115, 116, 117, 118, 119, 120, 121, 122, 33, 123, 41, 31, 32, 34, 35, 124, 125, 126, 127, 128, 129, 130, 131, 132, 133, 43, 44, 45, 134, 135, 136, 137, 138, 139, 140, 141, 142, 143, 144, 145, 146, 147, 148, 149, 47, 48, 49, 50, 150, 151, 152, 153, 154, 155, 156, 157, 158, 159, 88, 89, 90, 40, 160, 161, 162, 163, 167, 168, 169, 170, 171, 172, 188, 189, 190, 191, 192, 173, 174, 175, 176, 177, 178, 179, 180, 181, 182, 183, 184, 185, 186, 187, 193, 194, 195] (by decide +kernel) (by decide +kernel)
set_option maxRecDepth 20000 in
theorem gL_isSo_X7_count : GoodIn wsL_isSo (wsV RL 140 RX7 yX7_count wsX7_count) := goodIn_app (goodIn_of _ (by decide +kernel)) ggL_isSo_X7_count
set_option maxRecDepth 20000 in
theorem ggL_isSo_L_kept : GoodIn wsL_isSo wsL_kept := goodIn_r _ [166, 67, 68, 21, 69, 70, 63, 64, 65, 66] (by decide +kernel) (by decide +kernel)
set_option maxRecDepth 20000 in
theorem gL_isSo_L_kept : GoodIn wsL_isSo (va_wsS RL 64 yL_kept wsL_kept) := goodIn_app (goodIn_of _ (by decide +kernel)) ggL_isSo_L_kept
theorem dL_isSo_0 : decode cL_isSo 0 = .ok (.iconst 0, 1) := by decide +kernel
theorem dL_isSo_1 : decode cL_isSo 1 = .ok (.istore 7, 2) := by decide +kernel
theorem dL_isSo_3 : decode cL_isSo 3 = .ok (.bipush 60, 2) := by decide +kernel
theorem dL_isSo_5 : decode cL_isSo 5 = .ok (.istore 8, 2) := by decide +kernel
theorem dL_isSo_7 : decode cL_isSo 7 = .ok (.iconst 0, 1) := by decide +kernel
theorem dL_isSo_8 : decode cL_isSo 8 = .ok (.istore 9, 2) := by decide +kernel
theorem dL_isSo_10 : decode cL_isSo 10 = .ok (.iconst 1, 1) := by decide +kernel
theorem dL_isSo_11 : decode cL_isSo 11 = .ok (.istore 10, 2) := by decide +kernel
theorem dL_isSo_13 : decode cL_isSo 13 = .ok (.iconst 0, 1) := by decide +kernel
theorem dL_isSo_14 : decode cL_isSo 14 = .ok (.istore 11, 2) := by decide +kernel
theorem dL_isSo_16 : decode cL_isSo 16 = .ok (.iload 11, 2) := by decide +kernel
end
section
theorem dL_isSo_18 : decode cL_isSo 18 = .ok (.bipush 8, 2) := by decide +kernel
theorem dL_isSo_20 : decode cL_isSo 20 = .ok (.if_icmp .ge 34, 3) := by decide +kernel
theorem dL_isSo_23 : decode cL_isSo 23 = .ok (.iload 10, 2) := by decide +kernel
theorem dL_isSo_25 : decode cL_isSo 25 = .ok (.ifCond .eq 20, 3) := by decide +kernel
theorem dL_isSo_28 : decode cL_isSo 28 = .ok (.aload_n 0, 1) := by decide +kernel
theorem dL_isSo_29 : decode cL_isSo 29 = .ok (.iload 11, 2) := by decide +kernel
theorem dL_isSo_31 : decode cL_isSo 31 = .ok (.invokevirtual 131, 3) := by decide +kernel
theorem dL_isSo_34 : decode cL_isSo 34 = .ok (.aload_n 2, 1) := by decide +kernel
theorem dL_isSo_35 : decode cL_isSo 35 = .ok (.iload 11, 2) := by decide +kernel
theorem dL_isSo_37 : decode cL_isSo 37 = .ok (.iaload, 1) := by decide +kernel
theorem dL_isSo_38 : decode cL_isSo 38 = .ok (.if_icmp .ne 7, 3) := by decide +kernel
theorem dL_isSo_41 : decode cL_isSo 41 = .ok (.iconst 1, 1) := by decide +kernel
theorem dL_isSo_42 : decode cL_isSo 42 = .ok (.goto 4, 3) := by decide +kernel
theorem dL_isSo_45 : decode cL_isSo 45 = .ok (.iconst 0, 1) := by decide +kernel
theorem dL_isSo_46 : decode cL_isSo 46 = .ok (.istore 10, 2) := by decide +kernel
theorem dL_isSo_48 : decode cL_isSo 48 = .ok (.iinc 11 1, 3) := by decide +kernel
theorem dL_isSo_51 : decode cL_isSo 51 = .ok (.goto (-35), 3) := by decide +kernel
theorem dL_isSo_54 : decode cL_isSo 54 = .ok (.iconst 0, 1) := by decide +kernel
theorem dL_isSo_55 : decode cL_isSo 55 = .ok (.istore 11, 2) := by decide +kernel
theorem dL_isSo_57 : decode cL_isSo 57 = .ok (.iload 11, 2) := by decide +kernel
theorem dL_isSo_59 : decode cL_isSo 59 = .ok (.sipush 188, 3) := by decide +kernel
theorem dL_isSo_62 : decode cL_isSo 62 = .ok (.if_icmp .ge 273, 3) := by decide +kernel
theorem dL_isSo_65 : decode cL_isSo 65 = .ok (.iload 10, 2) := by decide +kernel
theorem dL_isSo_67 : decode cL_isSo 67 = .ok (.ifCond .eq 268, 3) := by decide +kernel
theorem dL_isSo_70 : decode cL_isSo 70 = .ok (.iload 11, 2) := by decide +kernel
theorem dL_isSo_72 : decode cL_isSo 72 = .ok (.invokestatic 81, 3) := by decide +kernel
theorem dL_isSo_75 : decode cL_isSo 75 = .ok (.istore 12, 2) := by decide +kernel
theorem dL_isSo_77 : decode cL_isSo 77 = .ok (.aload 4, 2) := by decide +kernel
theorem dL_isSo_79 : decode cL_isSo 79 = .ok (.aload 5, 2) := by decide +kernel
theorem dL_isSo_81 : decode cL_isSo 81 = .ok (.aload 6, 2) := by decide +kernel
theorem dL_isSo_83 : decode cL_isSo 83 = .ok (.iload 12, 2) := by decide +kernel
theorem dL_isSo_85 : decode cL_isSo 85 = .ok (.invokestatic 33, 3) := by decide +kernel
theorem dL_isSo_88 : decode cL_isSo 88 = .ok (.lstore 13, 2) := by decide +kernel
theorem dL_isSo_90 : decode cL_isSo 90 = .ok (.lload 13, 2) := by decide +kernel
theorem dL_isSo_92 : decode cL_isSo 92 = .ok (.lconst 0, 1) := by decide +kernel
theorem dL_isSo_93 : decode cL_isSo 93 = .ok (.lcmp, 1) := by decide +kernel
theorem dL_isSo_94 : decode cL_isSo 94 = .ok (.ifCond .ne 24, 3) := by decide +kernel
theorem dL_isSo_97 : decode cL_isSo 97 = .ok (.aload_n 0, 1) := by decide +kernel
theorem dL_isSo_98 : decode cL_isSo 98 = .ok (.iload 12, 2) := by decide +kernel
theorem dL_isSo_100 : decode cL_isSo 100 = .ok (.iconst 0, 1) := by decide +kernel
theorem dL_isSo_101 : decode cL_isSo 101 = .ok (.invokevirtual 134, 3) := by decide +kernel
theorem dL_isSo_104 : decode cL_isSo 104 = .ok (.iconst (-1), 1) := by decide +kernel
theorem dL_isSo_105 : decode cL_isSo 105 = .ok (.if_icmp .ne 7, 3) := by decide +kernel
theorem dL_isSo_108 : decode cL_isSo 108 = .ok (.iconst 1, 1) := by decide +kernel
theorem dL_isSo_109 : decode cL_isSo 109 = .ok (.goto 4, 3) := by decide +kernel
theorem dL_isSo_112 : decode cL_isSo 112 = .ok (.iconst 0, 1) := by decide +kernel
theorem dL_isSo_113 : decode cL_isSo 113 = .ok (.istore 10, 2) := by decide +kernel
theorem dL_isSo_115 : decode cL_isSo 115 = .ok (.goto 214, 3) := by decide +kernel
theorem dL_isSo_118 : decode cL_isSo 118 = .ok (.iinc 7 1, 3) := by decide +kernel
theorem dL_isSo_121 : decode cL_isSo 121 = .ok (.iload 8, 2) := by decide +kernel
theorem dL_isSo_123 : decode cL_isSo 123 = .ok (.iload 12, 2) := by decide +kernel
theorem dL_isSo_125 : decode cL_isSo 125 = .ok (.sipush 200, 3) := by decide +kernel
theorem dL_isSo_128 : decode cL_isSo 128 = .ok (.if_icmp .ge 7, 3) := by decide +kernel
theorem dL_isSo_131 : decode cL_isSo 131 = .ok (.iconst 0, 1) := by decide +kernel
theorem dL_isSo_132 : decode cL_isSo 132 = .ok (.goto 10, 3) := by decide +kernel
theorem dL_isSo_135 : decode cL_isSo 135 = .ok (.aload_n 3, 1) := by decide +kernel
theorem dL_isSo_136 : decode cL_isSo 136 = .ok (.lload 13, 2) := by decide +kernel
theorem dL_isSo_138 : decode cL_isSo 138 = .ok (.invokestatic 21, 3) := by decide +kernel
theorem dL_isSo_141 : decode cL_isSo 141 = .ok (.iaload, 1) := by decide +kernel
theorem dL_isSo_142 : decode cL_isSo 142 = .ok (.isub, 1) := by decide +kernel
theorem dL_isSo_143 : decode cL_isSo 143 = .ok (.istore 8, 2) := by decide +kernel
theorem dL_isSo_145 : decode cL_isSo 145 = .ok (.aload_n 0, 1) := by decide +kernel
theorem dL_isSo_146 : decode cL_isSo 146 = .ok (.iload 12, 2) := by decide +kernel
theorem dL_isSo_148 : decode cL_isSo 148 = .ok (.iconst 0, 1) := by decide +kernel
theorem dL_isSo_149 : decode cL_isSo 149 = .ok (.invokevirtual 134, 3) := by decide +kernel
theorem dL_isSo_152 : decode cL_isSo 152 = .ok (.lload 13, 2) := by decide +kernel
theorem dL_isSo_154 : decode cL_isSo 154 = .ok (.invokestatic 21, 3) := by decide +kernel
theorem dL_isSo_157 : decode cL_isSo 157 = .ok (.if_icmp .ne 99, 3) := by decide +kernel
theorem dL_isSo_160 : decode cL_isSo 160 = .ok (.aload_n 0, 1) := by decide +kernel
theorem dL_isSo_161 : decode cL_isSo 161 = .ok (.iload 12, 2) := by decide +kernel
theorem dL_isSo_163 : decode cL_isSo 163 = .ok (.iconst 1, 1) := by decide +kernel
theorem dL_isSo_164 : decode cL_isSo 164 = .ok (.invokevirtual 134, 3) := by decide +kernel
theorem dL_isSo_167 : decode cL_isSo 167 = .ok (.aload_n 3, 1) := by decide +kernel
theorem dL_isSo_168 : decode cL_isSo 168 = .ok (.lload 13, 2) := by decide +kernel
theorem dL_isSo_170 : decode cL_isSo 170 = .ok (.invokestatic 21, 3) := by decide +kernel
theorem dL_isSo_173 : decode cL_isSo 173 = .ok (.iaload, 1) := by decide +kernel
theorem dL_isSo_174 : decode cL_isSo 174 = .ok (.if_icmp .ne 82, 3) := by decide +kernel
theorem dL_isSo_177 : decode cL_isSo 177 = .ok (.aload_n 0, 1) := by decide +kernel
theorem dL_isSo_178 : decode cL_isSo 178 = .ok (.iload 12, 2) := by decide +kernel
theorem dL_isSo_180 : decode cL_isSo 180 = .ok (.iconst 2, 1) := by decide +kernel
theorem dL_isSo_181 : decode cL_isSo 181 = .ok (.invokevirtual 134, 3) := by decide +kernel
theorem dL_isSo_184 : decode cL_isSo 184 = .ok (.lload 13, 2) := by decide +kernel
theorem dL_isSo_186 : decode cL_isSo 186 = .ok (.iconst 2, 1) := by decide +kernel
theorem dL_isSo_187 : decode cL_isSo 187 = .ok (.invokestatic 15, 3) := by decide +kernel
theorem dL_isSo_190 : decode cL_isSo 190 = .ok (.if_icmp .ne 66, 3) := by decide +kernel
theorem dL_isSo_193 : decode cL_isSo 193 = .ok (.aload_n 0, 1) := by decide +kernel
theorem dL_isSo_194 : decode cL_isSo 194 = .ok (.iload 12, 2) := by decide +kernel
theorem dL_isSo_196 : decode cL_isSo 196 = .ok (.iconst 3, 1) := by decide +kernel
theorem dL_isSo_197 : decode cL_isSo 197 = .ok (.invokevirtual 134, 3) := by decide +kernel
theorem dL_isSo_200 : decode cL_isSo 200 = .ok (.lload 13, 2) := by decide +kernel
theorem dL_isSo_202 : decode cL_isSo 202 = .ok (.invokestatic 37, 3) := by decide +kernel
theorem dL_isSo_205 : decode cL_isSo 205 = .ok (.if_icmp .ne 51, 3) := by decide +kernel
theorem dL_isSo_208 : decode cL_isSo 208 = .ok (.aload_n 0, 1) := by decide +kernel
theorem dL_isSo_209 : decode cL_isSo 209 = .ok (.iload 12, 2) := by decide +kernel
theorem dL_isSo_211 : decode cL_isSo 211 = .ok (.iconst 4, 1) := by decide +kernel
theorem dL_isSo_212 : decode cL_isSo 212 = .ok (.invokevirtual 134, 3) := by decide +kernel
theorem dL_isSo_215 : decode cL_isSo 215 = .ok (.lload 13, 2) := by decide +kernel
theorem dL_isSo_217 : decode cL_isSo 217 = .ok (.iconst 0, 1) := by decide +kernel
theorem dL_isSo_218 : decode cL_isSo 218 = .ok (.invokestatic 15, 3) := by decide +kernel
theorem dL_isSo_221 : decode cL_isSo 221 = .ok (.if_icmp .ne 35, 3) := by decide +kernel
theorem dL_isSo_224 : decode cL_isSo 224 = .ok (.aload_n 0, 1) := by decide +kernel
theorem dL_isSo_225 : decode cL_isSo 225 = .ok (.iload 12, 2) := by decide +kernel
theorem dL_isSo_227 : decode cL_isSo 227 = .ok (.iconst 5, 1) := by decide +kernel
theorem dL_isSo_228 : decode cL_isSo 228 = .ok (.invokevirtual 134, 3) := by decide +kernel
theorem dL_isSo_231 : decode cL_isSo 231 = .ok (.lload 13, 2) := by decide +kernel
theorem dL_isSo_233 : decode cL_isSo 233 = .ok (.iconst 1, 1) := by decide +kernel
theorem dL_isSo_234 : decode cL_isSo 234 = .ok (.invokestatic 15, 3) := by decide +kernel
theorem dL_isSo_237 : decode cL_isSo 237 = .ok (.if_icmp .ne 19, 3) := by decide +kernel
theorem dL_isSo_240 : decode cL_isSo 240 = .ok (.aload_n 0, 1) := by decide +kernel
theorem dL_isSo_241 : decode cL_isSo 241 = .ok (.iload 12, 2) := by decide +kernel
theorem dL_isSo_243 : decode cL_isSo 243 = .ok (.bipush 6, 2) := by decide +kernel
theorem dL_isSo_245 : decode cL_isSo 245 = .ok (.invokevirtual 134, 3) := by decide +kernel
theorem dL_isSo_248 : decode cL_isSo 248 = .ok (.iconst (-1), 1) := by decide +kernel
theorem dL_isSo_249 : decode cL_isSo 249 = .ok (.if_icmp .ne 7, 3) := by decide +kernel
theorem dL_isSo_252 : decode cL_isSo 252 = .ok (.iconst 1, 1) := by decide +kernel
theorem dL_isSo_253 : decode cL_isSo 253 = .ok (.goto 4, 3) := by decide +kernel
theorem dL_isSo_256 : decode cL_isSo 256 = .ok (.iconst 0, 1) := by decide +kernel
theorem dL_isSo_257 : decode cL_isSo 257 = .ok (.istore 10, 2) := by decide +kernel
theorem dL_isSo_259 : decode cL_isSo 259 = .ok (.iload 10, 2) := by decide +kernel
theorem dL_isSo_261 : decode cL_isSo 261 = .ok (.ifCond .eq 65, 3) := by decide +kernel
theorem dL_isSo_264 : decode cL_isSo 264 = .ok (.lload 13, 2) := by decide +kernel
theorem dL_isSo_266 : decode cL_isSo 266 = .ok (.iconst 0, 1) := by decide +kernel
theorem dL_isSo_267 : decode cL_isSo 267 = .ok (.invokestatic 15, 3) := by decide +kernel
theorem dL_isSo_270 : decode cL_isSo 270 = .ok (.ifCond .lt 23, 3) := by decide +kernel
theorem dL_isSo_273 : decode cL_isSo 273 = .ok (.aload 4, 2) := by decide +kernel
theorem dL_isSo_275 : decode cL_isSo 275 = .ok (.aload 5, 2) := by decide +kernel
theorem dL_isSo_277 : decode cL_isSo 277 = .ok (.aload 6, 2) := by decide +kernel
theorem dL_isSo_279 : decode cL_isSo 279 = .ok (.lload 13, 2) := by decide +kernel
theorem dL_isSo_281 : decode cL_isSo 281 = .ok (.iconst 0, 1) := by decide +kernel
theorem dL_isSo_282 : decode cL_isSo 282 = .ok (.invokestatic 15, 3) := by decide +kernel
theorem dL_isSo_285 : decode cL_isSo 285 = .ok (.invokestatic 33, 3) := by decide +kernel
theorem dL_isSo_288 : decode cL_isSo 288 = .ok (.lconst 0, 1) := by decide +kernel
theorem dL_isSo_289 : decode cL_isSo 289 = .ok (.lcmp, 1) := by decide +kernel
theorem dL_isSo_290 : decode cL_isSo 290 = .ok (.ifCond .eq 36, 3) := by decide +kernel
theorem dL_isSo_293 : decode cL_isSo 293 = .ok (.lload 13, 2) := by decide +kernel
theorem dL_isSo_295 : decode cL_isSo 295 = .ok (.iconst 1, 1) := by decide +kernel
theorem dL_isSo_296 : decode cL_isSo 296 = .ok (.invokestatic 15, 3) := by decide +kernel
theorem dL_isSo_299 : decode cL_isSo 299 = .ok (.ifCond .lt 23, 3) := by decide +kernel
theorem dL_isSo_302 : decode cL_isSo 302 = .ok (.aload 4, 2) := by decide +kernel
theorem dL_isSo_304 : decode cL_isSo 304 = .ok (.aload 5, 2) := by decide +kernel
theorem dL_isSo_306 : decode cL_isSo 306 = .ok (.aload 6, 2) := by decide +kernel
theorem dL_isSo_308 : decode cL_isSo 308 = .ok (.lload 13, 2) := by decide +kernel
theorem dL_isSo_310 : decode cL_isSo 310 = .ok (.iconst 1, 1) := by decide +kernel
theorem dL_isSo_311 : decode cL_isSo 311 = .ok (.invokestatic 15, 3) := by decide +kernel
theorem dL_isSo_314 : decode cL_isSo 314 = .ok (.invokestatic 33, 3) := by decide +kernel
theorem dL_isSo_317 : decode cL_isSo 317 = .ok (.lconst 0, 1) := by decide +kernel
theorem dL_isSo_318 : decode cL_isSo 318 = .ok (.lcmp, 1) := by decide +kernel
theorem dL_isSo_319 : decode cL_isSo 319 = .ok (.ifCond .eq 7, 3) := by decide +kernel
theorem dL_isSo_322 : decode cL_isSo 322 = .ok (.iconst 1, 1) := by decide +kernel
theorem dL_isSo_323 : decode cL_isSo 323 = .ok (.goto 4, 3) := by decide +kernel
theorem dL_isSo_326 : decode cL_isSo 326 = .ok (.iconst 0, 1) := by decide +kernel
theorem dL_isSo_327 : decode cL_isSo 327 = .ok (.istore 10, 2) := by decide +kernel
theorem dL_isSo_329 : decode cL_isSo 329 = .ok (.iinc 11 1, 3) := by decide +kernel
theorem dL_isSo_332 : decode cL_isSo 332 = .ok (.goto (-275), 3) := by decide +kernel
theorem dL_isSo_335 : decode cL_isSo 335 = .ok (.iconst 0, 1) := by decide +kernel
theorem dL_isSo_336 : decode cL_isSo 336 = .ok (.istore 11, 2) := by decide +kernel
theorem dL_isSo_338 : decode cL_isSo 338 = .ok (.iload 11, 2) := by decide +kernel
theorem dL_isSo_340 : decode cL_isSo 340 = .ok (.aload_n 1, 1) := by decide +kernel
theorem dL_isSo_341 : decode cL_isSo 341 = .ok (.iconst 0, 1) := by decide +kernel
theorem dL_isSo_342 : decode cL_isSo 342 = .ok (.iaload, 1) := by decide +kernel
theorem dL_isSo_343 : decode cL_isSo 343 = .ok (.if_icmp .ge 161, 3) := by decide +kernel
theorem dL_isSo_346 : decode cL_isSo 346 = .ok (.iload 10, 2) := by decide +kernel
theorem dL_isSo_348 : decode cL_isSo 348 = .ok (.ifCond .eq 156, 3) := by decide +kernel
theorem dL_isSo_351 : decode cL_isSo 351 = .ok (.iconst 0, 1) := by decide +kernel
theorem dL_isSo_352 : decode cL_isSo 352 = .ok (.istore 12, 2) := by decide +kernel
theorem dL_isSo_354 : decode cL_isSo 354 = .ok (.iconst 0, 1) := by decide +kernel
theorem dL_isSo_355 : decode cL_isSo 355 = .ok (.istore 13, 2) := by decide +kernel
theorem dL_isSo_357 : decode cL_isSo 357 = .ok (.iconst 0, 1) := by decide +kernel
theorem dL_isSo_358 : decode cL_isSo 358 = .ok (.istore 14, 2) := by decide +kernel
theorem dL_isSo_360 : decode cL_isSo 360 = .ok (.iload 14, 2) := by decide +kernel
theorem dL_isSo_362 : decode cL_isSo 362 = .ok (.sipush 188, 3) := by decide +kernel
theorem dL_isSo_365 : decode cL_isSo 365 = .ok (.if_icmp .ge 92, 3) := by decide +kernel
theorem dL_isSo_368 : decode cL_isSo 368 = .ok (.iload 10, 2) := by decide +kernel
theorem dL_isSo_370 : decode cL_isSo 370 = .ok (.ifCond .eq 87, 3) := by decide +kernel
theorem dL_isSo_373 : decode cL_isSo 373 = .ok (.aload 4, 2) := by decide +kernel
theorem dL_isSo_375 : decode cL_isSo 375 = .ok (.aload 5, 2) := by decide +kernel
theorem dL_isSo_377 : decode cL_isSo 377 = .ok (.aload 6, 2) := by decide +kernel
theorem dL_isSo_379 : decode cL_isSo 379 = .ok (.iload 14, 2) := by decide +kernel
theorem dL_isSo_381 : decode cL_isSo 381 = .ok (.invokestatic 81, 3) := by decide +kernel
theorem dL_isSo_384 : decode cL_isSo 384 = .ok (.invokestatic 33, 3) := by decide +kernel
theorem dL_isSo_387 : decode cL_isSo 387 = .ok (.invokestatic 21, 3) := by decide +kernel
theorem dL_isSo_390 : decode cL_isSo 390 = .ok (.iload 11, 2) := by decide +kernel
theorem dL_isSo_392 : decode cL_isSo 392 = .ok (.if_icmp .ne 59, 3) := by decide +kernel
theorem dL_isSo_395 : decode cL_isSo 395 = .ok (.aload_n 0, 1) := by decide +kernel
theorem dL_isSo_396 : decode cL_isSo 396 = .ok (.iload 11, 2) := by decide +kernel
theorem dL_isSo_398 : decode cL_isSo 398 = .ok (.iload 12, 2) := by decide +kernel
theorem dL_isSo_400 : decode cL_isSo 400 = .ok (.invokevirtual 137, 3) := by decide +kernel
theorem dL_isSo_403 : decode cL_isSo 403 = .ok (.iload 14, 2) := by decide +kernel
theorem dL_isSo_405 : decode cL_isSo 405 = .ok (.invokestatic 81, 3) := by decide +kernel
theorem dL_isSo_408 : decode cL_isSo 408 = .ok (.if_icmp .ne 7, 3) := by decide +kernel
theorem dL_isSo_411 : decode cL_isSo 411 = .ok (.iconst 1, 1) := by decide +kernel
theorem dL_isSo_412 : decode cL_isSo 412 = .ok (.goto 4, 3) := by decide +kernel
theorem dL_isSo_415 : decode cL_isSo 415 = .ok (.iconst 0, 1) := by decide +kernel
theorem dL_isSo_416 : decode cL_isSo 416 = .ok (.istore 10, 2) := by decide +kernel
theorem dL_isSo_418 : decode cL_isSo 418 = .ok (.iinc 12 1, 3) := by decide +kernel
theorem dL_isSo_421 : decode cL_isSo 421 = .ok (.iload 13, 2) := by decide +kernel
theorem dL_isSo_423 : decode cL_isSo 423 = .ok (.aload_n 1, 1) := by decide +kernel
theorem dL_isSo_424 : decode cL_isSo 424 = .ok (.iconst 2, 1) := by decide +kernel
theorem dL_isSo_425 : decode cL_isSo 425 = .ok (.iaload, 1) := by decide +kernel
theorem dL_isSo_426 : decode cL_isSo 426 = .ok (.iconst 1, 1) := by decide +kernel
theorem dL_isSo_427 : decode cL_isSo 427 = .ok (.if_icmp .ne 20, 3) := by decide +kernel
theorem dL_isSo_430 : decode cL_isSo 430 = .ok (.iload 14, 2) := by decide +kernel
theorem dL_isSo_432 : decode cL_isSo 432 = .ok (.bipush 64, 2) := by decide +kernel
theorem dL_isSo_434 : decode cL_isSo 434 = .ok (.idiv, 1) := by decide +kernel
theorem dL_isSo_435 : decode cL_isSo 435 = .ok (.iconst 1, 1) := by decide +kernel
theorem dL_isSo_436 : decode cL_isSo 436 = .ok (.aload_n 1, 1) := by decide +kernel
theorem dL_isSo_437 : decode cL_isSo 437 = .ok (.iconst 3, 1) := by decide +kernel
theorem dL_isSo_438 : decode cL_isSo 438 = .ok (.iaload, 1) := by decide +kernel
theorem dL_isSo_439 : decode cL_isSo 439 = .ok (.isub, 1) := by decide +kernel
theorem dL_isSo_440 : decode cL_isSo 440 = .ok (.if_icmp .ne 7, 3) := by decide +kernel
theorem dL_isSo_443 : decode cL_isSo 443 = .ok (.iconst 0, 1) := by decide +kernel
theorem dL_isSo_444 : decode cL_isSo 444 = .ok (.goto 4, 3) := by decide +kernel
theorem dL_isSo_447 : decode cL_isSo 447 = .ok (.iconst 1, 1) := by decide +kernel
theorem dL_isSo_448 : decode cL_isSo 448 = .ok (.iadd, 1) := by decide +kernel
theorem dL_isSo_449 : decode cL_isSo 449 = .ok (.istore 13, 2) := by decide +kernel
theorem dL_isSo_451 : decode cL_isSo 451 = .ok (.iinc 14 1, 3) := by decide +kernel
theorem dL_isSo_454 : decode cL_isSo 454 = .ok (.goto (-94), 3) := by decide +kernel
theorem dL_isSo_457 : decode cL_isSo 457 = .ok (.iload 9, 2) := by decide +kernel
theorem dL_isSo_459 : decode cL_isSo 459 = .ok (.iload 13, 2) := by decide +kernel
theorem dL_isSo_461 : decode cL_isSo 461 = .ok (.iconst 1, 1) := by decide +kernel
theorem dL_isSo_462 : decode cL_isSo 462 = .ok (.if_icmp .le 7, 3) := by decide +kernel
theorem dL_isSo_465 : decode cL_isSo 465 = .ok (.iconst 1, 1) := by decide +kernel
theorem dL_isSo_466 : decode cL_isSo 466 = .ok (.goto 4, 3) := by decide +kernel
theorem dL_isSo_469 : decode cL_isSo 469 = .ok (.iconst 0, 1) := by decide +kernel
theorem dL_isSo_470 : decode cL_isSo 470 = .ok (.iadd, 1) := by decide +kernel
theorem dL_isSo_471 : decode cL_isSo 471 = .ok (.istore 9, 2) := by decide +kernel
theorem dL_isSo_473 : decode cL_isSo 473 = .ok (.iload 10, 2) := by decide +kernel
theorem dL_isSo_475 : decode cL_isSo 475 = .ok (.ifCond .eq 20, 3) := by decide +kernel
theorem dL_isSo_478 : decode cL_isSo 478 = .ok (.aload_n 0, 1) := by decide +kernel
theorem dL_isSo_479 : decode cL_isSo 479 = .ok (.iload 11, 2) := by decide +kernel
theorem dL_isSo_481 : decode cL_isSo 481 = .ok (.iload 12, 2) := by decide +kernel
theorem dL_isSo_483 : decode cL_isSo 483 = .ok (.invokevirtual 137, 3) := by decide +kernel
theorem dL_isSo_486 : decode cL_isSo 486 = .ok (.bipush (-9), 2) := by decide +kernel
theorem dL_isSo_488 : decode cL_isSo 488 = .ok (.if_icmp .ne 7, 3) := by decide +kernel
theorem dL_isSo_491 : decode cL_isSo 491 = .ok (.iconst 1, 1) := by decide +kernel
theorem dL_isSo_492 : decode cL_isSo 492 = .ok (.goto 4, 3) := by decide +kernel
theorem dL_isSo_495 : decode cL_isSo 495 = .ok (.iconst 0, 1) := by decide +kernel
theorem dL_isSo_496 : decode cL_isSo 496 = .ok (.istore 10, 2) := by decide +kernel
theorem dL_isSo_498 : decode cL_isSo 498 = .ok (.iinc 11 1, 3) := by decide +kernel
theorem dL_isSo_501 : decode cL_isSo 501 = .ok (.goto (-163), 3) := by decide +kernel
theorem dL_isSo_504 : decode cL_isSo 504 = .ok (.iload 10, 2) := by decide +kernel
theorem dL_isSo_506 : decode cL_isSo 506 = .ok (.ifCond .eq 222, 3) := by decide +kernel
theorem dL_isSo_509 : decode cL_isSo 509 = .ok (.aload_n 0, 1) := by decide +kernel
theorem dL_isSo_510 : decode cL_isSo 510 = .ok (.iconst 0, 1) := by decide +kernel
theorem dL_isSo_511 : decode cL_isSo 511 = .ok (.invokevirtual 140, 3) := by decide +kernel
theorem dL_isSo_514 : decode cL_isSo 514 = .ok (.aload_n 1, 1) := by decide +kernel
theorem dL_isSo_515 : decode cL_isSo 515 = .ok (.iconst 0, 1) := by decide +kernel
theorem dL_isSo_516 : decode cL_isSo 516 = .ok (.iaload, 1) := by decide +kernel
theorem dL_isSo_517 : decode cL_isSo 517 = .ok (.if_icmp .ne 211, 3) := by decide +kernel
theorem dL_isSo_520 : decode cL_isSo 520 = .ok (.aload_n 0, 1) := by decide +kernel
theorem dL_isSo_521 : decode cL_isSo 521 = .ok (.iconst 1, 1) := by decide +kernel
theorem dL_isSo_522 : decode cL_isSo 522 = .ok (.invokevirtual 140, 3) := by decide +kernel
theorem dL_isSo_525 : decode cL_isSo 525 = .ok (.iload 7, 2) := by decide +kernel
theorem dL_isSo_527 : decode cL_isSo 527 = .ok (.if_icmp .ne 201, 3) := by decide +kernel
theorem dL_isSo_530 : decode cL_isSo 530 = .ok (.aload_n 0, 1) := by decide +kernel
theorem dL_isSo_531 : decode cL_isSo 531 = .ok (.iconst 2, 1) := by decide +kernel
theorem dL_isSo_532 : decode cL_isSo 532 = .ok (.invokevirtual 140, 3) := by decide +kernel
theorem dL_isSo_535 : decode cL_isSo 535 = .ok (.aload_n 1, 1) := by decide +kernel
theorem dL_isSo_536 : decode cL_isSo 536 = .ok (.iconst 2, 1) := by decide +kernel
theorem dL_isSo_537 : decode cL_isSo 537 = .ok (.iaload, 1) := by decide +kernel
theorem dL_isSo_538 : decode cL_isSo 538 = .ok (.if_icmp .ne 190, 3) := by decide +kernel
theorem dL_isSo_541 : decode cL_isSo 541 = .ok (.aload_n 0, 1) := by decide +kernel
theorem dL_isSo_542 : decode cL_isSo 542 = .ok (.iconst 3, 1) := by decide +kernel
theorem dL_isSo_543 : decode cL_isSo 543 = .ok (.invokevirtual 140, 3) := by decide +kernel
theorem dL_isSo_546 : decode cL_isSo 546 = .ok (.aload_n 1, 1) := by decide +kernel
theorem dL_isSo_547 : decode cL_isSo 547 = .ok (.iconst 3, 1) := by decide +kernel
theorem dL_isSo_548 : decode cL_isSo 548 = .ok (.iaload, 1) := by decide +kernel
theorem dL_isSo_549 : decode cL_isSo 549 = .ok (.if_icmp .ne 179, 3) := by decide +kernel
theorem dL_isSo_552 : decode cL_isSo 552 = .ok (.aload_n 0, 1) := by decide +kernel
theorem dL_isSo_553 : decode cL_isSo 553 = .ok (.iconst 4, 1) := by decide +kernel
theorem dL_isSo_554 : decode cL_isSo 554 = .ok (.invokevirtual 140, 3) := by decide +kernel
theorem dL_isSo_557 : decode cL_isSo 557 = .ok (.bipush 64, 2) := by decide +kernel
theorem dL_isSo_559 : decode cL_isSo 559 = .ok (.aload_n 1, 1) := by decide +kernel
theorem dL_isSo_560 : decode cL_isSo 560 = .ok (.iconst 4, 1) := by decide +kernel
theorem dL_isSo_561 : decode cL_isSo 561 = .ok (.aload_n 1, 1) := by decide +kernel
theorem dL_isSo_562 : decode cL_isSo 562 = .ok (.iconst 3, 1) := by decide +kernel
theorem dL_isSo_563 : decode cL_isSo 563 = .ok (.iaload, 1) := by decide +kernel
theorem dL_isSo_564 : decode cL_isSo 564 = .ok (.iadd, 1) := by decide +kernel
theorem dL_isSo_565 : decode cL_isSo 565 = .ok (.iaload, 1) := by decide +kernel
theorem dL_isSo_566 : decode cL_isSo 566 = .ok (.isub, 1) := by decide +kernel
theorem dL_isSo_567 : decode cL_isSo 567 = .ok (.if_icmp .ne 161, 3) := by decide +kernel
theorem dL_isSo_570 : decode cL_isSo 570 = .ok (.aload_n 0, 1) := by decide +kernel
theorem dL_isSo_571 : decode cL_isSo 571 = .ok (.iconst 5, 1) := by decide +kernel
theorem dL_isSo_572 : decode cL_isSo 572 = .ok (.invokevirtual 140, 3) := by decide +kernel
theorem dL_isSo_575 : decode cL_isSo 575 = .ok (.iload 8, 2) := by decide +kernel
theorem dL_isSo_577 : decode cL_isSo 577 = .ok (.if_icmp .ne 151, 3) := by decide +kernel
theorem dL_isSo_580 : decode cL_isSo 580 = .ok (.aload_n 0, 1) := by decide +kernel
theorem dL_isSo_581 : decode cL_isSo 581 = .ok (.bipush 6, 2) := by decide +kernel
theorem dL_isSo_583 : decode cL_isSo 583 = .ok (.invokevirtual 140, 3) := by decide +kernel
theorem dL_isSo_586 : decode cL_isSo 586 = .ok (.aload_n 1, 1) := by decide +kernel
theorem dL_isSo_587 : decode cL_isSo 587 = .ok (.bipush 8, 2) := by decide +kernel
theorem dL_isSo_589 : decode cL_isSo 589 = .ok (.iaload, 1) := by decide +kernel
theorem dL_isSo_590 : decode cL_isSo 590 = .ok (.if_icmp .ne 138, 3) := by decide +kernel
theorem dL_isSo_593 : decode cL_isSo 593 = .ok (.aload_n 0, 1) := by decide +kernel
theorem dL_isSo_594 : decode cL_isSo 594 = .ok (.bipush 7, 2) := by decide +kernel
theorem dL_isSo_596 : decode cL_isSo 596 = .ok (.invokevirtual 140, 3) := by decide +kernel
theorem dL_isSo_599 : decode cL_isSo 599 = .ok (.aload_n 1, 1) := by decide +kernel
theorem dL_isSo_600 : decode cL_isSo 600 = .ok (.aload_n 3, 1) := by decide +kernel
theorem dL_isSo_601 : decode cL_isSo 601 = .ok (.aload 4, 2) := by decide +kernel
theorem dL_isSo_603 : decode cL_isSo 603 = .ok (.aload 5, 2) := by decide +kernel
theorem dL_isSo_605 : decode cL_isSo 605 = .ok (.invokestatic 64, 3) := by decide +kernel
theorem dL_isSo_608 : decode cL_isSo 608 = .ok (.if_icmp .ne 120, 3) := by decide +kernel
theorem dL_isSo_611 : decode cL_isSo 611 = .ok (.aload_n 0, 1) := by decide +kernel
theorem dL_isSo_612 : decode cL_isSo 612 = .ok (.bipush 8, 2) := by decide +kernel
theorem dL_isSo_614 : decode cL_isSo 614 = .ok (.invokevirtual 140, 3) := by decide +kernel
theorem dL_isSo_617 : decode cL_isSo 617 = .ok (.aload_n 1, 1) := by decide +kernel
theorem dL_isSo_618 : decode cL_isSo 618 = .ok (.bipush 6, 2) := by decide +kernel
theorem dL_isSo_620 : decode cL_isSo 620 = .ok (.iaload, 1) := by decide +kernel
theorem dL_isSo_621 : decode cL_isSo 621 = .ok (.if_icmp .ne 107, 3) := by decide +kernel
theorem dL_isSo_624 : decode cL_isSo 624 = .ok (.aload_n 0, 1) := by decide +kernel
theorem dL_isSo_625 : decode cL_isSo 625 = .ok (.bipush 9, 2) := by decide +kernel
theorem dL_isSo_627 : decode cL_isSo 627 = .ok (.invokevirtual 140, 3) := by decide +kernel
theorem dL_isSo_630 : decode cL_isSo 630 = .ok (.aload_n 1, 1) := by decide +kernel
theorem dL_isSo_631 : decode cL_isSo 631 = .ok (.bipush 7, 2) := by decide +kernel
theorem dL_isSo_633 : decode cL_isSo 633 = .ok (.iaload, 1) := by decide +kernel
theorem dL_isSo_634 : decode cL_isSo 634 = .ok (.if_icmp .ne 94, 3) := by decide +kernel
theorem dL_isSo_637 : decode cL_isSo 637 = .ok (.aload_n 0, 1) := by decide +kernel
theorem dL_isSo_638 : decode cL_isSo 638 = .ok (.bipush 10, 2) := by decide +kernel
theorem dL_isSo_640 : decode cL_isSo 640 = .ok (.invokevirtual 140, 3) := by decide +kernel
theorem dL_isSo_643 : decode cL_isSo 643 = .ok (.iload 9, 2) := by decide +kernel
theorem dL_isSo_645 : decode cL_isSo 645 = .ok (.if_icmp .ne 83, 3) := by decide +kernel
theorem dL_isSo_648 : decode cL_isSo 648 = .ok (.aload_n 0, 1) := by decide +kernel
theorem dL_isSo_649 : decode cL_isSo 649 = .ok (.bipush 11, 2) := by decide +kernel
theorem dL_isSo_651 : decode cL_isSo 651 = .ok (.invokevirtual 140, 3) := by decide +kernel
theorem dL_isSo_654 : decode cL_isSo 654 = .ok (.aload_n 1, 1) := by decide +kernel
theorem dL_isSo_655 : decode cL_isSo 655 = .ok (.iconst 1, 1) := by decide +kernel
theorem dL_isSo_656 : decode cL_isSo 656 = .ok (.iaload, 1) := by decide +kernel
theorem dL_isSo_657 : decode cL_isSo 657 = .ok (.if_icmp .ne 71, 3) := by decide +kernel
theorem dL_isSo_660 : decode cL_isSo 660 = .ok (.aload_n 0, 1) := by decide +kernel
theorem dL_isSo_661 : decode cL_isSo 661 = .ok (.bipush 13, 2) := by decide +kernel
theorem dL_isSo_663 : decode cL_isSo 663 = .ok (.invokevirtual 140, 3) := by decide +kernel
theorem dL_isSo_666 : decode cL_isSo 666 = .ok (.ifCond .ne 62, 3) := by decide +kernel
theorem dL_isSo_669 : decode cL_isSo 669 = .ok (.aload_n 0, 1) := by decide +kernel
theorem dL_isSo_670 : decode cL_isSo 670 = .ok (.aload_n 1, 1) := by decide +kernel
theorem dL_isSo_671 : decode cL_isSo 671 = .ok (.iconst 0, 1) := by decide +kernel
theorem dL_isSo_672 : decode cL_isSo 672 = .ok (.iaload, 1) := by decide +kernel
theorem dL_isSo_673 : decode cL_isSo 673 = .ok (.iconst 0, 1) := by decide +kernel
theorem dL_isSo_674 : decode cL_isSo 674 = .ok (.invokevirtual 137, 3) := by decide +kernel
theorem dL_isSo_677 : decode cL_isSo 677 = .ok (.iconst (-1), 1) := by decide +kernel
theorem dL_isSo_678 : decode cL_isSo 678 = .ok (.if_icmp .ne 50, 3) := by decide +kernel
theorem dL_isSo_681 : decode cL_isSo 681 = .ok (.aload_n 0, 1) := by decide +kernel
theorem dL_isSo_682 : decode cL_isSo 682 = .ok (.iconst 0, 1) := by decide +kernel
theorem dL_isSo_683 : decode cL_isSo 683 = .ok (.iconst (-1), 1) := by decide +kernel
theorem dL_isSo_684 : decode cL_isSo 684 = .ok (.invokevirtual 137, 3) := by decide +kernel
theorem dL_isSo_687 : decode cL_isSo 687 = .ok (.iconst (-1), 1) := by decide +kernel
theorem dL_isSo_688 : decode cL_isSo 688 = .ok (.if_icmp .ne 40, 3) := by decide +kernel
theorem dL_isSo_691 : decode cL_isSo 691 = .ok (.aload_n 0, 1) := by decide +kernel
theorem dL_isSo_692 : decode cL_isSo 692 = .ok (.bipush 64, 2) := by decide +kernel
theorem dL_isSo_694 : decode cL_isSo 694 = .ok (.iconst 0, 1) := by decide +kernel
theorem dL_isSo_695 : decode cL_isSo 695 = .ok (.invokevirtual 134, 3) := by decide +kernel
theorem dL_isSo_698 : decode cL_isSo 698 = .ok (.iconst (-1), 1) := by decide +kernel
theorem dL_isSo_699 : decode cL_isSo 699 = .ok (.if_icmp .ne 29, 3) := by decide +kernel
theorem dL_isSo_702 : decode cL_isSo 702 = .ok (.aload_n 0, 1) := by decide +kernel
theorem dL_isSo_703 : decode cL_isSo 703 = .ok (.sipush 260, 3) := by decide +kernel
theorem dL_isSo_706 : decode cL_isSo 706 = .ok (.iconst 0, 1) := by decide +kernel
theorem dL_isSo_707 : decode cL_isSo 707 = .ok (.invokevirtual 134, 3) := by decide +kernel
theorem dL_isSo_710 : decode cL_isSo 710 = .ok (.iconst (-1), 1) := by decide +kernel
theorem dL_isSo_711 : decode cL_isSo 711 = .ok (.if_icmp .ne 17, 3) := by decide +kernel
theorem dL_isSo_714 : decode cL_isSo 714 = .ok (.aload_n 0, 1) := by decide +kernel
theorem dL_isSo_715 : decode cL_isSo 715 = .ok (.iconst (-1), 1) := by decide +kernel
theorem dL_isSo_716 : decode cL_isSo 716 = .ok (.iconst 0, 1) := by decide +kernel
theorem dL_isSo_717 : decode cL_isSo 717 = .ok (.invokevirtual 134, 3) := by decide +kernel
theorem dL_isSo_720 : decode cL_isSo 720 = .ok (.iconst (-1), 1) := by decide +kernel
theorem dL_isSo_721 : decode cL_isSo 721 = .ok (.if_icmp .ne 7, 3) := by decide +kernel
theorem dL_isSo_724 : decode cL_isSo 724 = .ok (.iconst 1, 1) := by decide +kernel
theorem dL_isSo_725 : decode cL_isSo 725 = .ok (.goto 4, 3) := by decide +kernel
theorem dL_isSo_728 : decode cL_isSo 728 = .ok (.iconst 0, 1) := by decide +kernel
theorem dL_isSo_729 : decode cL_isSo 729 = .ok (.ireturn, 1) := by decide +kernel
set_option maxRecDepth 20000 in
theorem ggL_law_X7_init : GoodIn wsL_law wsX7_init := goodIn_r _ [8, 9, 10, 11, 12, 13, 14, 15, 16, 17, 18, 19, 20, 21, 22, 23, 24, 25, 26, 27, 28, 29, 30, 31, 32, 33, 34, 35, 36, 3, 37, 38, 39, 40, 41, 42, 43, 44, 45, 46, 47, 48, 49, 50, 51, 52, 53, 54, 55, 56, 57, 58, 59, 60, 61, 62, 63, 64, 65, 66, 67, 68, 69, 70, 71, 72, 73, 74, 75, 76, 77, 78, 79, 80, 81, 82, 83, 84, 85, 86, 491, 492, 493, 494, 495, 496, 497, 498, 499, 500, 485, 486, 487, 488, 489, 490, 501, 502, 503, 504, 505, 506, 507, 508, 509, 510, 511, 512, 513, 514, 515, 516, 517, 518, 519, 520] (by decide +kernel) (by decide +kernel)
set_option maxRecDepth 20000 in
theorem gL_law_X7_init : GoodIn wsL_law (wsX7_init) := ggL_law_X7_init
set_option maxRecDepth 20000 in
theorem ggL_law_L_isSo : GoodIn wsL_law wsL_isSo := goodIn_r _ [90, 91, 92, 93, 2, 94, 15, 95, 96, 97, 98, 99, 100, 14, 101, 37, 102, 103, 104, 105, 106, 89, 107, 108, 109, 110, 111, 112, 113, 114, 115, 116, 117, 40, 118, 52, 119, 120, 121, 122, 51, 123, 124, 125, 126, 127, 128, 129, 130, 131, 53, 132, 133, 134, 135, 54, 136, 137, 138, 139, 55, 140, 141, 142, 143, 144, 145, 146, 147, 148, 149, 150, 151, 152, 153, 154, 155, 156, 157, 158, 159, 160, 161, 162, 163, 164, 165, 166, 167, 168, 169, 170, 171, 172, 173, 20, 28, 174, 175, 176, 19, 177, 178, 179, 180, 181, 27, 182, 183, 184, 185, 186, 187, 41, 188, 189, 45, 190, 191, 46, 192, 193, 194, 195, 196, 197, 198, 199, 200, 201, 202, 203, 204, 205, 206, 207, 208, 44, 209, 210, 211, 212, 213, 214, 215, 216, 217, 218, 219, 220, 221, 222, 223, 224, 225, 226, 227, 228, 229, 230, 231, 232, 233, 234, 235, 236, 237, 485, 486, 487, 488, 489, 490, 491, 492, 493, 494, 495, 496, 497, 498, 499, 500, 513, 514, 515, 516, 517, 501, 502, 503, 508, 509, 518, 519, 520] rfl (by decide +kernel)
set_option maxRecDepth 20000 in
theorem gL_law_L_isSo : GoodIn wsL_law (va_wsS RL 144 yL_isSo wsL_isSo) := goodIn_app (goodIn_of _ (by decide +kernel)) ggL_law_L_isSo
set_option maxRecDepth 20000 in
theorem ggL_law_L_cell : GoodIn wsL_law wsL_cell := goodIn_r _ [240, 241] (by decide +kernel) (by decide +kernel)
set_option maxRecDepth 20000 in
theorem gL_law_L_cell : GoodIn wsL_law (va_wsS RL 148 yL_cell wsL_cell) := goodIn_app (goodIn_of _ (by decide +kernel)) ggL_law_L_cell
set_option maxRecDepth 20000 in
theorem ggL_law_L_acts : GoodIn wsL_law wsL_acts := goodIn_r _ [244, 245, 246, 247, 89, 248, 5, 249, 250, 251, 252, 253, 254, 142, 143, 144, 145, 235, 236, 237, 146, 147, 148, 149, 255, 256, 257, 2, 258, 20, 15, 259, 260, 261, 19, 262, 70, 263, 264, 265, 266, 267, 178, 268, 269, 270, 271, 272, 273, 274, 14, 275, 37, 276, 277, 278, 279, 41, 45, 46, 161, 188, 189, 200, 190, 191, 280, 281, 282, 40, 283, 51, 284, 52, 53, 54, 55, 285, 286, 287, 44, 288, 63, 289, 211, 210, 290, 291, 292, 293, 96, 97, 294, 295, 296, 297, 205, 125, 126, 127, 123, 116, 117, 118, 298, 299, 300, 301, 196, 197, 198, 199, 212, 213, 214, 215, 216, 217, 218, 219, 220, 129, 130, 131, 221, 302, 303, 304, 305, 306, 307, 308, 309, 310, 311, 312, 313, 314, 315, 316, 317, 318, 319, 320, 321, 322, 323, 324, 325, 326, 327, 328, 329, 330, 331, 332, 333, 334, 335, 336, 337, 338, 140, 141, 339, 340, 341, 342, 231, 232, 233, 234, 343, 344, 345, 346, 347, 348, 349, 350, 351, 352, 353, 354, 355, 356, 357, 358, 359, 360, 361, 362, 363, 364, 365, 366, 367, 368, 369, 370, 108, 109, 110, 150, 151, 152, 371, 372, 373, 374, 375, 376, 377, 378, 379, 380, 381, 382, 383, 384, 385, 386, 387, 388, 389, 390, 391, 392, 393, 206, 207, 208, 209, 394, 395, 396, 397, 398, 399, 400, 401, 402, 403, 404, 405, 406, 407, 408, 409, 410, 411, 412, 413, 414, 415, 416, 417, 418, 419, 420, 421, 422, 423, 424, 425, 426, 427, 428, 429, 430, 431, 432, 433, 434, 435, 436, 437, 438, 439, 440, 441, 442, 443, 444, 445, 446, 447, 448, 449, 450, 451, 452, 158, 159, 160, 453, 454, 455, 456, 230, 167, 168, 169, 457, 458, 459, 460, 461, 462, 463, 464, 465, 466, 467, 468, 226, 227, 228, 229, 469, 163, 164, 165, 166, 470, 471, 472, 473, 474, 475, 476, 477, 478, 479, 480, 481, 482, 483, 484, 105, 106, 107, 485, 486, 487, 488, 489, 490, 501, 502, 503, 491, 492, 493, 494, 495, 496, 497, 498, 499, 500, 513, 514, 515, 516, 517, 518, 519, 520] rfl (by decide +kernel)
set_option maxRecDepth 20000 in
theorem gL_law_L_acts : GoodIn wsL_law (va_wsS RL 152 yL_acts wsL_acts) := goodIn_app (goodIn_of _ (by decide +kernel)) ggL_law_L_acts
set_option maxRecDepth 20000 in
theorem ggL_law_L_low : GoodIn wsL_law wsL_low := goodIn_r _ [248, 5] (by decide +kernel) (by decide +kernel)
set_option maxRecDepth 20000 in
theorem gL_law_L_low : GoodIn wsL_law (va_wsS RL 92 yL_low wsL_low) := goodIn_app (goodIn_of _ (by decide +kernel)) ggL_law_L_low
set_option maxRecDepth 20000 in
theorem ggL_law_X7_count : GoodIn wsL_law wsX7_count := goodIn_r _ [173, 20, 28, 15, 174, 175, 176, 19, 177, 178, 179, 180, 181, 27, 182, 183, 184, 185, 186, 14, 187, 161, 41, 188, 189, 45, 190, 191, 46, 192, 193, 194, 40, 195, 123, 116, 117, 118, 52, 196, 197, 198, 199, 200, 201, 202, 203, 204, 205, 125, 126, 127, 206, 207, 208, 44, 209, 210, 211, 212, 213, 214, 215, 216, 217, 218, 219, 220, 129, 130, 131, 53, 221, 222, 223, 224, 225, 226, 227, 228, 229, 230, 167, 168, 169, 51, 231, 232, 233, 234, 485, 486, 487, 488, 489, 490, 501, 502, 503, 508, 509, 491, 492, 493, 494, 495, 496, 497, 498, 499, 500, 513, 514, 515, 516, 517, 518, 519, 520] (by decide +kernel) (by decide +kernel)
set_option maxRecDepth 20000 in
theorem gL_law_X7_count : GoodIn wsL_law (wsV RL 140 RX7 yX7_count wsX7_count) := goodIn_app (goodIn_of _ (by decide +kernel)) ggL_law_X7_count
set_option maxRecDepth 20000 in
theorem ggL_law_X7_hook : GoodIn wsL_law wsX7_hook := goodIn_r _ [94, 15, 95, 96, 2, 97, 98, 99, 100, 14, 101, 37, 102, 103, 104, 485, 486, 487, 488, 489, 490, 491, 492, 493, 494, 495, 496, 497, 498, 499, 500] (by decide +kernel) (by decide +kernel)
set_option maxRecDepth 20000 in
theorem gL_law_X7_hook : GoodIn wsL_law (wsV RL 131 RX7 yX7_hook wsX7_hook) := goodIn_app (goodIn_of _ (by decide +kernel)) ggL_law_X7_hook
theorem dL_law_0 : decode cL_law 0 = .ok (.new 69, 3) := by decide +kernel
theorem dL_law_3 : decode cL_law 3 = .ok (.dup, 1) := by decide +kernel
theorem dL_law_4 : decode cL_law 4 = .ok (.invokespecial 143, 3) := by decide +kernel
theorem dL_law_7 : decode cL_law 7 = .ok (.astore_n 1, 1) := by decide +kernel
theorem dL_law_8 : decode cL_law 8 = .ok (.bipush 9, 2) := by decide +kernel
theorem dL_law_10 : decode cL_law 10 = .ok (.newarray .int, 2) := by decide +kernel
theorem dL_law_12 : decode cL_law 12 = .ok (.astore_n 2, 1) := by decide +kernel
theorem dL_law_13 : decode cL_law 13 = .ok (.bipush 8, 2) := by decide +kernel
theorem dL_law_15 : decode cL_law 15 = .ok (.newarray .int, 2) := by decide +kernel
theorem dL_law_17 : decode cL_law 17 = .ok (.astore_n 3, 1) := by decide +kernel
theorem dL_law_18 : decode cL_law 18 = .ok (.bipush 40, 2) := by decide +kernel
theorem dL_law_20 : decode cL_law 20 = .ok (.newarray .int, 2) := by decide +kernel
theorem dL_law_22 : decode cL_law 22 = .ok (.astore 4, 2) := by decide +kernel
theorem dL_law_24 : decode cL_law 24 = .ok (.bipush 64, 2) := by decide +kernel
theorem dL_law_26 : decode cL_law 26 = .ok (.newarray .int, 2) := by decide +kernel
theorem dL_law_28 : decode cL_law 28 = .ok (.astore 5, 2) := by decide +kernel
theorem dL_law_30 : decode cL_law 30 = .ok (.bipush 64, 2) := by decide +kernel
theorem dL_law_32 : decode cL_law 32 = .ok (.newarray .long, 2) := by decide +kernel
theorem dL_law_34 : decode cL_law 34 = .ok (.astore 6, 2) := by decide +kernel
theorem dL_law_36 : decode cL_law 36 = .ok (.bipush 64, 2) := by decide +kernel
theorem dL_law_38 : decode cL_law 38 = .ok (.newarray .long, 2) := by decide +kernel
theorem dL_law_40 : decode cL_law 40 = .ok (.astore 7, 2) := by decide +kernel
theorem dL_law_42 : decode cL_law 42 = .ok (.bipush 64, 2) := by decide +kernel
theorem dL_law_44 : decode cL_law 44 = .ok (.newarray .long, 2) := by decide +kernel
theorem dL_law_46 : decode cL_law 46 = .ok (.astore 8, 2) := by decide +kernel
theorem dL_law_48 : decode cL_law 48 = .ok (.aload_n 2, 1) := by decide +kernel
theorem dL_law_49 : decode cL_law 49 = .ok (.iconst 1, 1) := by decide +kernel
theorem dL_law_50 : decode cL_law 50 = .ok (.bipush 6, 2) := by decide +kernel
theorem dL_law_52 : decode cL_law 52 = .ok (.iastore, 1) := by decide +kernel
theorem dL_law_53 : decode cL_law 53 = .ok (.iconst 0, 1) := by decide +kernel
theorem dL_law_54 : decode cL_law 54 = .ok (.istore 9, 2) := by decide +kernel
theorem dL_law_56 : decode cL_law 56 = .ok (.iload 9, 2) := by decide +kernel
theorem dL_law_58 : decode cL_law 58 = .ok (.bipush 8, 2) := by decide +kernel
theorem dL_law_60 : decode cL_law 60 = .ok (.if_icmp .ge 15, 3) := by decide +kernel
theorem dL_law_63 : decode cL_law 63 = .ok (.aload_n 3, 1) := by decide +kernel
theorem dL_law_64 : decode cL_law 64 = .ok (.iload 9, 2) := by decide +kernel
theorem dL_law_66 : decode cL_law 66 = .ok (.bipush (-9), 2) := by decide +kernel
theorem dL_law_68 : decode cL_law 68 = .ok (.iastore, 1) := by decide +kernel
theorem dL_law_69 : decode cL_law 69 = .ok (.iinc 9 1, 3) := by decide +kernel
theorem dL_law_72 : decode cL_law 72 = .ok (.goto (-16), 3) := by decide +kernel
theorem dL_law_75 : decode cL_law 75 = .ok (.aload_n 1, 1) := by decide +kernel
theorem dL_law_76 : decode cL_law 76 = .ok (.aload_n 2, 1) := by decide +kernel
theorem dL_law_77 : decode cL_law 77 = .ok (.aload_n 3, 1) := by decide +kernel
theorem dL_law_78 : decode cL_law 78 = .ok (.aload 4, 2) := by decide +kernel
theorem dL_law_80 : decode cL_law 80 = .ok (.aload 6, 2) := by decide +kernel
theorem dL_law_82 : decode cL_law 82 = .ok (.aload 7, 2) := by decide +kernel
theorem dL_law_84 : decode cL_law 84 = .ok (.aload 8, 2) := by decide +kernel
theorem dL_law_86 : decode cL_law 86 = .ok (.invokestatic 144, 3) := by decide +kernel
theorem dL_law_89 : decode cL_law 89 = .ok (.istore 9, 2) := by decide +kernel
theorem dL_law_91 : decode cL_law 91 = .ok (.iconst 0, 1) := by decide +kernel
theorem dL_law_92 : decode cL_law 92 = .ok (.istore 10, 2) := by decide +kernel
theorem dL_law_94 : decode cL_law 94 = .ok (.iload 10, 2) := by decide +kernel
theorem dL_law_96 : decode cL_law 96 = .ok (.bipush 10, 2) := by decide +kernel
theorem dL_law_98 : decode cL_law 98 = .ok (.if_icmp .ge 65, 3) := by decide +kernel
theorem dL_law_101 : decode cL_law 101 = .ok (.iload 9, 2) := by decide +kernel
theorem dL_law_103 : decode cL_law 103 = .ok (.ifCond .eq 60, 3) := by decide +kernel
theorem dL_law_106 : decode cL_law 106 = .ok (.aload_n 1, 1) := by decide +kernel
theorem dL_law_107 : decode cL_law 107 = .ok (.aload_n 2, 1) := by decide +kernel
theorem dL_law_108 : decode cL_law 108 = .ok (.aload_n 3, 1) := by decide +kernel
theorem dL_law_109 : decode cL_law 109 = .ok (.aload 4, 2) := by decide +kernel
theorem dL_law_111 : decode cL_law 111 = .ok (.aload 5, 2) := by decide +kernel
theorem dL_law_113 : decode cL_law 113 = .ok (.aload 6, 2) := by decide +kernel
theorem dL_law_115 : decode cL_law 115 = .ok (.aload 7, 2) := by decide +kernel
theorem dL_law_117 : decode cL_law 117 = .ok (.aload 8, 2) := by decide +kernel
theorem dL_law_119 : decode cL_law 119 = .ok (.aload_n 0, 1) := by decide +kernel
theorem dL_law_120 : decode cL_law 120 = .ok (.iconst 1, 1) := by decide +kernel
theorem dL_law_121 : decode cL_law 121 = .ok (.iload 10, 2) := by decide +kernel
theorem dL_law_123 : decode cL_law 123 = .ok (.iadd, 1) := by decide +kernel
theorem dL_law_124 : decode cL_law 124 = .ok (.invokestatic 148, 3) := by decide +kernel
theorem dL_law_127 : decode cL_law 127 = .ok (.ldc 8, 2) := by decide +kernel
theorem dL_law_129 : decode cL_law 129 = .ok (.iand, 1) := by decide +kernel
theorem dL_law_130 : decode cL_law 130 = .ok (.sipush 864, 3) := by decide +kernel
theorem dL_law_133 : decode cL_law 133 = .ok (.idiv, 1) := by decide +kernel
theorem dL_law_134 : decode cL_law 134 = .ok (.sipush 864, 3) := by decide +kernel
theorem dL_law_137 : decode cL_law 137 = .ok (.imul, 1) := by decide +kernel
theorem dL_law_138 : decode cL_law 138 = .ok (.iload 10, 2) := by decide +kernel
theorem dL_law_140 : decode cL_law 140 = .ok (.bipush 6, 2) := by decide +kernel
theorem dL_law_142 : decode cL_law 142 = .ok (.if_icmp .ge 7, 3) := by decide +kernel
theorem dL_law_145 : decode cL_law 145 = .ok (.iconst 0, 1) := by decide +kernel
theorem dL_law_146 : decode cL_law 146 = .ok (.goto 5, 3) := by decide +kernel
theorem dL_law_149 : decode cL_law 149 = .ok (.bipush 8, 2) := by decide +kernel
theorem dL_law_151 : decode cL_law 151 = .ok (.iadd, 1) := by decide +kernel
theorem dL_law_152 : decode cL_law 152 = .ok (.invokestatic 152, 3) := by decide +kernel
theorem dL_law_155 : decode cL_law 155 = .ok (.istore 9, 2) := by decide +kernel
theorem dL_law_157 : decode cL_law 157 = .ok (.iinc 10 1, 3) := by decide +kernel
theorem dL_law_160 : decode cL_law 160 = .ok (.goto (-66), 3) := by decide +kernel
theorem dL_law_163 : decode cL_law 163 = .ok (.bipush 8, 2) := by decide +kernel
theorem dL_law_165 : decode cL_law 165 = .ok (.aload_n 0, 1) := by decide +kernel
theorem dL_law_166 : decode cL_law 166 = .ok (.iconst 0, 1) := by decide +kernel
theorem dL_law_167 : decode cL_law 167 = .ok (.invokestatic 148, 3) := by decide +kernel
theorem dL_law_170 : decode cL_law 170 = .ok (.bipush 50, 2) := by decide +kernel
theorem dL_law_172 : decode cL_law 172 = .ok (.invokestatic 92, 3) := by decide +kernel
theorem dL_law_175 : decode cL_law 175 = .ok (.iadd, 1) := by decide +kernel
theorem dL_law_176 : decode cL_law 176 = .ok (.istore 10, 2) := by decide +kernel
theorem dL_law_178 : decode cL_law 178 = .ok (.iconst 0, 1) := by decide +kernel
theorem dL_law_179 : decode cL_law 179 = .ok (.istore 11, 2) := by decide +kernel
theorem dL_law_181 : decode cL_law 181 = .ok (.iload 11, 2) := by decide +kernel
theorem dL_law_183 : decode cL_law 183 = .ok (.iload 10, 2) := by decide +kernel
theorem dL_law_185 : decode cL_law 185 = .ok (.if_icmp .ge 73, 3) := by decide +kernel
theorem dL_law_188 : decode cL_law 188 = .ok (.iload 9, 2) := by decide +kernel
theorem dL_law_190 : decode cL_law 190 = .ok (.ifCond .eq 68, 3) := by decide +kernel
theorem dL_law_193 : decode cL_law 193 = .ok (.aload_n 1, 1) := by decide +kernel
theorem dL_law_194 : decode cL_law 194 = .ok (.aload_n 2, 1) := by decide +kernel
theorem dL_law_195 : decode cL_law 195 = .ok (.aload_n 3, 1) := by decide +kernel
theorem dL_law_196 : decode cL_law 196 = .ok (.aload 4, 2) := by decide +kernel
theorem dL_law_198 : decode cL_law 198 = .ok (.aload 5, 2) := by decide +kernel
theorem dL_law_200 : decode cL_law 200 = .ok (.aload 6, 2) := by decide +kernel
theorem dL_law_202 : decode cL_law 202 = .ok (.aload 7, 2) := by decide +kernel
theorem dL_law_204 : decode cL_law 204 = .ok (.aload 8, 2) := by decide +kernel
theorem dL_law_206 : decode cL_law 206 = .ok (.aload_n 0, 1) := by decide +kernel
theorem dL_law_207 : decode cL_law 207 = .ok (.bipush 11, 2) := by decide +kernel
theorem dL_law_209 : decode cL_law 209 = .ok (.iload 11, 2) := by decide +kernel
theorem dL_law_211 : decode cL_law 211 = .ok (.iadd, 1) := by decide +kernel
theorem dL_law_212 : decode cL_law 212 = .ok (.invokestatic 148, 3) := by decide +kernel
theorem dL_law_215 : decode cL_law 215 = .ok (.sipush 7919, 3) := by decide +kernel
theorem dL_law_218 : decode cL_law 218 = .ok (.iload 11, 2) := by decide +kernel
theorem dL_law_220 : decode cL_law 220 = .ok (.imul, 1) := by decide +kernel
theorem dL_law_221 : decode cL_law 221 = .ok (.ixor, 1) := by decide +kernel
theorem dL_law_222 : decode cL_law 222 = .ok (.invokestatic 152, 3) := by decide +kernel
theorem dL_law_225 : decode cL_law 225 = .ok (.ifCond .eq 24, 3) := by decide +kernel
theorem dL_law_228 : decode cL_law 228 = .ok (.aload_n 1, 1) := by decide +kernel
theorem dL_law_229 : decode cL_law 229 = .ok (.aload_n 2, 1) := by decide +kernel
theorem dL_law_230 : decode cL_law 230 = .ok (.aload_n 3, 1) := by decide +kernel
theorem dL_law_231 : decode cL_law 231 = .ok (.aload 4, 2) := by decide +kernel
theorem dL_law_233 : decode cL_law 233 = .ok (.aload 6, 2) := by decide +kernel
theorem dL_law_235 : decode cL_law 235 = .ok (.aload 7, 2) := by decide +kernel
theorem dL_law_237 : decode cL_law 237 = .ok (.aload 8, 2) := by decide +kernel
theorem dL_law_239 : decode cL_law 239 = .ok (.invokestatic 144, 3) := by decide +kernel
theorem dL_law_242 : decode cL_law 242 = .ok (.ifCond .eq 7, 3) := by decide +kernel
theorem dL_law_245 : decode cL_law 245 = .ok (.iconst 1, 1) := by decide +kernel
theorem dL_law_246 : decode cL_law 246 = .ok (.goto 4, 3) := by decide +kernel
theorem dL_law_249 : decode cL_law 249 = .ok (.iconst 0, 1) := by decide +kernel
theorem dL_law_250 : decode cL_law 250 = .ok (.istore 9, 2) := by decide +kernel
theorem dL_law_252 : decode cL_law 252 = .ok (.iinc 11 1, 3) := by decide +kernel
theorem dL_law_255 : decode cL_law 255 = .ok (.goto (-74), 3) := by decide +kernel
theorem dL_law_258 : decode cL_law 258 = .ok (.iload 9, 2) := by decide +kernel
theorem dL_law_260 : decode cL_law 260 = .ok (.ifCond .eq 45, 3) := by decide +kernel
theorem dL_law_263 : decode cL_law 263 = .ok (.aload_n 1, 1) := by decide +kernel
theorem dL_law_264 : decode cL_law 264 = .ok (.bipush 14, 2) := by decide +kernel
theorem dL_law_266 : decode cL_law 266 = .ok (.invokevirtual 140, 3) := by decide +kernel
theorem dL_law_269 : decode cL_law 269 = .ok (.iconst (-1), 1) := by decide +kernel
theorem dL_law_270 : decode cL_law 270 = .ok (.if_icmp .ne 35, 3) := by decide +kernel
theorem dL_law_273 : decode cL_law 273 = .ok (.aload_n 1, 1) := by decide +kernel
theorem dL_law_274 : decode cL_law 274 = .ok (.iconst (-1), 1) := by decide +kernel
theorem dL_law_275 : decode cL_law 275 = .ok (.invokevirtual 140, 3) := by decide +kernel
theorem dL_law_278 : decode cL_law 278 = .ok (.iconst (-1), 1) := by decide +kernel
theorem dL_law_279 : decode cL_law 279 = .ok (.if_icmp .ne 26, 3) := by decide +kernel
theorem dL_law_282 : decode cL_law 282 = .ok (.aload_n 1, 1) := by decide +kernel
theorem dL_law_283 : decode cL_law 283 = .ok (.bipush 8, 2) := by decide +kernel
theorem dL_law_285 : decode cL_law 285 = .ok (.invokevirtual 131, 3) := by decide +kernel
theorem dL_law_288 : decode cL_law 288 = .ok (.iconst (-1), 1) := by decide +kernel
theorem dL_law_289 : decode cL_law 289 = .ok (.if_icmp .ne 16, 3) := by decide +kernel
theorem dL_law_292 : decode cL_law 292 = .ok (.aload_n 1, 1) := by decide +kernel
theorem dL_law_293 : decode cL_law 293 = .ok (.iconst (-1), 1) := by decide +kernel
theorem dL_law_294 : decode cL_law 294 = .ok (.invokevirtual 131, 3) := by decide +kernel
theorem dL_law_297 : decode cL_law 297 = .ok (.iconst (-1), 1) := by decide +kernel
theorem dL_law_298 : decode cL_law 298 = .ok (.if_icmp .ne 7, 3) := by decide +kernel
theorem dL_law_301 : decode cL_law 301 = .ok (.iconst 1, 1) := by decide +kernel
theorem dL_law_302 : decode cL_law 302 = .ok (.goto 4, 3) := by decide +kernel
theorem dL_law_305 : decode cL_law 305 = .ok (.iconst 0, 1) := by decide +kernel
theorem dL_law_306 : decode cL_law 306 = .ok (.ireturn, 1) := by decide +kernel
abbrev vwCl : List vw_C := [(RX0, TX0, 5), (RX1, TX1, 3), (RX2, TX2, 3), (RX3, TX3, 3), (RX4, TX4, 4), (RX5, TX5, 10), (RX6, TX6, 2), (RX7, TX7, 6)]
end
