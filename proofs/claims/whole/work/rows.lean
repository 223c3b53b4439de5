section
-- ===== PART A: goes FIRST, ahead of the names: the tables' words, and 'selects' of the private methods out of them =====
/-- a private method of a class that the tables say can be made, by its rows of tables_1 -/
def lw_okq (q : MethodName × Nat) : Prop := (q.1.cls ≠ "java/lang/invoke/MethodHandle" ∧ q.1.cls ≠ "java/lang/invoke/VarHandle") ∧ Cond.instantiable q.1.cls q.2 ∈ tables_1 ∧ Cond.privateMethod q.1 ∈ tables_1 ∧ Cond.instanceMethod q.1 ∈ tables_1
theorem lw_p0 : lw_okq (⟨"NamedMoves$History", "slotOfDraft", "()I"⟩, 3) := ⟨⟨by decide +kernel, by decide +kernel⟩, List.mem_of_getElem? (i := 105) (by decide +kernel), List.mem_of_getElem? (i := 200) (by decide +kernel), List.mem_of_getElem? (i := 201) (by decide +kernel)⟩
theorem lw_p1 : lw_okq (⟨"NamedMoves", "recorded", "(I)I"⟩, 6) := ⟨⟨by decide +kernel, by decide +kernel⟩, List.mem_of_getElem? (i := 14) (by decide +kernel), List.mem_of_getElem? (i := 228) (by decide +kernel), List.mem_of_getElem? (i := 229) (by decide +kernel)⟩
theorem lw_p2 : lw_okq (⟨"NamedMoves$Store", "halfAddressFor", "(I)I"⟩, 10) := ⟨⟨by decide +kernel, by decide +kernel⟩, List.mem_of_getElem? (i := 22) (by decide +kernel), List.mem_of_getElem? (i := 259) (by decide +kernel), List.mem_of_getElem? (i := 260) (by decide +kernel)⟩
theorem lw_p3 : lw_okq (⟨"NamedMoves$Store", "roomKept", "()I"⟩, 10) := ⟨⟨by decide +kernel, by decide +kernel⟩, List.mem_of_getElem? (i := 22) (by decide +kernel), List.mem_of_getElem? (i := 267) (by decide +kernel), List.mem_of_getElem? (i := 268) (by decide +kernel)⟩
theorem lw_p4 : lw_okq (⟨"NamedMoves$Store", "addressOfHalf", "(I)I"⟩, 10) := ⟨⟨by decide +kernel, by decide +kernel⟩, List.mem_of_getElem? (i := 22) (by decide +kernel), List.mem_of_getElem? (i := 271) (by decide +kernel), List.mem_of_getElem? (i := 272) (by decide +kernel)⟩
theorem lw_p5 : lw_okq (⟨"NamedMoves$Store", "readIn", "([II)I"⟩, 10) := ⟨⟨by decide +kernel, by decide +kernel⟩, List.mem_of_getElem? (i := 22) (by decide +kernel), List.mem_of_getElem? (i := 299) (by decide +kernel), List.mem_of_getElem? (i := 300) (by decide +kernel)⟩
theorem lw_p6 : lw_okq (⟨"NamedMoves$Store", "isInOldHalf", "(I)Z"⟩, 10) := ⟨⟨by decide +kernel, by decide +kernel⟩, List.mem_of_getElem? (i := 22) (by decide +kernel), List.mem_of_getElem? (i := 303) (by decide +kernel), List.mem_of_getElem? (i := 304) (by decide +kernel)⟩
theorem lw_p7 : lw_okq (⟨"NamedMoves$Store", "carryOver", "(II)I"⟩, 10) := ⟨⟨by decide +kernel, by decide +kernel⟩, List.mem_of_getElem? (i := 22) (by decide +kernel), List.mem_of_getElem? (i := 307) (by decide +kernel), List.mem_of_getElem? (i := 308) (by decide +kernel)⟩
theorem lw_p8 : lw_okq (⟨"NamedMoves$Store", "endMove", "()V"⟩, 10) := ⟨⟨by decide +kernel, by decide +kernel⟩, List.mem_of_getElem? (i := 22) (by decide +kernel), List.mem_of_getElem? (i := 356) (by decide +kernel), List.mem_of_getElem? (i := 357) (by decide +kernel)⟩
theorem lw_p9 : lw_okq (⟨"NamedMoves$Store", "firstWithNote", "(I)I"⟩, 10) := ⟨⟨by decide +kernel, by decide +kernel⟩, List.mem_of_getElem? (i := 22) (by decide +kernel), List.mem_of_getElem? (i := 400) (by decide +kernel), List.mem_of_getElem? (i := 401) (by decide +kernel)⟩
theorem lw_p10 : lw_okq (⟨"NamedMoves$Store", "hasTwins", "(I)Z"⟩, 10) := ⟨⟨by decide +kernel, by decide +kernel⟩, List.mem_of_getElem? (i := 22) (by decide +kernel), List.mem_of_getElem? (i := 420) (by decide +kernel), List.mem_of_getElem? (i := 421) (by decide +kernel)⟩
theorem lw_p11 : lw_okq (⟨"NamedMoves$Store", "replaceHooks", "(II)V"⟩, 10) := ⟨⟨by decide +kernel, by decide +kernel⟩, List.mem_of_getElem? (i := 22) (by decide +kernel), List.mem_of_getElem? (i := 434) (by decide +kernel), List.mem_of_getElem? (i := 435) (by decide +kernel)⟩
theorem lw_p12 : lw_okq (⟨"NamedMoves$Errand", "numbersDue", "()I"⟩, 3) := ⟨⟨by decide +kernel, by decide +kernel⟩, List.mem_of_getElem? (i := 157) (by decide +kernel), List.mem_of_getElem? (i := 486) (by decide +kernel), List.mem_of_getElem? (i := 487) (by decide +kernel)⟩
theorem lw_p13 : lw_okq (⟨"NamedMoves$Errand", "passes", "(LNamedMoves$Text;I)Z"⟩, 3) := ⟨⟨by decide +kernel, by decide +kernel⟩, List.mem_of_getElem? (i := 157) (by decide +kernel), List.mem_of_getElem? (i := 490) (by decide +kernel), List.mem_of_getElem? (i := 491) (by decide +kernel)⟩
theorem lw_p14 : lw_okq (⟨"NamedMoves$Errand", "readNumber", "(LNamedMoves$Text;)I"⟩, 3) := ⟨⟨by decide +kernel, by decide +kernel⟩, List.mem_of_getElem? (i := 157) (by decide +kernel), List.mem_of_getElem? (i := 499) (by decide +kernel), List.mem_of_getElem? (i := 500) (by decide +kernel)⟩
theorem lw_p15 : lw_okq (⟨"NamedMoves", "textFailed", "(I)I"⟩, 6) := ⟨⟨by decide +kernel, by decide +kernel⟩, List.mem_of_getElem? (i := 14) (by decide +kernel), List.mem_of_getElem? (i := 507) (by decide +kernel), List.mem_of_getElem? (i := 508) (by decide +kernel)⟩
def lw_privs_1 : List (MethodName × Nat) := [(⟨"NamedMoves$History", "slotOfDraft", "()I"⟩, 3), (⟨"NamedMoves", "recorded", "(I)I"⟩, 6), (⟨"NamedMoves$Store", "halfAddressFor", "(I)I"⟩, 10), (⟨"NamedMoves$Store", "roomKept", "()I"⟩, 10), (⟨"NamedMoves$Store", "addressOfHalf", "(I)I"⟩, 10), (⟨"NamedMoves$Store", "readIn", "([II)I"⟩, 10), (⟨"NamedMoves$Store", "isInOldHalf", "(I)Z"⟩, 10), (⟨"NamedMoves$Store", "carryOver", "(II)I"⟩, 10), (⟨"NamedMoves$Store", "endMove", "()V"⟩, 10), (⟨"NamedMoves$Store", "firstWithNote", "(I)I"⟩, 10), (⟨"NamedMoves$Store", "hasTwins", "(I)Z"⟩, 10), (⟨"NamedMoves$Store", "replaceHooks", "(II)V"⟩, 10), (⟨"NamedMoves$Errand", "numbersDue", "()I"⟩, 3), (⟨"NamedMoves$Errand", "passes", "(LNamedMoves$Text;I)Z"⟩, 3), (⟨"NamedMoves$Errand", "readNumber", "(LNamedMoves$Text;)I"⟩, 3), (⟨"NamedMoves", "textFailed", "(I)I"⟩, 6)]
theorem lw_r1 : ∀ q ∈ lw_privs_1, lw_okq q := List.forall_mem_cons.mpr ⟨lw_p0, List.forall_mem_cons.mpr ⟨lw_p1, List.forall_mem_cons.mpr ⟨lw_p2, List.forall_mem_cons.mpr ⟨lw_p3, List.forall_mem_cons.mpr ⟨lw_p4, List.forall_mem_cons.mpr ⟨lw_p5, List.forall_mem_cons.mpr ⟨lw_p6, List.forall_mem_cons.mpr ⟨lw_p7, List.forall_mem_cons.mpr ⟨lw_p8, List.forall_mem_cons.mpr ⟨lw_p9, List.forall_mem_cons.mpr ⟨lw_p10, List.forall_mem_cons.mpr ⟨lw_p11, List.forall_mem_cons.mpr ⟨lw_p12, List.forall_mem_cons.mpr ⟨lw_p13, List.forall_mem_cons.mpr ⟨lw_p14, List.forall_mem_cons.mpr ⟨lw_p15, fun _ h => absurd h List.not_mem_nil⟩⟩⟩⟩⟩⟩⟩⟩⟩⟩⟩⟩⟩⟩⟩⟩
theorem lw_p16 : lw_okq (⟨"NamedMoves$Store", "thingsWithTwins", "()I"⟩, 10) := ⟨⟨by decide +kernel, by decide +kernel⟩, List.mem_of_getElem? (i := 22) (by decide +kernel), List.mem_of_getElem? (i := 538) (by decide +kernel), List.mem_of_getElem? (i := 539) (by decide +kernel)⟩
theorem lw_p17 : lw_okq (⟨"NamedMoves$Reach", "isReached", "(I)Z"⟩, 4) := ⟨⟨by decide +kernel, by decide +kernel⟩, List.mem_of_getElem? (i := 124) (by decide +kernel), List.mem_of_getElem? (i := 597) (by decide +kernel), List.mem_of_getElem? (i := 598) (by decide +kernel)⟩
theorem lw_p18 : lw_okq (⟨"NamedMovesModel", "acts", "()V"⟩, 12) := ⟨⟨by decide +kernel, by decide +kernel⟩, List.mem_of_getElem? (i := 633) (by decide +kernel), List.mem_of_getElem? (i := 683) (by decide +kernel), List.mem_of_getElem? (i := 684) (by decide +kernel)⟩
theorem lw_p19 : lw_okq (⟨"NamedMovesModel", "floorPlace", "(I)I"⟩, 12) := ⟨⟨by decide +kernel, by decide +kernel⟩, List.mem_of_getElem? (i := 633) (by decide +kernel), List.mem_of_getElem? (i := 694) (by decide +kernel), List.mem_of_getElem? (i := 695) (by decide +kernel)⟩
theorem lw_p20 : lw_okq (⟨"NamedMovesModel", "sizeAt", "(I)I"⟩, 12) := ⟨⟨by decide +kernel, by decide +kernel⟩, List.mem_of_getElem? (i := 633) (by decide +kernel), List.mem_of_getElem? (i := 698) (by decide +kernel), List.mem_of_getElem? (i := 699) (by decide +kernel)⟩
theorem lw_p21 : lw_okq (⟨"NamedMovesModel", "isCopy", "(I)Z"⟩, 12) := ⟨⟨by decide +kernel, by decide +kernel⟩, List.mem_of_getElem? (i := 633) (by decide +kernel), List.mem_of_getElem? (i := 702) (by decide +kernel), List.mem_of_getElem? (i := 703) (by decide +kernel)⟩
theorem lw_p22 : lw_okq (⟨"NamedMovesModel", "ofCopy", "(II)I"⟩, 12) := ⟨⟨by decide +kernel, by decide +kernel⟩, List.mem_of_getElem? (i := 633) (by decide +kernel), List.mem_of_getElem? (i := 706) (by decide +kernel), List.mem_of_getElem? (i := 707) (by decide +kernel)⟩
theorem lw_p23 : lw_okq (⟨"NamedMovesModel", "free", "(I)I"⟩, 12) := ⟨⟨by decide +kernel, by decide +kernel⟩, List.mem_of_getElem? (i := 633) (by decide +kernel), List.mem_of_getElem? (i := 710) (by decide +kernel), List.mem_of_getElem? (i := 711) (by decide +kernel)⟩
theorem lw_p24 : lw_okq (⟨"NamedMovesModel", "kept", "()I"⟩, 12) := ⟨⟨by decide +kernel, by decide +kernel⟩, List.mem_of_getElem? (i := 633) (by decide +kernel), List.mem_of_getElem? (i := 714) (by decide +kernel), List.mem_of_getElem? (i := 715) (by decide +kernel)⟩
theorem lw_p25 : lw_okq (⟨"NamedMovesModel", "old", "()I"⟩, 12) := ⟨⟨by decide +kernel, by decide +kernel⟩, List.mem_of_getElem? (i := 633) (by decide +kernel), List.mem_of_getElem? (i := 718) (by decide +kernel), List.mem_of_getElem? (i := 719) (by decide +kernel)⟩
theorem lw_p26 : lw_okq (⟨"NamedMovesModel", "isMoving", "()Z"⟩, 12) := ⟨⟨by decide +kernel, by decide +kernel⟩, List.mem_of_getElem? (i := 633) (by decide +kernel), List.mem_of_getElem? (i := 722) (by decide +kernel), List.mem_of_getElem? (i := 723) (by decide +kernel)⟩
theorem lw_p27 : lw_okq (⟨"NamedMovesModel", "lays", "(IIIII)V"⟩, 12) := ⟨⟨by decide +kernel, by decide +kernel⟩, List.mem_of_getElem? (i := 633) (by decide +kernel), List.mem_of_getElem? (i := 726) (by decide +kernel), List.mem_of_getElem? (i := 727) (by decide +kernel)⟩
theorem lw_p28 : lw_okq (⟨"NamedMovesModel", "laysInHalf", "(III)I"⟩, 12) := ⟨⟨by decide +kernel, by decide +kernel⟩, List.mem_of_getElem? (i := 633) (by decide +kernel), List.mem_of_getElem? (i := 730) (by decide +kernel), List.mem_of_getElem? (i := 731) (by decide +kernel)⟩
theorem lw_p29 : lw_okq (⟨"NamedMovesModel", "isRight", "(III)Z"⟩, 12) := ⟨⟨by decide +kernel, by decide +kernel⟩, List.mem_of_getElem? (i := 633) (by decide +kernel), List.mem_of_getElem? (i := 741) (by decide +kernel), List.mem_of_getElem? (i := 742) (by decide +kernel)⟩
theorem lw_p30 : lw_okq (⟨"NamedMovesModel", "reads", "(I)V"⟩, 12) := ⟨⟨by decide +kernel, by decide +kernel⟩, List.mem_of_getElem? (i := 633) (by decide +kernel), List.mem_of_getElem? (i := 745) (by decide +kernel), List.mem_of_getElem? (i := 746) (by decide +kernel)⟩
theorem lw_p31 : lw_okq (⟨"NamedMovesModel", "carries", "(I)I"⟩, 12) := ⟨⟨by decide +kernel, by decide +kernel⟩, List.mem_of_getElem? (i := 633) (by decide +kernel), List.mem_of_getElem? (i := 752) (by decide +kernel), List.mem_of_getElem? (i := 753) (by decide +kernel)⟩
def lw_privs_2 : List (MethodName × Nat) := [(⟨"NamedMoves$Store", "thingsWithTwins", "()I"⟩, 10), (⟨"NamedMoves$Reach", "isReached", "(I)Z"⟩, 4), (⟨"NamedMovesModel", "acts", "()V"⟩, 12), (⟨"NamedMovesModel", "floorPlace", "(I)I"⟩, 12), (⟨"NamedMovesModel", "sizeAt", "(I)I"⟩, 12), (⟨"NamedMovesModel", "isCopy", "(I)Z"⟩, 12), (⟨"NamedMovesModel", "ofCopy", "(II)I"⟩, 12), (⟨"NamedMovesModel", "free", "(I)I"⟩, 12), (⟨"NamedMovesModel", "kept", "()I"⟩, 12), (⟨"NamedMovesModel", "old", "()I"⟩, 12), (⟨"NamedMovesModel", "isMoving", "()Z"⟩, 12), (⟨"NamedMovesModel", "lays", "(IIIII)V"⟩, 12), (⟨"NamedMovesModel", "laysInHalf", "(III)I"⟩, 12), (⟨"NamedMovesModel", "isRight", "(III)Z"⟩, 12), (⟨"NamedMovesModel", "reads", "(I)V"⟩, 12), (⟨"NamedMovesModel", "carries", "(I)I"⟩, 12)]
theorem lw_r2 : ∀ q ∈ lw_privs_2, lw_okq q := List.forall_mem_cons.mpr ⟨lw_p16, List.forall_mem_cons.mpr ⟨lw_p17, List.forall_mem_cons.mpr ⟨lw_p18, List.forall_mem_cons.mpr ⟨lw_p19, List.forall_mem_cons.mpr ⟨lw_p20, List.forall_mem_cons.mpr ⟨lw_p21, List.forall_mem_cons.mpr ⟨lw_p22, List.forall_mem_cons.mpr ⟨lw_p23, List.forall_mem_cons.mpr ⟨lw_p24, List.forall_mem_cons.mpr ⟨lw_p25, List.forall_mem_cons.mpr ⟨lw_p26, List.forall_mem_cons.mpr ⟨lw_p27, List.forall_mem_cons.mpr ⟨lw_p28, List.forall_mem_cons.mpr ⟨lw_p29, List.forall_mem_cons.mpr ⟨lw_p30, List.forall_mem_cons.mpr ⟨lw_p31, fun _ h => absurd h List.not_mem_nil⟩⟩⟩⟩⟩⟩⟩⟩⟩⟩⟩⟩⟩⟩⟩⟩
theorem lw_p32 : lw_okq (⟨"NamedMovesModel", "joins", "(I)V"⟩, 12) := ⟨⟨by decide +kernel, by decide +kernel⟩, List.mem_of_getElem? (i := 633) (by decide +kernel), List.mem_of_getElem? (i := 756) (by decide +kernel), List.mem_of_getElem? (i := 757) (by decide +kernel)⟩
theorem lw_p33 : lw_okq (⟨"NamedMovesModel", "begins", "()V"⟩, 12) := ⟨⟨by decide +kernel, by decide +kernel⟩, List.mem_of_getElem? (i := 633) (by decide +kernel), List.mem_of_getElem? (i := 775) (by decide +kernel), List.mem_of_getElem? (i := 776) (by decide +kernel)⟩
theorem lw_p34 : lw_okq (⟨"NamedMovesModel", "ends", "()V"⟩, 12) := ⟨⟨by decide +kernel, by decide +kernel⟩, List.mem_of_getElem? (i := 633) (by decide +kernel), List.mem_of_getElem? (i := 779) (by decide +kernel), List.mem_of_getElem? (i := 780) (by decide +kernel)⟩
theorem lw_p35 : lw_okq (⟨"NamedMovesModel", "steps", "()V"⟩, 12) := ⟨⟨by decide +kernel, by decide +kernel⟩, List.mem_of_getElem? (i := 633) (by decide +kernel), List.mem_of_getElem? (i := 787) (by decide +kernel), List.mem_of_getElem? (i := 788) (by decide +kernel)⟩
theorem lw_p36 : lw_okq (⟨"NamedMovesModel", "isThing", "(I)Z"⟩, 12) := ⟨⟨by decide +kernel, by decide +kernel⟩, List.mem_of_getElem? (i := 633) (by decide +kernel), List.mem_of_getElem? (i := 795) (by decide +kernel), List.mem_of_getElem? (i := 796) (by decide +kernel)⟩
theorem lw_p37 : lw_okq (⟨"NamedMovesModel", "noted", "(I)I"⟩, 12) := ⟨⟨by decide +kernel, by decide +kernel⟩, List.mem_of_getElem? (i := 633) (by decide +kernel), List.mem_of_getElem? (i := 799) (by decide +kernel), List.mem_of_getElem? (i := 800) (by decide +kernel)⟩
theorem lw_p38 : lw_okq (⟨"NamedMovesModel", "copies", "(I)I"⟩, 12) := ⟨⟨by decide +kernel, by decide +kernel⟩, List.mem_of_getElem? (i := 633) (by decide +kernel), List.mem_of_getElem? (i := 807) (by decide +kernel), List.mem_of_getElem? (i := 808) (by decide +kernel)⟩
theorem lw_p39 : lw_okq (⟨"NamedMovesModel", "first", "(I)I"⟩, 12) := ⟨⟨by decide +kernel, by decide +kernel⟩, List.mem_of_getElem? (i := 633) (by decide +kernel), List.mem_of_getElem? (i := 811) (by decide +kernel), List.mem_of_getElem? (i := 812) (by decide +kernel)⟩
theorem lw_p40 : lw_okq (⟨"NamedMovesModel", "turns", "(III)V"⟩, 12) := ⟨⟨by decide +kernel, by decide +kernel⟩, List.mem_of_getElem? (i := 633) (by decide +kernel), List.mem_of_getElem? (i := 815) (by decide +kernel), List.mem_of_getElem? (i := 816) (by decide +kernel)⟩
theorem lw_p41 : lw_okq (⟨"NamedMovesModel", "holds", "()V"⟩, 12) := ⟨⟨by decide +kernel, by decide +kernel⟩, List.mem_of_getElem? (i := 633) (by decide +kernel), List.mem_of_getElem? (i := 835) (by decide +kernel), List.mem_of_getElem? (i := 836) (by decide +kernel)⟩
theorem lw_p42 : lw_okq (⟨"NamedMovesModel", "doesOne", "()I"⟩, 12) := ⟨⟨by decide +kernel, by decide +kernel⟩, List.mem_of_getElem? (i := 633) (by decide +kernel), List.mem_of_getElem? (i := 839) (by decide +kernel), List.mem_of_getElem? (i := 840) (by decide +kernel)⟩
theorem lw_p43 : lw_okq (⟨"NamedMovesModel", "isAt", "(II)Z"⟩, 12) := ⟨⟨by decide +kernel, by decide +kernel⟩, List.mem_of_getElem? (i := 633) (by decide +kernel), List.mem_of_getElem? (i := 846) (by decide +kernel), List.mem_of_getElem? (i := 847) (by decide +kernel)⟩
theorem lw_p44 : lw_okq (⟨"NamedMovesModel", "number", "(II)Z"⟩, 12) := ⟨⟨by decide +kernel, by decide +kernel⟩, List.mem_of_getElem? (i := 633) (by decide +kernel), List.mem_of_getElem? (i := 850) (by decide +kernel), List.mem_of_getElem? (i := 851) (by decide +kernel)⟩
theorem lw_p45 : lw_okq (⟨"NamedMovesModel", "does", "(I)I"⟩, 12) := ⟨⟨by decide +kernel, by decide +kernel⟩, List.mem_of_getElem? (i := 633) (by decide +kernel), List.mem_of_getElem? (i := 854) (by decide +kernel), List.mem_of_getElem? (i := 855) (by decide +kernel)⟩
theorem lw_p46 : lw_okq (⟨"NamedMovesModel", "exchanges", "()V"⟩, 12) := ⟨⟨by decide +kernel, by decide +kernel⟩, List.mem_of_getElem? (i := 633) (by decide +kernel), List.mem_of_getElem? (i := 864) (by decide +kernel), List.mem_of_getElem? (i := 865) (by decide +kernel)⟩
theorem lw_p47 : lw_okq (⟨"NamedMovesModel", "allCopies", "()I"⟩, 12) := ⟨⟨by decide +kernel, by decide +kernel⟩, List.mem_of_getElem? (i := 633) (by decide +kernel), List.mem_of_getElem? (i := 872) (by decide +kernel), List.mem_of_getElem? (i := 873) (by decide +kernel)⟩
def lw_privs_3 : List (MethodName × Nat) := [(⟨"NamedMovesModel", "joins", "(I)V"⟩, 12), (⟨"NamedMovesModel", "begins", "()V"⟩, 12), (⟨"NamedMovesModel", "ends", "()V"⟩, 12), (⟨"NamedMovesModel", "steps", "()V"⟩, 12), (⟨"NamedMovesModel", "isThing", "(I)Z"⟩, 12), (⟨"NamedMovesModel", "noted", "(I)I"⟩, 12), (⟨"NamedMovesModel", "copies", "(I)I"⟩, 12), (⟨"NamedMovesModel", "first", "(I)I"⟩, 12), (⟨"NamedMovesModel", "turns", "(III)V"⟩, 12), (⟨"NamedMovesModel", "holds", "()V"⟩, 12), (⟨"NamedMovesModel", "doesOne", "()I"⟩, 12), (⟨"NamedMovesModel", "isAt", "(II)Z"⟩, 12), (⟨"NamedMovesModel", "number", "(II)Z"⟩, 12), (⟨"NamedMovesModel", "does", "(I)I"⟩, 12), (⟨"NamedMovesModel", "exchanges", "()V"⟩, 12), (⟨"NamedMovesModel", "allCopies", "()I"⟩, 12)]
theorem lw_r3 : ∀ q ∈ lw_privs_3, lw_okq q := List.forall_mem_cons.mpr ⟨lw_p32, List.forall_mem_cons.mpr ⟨lw_p33, List.forall_mem_cons.mpr ⟨lw_p34, List.forall_mem_cons.mpr ⟨lw_p35, List.forall_mem_cons.mpr ⟨lw_p36, List.forall_mem_cons.mpr ⟨lw_p37, List.forall_mem_cons.mpr ⟨lw_p38, List.forall_mem_cons.mpr ⟨lw_p39, List.forall_mem_cons.mpr ⟨lw_p40, List.forall_mem_cons.mpr ⟨lw_p41, List.forall_mem_cons.mpr ⟨lw_p42, List.forall_mem_cons.mpr ⟨lw_p43, List.forall_mem_cons.mpr ⟨lw_p44, List.forall_mem_cons.mpr ⟨lw_p45, List.forall_mem_cons.mpr ⟨lw_p46, List.forall_mem_cons.mpr ⟨lw_p47, fun _ h => absurd h List.not_mem_nil⟩⟩⟩⟩⟩⟩⟩⟩⟩⟩⟩⟩⟩⟩⟩⟩
theorem lw_p48 : lw_okq (⟨"NamedMovesModel", "freeFloor", "()I"⟩, 12) := ⟨⟨by decide +kernel, by decide +kernel⟩, List.mem_of_getElem? (i := 633) (by decide +kernel), List.mem_of_getElem? (i := 876) (by decide +kernel), List.mem_of_getElem? (i := 877) (by decide +kernel)⟩
theorem lw_p49 : lw_okq (⟨"NamedMovesModel", "twins", "()I"⟩, 12) := ⟨⟨by decide +kernel, by decide +kernel⟩, List.mem_of_getElem? (i := 633) (by decide +kernel), List.mem_of_getElem? (i := 880) (by decide +kernel), List.mem_of_getElem? (i := 881) (by decide +kernel)⟩
theorem lw_p50 : lw_okq (⟨"NamedMovesModel", "forgets", "()V"⟩, 12) := ⟨⟨by decide +kernel, by decide +kernel⟩, List.mem_of_getElem? (i := 633) (by decide +kernel), List.mem_of_getElem? (i := 903) (by decide +kernel), List.mem_of_getElem? (i := 904) (by decide +kernel)⟩
theorem lw_p51 : lw_okq (⟨"NamedMovesModel", "leads", "(I)V"⟩, 12) := ⟨⟨by decide +kernel, by decide +kernel⟩, List.mem_of_getElem? (i := 633) (by decide +kernel), List.mem_of_getElem? (i := 907) (by decide +kernel), List.mem_of_getElem? (i := 908) (by decide +kernel)⟩
theorem lw_p52 : lw_okq (⟨"NamedMovesModel", "reaches", "()V"⟩, 12) := ⟨⟨by decide +kernel, by decide +kernel⟩, List.mem_of_getElem? (i := 633) (by decide +kernel), List.mem_of_getElem? (i := 911) (by decide +kernel), List.mem_of_getElem? (i := 912) (by decide +kernel)⟩
theorem lw_p53 : lw_okq (⟨"NamedMovesModel", "stepsToEnd", "()I"⟩, 12) := ⟨⟨by decide +kernel, by decide +kernel⟩, List.mem_of_getElem? (i := 633) (by decide +kernel), List.mem_of_getElem? (i := 923) (by decide +kernel), List.mem_of_getElem? (i := 924) (by decide +kernel)⟩
def lw_privs_4 : List (MethodName × Nat) := [(⟨"NamedMovesModel", "freeFloor", "()I"⟩, 12), (⟨"NamedMovesModel", "twins", "()I"⟩, 12), (⟨"NamedMovesModel", "forgets", "()V"⟩, 12), (⟨"NamedMovesModel", "leads", "(I)V"⟩, 12), (⟨"NamedMovesModel", "reaches", "()V"⟩, 12), (⟨"NamedMovesModel", "stepsToEnd", "()I"⟩, 12)]
theorem lw_r4 : ∀ q ∈ lw_privs_4, lw_okq q := List.forall_mem_cons.mpr ⟨lw_p48, List.forall_mem_cons.mpr ⟨lw_p49, List.forall_mem_cons.mpr ⟨lw_p50, List.forall_mem_cons.mpr ⟨lw_p51, List.forall_mem_cons.mpr ⟨lw_p52, List.forall_mem_cons.mpr ⟨lw_p53, fun _ h => absurd h List.not_mem_nil⟩⟩⟩⟩⟩⟩
def lw_privs : List (MethodName × Nat) := lw_privs_1 ++ (lw_privs_2 ++ (lw_privs_3 ++ (lw_privs_4)))
def lw_tbl : List Cond := k2_sels lw_privs ++ tables_1
theorem lw_privs_ok : ∀ q ∈ lw_privs, lw_okq q := by
  show ∀ q ∈ lw_privs_1 ++ (lw_privs_2 ++ (lw_privs_3 ++ (lw_privs_4))), lw_okq q
  exact List.forall_mem_append.mpr ⟨lw_r1, List.forall_mem_append.mpr ⟨lw_r2, List.forall_mem_append.mpr ⟨lw_r3, lw_r4⟩⟩⟩
/-! ===== BEGIN words of one list among another's, by their places ===== -/
theorem goodIn_r {big : List Cond} (ws : List Cond) (ps : List Nat) (hp : ws = ps.filterMap (fun i => big[i]?)) (h : ws.all goodWord = true) : GoodIn big ws := by
  intro w hw
  have h1 := List.all_eq_true.mp h w hw
  rw [hp] at hw
  obtain ⟨i, -, hi⟩ := List.mem_filterMap.mp hw
  have hm : w ∈ big := by first | exact List.mem_of_getElem? hi | exact List.getElem?_mem hi
  exact ⟨hm, good_of_word h1⟩
theorem goodIn_app {big a b : List Cond} (ha : GoodIn big a) (hb : GoodIn big b) : GoodIn big (a ++ b) := fun w h => (List.mem_append.mp h).elim (ha w) (hb w)
theorem goodIn_ca {big a b : List Cond} {c : Cond} (ha : GoodIn big (c :: a)) (hb : GoodIn big b) : GoodIn big (c :: (a ++ b)) := fun w h => (List.mem_cons.mp h).elim (fun e => ha w (List.mem_cons.mpr (Or.inl e))) (fun h => (List.mem_append.mp h).elim (fun h => ha w (List.mem_cons.mpr (Or.inr h))) (hb w))
theorem goodIn_sub {big ws : List Cond} (hm : ∀ w ∈ ws, w ∈ big) (h : ws.all goodWord = true) : GoodIn big ws := fun w hw => ⟨hm w hw, good_of_word (List.all_eq_true.mp h w hw)⟩
/-! ===== END ===== -/

/-! ===== BEGIN printed: names, fields, word lists, decode rows ===== -/
def RX0 : String := "NamedMoves$Copies"
def TX0 : u_T := fun k => match k with
  | 0 => ("NamedMoves$Copies", "things", "[I", true)
  | 1 => ("NamedMoves$Copies", "sizes", "[I", true)
  | 2 => ("NamedMoves$Copies", "notes", "[I", true)
  | 3 => ("NamedMoves$Copies", "marks", "[I", true)
  | _ => ("NamedMoves$Copies", "names", "[I", true)
def tyX0 : Nat → FieldType := fun k => match k with
  | 0 => .array .int
  | 1 => .array .int
  | 2 => .array .int
  | 3 => .array .int
  | _ => .array .int
abbrev wsX00 : List Cond := u_ws RX0 TX0 5
theorem nmX0 : ∀ a, a < 5 → ∀ b, b < 5 → a ≠ b → (TX0 a).2.1 ≠ (TX0 b).2.1 := by decide +kernel
theorem tyX0_ok : ∀ k, k < 5 → parseFieldDescriptor (TX0 k).2.2.1 = some (tyX0 k) := by decide +kernel
abbrev cX0_init : ByteArray := prog_2_method_1_code
def yX0_init : MethodName := ⟨RX0, "<init>", "()V"⟩
abbrev cX0_become : ByteArray := prog_2_method_2_code
def yX0_become : MethodName := ⟨RX0, "become", "(LNamedMoves$Copies;)V"⟩
abbrev cX0_isAt : ByteArray := prog_2_method_3_code
def yX0_isAt : MethodName := ⟨RX0, "isAt", "(I)Z"⟩
abbrev cX0_isOf : ByteArray := prog_2_method_4_code
def yX0_isOf : MethodName := ⟨RX0, "isOf", "(II)Z"⟩
abbrev cX0_thingAt : ByteArray := prog_2_method_5_code
def yX0_thingAt : MethodName := ⟨RX0, "thingAt", "(I)I"⟩
abbrev cX0_sizeAt : ByteArray := prog_2_method_6_code
def yX0_sizeAt : MethodName := ⟨RX0, "sizeAt", "(I)I"⟩
abbrev cX0_noteAt : ByteArray := prog_2_method_7_code
def yX0_noteAt : MethodName := ⟨RX0, "noteAt", "(I)I"⟩
abbrev cX0_isMarked : ByteArray := prog_2_method_8_code
def yX0_isMarked : MethodName := ⟨RX0, "isMarked", "(I)Z"⟩
abbrev cX0_nameAt : ByteArray := prog_2_method_9_code
def yX0_nameAt : MethodName := ⟨RX0, "nameAt", "(II)I"⟩
abbrev cX0_loseNoteAt : ByteArray := prog_2_method_10_code
def yX0_loseNoteAt : MethodName := ⟨RX0, "loseNoteAt", "(I)V"⟩
abbrev cX0_mark : ByteArray := prog_2_method_11_code
def yX0_mark : MethodName := ⟨RX0, "mark", "(I)Z"⟩
abbrev cX0_setName : ByteArray := prog_2_method_12_code
def yX0_setName : MethodName := ⟨RX0, "setName", "(III)V"⟩
abbrev cX0_lay : ByteArray := prog_2_method_13_code
def yX0_lay : MethodName := ⟨RX0, "lay", "(III)V"⟩
abbrev cX0_layAgain : ByteArray := prog_2_method_14_code
def yX0_layAgain : MethodName := ⟨RX0, "layAgain", "(II)V"⟩
abbrev cX0_remove : ByteArray := prog_2_method_15_code
def yX0_remove : MethodName := ⟨RX0, "remove", "(I)V"⟩
abbrev cX0_addressOf : ByteArray := prog_2_method_16_code
def yX0_addressOf : MethodName := ⟨RX0, "addressOf", "(II)I"⟩
abbrev cX0_number : ByteArray := prog_2_method_17_code
def yX0_number : MethodName := ⟨RX0, "number", "()I"⟩
abbrev cX0_floorTaken : ByteArray := prog_2_method_18_code
def yX0_floorTaken : MethodName := ⟨RX0, "floorTaken", "()I"⟩
abbrev cX0_floorAddressFor : ByteArray := prog_2_method_19_code
def yX0_floorAddressFor : MethodName := ⟨RX0, "floorAddressFor", "(I)I"⟩
abbrev cX0_leadsTo : ByteArray := prog_2_method_20_code
def yX0_leadsTo : MethodName := ⟨RX0, "leadsTo", "(I)I"⟩
abbrev cX0_replaceNames : ByteArray := prog_2_method_21_code
def yX0_replaceNames : MethodName := ⟨RX0, "replaceNames", "(II)V"⟩
abbrev cX0_emptyHalf : ByteArray := prog_2_method_22_code
def yX0_emptyHalf : MethodName := ⟨RX0, "emptyHalf", "(I)V"⟩
abbrev cX0_sweepFloor : ByteArray := prog_2_method_23_code
def yX0_sweepFloor : MethodName := ⟨RX0, "sweepFloor", "()V"⟩
def RX1 : String := "NamedMoves$Errand"
def TX1 : u_T := fun k => match k with
  | 0 => ("NamedMoves$Errand", "numbers", "[I", true)
  | 1 => ("NamedMoves$Errand", "letter", "I", false)
  | _ => ("NamedMoves$Errand", "place", "I", false)
def tyX1 : Nat → FieldType := fun k => match k with
  | 0 => .array .int
  | 1 => .int
  | _ => .int
abbrev wsX10 : List Cond := u_ws RX1 TX1 3
theorem nmX1 : ∀ a, a < 3 → ∀ b, b < 3 → a ≠ b → (TX1 a).2.1 ≠ (TX1 b).2.1 := by decide +kernel
theorem tyX1_ok : ∀ k, k < 3 → parseFieldDescriptor (TX1 k).2.2.1 = some (tyX1 k) := by decide +kernel
abbrev cX1_init : ByteArray := prog_3_method_1_code
def yX1_init : MethodName := ⟨RX1, "<init>", "()V"⟩
abbrev cX1_end : ByteArray := prog_3_method_2_code
def yX1_end : MethodName := ⟨RX1, "end", "()I"⟩
abbrev cX1_readFrom : ByteArray := prog_3_method_3_code
def yX1_readFrom : MethodName := ⟨RX1, "readFrom", "(LNamedMoves$Text;I)Z"⟩
abbrev cX1_numbersDue : ByteArray := prog_3_method_4_code
def yX1_numbersDue : MethodName := ⟨RX1, "numbersDue", "()I"⟩
abbrev cX1_passes : ByteArray := prog_3_method_5_code
def yX1_passes : MethodName := ⟨RX1, "passes", "(LNamedMoves$Text;I)Z"⟩
abbrev cX1_readNumber : ByteArray := prog_3_method_6_code
def yX1_readNumber : MethodName := ⟨RX1, "readNumber", "(LNamedMoves$Text;)I"⟩
abbrev cX1_callOn : ByteArray := prog_3_method_7_code
def yX1_callOn : MethodName := ⟨RX1, "callOn", "(LNamedMoves$Store;)I"⟩
def RX2 : String := "NamedMoves$History"
def TX2 : u_T := fun k => match k with
  | 0 => ("NamedMoves$History", "states", "[LNamedMoves$Store;", true)
  | 1 => ("NamedMoves$History", "first", "I", false)
  | _ => ("NamedMoves$History", "held", "I", false)
def tyX2 : Nat → FieldType := fun k => match k with
  | 0 => .array (.object "NamedMoves$Store")
  | 1 => .int
  | _ => .int
abbrev wsX20 : List Cond := u_ws RX2 TX2 3
theorem nmX2 : ∀ a, a < 3 → ∀ b, b < 3 → a ≠ b → (TX2 a).2.1 ≠ (TX2 b).2.1 := by decide +kernel
theorem tyX2_ok : ∀ k, k < 3 → parseFieldDescriptor (TX2 k).2.2.1 = some (tyX2 k) := by decide +kernel
abbrev cX2_init : ByteArray := prog_4_method_1_code
def yX2_init : MethodName := ⟨RX2, "<init>", "()V"⟩
abbrev cX2_size : ByteArray := prog_4_method_2_code
def yX2_size : MethodName := ⟨RX2, "size", "()I"⟩
abbrev cX2_slotOfDraft : ByteArray := prog_4_method_3_code
def yX2_slotOfDraft : MethodName := ⟨RX2, "slotOfDraft", "()I"⟩
abbrev cX2_draft : ByteArray := prog_4_method_4_code
def yX2_draft : MethodName := ⟨RX2, "draft", "(LNamedMoves$Store;)V"⟩
abbrev cX2_keepDraft : ByteArray := prog_4_method_5_code
def yX2_keepDraft : MethodName := ⟨RX2, "keepDraft", "()V"⟩
abbrev cX2_restoreDraft : ByteArray := prog_4_method_6_code
def yX2_restoreDraft : MethodName := ⟨RX2, "restoreDraft", "(LNamedMoves$Store;)V"⟩
abbrev cX2_restoreLatest : ByteArray := prog_4_method_7_code
def yX2_restoreLatest : MethodName := ⟨RX2, "restoreLatest", "(LNamedMoves$Store;)V"⟩
def RX3 : String := "NamedMoves$Queue"
def TX3 : u_T := fun k => match k with
  | 0 => ("NamedMoves$Queue", "addresses", "[I", true)
  | 1 => ("NamedMoves$Queue", "first", "I", false)
  | _ => ("NamedMoves$Queue", "end", "I", false)
def tyX3 : Nat → FieldType := fun k => match k with
  | 0 => .array .int
  | 1 => .int
  | _ => .int
abbrev wsX30 : List Cond := u_ws RX3 TX3 3
theorem nmX3 : ∀ a, a < 3 → ∀ b, b < 3 → a ≠ b → (TX3 a).2.1 ≠ (TX3 b).2.1 := by decide +kernel
theorem tyX3_ok : ∀ k, k < 3 → parseFieldDescriptor (TX3 k).2.2.1 = some (tyX3 k) := by decide +kernel
abbrev cX3_init : ByteArray := prog_5_method_1_code
def yX3_init : MethodName := ⟨RX3, "<init>", "()V"⟩
abbrev cX3_become : ByteArray := prog_5_method_2_code
def yX3_become : MethodName := ⟨RX3, "become", "(LNamedMoves$Queue;)V"⟩
abbrev cX3_clear : ByteArray := prog_5_method_3_code
def yX3_clear : MethodName := ⟨RX3, "clear", "()V"⟩
abbrev cX3_size : ByteArray := prog_5_method_4_code
def yX3_size : MethodName := ⟨RX3, "size", "()I"⟩
abbrev cX3_join : ByteArray := prog_5_method_5_code
def yX3_join : MethodName := ⟨RX3, "join", "(I)V"⟩
abbrev cX3_takeFirst : ByteArray := prog_5_method_6_code
def yX3_takeFirst : MethodName := ⟨RX3, "takeFirst", "()I"⟩
def RX4 : String := "NamedMoves$Reach"
def TX4 : u_T := fun k => match k with
  | 0 => ("NamedMoves$Reach", "reached", "[Z", true)
  | 1 => ("NamedMoves$Reach", "found", "[I", true)
  | 2 => ("NamedMoves$Reach", "seenThings", "[Z", true)
  | _ => ("NamedMoves$Reach", "foundNumber", "I", false)
def tyX4 : Nat → FieldType := fun k => match k with
  | 0 => .array .boolean
  | 1 => .array .int
  | 2 => .array .boolean
  | _ => .int
abbrev wsX40 : List Cond := u_ws RX4 TX4 4
theorem nmX4 : ∀ a, a < 4 → ∀ b, b < 4 → a ≠ b → (TX4 a).2.1 ≠ (TX4 b).2.1 := by decide +kernel
theorem tyX4_ok : ∀ k, k < 4 → parseFieldDescriptor (TX4 k).2.2.1 = some (tyX4 k) := by decide +kernel
abbrev cX4_init : ByteArray := prog_6_method_1_code
def yX4_init : MethodName := ⟨RX4, "<init>", "()V"⟩
abbrev cX4_clear : ByteArray := prog_6_method_2_code
def yX4_clear : MethodName := ⟨RX4, "clear", "()V"⟩
abbrev cX4_add : ByteArray := prog_6_method_3_code
def yX4_add : MethodName := ⟨RX4, "add", "(LNamedMoves$Copies;I)V"⟩
abbrev cX4_isReached : ByteArray := prog_6_method_4_code
def yX4_isReached : MethodName := ⟨RX4, "isReached", "(I)Z"⟩
abbrev cX4_spread : ByteArray := prog_6_method_5_code
def yX4_spread : MethodName := ⟨RX4, "spread", "(LNamedMoves$Copies;)V"⟩
abbrev cX4_differentThings : ByteArray := prog_6_method_6_code
def yX4_differentThings : MethodName := ⟨RX4, "differentThings", "(LNamedMoves$Copies;)I"⟩
abbrev cX4_placesOutside : ByteArray := prog_6_method_7_code
def yX4_placesOutside : MethodName := ⟨RX4, "placesOutside", "(LNamedMoves$Copies;)I"⟩
def RX5 : String := "NamedMoves$Store"
def TX5 : u_T := fun k => match k with
  | 0 => ("NamedMoves$Store", "hooks", "[I", true)
  | 1 => ("NamedMoves$Store", "copies", "LNamedMoves$Copies;", true)
  | 2 => ("NamedMoves$Store", "queue", "LNamedMoves$Queue;", true)
  | 3 => ("NamedMoves$Store", "heavyBound", "I", false)
  | 4 => ("NamedMoves$Store", "made", "I", false)
  | 5 => ("NamedMoves$Store", "moving", "Z", false)
  | 6 => ("NamedMoves$Store", "half", "I", false)
  | 7 => ("NamedMoves$Store", "taken", "I", false)
  | 8 => ("NamedMoves$Store", "notesLost", "I", false)
  | _ => ("NamedMoves$Store", "movesEnded", "I", false)
def tyX5 : Nat → FieldType := fun k => match k with
  | 0 => .array .int
  | 1 => .object "NamedMoves$Copies"
  | 2 => .object "NamedMoves$Queue"
  | 3 => .int
  | 4 => .int
  | 5 => .boolean
  | 6 => .int
  | 7 => .int
  | 8 => .int
  | _ => .int
abbrev wsX50 : List Cond := u_ws RX5 TX5 10
theorem nmX5 : ∀ a, a < 10 → ∀ b, b < 10 → a ≠ b → (TX5 a).2.1 ≠ (TX5 b).2.1 := by decide +kernel
theorem tyX5_ok : ∀ k, k < 10 → parseFieldDescriptor (TX5 k).2.2.1 = some (tyX5 k) := by decide +kernel
abbrev cX5_init : ByteArray := prog_7_method_1_code
def yX5_init : MethodName := ⟨RX5, "<init>", "()V"⟩
abbrev cX5_become : ByteArray := prog_7_method_2_code
def yX5_become : MethodName := ⟨RX5, "become", "(LNamedMoves$Store;)V"⟩
abbrev cX5_isThing : ByteArray := prog_7_method_3_code
def yX5_isThing : MethodName := ⟨RX5, "isThing", "(I)Z"⟩
abbrev cX5_hungOn : ByteArray := prog_7_method_4_code
def yX5_hungOn : MethodName := ⟨RX5, "hungOn", "(I)I"⟩
abbrev cX5_freeInHalf : ByteArray := prog_7_method_5_code
def yX5_freeInHalf : MethodName := ⟨RX5, "freeInHalf", "()I"⟩
abbrev cX5_addressOfHalf : ByteArray := prog_7_method_6_code
def yX5_addressOfHalf : MethodName := ⟨RX5, "addressOfHalf", "(I)I"⟩
abbrev cX5_isInOldHalf : ByteArray := prog_7_method_7_code
def yX5_isInOldHalf : MethodName := ⟨RX5, "isInOldHalf", "(I)Z"⟩
abbrev cX5_roomKept : ByteArray := prog_7_method_8_code
def yX5_roomKept : MethodName := ⟨RX5, "roomKept", "()I"⟩
abbrev cX5_hasTwins : ByteArray := prog_7_method_9_code
def yX5_hasTwins : MethodName := ⟨RX5, "hasTwins", "(I)Z"⟩
abbrev cX5_thingsWithTwins : ByteArray := prog_7_method_10_code
def yX5_thingsWithTwins : MethodName := ⟨RX5, "thingsWithTwins", "()I"⟩
abbrev cX5_numberOf : ByteArray := prog_7_method_11_code
def yX5_numberOf : MethodName := ⟨RX5, "numberOf", "(I)I"⟩
abbrev cX5_changeBound : ByteArray := prog_7_method_12_code
def yX5_changeBound : MethodName := ⟨RX5, "changeBound", "(I)I"⟩
abbrev cX5_makeThing : ByteArray := prog_7_method_13_code
def yX5_makeThing : MethodName := ⟨RX5, "makeThing", "(II)I"⟩
abbrev cX5_halfAddressFor : ByteArray := prog_7_method_14_code
def yX5_halfAddressFor : MethodName := ⟨RX5, "halfAddressFor", "(I)I"⟩
abbrev cX5_linkHooks : ByteArray := prog_7_method_15_code
def yX5_linkHooks : MethodName := ⟨RX5, "linkHooks", "(III)I"⟩
abbrev cX5_followName : ByteArray := prog_7_method_16_code
def yX5_followName : MethodName := ⟨RX5, "followName", "(III)I"⟩
abbrev cX5_dropHook : ByteArray := prog_7_method_17_code
def yX5_dropHook : MethodName := ⟨RX5, "dropHook", "(I)I"⟩
abbrev cX5_beginMove : ByteArray := prog_7_method_18_code
def yX5_beginMove : MethodName := ⟨RX5, "beginMove", "()I"⟩
abbrev cX5_carrySteps : ByteArray := prog_7_method_19_code
def yX5_carrySteps : MethodName := ⟨RX5, "carrySteps", "(I)I"⟩
abbrev cX5_stepsUpTo : ByteArray := prog_7_method_20_code
def yX5_stepsUpTo : MethodName := ⟨RX5, "stepsUpTo", "(I)I"⟩
abbrev cX5_endMove : ByteArray := prog_7_method_21_code
def yX5_endMove : MethodName := ⟨RX5, "endMove", "()V"⟩
abbrev cX5_loseNote : ByteArray := prog_7_method_22_code
def yX5_loseNote : MethodName := ⟨RX5, "loseNote", "(I)I"⟩
abbrev cX5_firstWithNote : ByteArray := prog_7_method_23_code
def yX5_firstWithNote : MethodName := ⟨RX5, "firstWithNote", "(I)I"⟩
abbrev cX5_mendTwins : ByteArray := prog_7_method_24_code
def yX5_mendTwins : MethodName := ⟨RX5, "mendTwins", "(I)I"⟩
abbrev cX5_replaceHooks : ByteArray := prog_7_method_25_code
def yX5_replaceHooks : MethodName := ⟨RX5, "replaceHooks", "(II)V"⟩
abbrev cX5_readIn : ByteArray := prog_7_method_26_code
def yX5_readIn : MethodName := ⟨RX5, "readIn", "([II)I"⟩
abbrev cX5_carryOver : ByteArray := prog_7_method_27_code
def yX5_carryOver : MethodName := ⟨RX5, "carryOver", "(II)I"⟩
def RX6 : String := "NamedMoves$Text"
def TX6 : u_T := fun k => match k with
  | 0 => ("NamedMoves$Text", "characters", "[I", true)
  | _ => ("NamedMoves$Text", "length", "I", false)
def tyX6 : Nat → FieldType := fun k => match k with
  | 0 => .array .int
  | _ => .int
abbrev wsX60 : List Cond := u_ws RX6 TX6 2
theorem nmX6 : ∀ a, a < 2 → ∀ b, b < 2 → a ≠ b → (TX6 a).2.1 ≠ (TX6 b).2.1 := by decide +kernel
theorem tyX6_ok : ∀ k, k < 2 → parseFieldDescriptor (TX6 k).2.2.1 = some (tyX6 k) := by decide +kernel
abbrev cX6_init : ByteArray := prog_8_method_1_code
def yX6_init : MethodName := ⟨RX6, "<init>", "()V"⟩
abbrev cX6_size : ByteArray := prog_8_method_2_code
def yX6_size : MethodName := ⟨RX6, "size", "()I"⟩
abbrev cX6_empty : ByteArray := prog_8_method_3_code
def yX6_empty : MethodName := ⟨RX6, "empty", "()V"⟩
abbrev cX6_addCharacter : ByteArray := prog_8_method_4_code
def yX6_addCharacter : MethodName := ⟨RX6, "addCharacter", "(I)I"⟩
abbrev cX6_at : ByteArray := prog_8_method_5_code
def yX6_at : MethodName := ⟨RX6, "at", "(I)I"⟩
abbrev cX6_hasDigitAt : ByteArray := prog_8_method_6_code
def yX6_hasDigitAt : MethodName := ⟨RX6, "hasDigitAt", "(I)Z"⟩
def RX7 : String := "NamedMoves"
def TX7 : u_T := fun k => match k with
  | 0 => ("NamedMoves", "store", "LNamedMoves$Store;", true)
  | 1 => ("NamedMoves", "forecast", "LNamedMoves$Store;", true)
  | 2 => ("NamedMoves", "history", "LNamedMoves$History;", true)
  | 3 => ("NamedMoves", "reach", "LNamedMoves$Reach;", true)
  | 4 => ("NamedMoves", "text", "LNamedMoves$Text;", true)
  | _ => ("NamedMoves", "errand", "LNamedMoves$Errand;", true)
def tyX7 : Nat → FieldType := fun k => match k with
  | 0 => .object "NamedMoves$Store"
  | 1 => .object "NamedMoves$Store"
  | 2 => .object "NamedMoves$History"
  | 3 => .object "NamedMoves$Reach"
  | 4 => .object "NamedMoves$Text"
  | _ => .object "NamedMoves$Errand"
abbrev wsX70 : List Cond := u_ws RX7 TX7 6
theorem nmX7 : ∀ a, a < 6 → ∀ b, b < 6 → a ≠ b → (TX7 a).2.1 ≠ (TX7 b).2.1 := by decide +kernel
theorem tyX7_ok : ∀ k, k < 6 → parseFieldDescriptor (TX7 k).2.2.1 = some (tyX7 k) := by decide +kernel
abbrev cX7_init : ByteArray := prog_1_method_1_code
def yX7_init : MethodName := ⟨RX7, "<init>", "()V"⟩
abbrev cX7_setHeavy : ByteArray := prog_1_method_2_code
def yX7_setHeavy : MethodName := ⟨RX7, "setHeavy", "(I)I"⟩
abbrev cX7_make : ByteArray := prog_1_method_3_code
def yX7_make : MethodName := ⟨RX7, "make", "(II)I"⟩
abbrev cX7_link : ByteArray := prog_1_method_4_code
def yX7_link : MethodName := ⟨RX7, "link", "(III)I"⟩
abbrev cX7_follow : ByteArray := prog_1_method_5_code
def yX7_follow : MethodName := ⟨RX7, "follow", "(III)I"⟩
abbrev cX7_drop : ByteArray := prog_1_method_6_code
def yX7_drop : MethodName := ⟨RX7, "drop", "(I)I"⟩
abbrev cX7_begin : ByteArray := prog_1_method_7_code
def yX7_begin : MethodName := ⟨RX7, "begin", "()I"⟩
abbrev cX7_carry : ByteArray := prog_1_method_8_code
def yX7_carry : MethodName := ⟨RX7, "carry", "(I)I"⟩
abbrev cX7_lose : ByteArray := prog_1_method_9_code
def yX7_lose : MethodName := ⟨RX7, "lose", "(I)I"⟩
abbrev cX7_mend : ByteArray := prog_1_method_10_code
def yX7_mend : MethodName := ⟨RX7, "mend", "(I)I"⟩
abbrev cX7_undo : ByteArray := prog_1_method_11_code
def yX7_undo : MethodName := ⟨RX7, "undo", "()I"⟩
abbrev cX7_append : ByteArray := prog_1_method_12_code
def yX7_append : MethodName := ⟨RX7, "append", "(I)I"⟩
abbrev cX7_clearText : ByteArray := prog_1_method_13_code
def yX7_clearText : MethodName := ⟨RX7, "clearText", "()I"⟩
abbrev cX7_run : ByteArray := prog_1_method_14_code
def yX7_run : MethodName := ⟨RX7, "run", "()I"⟩
abbrev cX7_count : ByteArray := prog_1_method_15_code
def yX7_count : MethodName := ⟨RX7, "count", "(I)I"⟩
abbrev cX7_hook : ByteArray := prog_1_method_16_code
def yX7_hook : MethodName := ⟨RX7, "hook", "(I)I"⟩
abbrev cX7_copy : ByteArray := prog_1_method_17_code
def yX7_copy : MethodName := ⟨RX7, "copy", "(II)I"⟩
abbrev cX7_where : ByteArray := prog_1_method_18_code
def yX7_where : MethodName := ⟨RX7, "where", "(II)I"⟩
abbrev cX7_named : ByteArray := prog_1_method_19_code
def yX7_named : MethodName := ⟨RX7, "named", "(I)I"⟩
abbrev cX7_garbage : ByteArray := prog_1_method_20_code
def yX7_garbage : MethodName := ⟨RX7, "garbage", "()I"⟩
abbrev cX7_stepsLeft : ByteArray := prog_1_method_21_code
def yX7_stepsLeft : MethodName := ⟨RX7, "stepsLeft", "()I"⟩
abbrev cX7_freeThen : ByteArray := prog_1_method_22_code
def yX7_freeThen : MethodName := ⟨RX7, "freeThen", "()I"⟩
abbrev cX7_isHook : ByteArray := prog_1_method_23_code
def yX7_isHook : MethodName := ⟨RX7, "isHook", "(I)Z"⟩
abbrev cX7_isName : ByteArray := prog_1_method_24_code
def yX7_isName : MethodName := ⟨RX7, "isName", "(I)Z"⟩
abbrev cX7_orNone : ByteArray := prog_1_method_25_code
def yX7_orNone : MethodName := ⟨RX7, "orNone", "(I)I"⟩
abbrev cX7_recorded : ByteArray := prog_1_method_26_code
def yX7_recorded : MethodName := ⟨RX7, "recorded", "(I)I"⟩
abbrev cX7_textFailed : ByteArray := prog_1_method_27_code
def yX7_textFailed : MethodName := ⟨RX7, "textFailed", "(I)I"⟩
def RX8 : String := "NamedMovesModel"
def TX8 : u_T := fun k => match k with
  | 0 => ("NamedMovesModel", "s", "[I", true)
  | 1 => ("NamedMovesModel", "past", "[I", true)
  | 2 => ("NamedMovesModel", "held", "[I", true)
  | 3 => ("NamedMovesModel", "pasts", "I", false)
  | 4 => ("NamedMovesModel", "runs", "Z", false)
  | 5 => ("NamedMovesModel", "text", "[I", true)
  | 6 => ("NamedMovesModel", "typed", "I", false)
  | 7 => ("NamedMovesModel", "at", "I", false)
  | 8 => ("NamedMovesModel", "read", "[I", true)
  | 9 => ("NamedMovesModel", "isReached", "[Z", true)
  | 10 => ("NamedMovesModel", "found", "[I", true)
  | _ => ("NamedMovesModel", "many", "I", false)
def tyX8 : Nat → FieldType := fun k => match k with
  | 0 => .array .int
  | 1 => .array .int
  | 2 => .array .int
  | 3 => .int
  | 4 => .boolean
  | 5 => .array .int
  | 6 => .int
  | 7 => .int
  | 8 => .array .int
  | 9 => .array .boolean
  | 10 => .array .int
  | _ => .int
abbrev wsX80 : List Cond := u_ws RX8 TX8 12
theorem nmX8 : ∀ a, a < 12 → ∀ b, b < 12 → a ≠ b → (TX8 a).2.1 ≠ (TX8 b).2.1 := by decide +kernel
theorem tyX8_ok : ∀ k, k < 12 → parseFieldDescriptor (TX8 k).2.2.1 = some (tyX8 k) := by decide +kernel
abbrev cX8_init : ByteArray := prog_10_method_1_code
def yX8_init : MethodName := ⟨RX8, "<init>", "()V"⟩
abbrev cX8_in : ByteArray := prog_10_method_3_code
def yX8_in : MethodName := ⟨RX8, "in", "(III)Z"⟩
abbrev cX8_acts : ByteArray := prog_10_method_4_code
def yX8_acts : MethodName := ⟨RX8, "acts", "()V"⟩
abbrev cX8_isHook : ByteArray := prog_10_method_5_code
def yX8_isHook : MethodName := ⟨RX8, "isHook", "(I)Z"⟩
abbrev cX8_isThing : ByteArray := prog_10_method_6_code
def yX8_isThing : MethodName := ⟨RX8, "isThing", "(I)Z"⟩
abbrev cX8_isAddress : ByteArray := prog_10_method_7_code
def yX8_isAddress : MethodName := ⟨RX8, "isAddress", "(I)Z"⟩
abbrev cX8_cell : ByteArray := prog_10_method_8_code
def yX8_cell : MethodName := ⟨RX8, "cell", "(I)I"⟩
abbrev cX8_address : ByteArray := prog_10_method_9_code
def yX8_address : MethodName := ⟨RX8, "address", "(I)I"⟩
abbrev cX8_ofCopy : ByteArray := prog_10_method_10_code
def yX8_ofCopy : MethodName := ⟨RX8, "ofCopy", "(II)I"⟩
abbrev cX8_isCopy : ByteArray := prog_10_method_11_code
def yX8_isCopy : MethodName := ⟨RX8, "isCopy", "(I)Z"⟩
abbrev cX8_sizeAt : ByteArray := prog_10_method_12_code
def yX8_sizeAt : MethodName := ⟨RX8, "sizeAt", "(I)I"⟩
abbrev cX8_isMoving : ByteArray := prog_10_method_13_code
def yX8_isMoving : MethodName := ⟨RX8, "isMoving", "()Z"⟩
abbrev cX8_old : ByteArray := prog_10_method_14_code
def yX8_old : MethodName := ⟨RX8, "old", "()I"⟩
abbrev cX8_free : ByteArray := prog_10_method_15_code
def yX8_free : MethodName := ⟨RX8, "free", "(I)I"⟩
abbrev cX8_kept : ByteArray := prog_10_method_16_code
def yX8_kept : MethodName := ⟨RX8, "kept", "()I"⟩
abbrev cX8_lays : ByteArray := prog_10_method_17_code
def yX8_lays : MethodName := ⟨RX8, "lays", "(IIIII)V"⟩
abbrev cX8_joins : ByteArray := prog_10_method_18_code
def yX8_joins : MethodName := ⟨RX8, "joins", "(I)V"⟩
abbrev cX8_laysInHalf : ByteArray := prog_10_method_19_code
def yX8_laysInHalf : MethodName := ⟨RX8, "laysInHalf", "(III)I"⟩
abbrev cX8_carries : ByteArray := prog_10_method_20_code
def yX8_carries : MethodName := ⟨RX8, "carries", "(I)I"⟩
abbrev cX8_reads : ByteArray := prog_10_method_21_code
def yX8_reads : MethodName := ⟨RX8, "reads", "(I)V"⟩
abbrev cX8_ends : ByteArray := prog_10_method_22_code
def yX8_ends : MethodName := ⟨RX8, "ends", "()V"⟩
abbrev cX8_begins : ByteArray := prog_10_method_23_code
def yX8_begins : MethodName := ⟨RX8, "begins", "()V"⟩
abbrev cX8_steps : ByteArray := prog_10_method_24_code
def yX8_steps : MethodName := ⟨RX8, "steps", "()V"⟩
abbrev cX8_stepsToEnd : ByteArray := prog_10_method_25_code
def yX8_stepsToEnd : MethodName := ⟨RX8, "stepsToEnd", "()I"⟩
abbrev cX8_setHeavy : ByteArray := prog_10_method_26_code
def yX8_setHeavy : MethodName := ⟨RX8, "setHeavy", "(I)I"⟩
abbrev cX8_floorPlace : ByteArray := prog_10_method_27_code
def yX8_floorPlace : MethodName := ⟨RX8, "floorPlace", "(I)I"⟩
abbrev cX8_make : ByteArray := prog_10_method_28_code
def yX8_make : MethodName := ⟨RX8, "make", "(II)I"⟩
abbrev cX8_told : ByteArray := prog_10_method_29_code
def yX8_told : MethodName := ⟨RX8, "told", "(I)I"⟩
abbrev cX8_isRight : ByteArray := prog_10_method_30_code
def yX8_isRight : MethodName := ⟨RX8, "isRight", "(III)Z"⟩
abbrev cX8_link : ByteArray := prog_10_method_31_code
def yX8_link : MethodName := ⟨RX8, "link", "(III)I"⟩
abbrev cX8_follow : ByteArray := prog_10_method_32_code
def yX8_follow : MethodName := ⟨RX8, "follow", "(III)I"⟩
abbrev cX8_drop : ByteArray := prog_10_method_33_code
def yX8_drop : MethodName := ⟨RX8, "drop", "(I)I"⟩
abbrev cX8_begin : ByteArray := prog_10_method_34_code
def yX8_begin : MethodName := ⟨RX8, "begin", "()I"⟩
abbrev cX8_carry : ByteArray := prog_10_method_35_code
def yX8_carry : MethodName := ⟨RX8, "carry", "(I)I"⟩
abbrev cX8_noted : ByteArray := prog_10_method_36_code
def yX8_noted : MethodName := ⟨RX8, "noted", "(I)I"⟩
abbrev cX8_lose : ByteArray := prog_10_method_37_code
def yX8_lose : MethodName := ⟨RX8, "lose", "(I)I"⟩
abbrev cX8_copies : ByteArray := prog_10_method_38_code
def yX8_copies : MethodName := ⟨RX8, "copies", "(I)I"⟩
abbrev cX8_first : ByteArray := prog_10_method_39_code
def yX8_first : MethodName := ⟨RX8, "first", "(I)I"⟩
abbrev cX8_turns : ByteArray := prog_10_method_40_code
def yX8_turns : MethodName := ⟨RX8, "turns", "(III)V"⟩
abbrev cX8_mend : ByteArray := prog_10_method_41_code
def yX8_mend : MethodName := ⟨RX8, "mend", "(I)I"⟩
abbrev cX8_undo : ByteArray := prog_10_method_42_code
def yX8_undo : MethodName := ⟨RX8, "undo", "()I"⟩
abbrev cX8_append : ByteArray := prog_10_method_43_code
def yX8_append : MethodName := ⟨RX8, "append", "(I)I"⟩
abbrev cX8_clearText : ByteArray := prog_10_method_44_code
def yX8_clearText : MethodName := ⟨RX8, "clearText", "()I"⟩
abbrev cX8_isAt : ByteArray := prog_10_method_45_code
def yX8_isAt : MethodName := ⟨RX8, "isAt", "(II)Z"⟩
abbrev cX8_number : ByteArray := prog_10_method_46_code
def yX8_number : MethodName := ⟨RX8, "number", "(II)Z"⟩
abbrev cX8_numbersOf : ByteArray := prog_10_method_47_code
def yX8_numbersOf : MethodName := ⟨RX8, "numbersOf", "(I)I"⟩
abbrev cX8_does : ByteArray := prog_10_method_48_code
def yX8_does : MethodName := ⟨RX8, "does", "(I)I"⟩
abbrev cX8_doesOne : ByteArray := prog_10_method_49_code
def yX8_doesOne : MethodName := ⟨RX8, "doesOne", "()I"⟩
abbrev cX8_exchanges : ByteArray := prog_10_method_50_code
def yX8_exchanges : MethodName := ⟨RX8, "exchanges", "()V"⟩
abbrev cX8_holds : ByteArray := prog_10_method_51_code
def yX8_holds : MethodName := ⟨RX8, "holds", "()V"⟩
abbrev cX8_run : ByteArray := prog_10_method_52_code
def yX8_run : MethodName := ⟨RX8, "run", "()I"⟩
abbrev cX8_allCopies : ByteArray := prog_10_method_53_code
def yX8_allCopies : MethodName := ⟨RX8, "allCopies", "()I"⟩
abbrev cX8_freeFloor : ByteArray := prog_10_method_54_code
def yX8_freeFloor : MethodName := ⟨RX8, "freeFloor", "()I"⟩
abbrev cX8_twins : ByteArray := prog_10_method_55_code
def yX8_twins : MethodName := ⟨RX8, "twins", "()I"⟩
abbrev cX8_count : ByteArray := prog_10_method_56_code
def yX8_count : MethodName := ⟨RX8, "count", "(I)I"⟩
abbrev cX8_hook : ByteArray := prog_10_method_57_code
def yX8_hook : MethodName := ⟨RX8, "hook", "(I)I"⟩
abbrev cX8_copy : ByteArray := prog_10_method_58_code
def yX8_copy : MethodName := ⟨RX8, "copy", "(II)I"⟩
abbrev cX8_where : ByteArray := prog_10_method_59_code
def yX8_where : MethodName := ⟨RX8, "where", "(II)I"⟩
abbrev cX8_leads : ByteArray := prog_10_method_60_code
def yX8_leads : MethodName := ⟨RX8, "leads", "(I)V"⟩
abbrev cX8_forgets : ByteArray := prog_10_method_61_code
def yX8_forgets : MethodName := ⟨RX8, "forgets", "()V"⟩
abbrev cX8_reaches : ByteArray := prog_10_method_62_code
def yX8_reaches : MethodName := ⟨RX8, "reaches", "()V"⟩
abbrev cX8_named : ByteArray := prog_10_method_63_code
def yX8_named : MethodName := ⟨RX8, "named", "(I)I"⟩
abbrev cX8_garbage : ByteArray := prog_10_method_64_code
def yX8_garbage : MethodName := ⟨RX8, "garbage", "()I"⟩
abbrev cX8_stepsLeft : ByteArray := prog_10_method_65_code
def yX8_stepsLeft : MethodName := ⟨RX8, "stepsLeft", "()I"⟩
abbrev cX8_freeThen : ByteArray := prog_10_method_66_code
def yX8_freeThen : MethodName := ⟨RX8, "freeThen", "()I"⟩
def RJ9 : String := "java/lang/Math"
def TJ9 : u_T := fun k => match k with
  | _ => ("", "", "", false)
def tyJ9 : Nat → FieldType := fun k => match k with
  | _ => .int
abbrev wsJ90 : List Cond := u_ws RJ9 TJ9 0
theorem nmJ9 : ∀ a, a < 0 → ∀ b, b < 0 → a ≠ b → (TJ9 a).2.1 ≠ (TJ9 b).2.1 := by decide +kernel
theorem tyJ9_ok : ∀ k, k < 0 → parseFieldDescriptor (TJ9 k).2.2.1 = some (tyJ9 k) := by decide +kernel
abbrev cJ9_floorMod_7cf53 : ByteArray := prog_11_method_50_code
def yJ9_floorMod_7cf53 : MethodName := ⟨RJ9, "floorMod", "(II)I"⟩
def RJ10 : String := "java/lang/System"
def TJ10 : u_T := fun k => match k with
  | _ => ("", "", "", false)
def tyJ10 : Nat → FieldType := fun k => match k with
  | _ => .int
abbrev wsJ100 : List Cond := u_ws RJ10 TJ10 0
theorem nmJ10 : ∀ a, a < 0 → ∀ b, b < 0 → a ≠ b → (TJ10 a).2.1 ≠ (TJ10 b).2.1 := by decide +kernel
theorem tyJ10_ok : ∀ k, k < 0 → parseFieldDescriptor (TJ10 k).2.2.1 = some (tyJ10 k) := by decide +kernel
def RJ7 : String := "java/util/Arrays"
def TJ7 : u_T := fun k => match k with
  | _ => ("", "", "", false)
def tyJ7 : Nat → FieldType := fun k => match k with
  | _ => .int
abbrev wsJ70 : List Cond := u_ws RJ7 TJ7 0
theorem nmJ7 : ∀ a, a < 0 → ∀ b, b < 0 → a ≠ b → (TJ7 a).2.1 ≠ (TJ7 b).2.1 := by decide +kernel
theorem tyJ7_ok : ∀ k, k < 0 → parseFieldDescriptor (TJ7 k).2.2.1 = some (tyJ7 k) := by decide +kernel
abbrev cJ7_fill_53178 : ByteArray := prog_13_method_103_code
def yJ7_fill_53178 : MethodName := ⟨RJ7, "fill", "([II)V"⟩
def RL : String := "NamedMovesLaw"
abbrev cL_law : ByteArray := code
def yL_law : MethodName := ⟨RL, "law", "([I)Z"⟩
def wsJ7_fill_53178 : List Cond := .code yJ7_fill_53178 cJ7_fill_53178 4 none :: ([])
def wsX0_init : List Cond := .code yX0_init cX0_init 1 none :: ([.methodLink RX0 3 objectInit, .instanceMethod objectInit, .code objectInit ⟨#[0xb1]⟩ 1 none, .arrayClass .int, .fieldLink RX0 9 "NamedMoves$Copies" "things" "[I", .fieldLink RX0 15 "NamedMoves$Copies" "sizes" "[I", .fieldLink RX0 18 "NamedMoves$Copies" "notes" "[I", .fieldLink RX0 21 "NamedMoves$Copies" "marks" "[I", .fieldLink RX0 24 "NamedMoves$Copies" "names" "[I", .methodLink RX0 27 yJ7_fill_53178, .static yJ7_fill_53178, .initialized RJ7, .code yJ7_fill_53178 cJ7_fill_53178 4 none] ++ wsX00)
def wsX0_become : List Cond := .code yX0_become cX0_become 2 none :: ([.fieldLink RX0 9 "NamedMoves$Copies" "things" "[I", .methodLink RX0 33 arraycopyName, .native arraycopyName, .static arraycopyName, .initialized "java/lang/System", .fieldLink RX0 15 "NamedMoves$Copies" "sizes" "[I", .fieldLink RX0 18 "NamedMoves$Copies" "notes" "[I", .fieldLink RX0 21 "NamedMoves$Copies" "marks" "[I", .fieldLink RX0 24 "NamedMoves$Copies" "names" "[I"] ++ wsX00)
def wsX0_isAt : List Cond := .code yX0_isAt cX0_isAt 2 (some .boolean) :: ([.fieldLink RX0 15 "NamedMoves$Copies" "sizes" "[I"] ++ wsX00)
def wsX0_isOf : List Cond := .code yX0_isOf cX0_isOf 3 (some .boolean) :: ([.fieldLink RX0 9 "NamedMoves$Copies" "things" "[I", .methodLink RX0 39 yX0_isAt, .instanceMethod yX0_isAt, .selects RX0 yX0_isAt yX0_isAt, .initialized RX0, .code yX0_isAt cX0_isAt 2 (some .boolean), .fieldLink RX0 15 "NamedMoves$Copies" "sizes" "[I"] ++ wsX00)
def wsX0_thingAt : List Cond := .code yX0_thingAt cX0_thingAt 2 (some .int) :: ([.fieldLink RX0 9 "NamedMoves$Copies" "things" "[I", .methodLink RX0 39 yX0_isAt, .instanceMethod yX0_isAt, .selects RX0 yX0_isAt yX0_isAt, .initialized RX0, .code yX0_isAt cX0_isAt 2 (some .boolean), .fieldLink RX0 15 "NamedMoves$Copies" "sizes" "[I"] ++ wsX00)
def wsX0_sizeAt : List Cond := .code yX0_sizeAt cX0_sizeAt 2 (some .int) :: ([.fieldLink RX0 15 "NamedMoves$Copies" "sizes" "[I", .methodLink RX0 39 yX0_isAt, .instanceMethod yX0_isAt, .selects RX0 yX0_isAt yX0_isAt, .initialized RX0, .code yX0_isAt cX0_isAt 2 (some .boolean)] ++ wsX00)
def wsX0_noteAt : List Cond := .code yX0_noteAt cX0_noteAt 2 (some .int) :: ([.fieldLink RX0 18 "NamedMoves$Copies" "notes" "[I", .methodLink RX0 39 yX0_isAt, .instanceMethod yX0_isAt, .selects RX0 yX0_isAt yX0_isAt, .initialized RX0, .code yX0_isAt cX0_isAt 2 (some .boolean), .fieldLink RX0 15 "NamedMoves$Copies" "sizes" "[I"] ++ wsX00)
def wsX0_isMarked : List Cond := .code yX0_isMarked cX0_isMarked 2 (some .boolean) :: ([.fieldLink RX0 21 "NamedMoves$Copies" "marks" "[I", .methodLink RX0 39 yX0_isAt, .instanceMethod yX0_isAt, .selects RX0 yX0_isAt yX0_isAt, .initialized RX0, .code yX0_isAt cX0_isAt 2 (some .boolean), .fieldLink RX0 15 "NamedMoves$Copies" "sizes" "[I"] ++ wsX00)
def wsX7_isName : List Cond := .code yX7_isName cX7_isName 1 (some .boolean) :: ([])
def wsX0_nameAt : List Cond := .code yX0_nameAt cX0_nameAt 3 (some .int) :: ([.fieldLink RX0 24 "NamedMoves$Copies" "names" "[I", .methodLink RX0 39 yX0_isAt, .instanceMethod yX0_isAt, .selects RX0 yX0_isAt yX0_isAt, .initialized RX0, .code yX0_isAt cX0_isAt 2 (some .boolean), .fieldLink RX0 15 "NamedMoves$Copies" "sizes" "[I", .static yX7_isName, .initialized RX7, .code yX7_isName cX7_isName 1 (some .boolean)] ++ wsX00)
def wsX0_loseNoteAt : List Cond := .code yX0_loseNoteAt cX0_loseNoteAt 2 none :: ([.fieldLink RX0 18 "NamedMoves$Copies" "notes" "[I", .methodLink RX0 39 yX0_isAt, .instanceMethod yX0_isAt, .selects RX0 yX0_isAt yX0_isAt, .initialized RX0, .code yX0_isAt cX0_isAt 2 (some .boolean), .fieldLink RX0 15 "NamedMoves$Copies" "sizes" "[I"] ++ wsX00)
def wsX0_mark : List Cond := .code yX0_mark cX0_mark 2 (some .boolean) :: ([.fieldLink RX0 21 "NamedMoves$Copies" "marks" "[I", .methodLink RX0 39 yX0_isAt, .instanceMethod yX0_isAt, .selects RX0 yX0_isAt yX0_isAt, .initialized RX0, .code yX0_isAt cX0_isAt 2 (some .boolean), .fieldLink RX0 15 "NamedMoves$Copies" "sizes" "[I"] ++ wsX00)
def wsX0_setName : List Cond := .code yX0_setName cX0_setName 4 none :: ([.fieldLink RX0 24 "NamedMoves$Copies" "names" "[I", .methodLink RX0 39 yX0_isAt, .instanceMethod yX0_isAt, .selects RX0 yX0_isAt yX0_isAt, .initialized RX0, .code yX0_isAt cX0_isAt 2 (some .boolean), .fieldLink RX0 15 "NamedMoves$Copies" "sizes" "[I", .static yX7_isName, .initialized RX7, .code yX7_isName cX7_isName 1 (some .boolean)] ++ wsX00)
def wsX0_lay : List Cond := .code yX0_lay cX0_lay 4 none :: ([.fieldLink RX0 9 "NamedMoves$Copies" "things" "[I", .fieldLink RX0 15 "NamedMoves$Copies" "sizes" "[I", .fieldLink RX0 18 "NamedMoves$Copies" "notes" "[I", .fieldLink RX0 21 "NamedMoves$Copies" "marks" "[I", .fieldLink RX0 24 "NamedMoves$Copies" "names" "[I"] ++ wsX00)
def wsX0_layAgain : List Cond := .code yX0_layAgain cX0_layAgain 3 none :: ([.fieldLink RX0 9 "NamedMoves$Copies" "things" "[I", .fieldLink RX0 15 "NamedMoves$Copies" "sizes" "[I", .fieldLink RX0 18 "NamedMoves$Copies" "notes" "[I", .fieldLink RX0 21 "NamedMoves$Copies" "marks" "[I", .fieldLink RX0 24 "NamedMoves$Copies" "names" "[I"] ++ wsX00)
def wsX0_remove : List Cond := .code yX0_remove cX0_remove 2 none :: ([.fieldLink RX0 15 "NamedMoves$Copies" "sizes" "[I"] ++ wsX00)
def wsX0_addressOf : List Cond := .code yX0_addressOf cX0_addressOf 5 (some .int) :: ([.methodLink RX0 46 yX0_isOf, .instanceMethod yX0_isOf, .selects RX0 yX0_isOf yX0_isOf, .initialized RX0, .code yX0_isOf cX0_isOf 3 (some .boolean), .fieldLink RX0 9 "NamedMoves$Copies" "things" "[I", .methodLink RX0 39 yX0_isAt, .instanceMethod yX0_isAt, .selects RX0 yX0_isAt yX0_isAt, .code yX0_isAt cX0_isAt 2 (some .boolean), .fieldLink RX0 15 "NamedMoves$Copies" "sizes" "[I"] ++ wsX00)
def wsX0_number : List Cond := .code yX0_number cX0_number 3 (some .int) :: ([.methodLink RX0 39 yX0_isAt, .instanceMethod yX0_isAt, .selects RX0 yX0_isAt yX0_isAt, .initialized RX0, .code yX0_isAt cX0_isAt 2 (some .boolean), .fieldLink RX0 15 "NamedMoves$Copies" "sizes" "[I"] ++ wsX00)
def wsX0_floorTaken : List Cond := .code yX0_floorTaken cX0_floorTaken 3 (some .int) :: ([.methodLink RX0 50 yX0_sizeAt, .instanceMethod yX0_sizeAt, .selects RX0 yX0_sizeAt yX0_sizeAt, .initialized RX0, .code yX0_sizeAt cX0_sizeAt 2 (some .int), .fieldLink RX0 15 "NamedMoves$Copies" "sizes" "[I", .methodLink RX0 39 yX0_isAt, .instanceMethod yX0_isAt, .selects RX0 yX0_isAt yX0_isAt, .code yX0_isAt cX0_isAt 2 (some .boolean)] ++ wsX00)
def wsX0_floorAddressFor : List Cond := .code yX0_floorAddressFor cX0_floorAddressFor 5 (some .int) :: ([.methodLink RX0 50 yX0_sizeAt, .instanceMethod yX0_sizeAt, .selects RX0 yX0_sizeAt yX0_sizeAt, .initialized RX0, .code yX0_sizeAt cX0_sizeAt 2 (some .int), .fieldLink RX0 15 "NamedMoves$Copies" "sizes" "[I", .methodLink RX0 39 yX0_isAt, .instanceMethod yX0_isAt, .selects RX0 yX0_isAt yX0_isAt, .code yX0_isAt cX0_isAt 2 (some .boolean)] ++ wsX00)
def wsX0_leadsTo : List Cond := .code yX0_leadsTo cX0_leadsTo 3 (some .int) :: ([.methodLink RX0 54 yX0_noteAt, .instanceMethod yX0_noteAt, .selects RX0 yX0_noteAt yX0_noteAt, .initialized RX0, .code yX0_noteAt cX0_noteAt 2 (some .int), .fieldLink RX0 18 "NamedMoves$Copies" "notes" "[I", .methodLink RX0 39 yX0_isAt, .instanceMethod yX0_isAt, .selects RX0 yX0_isAt yX0_isAt, .code yX0_isAt cX0_isAt 2 (some .boolean), .fieldLink RX0 15 "NamedMoves$Copies" "sizes" "[I"] ++ wsX00)
def wsX0_replaceNames : List Cond := .code yX0_replaceNames cX0_replaceNames 4 none :: ([.fieldLink RX0 24 "NamedMoves$Copies" "names" "[I"] ++ wsX00)
def wsX0_emptyHalf : List Cond := .code yX0_emptyHalf cX0_emptyHalf 3 none :: ([.methodLink RX0 57 yX0_remove, .instanceMethod yX0_remove, .selects RX0 yX0_remove yX0_remove, .initialized RX0, .code yX0_remove cX0_remove 2 none, .fieldLink RX0 15 "NamedMoves$Copies" "sizes" "[I"] ++ wsX00)
def wsX0_sweepFloor : List Cond := .code yX0_sweepFloor cX0_sweepFloor 2 none :: ([.fieldLink RX0 21 "NamedMoves$Copies" "marks" "[I", .methodLink RX0 57 yX0_remove, .instanceMethod yX0_remove, .selects RX0 yX0_remove yX0_remove, .initialized RX0, .code yX0_remove cX0_remove 2 none, .fieldLink RX0 15 "NamedMoves$Copies" "sizes" "[I"] ++ wsX00)
def wsX1_init : List Cond := .code yX1_init cX1_init 1 none :: ([.methodLink RX1 3 objectInit, .instanceMethod objectInit, .code objectInit ⟨#[0xb1]⟩ 1 none, .arrayClass .int, .fieldLink RX1 9 "NamedMoves$Errand" "numbers" "[I"] ++ wsX10)
def wsX1_end : List Cond := .code yX1_end cX1_end 1 (some .int) :: ([.fieldLink RX1 15 "NamedMoves$Errand" "place" "I"] ++ wsX10)
def wsX6_at : List Cond := .code yX6_at cX6_at 3 (some .int) :: ([.fieldLink RX6 15 "NamedMoves$Text" "length" "I", .fieldLink RX6 9 "NamedMoves$Text" "characters" "[I"] ++ wsX60)
def wsX1_numbersDue : List Cond := .code yX1_numbersDue cX1_numbersDue 1 (some .int) :: ([.fieldLink RX1 25 "NamedMoves$Errand" "letter" "I"] ++ wsX10)
def wsX1_passes : List Cond := .code yX1_passes cX1_passes 3 (some .boolean) :: ([.fieldLink RX1 15 "NamedMoves$Errand" "place" "I", .methodLink RX1 19 yX6_at, .instanceMethod yX6_at, .selects RX6 yX6_at yX6_at, .initialized RX6, .code yX6_at cX6_at 3 (some .int), .fieldLink RX6 15 "NamedMoves$Text" "length" "I", .fieldLink RX6 9 "NamedMoves$Text" "characters" "[I"] ++ wsX10 ++ wsX60)
def wsX6_hasDigitAt : List Cond := .code yX6_hasDigitAt cX6_hasDigitAt 2 (some .boolean) :: ([.methodLink RX6 19 yX6_at, .instanceMethod yX6_at, .selects RX6 yX6_at yX6_at, .initialized RX6, .code yX6_at cX6_at 3 (some .int), .fieldLink RX6 15 "NamedMoves$Text" "length" "I", .fieldLink RX6 9 "NamedMoves$Text" "characters" "[I"] ++ wsX60)
def wsX1_readNumber : List Cond := .code yX1_readNumber cX1_readNumber 3 (some .int) :: ([.fieldLink RX1 15 "NamedMoves$Errand" "place" "I", .methodLink RX1 19 yX6_at, .instanceMethod yX6_at, .selects RX6 yX6_at yX6_at, .initialized RX6, .code yX6_at cX6_at 3 (some .int), .fieldLink RX6 15 "NamedMoves$Text" "length" "I", .fieldLink RX6 9 "NamedMoves$Text" "characters" "[I", .methodLink RX1 36 yX6_hasDigitAt, .instanceMethod yX6_hasDigitAt, .selects RX6 yX6_hasDigitAt yX6_hasDigitAt, .code yX6_hasDigitAt cX6_hasDigitAt 2 (some .boolean), .methodLink RX6 19 yX6_at] ++ wsX10 ++ wsX60)
def wsX1_readFrom_r1 : List Cond := [Cond.fieldLink RX1 15 "NamedMoves$Errand" "place" "I", Cond.fieldLink RX1 25 "NamedMoves$Errand" "letter" "I", Cond.fieldLink RX1 9 "NamedMoves$Errand" "numbers" "[I", Cond.methodLink RX1 19 yX6_at, Cond.instanceMethod yX6_at, Cond.selects RX6 yX6_at yX6_at, Cond.initialized RX6, Cond.code yX6_at cX6_at 3 (some .int), Cond.fieldLink RX6 15 "NamedMoves$Text" "length" "I", Cond.fieldLink RX6 9 "NamedMoves$Text" "characters" "[I", Cond.methodLink RX1 28 yX1_numbersDue, Cond.instanceMethod yX1_numbersDue, Cond.selects RX1 yX1_numbersDue yX1_numbersDue, Cond.initialized RX1, Cond.code yX1_numbersDue cX1_numbersDue 1 (some .int), Cond.methodLink RX1 32 yX1_passes, Cond.instanceMethod yX1_passes, Cond.selects RX1 yX1_passes yX1_passes, Cond.code yX1_passes cX1_passes 3 (some .boolean), Cond.methodLink RX1 36 yX6_hasDigitAt, Cond.instanceMethod yX6_hasDigitAt, Cond.selects RX6 yX6_hasDigitAt yX6_hasDigitAt, Cond.code yX6_hasDigitAt cX6_hasDigitAt 2 (some .boolean), Cond.methodLink RX6 19 yX6_at]
def wsX1_readFrom_r2 : List Cond := [Cond.methodLink RX1 40 yX1_readNumber, Cond.instanceMethod yX1_readNumber, Cond.selects RX1 yX1_readNumber yX1_readNumber, Cond.code yX1_readNumber cX1_readNumber 3 (some .int)]
def wsX1_readFrom : List Cond := .code yX1_readFrom cX1_readFrom 5 (some .boolean) :: ((wsX1_readFrom_r1 ++ wsX1_readFrom_r2) ++ wsX10 ++ wsX60)
def wsX7_isHook : List Cond := .code yX7_isHook cX7_isHook 1 (some .boolean) :: ([])
def wsX5_freeInHalf : List Cond := .code yX5_freeInHalf cX5_freeInHalf 1 (some .int) :: ([.fieldLink RX5 62 "NamedMoves$Store" "taken" "I"] ++ wsX50)
def wsX5_addressOfHalf : List Cond := .code yX5_addressOfHalf cX5_addressOfHalf 2 (some .int) :: ([])
def wsX5_roomKept : List Cond := .code yX5_roomKept cX5_roomKept 4 (some .int) :: ([.fieldLink RX5 59 "NamedMoves$Store" "half" "I", .fieldLink RX5 55 "NamedMoves$Store" "moving" "Z", .fieldLink RX5 18 "NamedMoves$Store" "copies" "LNamedMoves$Copies;", .methodLink RX5 75 yX5_addressOfHalf, .instanceMethod yX5_addressOfHalf, .selects RX5 yX5_addressOfHalf yX5_addressOfHalf, .initialized RX5, .code yX5_addressOfHalf cX5_addressOfHalf 2 (some .int), .methodLink RX5 79 yX0_noteAt, .instanceMethod yX0_noteAt, .selects RX0 yX0_noteAt yX0_noteAt, .initialized RX0, .code yX0_noteAt cX0_noteAt 2 (some .int), .fieldLink RX0 18 "NamedMoves$Copies" "notes" "[I", .methodLink RX0 39 yX0_isAt, .instanceMethod yX0_isAt, .selects RX0 yX0_isAt yX0_isAt, .code yX0_isAt cX0_isAt 2 (some .boolean), .fieldLink RX0 15 "NamedMoves$Copies" "sizes" "[I", .methodLink RX5 82 yX0_sizeAt, .instanceMethod yX0_sizeAt, .selects RX0 yX0_sizeAt yX0_sizeAt, .code yX0_sizeAt cX0_sizeAt 2 (some .int)] ++ wsX50 ++ wsX00)
def wsX5_halfAddressFor_r1 : List Cond := [Cond.fieldLink RX5 59 "NamedMoves$Store" "half" "I", Cond.fieldLink RX5 62 "NamedMoves$Store" "taken" "I", Cond.methodLink RX5 99 yX5_freeInHalf, Cond.instanceMethod yX5_freeInHalf, Cond.selects RX5 yX5_freeInHalf yX5_freeInHalf, Cond.initialized RX5, Cond.code yX5_freeInHalf cX5_freeInHalf 1 (some .int), Cond.methodLink RX5 108 yX5_roomKept, Cond.instanceMethod yX5_roomKept, Cond.selects RX5 yX5_roomKept yX5_roomKept, Cond.code yX5_roomKept cX5_roomKept 4 (some .int), Cond.fieldLink RX5 55 "NamedMoves$Store" "moving" "Z", Cond.fieldLink RX5 18 "NamedMoves$Store" "copies" "LNamedMoves$Copies;", Cond.methodLink RX5 75 yX5_addressOfHalf, Cond.instanceMethod yX5_addressOfHalf, Cond.selects RX5 yX5_addressOfHalf yX5_addressOfHalf, Cond.code yX5_addressOfHalf cX5_addressOfHalf 2 (some .int), Cond.methodLink RX5 79 yX0_noteAt, Cond.instanceMethod yX0_noteAt, Cond.selects RX0 yX0_noteAt yX0_noteAt, Cond.initialized RX0, Cond.code yX0_noteAt cX0_noteAt 2 (some .int), Cond.fieldLink RX0 18 "NamedMoves$Copies" "notes" "[I", Cond.methodLink RX0 39 yX0_isAt]
def wsX5_halfAddressFor_r2 : List Cond := [Cond.instanceMethod yX0_isAt, Cond.selects RX0 yX0_isAt yX0_isAt, Cond.code yX0_isAt cX0_isAt 2 (some .boolean), Cond.fieldLink RX0 15 "NamedMoves$Copies" "sizes" "[I", Cond.methodLink RX5 82 yX0_sizeAt, Cond.instanceMethod yX0_sizeAt, Cond.selects RX0 yX0_sizeAt yX0_sizeAt, Cond.code yX0_sizeAt cX0_sizeAt 2 (some .int)]
def wsX5_halfAddressFor : List Cond := .code yX5_halfAddressFor cX5_halfAddressFor 2 (some .int) :: ((wsX5_halfAddressFor_r1 ++ wsX5_halfAddressFor_r2) ++ wsX50 ++ wsX00)
def wsX5_makeThing_r1 : List Cond := [Cond.fieldLink RX5 29 "NamedMoves$Store" "heavyBound" "I", Cond.fieldLink RX5 18 "NamedMoves$Store" "copies" "LNamedMoves$Copies;", Cond.fieldLink RX5 52 "NamedMoves$Store" "made" "I", Cond.fieldLink RX5 62 "NamedMoves$Store" "taken" "I", Cond.fieldLink RX5 55 "NamedMoves$Store" "moving" "Z", Cond.fieldLink RX5 9 "NamedMoves$Store" "hooks" "[I", Cond.static yX7_isHook, Cond.initialized RX7, Cond.code yX7_isHook cX7_isHook 1 (some .boolean), Cond.methodLink RX5 114 yX0_floorAddressFor, Cond.instanceMethod yX0_floorAddressFor, Cond.selects RX0 yX0_floorAddressFor yX0_floorAddressFor, Cond.initialized RX0, Cond.code yX0_floorAddressFor cX0_floorAddressFor 5 (some .int), Cond.methodLink RX0 50 yX0_sizeAt, Cond.instanceMethod yX0_sizeAt, Cond.selects RX0 yX0_sizeAt yX0_sizeAt, Cond.code yX0_sizeAt cX0_sizeAt 2 (some .int), Cond.fieldLink RX0 15 "NamedMoves$Copies" "sizes" "[I", Cond.methodLink RX0 39 yX0_isAt, Cond.instanceMethod yX0_isAt, Cond.selects RX0 yX0_isAt yX0_isAt, Cond.code yX0_isAt cX0_isAt 2 (some .boolean), Cond.methodLink RX5 117 yX5_halfAddressFor]
def wsX5_makeThing_r2 : List Cond := [Cond.instanceMethod yX5_halfAddressFor, Cond.selects RX5 yX5_halfAddressFor yX5_halfAddressFor, Cond.initialized RX5, Cond.code yX5_halfAddressFor cX5_halfAddressFor 2 (some .int), Cond.fieldLink RX5 59 "NamedMoves$Store" "half" "I", Cond.methodLink RX5 99 yX5_freeInHalf, Cond.instanceMethod yX5_freeInHalf, Cond.selects RX5 yX5_freeInHalf yX5_freeInHalf, Cond.code yX5_freeInHalf cX5_freeInHalf 1 (some .int), Cond.methodLink RX5 108 yX5_roomKept, Cond.instanceMethod yX5_roomKept, Cond.selects RX5 yX5_roomKept yX5_roomKept, Cond.code yX5_roomKept cX5_roomKept 4 (some .int), Cond.methodLink RX5 75 yX5_addressOfHalf, Cond.instanceMethod yX5_addressOfHalf, Cond.selects RX5 yX5_addressOfHalf yX5_addressOfHalf, Cond.code yX5_addressOfHalf cX5_addressOfHalf 2 (some .int), Cond.methodLink RX5 79 yX0_noteAt, Cond.instanceMethod yX0_noteAt, Cond.selects RX0 yX0_noteAt yX0_noteAt, Cond.code yX0_noteAt cX0_noteAt 2 (some .int), Cond.fieldLink RX0 18 "NamedMoves$Copies" "notes" "[I", Cond.methodLink RX5 82 yX0_sizeAt, Cond.methodLink RX5 120 yX0_lay]
def wsX5_makeThing_r3 : List Cond := [Cond.instanceMethod yX0_lay, Cond.selects RX0 yX0_lay yX0_lay, Cond.code yX0_lay cX0_lay 4 none, Cond.fieldLink RX0 9 "NamedMoves$Copies" "things" "[I", Cond.fieldLink RX0 21 "NamedMoves$Copies" "marks" "[I", Cond.fieldLink RX0 24 "NamedMoves$Copies" "names" "[I", Cond.methodLink RX5 124 yX0_mark, Cond.instanceMethod yX0_mark, Cond.selects RX0 yX0_mark yX0_mark, Cond.code yX0_mark cX0_mark 2 (some .boolean)]
def wsX5_makeThing : List Cond := .code yX5_makeThing cX5_makeThing 5 (some .int) :: ((wsX5_makeThing_r1 ++ (wsX5_makeThing_r2 ++ wsX5_makeThing_r3)) ++ wsX50 ++ wsX00)
def wsX5_isInOldHalf : List Cond := .code yX5_isInOldHalf cX5_isInOldHalf 3 (some .boolean) :: ([.fieldLink RX5 59 "NamedMoves$Store" "half" "I", .fieldLink RX5 55 "NamedMoves$Store" "moving" "Z", .methodLink RX5 75 yX5_addressOfHalf, .instanceMethod yX5_addressOfHalf, .selects RX5 yX5_addressOfHalf yX5_addressOfHalf, .initialized RX5, .code yX5_addressOfHalf cX5_addressOfHalf 2 (some .int)] ++ wsX50)
def wsX3_join : List Cond := .code yX3_join cX3_join 2 none :: ([.fieldLink RX3 25 "NamedMoves$Queue" "end" "I", .fieldLink RX3 9 "NamedMoves$Queue" "addresses" "[I"] ++ wsX30)
def wsX5_carryOver_r1 : List Cond := [Cond.fieldLink RX5 59 "NamedMoves$Store" "half" "I", Cond.fieldLink RX5 62 "NamedMoves$Store" "taken" "I", Cond.fieldLink RX5 18 "NamedMoves$Store" "copies" "LNamedMoves$Copies;", Cond.fieldLink RX5 25 "NamedMoves$Store" "queue" "LNamedMoves$Queue;", Cond.methodLink RX5 99 yX5_freeInHalf, Cond.instanceMethod yX5_freeInHalf, Cond.selects RX5 yX5_freeInHalf yX5_freeInHalf, Cond.initialized RX5, Cond.code yX5_freeInHalf cX5_freeInHalf 1 (some .int), Cond.methodLink RX5 75 yX5_addressOfHalf, Cond.instanceMethod yX5_addressOfHalf, Cond.selects RX5 yX5_addressOfHalf yX5_addressOfHalf, Cond.code yX5_addressOfHalf cX5_addressOfHalf 2 (some .int), Cond.methodLink RX5 188 yX0_layAgain, Cond.instanceMethod yX0_layAgain, Cond.selects RX0 yX0_layAgain yX0_layAgain, Cond.initialized RX0, Cond.code yX0_layAgain cX0_layAgain 3 none, Cond.fieldLink RX0 9 "NamedMoves$Copies" "things" "[I", Cond.fieldLink RX0 15 "NamedMoves$Copies" "sizes" "[I", Cond.fieldLink RX0 18 "NamedMoves$Copies" "notes" "[I", Cond.fieldLink RX0 21 "NamedMoves$Copies" "marks" "[I", Cond.fieldLink RX0 24 "NamedMoves$Copies" "names" "[I", Cond.methodLink RX5 185 yX3_join]
def wsX5_carryOver_r2 : List Cond := [Cond.instanceMethod yX3_join, Cond.selects RX3 yX3_join yX3_join, Cond.initialized RX3, Cond.code yX3_join cX3_join 2 none, Cond.fieldLink RX3 25 "NamedMoves$Queue" "end" "I", Cond.fieldLink RX3 9 "NamedMoves$Queue" "addresses" "[I"]
def wsX5_carryOver : List Cond := .code yX5_carryOver cX5_carryOver 4 (some .int) :: ((wsX5_carryOver_r1 ++ wsX5_carryOver_r2) ++ wsX50 ++ wsX00 ++ wsX30)
def wsX5_readIn_r1 : List Cond := [Cond.fieldLink RX5 18 "NamedMoves$Store" "copies" "LNamedMoves$Copies;", Cond.fieldLink RX5 55 "NamedMoves$Store" "moving" "Z", Cond.fieldLink RX5 25 "NamedMoves$Store" "queue" "LNamedMoves$Queue;", Cond.methodLink RX5 89 yX5_isInOldHalf, Cond.instanceMethod yX5_isInOldHalf, Cond.selects RX5 yX5_isInOldHalf yX5_isInOldHalf, Cond.initialized RX5, Cond.code yX5_isInOldHalf cX5_isInOldHalf 3 (some .boolean), Cond.fieldLink RX5 59 "NamedMoves$Store" "half" "I", Cond.methodLink RX5 75 yX5_addressOfHalf, Cond.instanceMethod yX5_addressOfHalf, Cond.selects RX5 yX5_addressOfHalf yX5_addressOfHalf, Cond.code yX5_addressOfHalf cX5_addressOfHalf 2 (some .int), Cond.methodLink RX5 79 yX0_noteAt, Cond.instanceMethod yX0_noteAt, Cond.selects RX0 yX0_noteAt yX0_noteAt, Cond.initialized RX0, Cond.code yX0_noteAt cX0_noteAt 2 (some .int), Cond.fieldLink RX0 18 "NamedMoves$Copies" "notes" "[I", Cond.methodLink RX0 39 yX0_isAt, Cond.instanceMethod yX0_isAt, Cond.selects RX0 yX0_isAt yX0_isAt, Cond.code yX0_isAt cX0_isAt 2 (some .boolean), Cond.fieldLink RX0 15 "NamedMoves$Copies" "sizes" "[I"]
def wsX5_readIn_r2 : List Cond := [Cond.methodLink RX5 82 yX0_sizeAt, Cond.instanceMethod yX0_sizeAt, Cond.selects RX0 yX0_sizeAt yX0_sizeAt, Cond.code yX0_sizeAt cX0_sizeAt 2 (some .int), Cond.methodLink RX5 182 yX5_carryOver, Cond.instanceMethod yX5_carryOver, Cond.selects RX5 yX5_carryOver yX5_carryOver, Cond.code yX5_carryOver cX5_carryOver 4 (some .int), Cond.fieldLink RX5 62 "NamedMoves$Store" "taken" "I", Cond.methodLink RX5 99 yX5_freeInHalf, Cond.instanceMethod yX5_freeInHalf, Cond.selects RX5 yX5_freeInHalf yX5_freeInHalf, Cond.code yX5_freeInHalf cX5_freeInHalf 1 (some .int), Cond.methodLink RX5 188 yX0_layAgain, Cond.instanceMethod yX0_layAgain, Cond.selects RX0 yX0_layAgain yX0_layAgain, Cond.code yX0_layAgain cX0_layAgain 3 none, Cond.fieldLink RX0 9 "NamedMoves$Copies" "things" "[I", Cond.fieldLink RX0 21 "NamedMoves$Copies" "marks" "[I", Cond.fieldLink RX0 24 "NamedMoves$Copies" "names" "[I", Cond.methodLink RX5 185 yX3_join, Cond.instanceMethod yX3_join, Cond.selects RX3 yX3_join yX3_join, Cond.initialized RX3]
def wsX5_readIn_r3 : List Cond := [Cond.code yX3_join cX3_join 2 none, Cond.fieldLink RX3 25 "NamedMoves$Queue" "end" "I", Cond.fieldLink RX3 9 "NamedMoves$Queue" "addresses" "[I", Cond.methodLink RX5 124 yX0_mark, Cond.instanceMethod yX0_mark, Cond.selects RX0 yX0_mark yX0_mark, Cond.code yX0_mark cX0_mark 2 (some .boolean)]
def wsX5_readIn : List Cond := .code yX5_readIn cX5_readIn 5 (some .int) :: ((wsX5_readIn_r1 ++ (wsX5_readIn_r2 ++ wsX5_readIn_r3)) ++ wsX50 ++ wsX00 ++ wsX30)
def wsX5_linkHooks_r1 : List Cond := [Cond.fieldLink RX5 9 "NamedMoves$Store" "hooks" "[I", Cond.fieldLink RX5 18 "NamedMoves$Store" "copies" "LNamedMoves$Copies;", Cond.static yX7_isHook, Cond.initialized RX7, Cond.code yX7_isHook cX7_isHook 1 (some .boolean), Cond.static yX7_isName, Cond.code yX7_isName cX7_isName 1 (some .boolean), Cond.methodLink RX5 130 yX5_readIn, Cond.instanceMethod yX5_readIn, Cond.selects RX5 yX5_readIn yX5_readIn, Cond.initialized RX5, Cond.code yX5_readIn cX5_readIn 5 (some .int), Cond.fieldLink RX5 55 "NamedMoves$Store" "moving" "Z", Cond.fieldLink RX5 25 "NamedMoves$Store" "queue" "LNamedMoves$Queue;", Cond.methodLink RX5 89 yX5_isInOldHalf, Cond.instanceMethod yX5_isInOldHalf, Cond.selects RX5 yX5_isInOldHalf yX5_isInOldHalf, Cond.code yX5_isInOldHalf cX5_isInOldHalf 3 (some .boolean), Cond.fieldLink RX5 59 "NamedMoves$Store" "half" "I", Cond.methodLink RX5 75 yX5_addressOfHalf, Cond.instanceMethod yX5_addressOfHalf, Cond.selects RX5 yX5_addressOfHalf yX5_addressOfHalf, Cond.code yX5_addressOfHalf cX5_addressOfHalf 2 (some .int), Cond.methodLink RX5 79 yX0_noteAt]
def wsX5_linkHooks_r2 : List Cond := [Cond.instanceMethod yX0_noteAt, Cond.selects RX0 yX0_noteAt yX0_noteAt, Cond.initialized RX0, Cond.code yX0_noteAt cX0_noteAt 2 (some .int), Cond.fieldLink RX0 18 "NamedMoves$Copies" "notes" "[I", Cond.methodLink RX0 39 yX0_isAt, Cond.instanceMethod yX0_isAt, Cond.selects RX0 yX0_isAt yX0_isAt, Cond.code yX0_isAt cX0_isAt 2 (some .boolean), Cond.fieldLink RX0 15 "NamedMoves$Copies" "sizes" "[I", Cond.methodLink RX5 82 yX0_sizeAt, Cond.instanceMethod yX0_sizeAt, Cond.selects RX0 yX0_sizeAt yX0_sizeAt, Cond.code yX0_sizeAt cX0_sizeAt 2 (some .int), Cond.methodLink RX5 182 yX5_carryOver, Cond.instanceMethod yX5_carryOver, Cond.selects RX5 yX5_carryOver yX5_carryOver, Cond.code yX5_carryOver cX5_carryOver 4 (some .int), Cond.fieldLink RX5 62 "NamedMoves$Store" "taken" "I", Cond.methodLink RX5 99 yX5_freeInHalf, Cond.instanceMethod yX5_freeInHalf, Cond.selects RX5 yX5_freeInHalf yX5_freeInHalf, Cond.code yX5_freeInHalf cX5_freeInHalf 1 (some .int), Cond.methodLink RX5 188 yX0_layAgain]
def wsX5_linkHooks_r3 : List Cond := [Cond.instanceMethod yX0_layAgain, Cond.selects RX0 yX0_layAgain yX0_layAgain, Cond.code yX0_layAgain cX0_layAgain 3 none, Cond.fieldLink RX0 9 "NamedMoves$Copies" "things" "[I", Cond.fieldLink RX0 21 "NamedMoves$Copies" "marks" "[I", Cond.fieldLink RX0 24 "NamedMoves$Copies" "names" "[I", Cond.methodLink RX5 185 yX3_join, Cond.instanceMethod yX3_join, Cond.selects RX3 yX3_join yX3_join, Cond.initialized RX3, Cond.code yX3_join cX3_join 2 none, Cond.fieldLink RX3 25 "NamedMoves$Queue" "end" "I", Cond.fieldLink RX3 9 "NamedMoves$Queue" "addresses" "[I", Cond.methodLink RX5 124 yX0_mark, Cond.instanceMethod yX0_mark, Cond.selects RX0 yX0_mark yX0_mark, Cond.code yX0_mark cX0_mark 2 (some .boolean), Cond.methodLink RX5 134 yX0_setName, Cond.instanceMethod yX0_setName, Cond.selects RX0 yX0_setName yX0_setName, Cond.code yX0_setName cX0_setName 4 none]
def wsX5_linkHooks : List Cond := .code yX5_linkHooks cX5_linkHooks 6 (some .int) :: ((wsX5_linkHooks_r1 ++ (wsX5_linkHooks_r2 ++ wsX5_linkHooks_r3)) ++ wsX50 ++ wsX00 ++ wsX30)
def wsX5_followName_r1 : List Cond := [Cond.fieldLink RX5 9 "NamedMoves$Store" "hooks" "[I", Cond.fieldLink RX5 18 "NamedMoves$Store" "copies" "LNamedMoves$Copies;", Cond.static yX7_isHook, Cond.initialized RX7, Cond.code yX7_isHook cX7_isHook 1 (some .boolean), Cond.static yX7_isName, Cond.code yX7_isName cX7_isName 1 (some .boolean), Cond.methodLink RX5 130 yX5_readIn, Cond.instanceMethod yX5_readIn, Cond.selects RX5 yX5_readIn yX5_readIn, Cond.initialized RX5, Cond.code yX5_readIn cX5_readIn 5 (some .int), Cond.fieldLink RX5 55 "NamedMoves$Store" "moving" "Z", Cond.fieldLink RX5 25 "NamedMoves$Store" "queue" "LNamedMoves$Queue;", Cond.methodLink RX5 89 yX5_isInOldHalf, Cond.instanceMethod yX5_isInOldHalf, Cond.selects RX5 yX5_isInOldHalf yX5_isInOldHalf, Cond.code yX5_isInOldHalf cX5_isInOldHalf 3 (some .boolean), Cond.fieldLink RX5 59 "NamedMoves$Store" "half" "I", Cond.methodLink RX5 75 yX5_addressOfHalf, Cond.instanceMethod yX5_addressOfHalf, Cond.selects RX5 yX5_addressOfHalf yX5_addressOfHalf, Cond.code yX5_addressOfHalf cX5_addressOfHalf 2 (some .int), Cond.methodLink RX5 79 yX0_noteAt]
def wsX5_followName_r2 : List Cond := [Cond.instanceMethod yX0_noteAt, Cond.selects RX0 yX0_noteAt yX0_noteAt, Cond.initialized RX0, Cond.code yX0_noteAt cX0_noteAt 2 (some .int), Cond.fieldLink RX0 18 "NamedMoves$Copies" "notes" "[I", Cond.methodLink RX0 39 yX0_isAt, Cond.instanceMethod yX0_isAt, Cond.selects RX0 yX0_isAt yX0_isAt, Cond.code yX0_isAt cX0_isAt 2 (some .boolean), Cond.fieldLink RX0 15 "NamedMoves$Copies" "sizes" "[I", Cond.methodLink RX5 82 yX0_sizeAt, Cond.instanceMethod yX0_sizeAt, Cond.selects RX0 yX0_sizeAt yX0_sizeAt, Cond.code yX0_sizeAt cX0_sizeAt 2 (some .int), Cond.methodLink RX5 182 yX5_carryOver, Cond.instanceMethod yX5_carryOver, Cond.selects RX5 yX5_carryOver yX5_carryOver, Cond.code yX5_carryOver cX5_carryOver 4 (some .int), Cond.fieldLink RX5 62 "NamedMoves$Store" "taken" "I", Cond.methodLink RX5 99 yX5_freeInHalf, Cond.instanceMethod yX5_freeInHalf, Cond.selects RX5 yX5_freeInHalf yX5_freeInHalf, Cond.code yX5_freeInHalf cX5_freeInHalf 1 (some .int), Cond.methodLink RX5 188 yX0_layAgain]
def wsX5_followName_r3 : List Cond := [Cond.instanceMethod yX0_layAgain, Cond.selects RX0 yX0_layAgain yX0_layAgain, Cond.code yX0_layAgain cX0_layAgain 3 none, Cond.fieldLink RX0 9 "NamedMoves$Copies" "things" "[I", Cond.fieldLink RX0 21 "NamedMoves$Copies" "marks" "[I", Cond.fieldLink RX0 24 "NamedMoves$Copies" "names" "[I", Cond.methodLink RX5 185 yX3_join, Cond.instanceMethod yX3_join, Cond.selects RX3 yX3_join yX3_join, Cond.initialized RX3, Cond.code yX3_join cX3_join 2 none, Cond.fieldLink RX3 25 "NamedMoves$Queue" "end" "I", Cond.fieldLink RX3 9 "NamedMoves$Queue" "addresses" "[I", Cond.methodLink RX5 124 yX0_mark, Cond.instanceMethod yX0_mark, Cond.selects RX0 yX0_mark yX0_mark, Cond.code yX0_mark cX0_mark 2 (some .boolean)]
def wsX5_followName : List Cond := .code yX5_followName cX5_followName 5 (some .int) :: ((wsX5_followName_r1 ++ (wsX5_followName_r2 ++ wsX5_followName_r3)) ++ wsX50 ++ wsX00 ++ wsX30)
def wsX5_dropHook : List Cond := .code yX5_dropHook cX5_dropHook 3 (some .int) :: ([.fieldLink RX5 9 "NamedMoves$Store" "hooks" "[I", .static yX7_isHook, .initialized RX7, .code yX7_isHook cX7_isHook 1 (some .boolean)] ++ wsX50)
def wsX3_clear : List Cond := .code yX3_clear cX3_clear 1 none :: ([.fieldLink RX3 21 "NamedMoves$Queue" "first" "I", .fieldLink RX3 25 "NamedMoves$Queue" "end" "I"] ++ wsX30)
def wsX3_size : List Cond := .code yX3_size cX3_size 1 (some .int) :: ([.fieldLink RX3 25 "NamedMoves$Queue" "end" "I", .fieldLink RX3 21 "NamedMoves$Queue" "first" "I"] ++ wsX30)
def wsX5_endMove : List Cond := .code yX5_endMove cX5_endMove 1 none :: ([.fieldLink RX5 18 "NamedMoves$Store" "copies" "LNamedMoves$Copies;", .fieldLink RX5 59 "NamedMoves$Store" "half" "I", .fieldLink RX5 55 "NamedMoves$Store" "moving" "Z", .fieldLink RX5 68 "NamedMoves$Store" "movesEnded" "I", .methodLink RX5 152 yX0_emptyHalf, .instanceMethod yX0_emptyHalf, .selects RX0 yX0_emptyHalf yX0_emptyHalf, .initialized RX0, .code yX0_emptyHalf cX0_emptyHalf 3 none, .methodLink RX0 57 yX0_remove, .instanceMethod yX0_remove, .selects RX0 yX0_remove yX0_remove, .code yX0_remove cX0_remove 2 none, .fieldLink RX0 15 "NamedMoves$Copies" "sizes" "[I", .methodLink RX5 156 yX0_sweepFloor, .instanceMethod yX0_sweepFloor, .selects RX0 yX0_sweepFloor yX0_sweepFloor, .code yX0_sweepFloor cX0_sweepFloor 2 none, .fieldLink RX0 21 "NamedMoves$Copies" "marks" "[I"] ++ wsX50 ++ wsX00)
def wsX5_beginMove_r1 : List Cond := [Cond.fieldLink RX5 55 "NamedMoves$Store" "moving" "Z", Cond.fieldLink RX5 59 "NamedMoves$Store" "half" "I", Cond.fieldLink RX5 62 "NamedMoves$Store" "taken" "I", Cond.fieldLink RX5 25 "NamedMoves$Store" "queue" "LNamedMoves$Queue;", Cond.fieldLink RX5 9 "NamedMoves$Store" "hooks" "[I", Cond.methodLink RX5 140 yX3_clear, Cond.instanceMethod yX3_clear, Cond.selects RX3 yX3_clear yX3_clear, Cond.initialized RX3, Cond.code yX3_clear cX3_clear 1 none, Cond.fieldLink RX3 21 "NamedMoves$Queue" "first" "I", Cond.fieldLink RX3 25 "NamedMoves$Queue" "end" "I", Cond.methodLink RX5 130 yX5_readIn, Cond.instanceMethod yX5_readIn, Cond.selects RX5 yX5_readIn yX5_readIn, Cond.initialized RX5, Cond.code yX5_readIn cX5_readIn 5 (some .int), Cond.fieldLink RX5 18 "NamedMoves$Store" "copies" "LNamedMoves$Copies;", Cond.methodLink RX5 89 yX5_isInOldHalf, Cond.instanceMethod yX5_isInOldHalf, Cond.selects RX5 yX5_isInOldHalf yX5_isInOldHalf, Cond.code yX5_isInOldHalf cX5_isInOldHalf 3 (some .boolean), Cond.methodLink RX5 75 yX5_addressOfHalf, Cond.instanceMethod yX5_addressOfHalf]
def wsX5_beginMove_r2 : List Cond := [Cond.selects RX5 yX5_addressOfHalf yX5_addressOfHalf, Cond.code yX5_addressOfHalf cX5_addressOfHalf 2 (some .int), Cond.methodLink RX5 79 yX0_noteAt, Cond.instanceMethod yX0_noteAt, Cond.selects RX0 yX0_noteAt yX0_noteAt, Cond.initialized RX0, Cond.code yX0_noteAt cX0_noteAt 2 (some .int), Cond.fieldLink RX0 18 "NamedMoves$Copies" "notes" "[I", Cond.methodLink RX0 39 yX0_isAt, Cond.instanceMethod yX0_isAt, Cond.selects RX0 yX0_isAt yX0_isAt, Cond.code yX0_isAt cX0_isAt 2 (some .boolean), Cond.fieldLink RX0 15 "NamedMoves$Copies" "sizes" "[I", Cond.methodLink RX5 82 yX0_sizeAt, Cond.instanceMethod yX0_sizeAt, Cond.selects RX0 yX0_sizeAt yX0_sizeAt, Cond.code yX0_sizeAt cX0_sizeAt 2 (some .int), Cond.methodLink RX5 182 yX5_carryOver, Cond.instanceMethod yX5_carryOver, Cond.selects RX5 yX5_carryOver yX5_carryOver, Cond.code yX5_carryOver cX5_carryOver 4 (some .int), Cond.methodLink RX5 99 yX5_freeInHalf, Cond.instanceMethod yX5_freeInHalf, Cond.selects RX5 yX5_freeInHalf yX5_freeInHalf]
def wsX5_beginMove_r3 : List Cond := [Cond.code yX5_freeInHalf cX5_freeInHalf 1 (some .int), Cond.methodLink RX5 188 yX0_layAgain, Cond.instanceMethod yX0_layAgain, Cond.selects RX0 yX0_layAgain yX0_layAgain, Cond.code yX0_layAgain cX0_layAgain 3 none, Cond.fieldLink RX0 9 "NamedMoves$Copies" "things" "[I", Cond.fieldLink RX0 21 "NamedMoves$Copies" "marks" "[I", Cond.fieldLink RX0 24 "NamedMoves$Copies" "names" "[I", Cond.methodLink RX5 185 yX3_join, Cond.instanceMethod yX3_join, Cond.selects RX3 yX3_join yX3_join, Cond.code yX3_join cX3_join 2 none, Cond.fieldLink RX3 9 "NamedMoves$Queue" "addresses" "[I", Cond.methodLink RX5 124 yX0_mark, Cond.instanceMethod yX0_mark, Cond.selects RX0 yX0_mark yX0_mark, Cond.code yX0_mark cX0_mark 2 (some .boolean), Cond.methodLink RX5 105 yX3_size, Cond.instanceMethod yX3_size, Cond.selects RX3 yX3_size yX3_size, Cond.code yX3_size cX3_size 1 (some .int), Cond.methodLink RX5 143 yX5_endMove, Cond.instanceMethod yX5_endMove, Cond.selects RX5 yX5_endMove yX5_endMove]
def wsX5_beginMove_r4 : List Cond := [Cond.code yX5_endMove cX5_endMove 1 none, Cond.fieldLink RX5 68 "NamedMoves$Store" "movesEnded" "I", Cond.methodLink RX5 152 yX0_emptyHalf, Cond.instanceMethod yX0_emptyHalf, Cond.selects RX0 yX0_emptyHalf yX0_emptyHalf, Cond.code yX0_emptyHalf cX0_emptyHalf 3 none, Cond.methodLink RX0 57 yX0_remove, Cond.instanceMethod yX0_remove, Cond.selects RX0 yX0_remove yX0_remove, Cond.code yX0_remove cX0_remove 2 none, Cond.methodLink RX5 156 yX0_sweepFloor, Cond.instanceMethod yX0_sweepFloor, Cond.selects RX0 yX0_sweepFloor yX0_sweepFloor, Cond.code yX0_sweepFloor cX0_sweepFloor 2 none]
def wsX5_beginMove : List Cond := .code yX5_beginMove cX5_beginMove 2 (some .int) :: ((wsX5_beginMove_r1 ++ (wsX5_beginMove_r2 ++ (wsX5_beginMove_r3 ++ wsX5_beginMove_r4))) ++ wsX50 ++ wsX30 ++ wsX00)
def wsX3_takeFirst : List Cond := .code yX3_takeFirst cX3_takeFirst 1 (some .int) :: ([.fieldLink RX3 21 "NamedMoves$Queue" "first" "I", .fieldLink RX3 25 "NamedMoves$Queue" "end" "I", .fieldLink RX3 9 "NamedMoves$Queue" "addresses" "[I"] ++ wsX30)
def wsX5_stepsUpTo_r1 : List Cond := [Cond.fieldLink RX5 55 "NamedMoves$Store" "moving" "Z", Cond.fieldLink RX5 25 "NamedMoves$Store" "queue" "LNamedMoves$Queue;", Cond.fieldLink RX5 18 "NamedMoves$Store" "copies" "LNamedMoves$Copies;", Cond.methodLink RX5 149 yX3_takeFirst, Cond.instanceMethod yX3_takeFirst, Cond.selects RX3 yX3_takeFirst yX3_takeFirst, Cond.initialized RX3, Cond.code yX3_takeFirst cX3_takeFirst 1 (some .int), Cond.fieldLink RX3 21 "NamedMoves$Queue" "first" "I", Cond.fieldLink RX3 25 "NamedMoves$Queue" "end" "I", Cond.fieldLink RX3 9 "NamedMoves$Queue" "addresses" "[I", Cond.methodLink RX5 130 yX5_readIn, Cond.instanceMethod yX5_readIn, Cond.selects RX5 yX5_readIn yX5_readIn, Cond.initialized RX5, Cond.code yX5_readIn cX5_readIn 5 (some .int), Cond.methodLink RX5 89 yX5_isInOldHalf, Cond.instanceMethod yX5_isInOldHalf, Cond.selects RX5 yX5_isInOldHalf yX5_isInOldHalf, Cond.code yX5_isInOldHalf cX5_isInOldHalf 3 (some .boolean), Cond.fieldLink RX5 59 "NamedMoves$Store" "half" "I", Cond.methodLink RX5 75 yX5_addressOfHalf, Cond.instanceMethod yX5_addressOfHalf, Cond.selects RX5 yX5_addressOfHalf yX5_addressOfHalf]
def wsX5_stepsUpTo_r2 : List Cond := [Cond.code yX5_addressOfHalf cX5_addressOfHalf 2 (some .int), Cond.methodLink RX5 79 yX0_noteAt, Cond.instanceMethod yX0_noteAt, Cond.selects RX0 yX0_noteAt yX0_noteAt, Cond.initialized RX0, Cond.code yX0_noteAt cX0_noteAt 2 (some .int), Cond.fieldLink RX0 18 "NamedMoves$Copies" "notes" "[I", Cond.methodLink RX0 39 yX0_isAt, Cond.instanceMethod yX0_isAt, Cond.selects RX0 yX0_isAt yX0_isAt, Cond.code yX0_isAt cX0_isAt 2 (some .boolean), Cond.fieldLink RX0 15 "NamedMoves$Copies" "sizes" "[I", Cond.methodLink RX5 82 yX0_sizeAt, Cond.instanceMethod yX0_sizeAt, Cond.selects RX0 yX0_sizeAt yX0_sizeAt, Cond.code yX0_sizeAt cX0_sizeAt 2 (some .int), Cond.methodLink RX5 182 yX5_carryOver, Cond.instanceMethod yX5_carryOver, Cond.selects RX5 yX5_carryOver yX5_carryOver, Cond.code yX5_carryOver cX5_carryOver 4 (some .int), Cond.fieldLink RX5 62 "NamedMoves$Store" "taken" "I", Cond.methodLink RX5 99 yX5_freeInHalf, Cond.instanceMethod yX5_freeInHalf, Cond.selects RX5 yX5_freeInHalf yX5_freeInHalf]
def wsX5_stepsUpTo_r3 : List Cond := [Cond.code yX5_freeInHalf cX5_freeInHalf 1 (some .int), Cond.methodLink RX5 188 yX0_layAgain, Cond.instanceMethod yX0_layAgain, Cond.selects RX0 yX0_layAgain yX0_layAgain, Cond.code yX0_layAgain cX0_layAgain 3 none, Cond.fieldLink RX0 9 "NamedMoves$Copies" "things" "[I", Cond.fieldLink RX0 21 "NamedMoves$Copies" "marks" "[I", Cond.fieldLink RX0 24 "NamedMoves$Copies" "names" "[I", Cond.methodLink RX5 185 yX3_join, Cond.instanceMethod yX3_join, Cond.selects RX3 yX3_join yX3_join, Cond.code yX3_join cX3_join 2 none, Cond.methodLink RX5 124 yX0_mark, Cond.instanceMethod yX0_mark, Cond.selects RX0 yX0_mark yX0_mark, Cond.code yX0_mark cX0_mark 2 (some .boolean), Cond.methodLink RX5 105 yX3_size, Cond.instanceMethod yX3_size, Cond.selects RX3 yX3_size yX3_size, Cond.code yX3_size cX3_size 1 (some .int), Cond.methodLink RX5 143 yX5_endMove, Cond.instanceMethod yX5_endMove, Cond.selects RX5 yX5_endMove yX5_endMove, Cond.code yX5_endMove cX5_endMove 1 none]
def wsX5_stepsUpTo_r4 : List Cond := [Cond.fieldLink RX5 68 "NamedMoves$Store" "movesEnded" "I", Cond.methodLink RX5 152 yX0_emptyHalf, Cond.instanceMethod yX0_emptyHalf, Cond.selects RX0 yX0_emptyHalf yX0_emptyHalf, Cond.code yX0_emptyHalf cX0_emptyHalf 3 none, Cond.methodLink RX0 57 yX0_remove, Cond.instanceMethod yX0_remove, Cond.selects RX0 yX0_remove yX0_remove, Cond.code yX0_remove cX0_remove 2 none, Cond.methodLink RX5 156 yX0_sweepFloor, Cond.instanceMethod yX0_sweepFloor, Cond.selects RX0 yX0_sweepFloor yX0_sweepFloor, Cond.code yX0_sweepFloor cX0_sweepFloor 2 none]
def wsX5_stepsUpTo : List Cond := .code yX5_stepsUpTo cX5_stepsUpTo 4 (some .int) :: ((wsX5_stepsUpTo_r1 ++ (wsX5_stepsUpTo_r2 ++ (wsX5_stepsUpTo_r3 ++ wsX5_stepsUpTo_r4))) ++ wsX50 ++ wsX00 ++ wsX30)
def wsX5_carrySteps_r1 : List Cond := [Cond.fieldLink RX5 55 "NamedMoves$Store" "moving" "Z", Cond.methodLink RX5 146 yX5_stepsUpTo, Cond.instanceMethod yX5_stepsUpTo, Cond.selects RX5 yX5_stepsUpTo yX5_stepsUpTo, Cond.initialized RX5, Cond.code yX5_stepsUpTo cX5_stepsUpTo 4 (some .int), Cond.fieldLink RX5 25 "NamedMoves$Store" "queue" "LNamedMoves$Queue;", Cond.fieldLink RX5 18 "NamedMoves$Store" "copies" "LNamedMoves$Copies;", Cond.methodLink RX5 149 yX3_takeFirst, Cond.instanceMethod yX3_takeFirst, Cond.selects RX3 yX3_takeFirst yX3_takeFirst, Cond.initialized RX3, Cond.code yX3_takeFirst cX3_takeFirst 1 (some .int), Cond.fieldLink RX3 21 "NamedMoves$Queue" "first" "I", Cond.fieldLink RX3 25 "NamedMoves$Queue" "end" "I", Cond.fieldLink RX3 9 "NamedMoves$Queue" "addresses" "[I", Cond.methodLink RX5 130 yX5_readIn, Cond.instanceMethod yX5_readIn, Cond.selects RX5 yX5_readIn yX5_readIn, Cond.code yX5_readIn cX5_readIn 5 (some .int), Cond.methodLink RX5 89 yX5_isInOldHalf, Cond.instanceMethod yX5_isInOldHalf, Cond.selects RX5 yX5_isInOldHalf yX5_isInOldHalf, Cond.code yX5_isInOldHalf cX5_isInOldHalf 3 (some .boolean)]
def wsX5_carrySteps_r2 : List Cond := [Cond.fieldLink RX5 59 "NamedMoves$Store" "half" "I", Cond.methodLink RX5 75 yX5_addressOfHalf, Cond.instanceMethod yX5_addressOfHalf, Cond.selects RX5 yX5_addressOfHalf yX5_addressOfHalf, Cond.code yX5_addressOfHalf cX5_addressOfHalf 2 (some .int), Cond.methodLink RX5 79 yX0_noteAt, Cond.instanceMethod yX0_noteAt, Cond.selects RX0 yX0_noteAt yX0_noteAt, Cond.initialized RX0, Cond.code yX0_noteAt cX0_noteAt 2 (some .int), Cond.fieldLink RX0 18 "NamedMoves$Copies" "notes" "[I", Cond.methodLink RX0 39 yX0_isAt, Cond.instanceMethod yX0_isAt, Cond.selects RX0 yX0_isAt yX0_isAt, Cond.code yX0_isAt cX0_isAt 2 (some .boolean), Cond.fieldLink RX0 15 "NamedMoves$Copies" "sizes" "[I", Cond.methodLink RX5 82 yX0_sizeAt, Cond.instanceMethod yX0_sizeAt, Cond.selects RX0 yX0_sizeAt yX0_sizeAt, Cond.code yX0_sizeAt cX0_sizeAt 2 (some .int), Cond.methodLink RX5 182 yX5_carryOver, Cond.instanceMethod yX5_carryOver, Cond.selects RX5 yX5_carryOver yX5_carryOver, Cond.code yX5_carryOver cX5_carryOver 4 (some .int)]
def wsX5_carrySteps_r3 : List Cond := [Cond.fieldLink RX5 62 "NamedMoves$Store" "taken" "I", Cond.methodLink RX5 99 yX5_freeInHalf, Cond.instanceMethod yX5_freeInHalf, Cond.selects RX5 yX5_freeInHalf yX5_freeInHalf, Cond.code yX5_freeInHalf cX5_freeInHalf 1 (some .int), Cond.methodLink RX5 188 yX0_layAgain, Cond.instanceMethod yX0_layAgain, Cond.selects RX0 yX0_layAgain yX0_layAgain, Cond.code yX0_layAgain cX0_layAgain 3 none, Cond.fieldLink RX0 9 "NamedMoves$Copies" "things" "[I", Cond.fieldLink RX0 21 "NamedMoves$Copies" "marks" "[I", Cond.fieldLink RX0 24 "NamedMoves$Copies" "names" "[I", Cond.methodLink RX5 185 yX3_join, Cond.instanceMethod yX3_join, Cond.selects RX3 yX3_join yX3_join, Cond.code yX3_join cX3_join 2 none, Cond.methodLink RX5 124 yX0_mark, Cond.instanceMethod yX0_mark, Cond.selects RX0 yX0_mark yX0_mark, Cond.code yX0_mark cX0_mark 2 (some .boolean), Cond.methodLink RX5 105 yX3_size, Cond.instanceMethod yX3_size, Cond.selects RX3 yX3_size yX3_size, Cond.code yX3_size cX3_size 1 (some .int)]
def wsX5_carrySteps_r4 : List Cond := [Cond.methodLink RX5 143 yX5_endMove, Cond.instanceMethod yX5_endMove, Cond.selects RX5 yX5_endMove yX5_endMove, Cond.code yX5_endMove cX5_endMove 1 none, Cond.fieldLink RX5 68 "NamedMoves$Store" "movesEnded" "I", Cond.methodLink RX5 152 yX0_emptyHalf, Cond.instanceMethod yX0_emptyHalf, Cond.selects RX0 yX0_emptyHalf yX0_emptyHalf, Cond.code yX0_emptyHalf cX0_emptyHalf 3 none, Cond.methodLink RX0 57 yX0_remove, Cond.instanceMethod yX0_remove, Cond.selects RX0 yX0_remove yX0_remove, Cond.code yX0_remove cX0_remove 2 none, Cond.methodLink RX5 156 yX0_sweepFloor, Cond.instanceMethod yX0_sweepFloor, Cond.selects RX0 yX0_sweepFloor yX0_sweepFloor, Cond.code yX0_sweepFloor cX0_sweepFloor 2 none]
def wsX5_carrySteps : List Cond := .code yX5_carrySteps cX5_carrySteps 2 (some .int) :: ((wsX5_carrySteps_r1 ++ (wsX5_carrySteps_r2 ++ (wsX5_carrySteps_r3 ++ wsX5_carrySteps_r4))) ++ wsX50 ++ wsX00 ++ wsX30)
def wsX1_callOn_r1 : List Cond := [Cond.fieldLink RX1 25 "NamedMoves$Errand" "letter" "I", Cond.fieldLink RX1 9 "NamedMoves$Errand" "numbers" "[I", Cond.methodLink RX1 44 yX5_makeThing, Cond.instanceMethod yX5_makeThing, Cond.selects RX5 yX5_makeThing yX5_makeThing, Cond.initialized RX5, Cond.code yX5_makeThing cX5_makeThing 5 (some .int), Cond.fieldLink RX5 29 "NamedMoves$Store" "heavyBound" "I", Cond.fieldLink RX5 18 "NamedMoves$Store" "copies" "LNamedMoves$Copies;", Cond.fieldLink RX5 52 "NamedMoves$Store" "made" "I", Cond.fieldLink RX5 62 "NamedMoves$Store" "taken" "I", Cond.fieldLink RX5 55 "NamedMoves$Store" "moving" "Z", Cond.fieldLink RX5 9 "NamedMoves$Store" "hooks" "[I", Cond.static yX7_isHook, Cond.initialized RX7, Cond.code yX7_isHook cX7_isHook 1 (some .boolean), Cond.methodLink RX5 114 yX0_floorAddressFor, Cond.instanceMethod yX0_floorAddressFor, Cond.selects RX0 yX0_floorAddressFor yX0_floorAddressFor, Cond.initialized RX0, Cond.code yX0_floorAddressFor cX0_floorAddressFor 5 (some .int), Cond.methodLink RX0 50 yX0_sizeAt, Cond.instanceMethod yX0_sizeAt, Cond.selects RX0 yX0_sizeAt yX0_sizeAt]
def wsX1_callOn_r2 : List Cond := [Cond.code yX0_sizeAt cX0_sizeAt 2 (some .int), Cond.fieldLink RX0 15 "NamedMoves$Copies" "sizes" "[I", Cond.methodLink RX0 39 yX0_isAt, Cond.instanceMethod yX0_isAt, Cond.selects RX0 yX0_isAt yX0_isAt, Cond.code yX0_isAt cX0_isAt 2 (some .boolean), Cond.methodLink RX5 117 yX5_halfAddressFor, Cond.instanceMethod yX5_halfAddressFor, Cond.selects RX5 yX5_halfAddressFor yX5_halfAddressFor, Cond.code yX5_halfAddressFor cX5_halfAddressFor 2 (some .int), Cond.fieldLink RX5 59 "NamedMoves$Store" "half" "I", Cond.methodLink RX5 99 yX5_freeInHalf, Cond.instanceMethod yX5_freeInHalf, Cond.selects RX5 yX5_freeInHalf yX5_freeInHalf, Cond.code yX5_freeInHalf cX5_freeInHalf 1 (some .int), Cond.methodLink RX5 108 yX5_roomKept, Cond.instanceMethod yX5_roomKept, Cond.selects RX5 yX5_roomKept yX5_roomKept, Cond.code yX5_roomKept cX5_roomKept 4 (some .int), Cond.methodLink RX5 75 yX5_addressOfHalf, Cond.instanceMethod yX5_addressOfHalf, Cond.selects RX5 yX5_addressOfHalf yX5_addressOfHalf, Cond.code yX5_addressOfHalf cX5_addressOfHalf 2 (some .int), Cond.methodLink RX5 79 yX0_noteAt]
def wsX1_callOn_r3 : List Cond := [Cond.instanceMethod yX0_noteAt, Cond.selects RX0 yX0_noteAt yX0_noteAt, Cond.code yX0_noteAt cX0_noteAt 2 (some .int), Cond.fieldLink RX0 18 "NamedMoves$Copies" "notes" "[I", Cond.methodLink RX5 82 yX0_sizeAt, Cond.methodLink RX5 120 yX0_lay, Cond.instanceMethod yX0_lay, Cond.selects RX0 yX0_lay yX0_lay, Cond.code yX0_lay cX0_lay 4 none, Cond.fieldLink RX0 9 "NamedMoves$Copies" "things" "[I", Cond.fieldLink RX0 21 "NamedMoves$Copies" "marks" "[I", Cond.fieldLink RX0 24 "NamedMoves$Copies" "names" "[I", Cond.methodLink RX5 124 yX0_mark, Cond.instanceMethod yX0_mark, Cond.selects RX0 yX0_mark yX0_mark, Cond.code yX0_mark cX0_mark 2 (some .boolean), Cond.methodLink RX1 50 yX5_linkHooks, Cond.instanceMethod yX5_linkHooks, Cond.selects RX5 yX5_linkHooks yX5_linkHooks, Cond.code yX5_linkHooks cX5_linkHooks 6 (some .int), Cond.static yX7_isName, Cond.code yX7_isName cX7_isName 1 (some .boolean), Cond.methodLink RX5 130 yX5_readIn, Cond.instanceMethod yX5_readIn]
def wsX1_callOn_r4 : List Cond := [Cond.selects RX5 yX5_readIn yX5_readIn, Cond.code yX5_readIn cX5_readIn 5 (some .int), Cond.fieldLink RX5 25 "NamedMoves$Store" "queue" "LNamedMoves$Queue;", Cond.methodLink RX5 89 yX5_isInOldHalf, Cond.instanceMethod yX5_isInOldHalf, Cond.selects RX5 yX5_isInOldHalf yX5_isInOldHalf, Cond.code yX5_isInOldHalf cX5_isInOldHalf 3 (some .boolean), Cond.methodLink RX5 182 yX5_carryOver, Cond.instanceMethod yX5_carryOver, Cond.selects RX5 yX5_carryOver yX5_carryOver, Cond.code yX5_carryOver cX5_carryOver 4 (some .int), Cond.methodLink RX5 188 yX0_layAgain, Cond.instanceMethod yX0_layAgain, Cond.selects RX0 yX0_layAgain yX0_layAgain, Cond.code yX0_layAgain cX0_layAgain 3 none, Cond.methodLink RX5 185 yX3_join, Cond.instanceMethod yX3_join, Cond.selects RX3 yX3_join yX3_join, Cond.initialized RX3, Cond.code yX3_join cX3_join 2 none, Cond.fieldLink RX3 25 "NamedMoves$Queue" "end" "I", Cond.fieldLink RX3 9 "NamedMoves$Queue" "addresses" "[I", Cond.methodLink RX5 134 yX0_setName, Cond.instanceMethod yX0_setName]
def wsX1_callOn_r5 : List Cond := [Cond.selects RX0 yX0_setName yX0_setName, Cond.code yX0_setName cX0_setName 4 none, Cond.methodLink RX1 54 yX5_followName, Cond.instanceMethod yX5_followName, Cond.selects RX5 yX5_followName yX5_followName, Cond.code yX5_followName cX5_followName 5 (some .int), Cond.methodLink RX1 57 yX5_dropHook, Cond.instanceMethod yX5_dropHook, Cond.selects RX5 yX5_dropHook yX5_dropHook, Cond.code yX5_dropHook cX5_dropHook 3 (some .int), Cond.methodLink RX1 60 yX5_beginMove, Cond.instanceMethod yX5_beginMove, Cond.selects RX5 yX5_beginMove yX5_beginMove, Cond.code yX5_beginMove cX5_beginMove 2 (some .int), Cond.methodLink RX5 140 yX3_clear, Cond.instanceMethod yX3_clear, Cond.selects RX3 yX3_clear yX3_clear, Cond.code yX3_clear cX3_clear 1 none, Cond.fieldLink RX3 21 "NamedMoves$Queue" "first" "I", Cond.methodLink RX5 105 yX3_size, Cond.instanceMethod yX3_size, Cond.selects RX3 yX3_size yX3_size, Cond.code yX3_size cX3_size 1 (some .int), Cond.methodLink RX5 143 yX5_endMove]
def wsX1_callOn_r6 : List Cond := [Cond.instanceMethod yX5_endMove, Cond.selects RX5 yX5_endMove yX5_endMove, Cond.code yX5_endMove cX5_endMove 1 none, Cond.fieldLink RX5 68 "NamedMoves$Store" "movesEnded" "I", Cond.methodLink RX5 152 yX0_emptyHalf, Cond.instanceMethod yX0_emptyHalf, Cond.selects RX0 yX0_emptyHalf yX0_emptyHalf, Cond.code yX0_emptyHalf cX0_emptyHalf 3 none, Cond.methodLink RX0 57 yX0_remove, Cond.instanceMethod yX0_remove, Cond.selects RX0 yX0_remove yX0_remove, Cond.code yX0_remove cX0_remove 2 none, Cond.methodLink RX5 156 yX0_sweepFloor, Cond.instanceMethod yX0_sweepFloor, Cond.selects RX0 yX0_sweepFloor yX0_sweepFloor, Cond.code yX0_sweepFloor cX0_sweepFloor 2 none, Cond.methodLink RX1 63 yX5_carrySteps, Cond.instanceMethod yX5_carrySteps, Cond.selects RX5 yX5_carrySteps yX5_carrySteps, Cond.code yX5_carrySteps cX5_carrySteps 2 (some .int), Cond.methodLink RX5 146 yX5_stepsUpTo, Cond.instanceMethod yX5_stepsUpTo, Cond.selects RX5 yX5_stepsUpTo yX5_stepsUpTo, Cond.code yX5_stepsUpTo cX5_stepsUpTo 4 (some .int)]
def wsX1_callOn_r7 : List Cond := [Cond.methodLink RX5 149 yX3_takeFirst, Cond.instanceMethod yX3_takeFirst, Cond.selects RX3 yX3_takeFirst yX3_takeFirst, Cond.code yX3_takeFirst cX3_takeFirst 1 (some .int)]
def wsX1_callOn : List Cond := .code yX1_callOn cX1_callOn 2 (some .int) :: ((wsX1_callOn_r1 ++ (wsX1_callOn_r2 ++ (wsX1_callOn_r3 ++ (wsX1_callOn_r4 ++ (wsX1_callOn_r5 ++ (wsX1_callOn_r6 ++ wsX1_callOn_r7)))))) ++ wsX10 ++ wsX50 ++ wsX00 ++ wsX30)
def wsX3_init : List Cond := .code yX3_init cX3_init 1 none :: ([.methodLink RX3 3 objectInit, .instanceMethod objectInit, .code objectInit ⟨#[0xb1]⟩ 1 none, .arrayClass .int, .fieldLink RX3 9 "NamedMoves$Queue" "addresses" "[I"] ++ wsX30)
def wsX5_init_r1 : List Cond := [Cond.methodLink RX5 3 objectInit, Cond.instanceMethod objectInit, Cond.code objectInit ⟨#[0xb1]⟩ 1 none, Cond.arrayClass .int, Cond.fieldLink RX5 9 "NamedMoves$Store" "hooks" "[I", Cond.classLink RX5 15 RX0, Cond.instantiable RX0 5, Cond.initialized RX0, Cond.fieldLink RX5 18 "NamedMoves$Store" "copies" "LNamedMoves$Copies;", Cond.classLink RX5 22 RX3, Cond.instantiable RX3 3, Cond.initialized RX3, Cond.fieldLink RX5 25 "NamedMoves$Store" "queue" "LNamedMoves$Queue;", Cond.fieldLink RX5 29 "NamedMoves$Store" "heavyBound" "I", Cond.methodLink RX5 17 yX0_init, Cond.instanceMethod yX0_init, Cond.code yX0_init cX0_init 1 none, Cond.methodLink RX0 3 objectInit, Cond.fieldLink RX0 9 "NamedMoves$Copies" "things" "[I", Cond.fieldLink RX0 15 "NamedMoves$Copies" "sizes" "[I", Cond.fieldLink RX0 18 "NamedMoves$Copies" "notes" "[I", Cond.fieldLink RX0 21 "NamedMoves$Copies" "marks" "[I", Cond.fieldLink RX0 24 "NamedMoves$Copies" "names" "[I", Cond.methodLink RX0 27 yJ7_fill_53178]
def wsX5_init_r2 : List Cond := [Cond.static yJ7_fill_53178, Cond.initialized RJ7, Cond.code yJ7_fill_53178 cJ7_fill_53178 4 none, Cond.instanceMethod yX3_init, Cond.code yX3_init cX3_init 1 none, Cond.methodLink RX3 3 objectInit, Cond.fieldLink RX3 9 "NamedMoves$Queue" "addresses" "[I", Cond.methodLink RX5 33 yJ7_fill_53178]
def wsX5_init : List Cond := .code yX5_init cX5_init 1 none :: ((wsX5_init_r1 ++ wsX5_init_r2) ++ wsX50 ++ wsX00 ++ wsX30)
def wsX2_init_r1 : List Cond := [Cond.methodLink RX2 3 objectInit, Cond.instanceMethod objectInit, Cond.code objectInit ⟨#[0xb1]⟩ 1 none, Cond.classLink RX2 9 RX5, Cond.fieldLink RX2 11 "NamedMoves$History" "states" "[LNamedMoves$Store;", Cond.instantiable RX5 10, Cond.initialized RX5, Cond.methodLink RX2 17 yX5_init, Cond.instanceMethod yX5_init, Cond.code yX5_init cX5_init 1 none, Cond.methodLink RX5 3 objectInit, Cond.arrayClass .int, Cond.fieldLink RX5 9 "NamedMoves$Store" "hooks" "[I", Cond.classLink RX5 15 RX0, Cond.instantiable RX0 5, Cond.initialized RX0, Cond.fieldLink RX5 18 "NamedMoves$Store" "copies" "LNamedMoves$Copies;", Cond.classLink RX5 22 RX3, Cond.instantiable RX3 3, Cond.initialized RX3, Cond.fieldLink RX5 25 "NamedMoves$Store" "queue" "LNamedMoves$Queue;", Cond.fieldLink RX5 29 "NamedMoves$Store" "heavyBound" "I", Cond.methodLink RX5 17 yX0_init, Cond.instanceMethod yX0_init]
def wsX2_init_r2 : List Cond := [Cond.code yX0_init cX0_init 1 none, Cond.methodLink RX0 3 objectInit, Cond.fieldLink RX0 9 "NamedMoves$Copies" "things" "[I", Cond.fieldLink RX0 15 "NamedMoves$Copies" "sizes" "[I", Cond.fieldLink RX0 18 "NamedMoves$Copies" "notes" "[I", Cond.fieldLink RX0 21 "NamedMoves$Copies" "marks" "[I", Cond.fieldLink RX0 24 "NamedMoves$Copies" "names" "[I", Cond.methodLink RX0 27 yJ7_fill_53178, Cond.static yJ7_fill_53178, Cond.initialized RJ7, Cond.code yJ7_fill_53178 cJ7_fill_53178 4 none, Cond.instanceMethod yX3_init, Cond.code yX3_init cX3_init 1 none, Cond.methodLink RX3 3 objectInit, Cond.fieldLink RX3 9 "NamedMoves$Queue" "addresses" "[I", Cond.methodLink RX5 33 yJ7_fill_53178]
def wsX2_init : List Cond := .code yX2_init cX2_init 2 none :: ((wsX2_init_r1 ++ wsX2_init_r2) ++ wsX20 ++ wsX50 ++ wsX00 ++ wsX30)
def wsX2_size : List Cond := .code yX2_size cX2_size 1 (some .int) :: ([.fieldLink RX2 18 "NamedMoves$History" "held" "I"] ++ wsX20)
def wsJ9_floorMod_7cf53 : List Cond := .code yJ9_floorMod_7cf53 cJ9_floorMod_7cf53 3 (some .int) :: ([])
def wsX2_slotOfDraft : List Cond := .code yX2_slotOfDraft cX2_slotOfDraft 1 (some .int) :: ([.fieldLink RX2 22 "NamedMoves$History" "first" "I", .fieldLink RX2 18 "NamedMoves$History" "held" "I", .methodLink RX2 25 yJ9_floorMod_7cf53, .static yJ9_floorMod_7cf53, .initialized RJ9, .code yJ9_floorMod_7cf53 cJ9_floorMod_7cf53 3 (some .int)] ++ wsX20)
def wsX3_become : List Cond := .code yX3_become cX3_become 2 none :: ([.fieldLink RX3 9 "NamedMoves$Queue" "addresses" "[I", .methodLink RX3 15 arraycopyName, .native arraycopyName, .static arraycopyName, .initialized "java/lang/System", .fieldLink RX3 21 "NamedMoves$Queue" "first" "I", .fieldLink RX3 25 "NamedMoves$Queue" "end" "I"] ++ wsX30)
def wsX5_become_r1 : List Cond := [Cond.fieldLink RX5 9 "NamedMoves$Store" "hooks" "[I", Cond.methodLink RX5 39 arraycopyName, Cond.native arraycopyName, Cond.static arraycopyName, Cond.initialized "java/lang/System", Cond.fieldLink RX5 18 "NamedMoves$Store" "copies" "LNamedMoves$Copies;", Cond.fieldLink RX5 25 "NamedMoves$Store" "queue" "LNamedMoves$Queue;", Cond.fieldLink RX5 29 "NamedMoves$Store" "heavyBound" "I", Cond.fieldLink RX5 52 "NamedMoves$Store" "made" "I", Cond.fieldLink RX5 55 "NamedMoves$Store" "moving" "Z", Cond.fieldLink RX5 59 "NamedMoves$Store" "half" "I", Cond.fieldLink RX5 62 "NamedMoves$Store" "taken" "I", Cond.fieldLink RX5 65 "NamedMoves$Store" "notesLost" "I", Cond.fieldLink RX5 68 "NamedMoves$Store" "movesEnded" "I", Cond.methodLink RX5 45 yX0_become, Cond.instanceMethod yX0_become, Cond.selects RX0 yX0_become yX0_become, Cond.initialized RX0, Cond.code yX0_become cX0_become 2 none, Cond.fieldLink RX0 9 "NamedMoves$Copies" "things" "[I", Cond.methodLink RX0 33 arraycopyName, Cond.fieldLink RX0 15 "NamedMoves$Copies" "sizes" "[I", Cond.fieldLink RX0 18 "NamedMoves$Copies" "notes" "[I", Cond.fieldLink RX0 21 "NamedMoves$Copies" "marks" "[I"]
def wsX5_become_r2 : List Cond := [Cond.fieldLink RX0 24 "NamedMoves$Copies" "names" "[I", Cond.methodLink RX5 49 yX3_become, Cond.instanceMethod yX3_become, Cond.selects RX3 yX3_become yX3_become, Cond.initialized RX3, Cond.code yX3_become cX3_become 2 none, Cond.fieldLink RX3 9 "NamedMoves$Queue" "addresses" "[I", Cond.methodLink RX3 15 arraycopyName, Cond.fieldLink RX3 21 "NamedMoves$Queue" "first" "I", Cond.fieldLink RX3 25 "NamedMoves$Queue" "end" "I"]
def wsX5_become : List Cond := .code yX5_become cX5_become 2 none :: ((wsX5_become_r1 ++ wsX5_become_r2) ++ wsX50 ++ wsX00 ++ wsX30)
def wsX2_draft_r1 : List Cond := [Cond.fieldLink RX2 11 "NamedMoves$History" "states" "[LNamedMoves$Store;", Cond.methodLink RX2 31 yX2_slotOfDraft, Cond.instanceMethod yX2_slotOfDraft, Cond.selects RX2 yX2_slotOfDraft yX2_slotOfDraft, Cond.initialized RX2, Cond.code yX2_slotOfDraft cX2_slotOfDraft 1 (some .int), Cond.fieldLink RX2 22 "NamedMoves$History" "first" "I", Cond.fieldLink RX2 18 "NamedMoves$History" "held" "I", Cond.methodLink RX2 25 yJ9_floorMod_7cf53, Cond.static yJ9_floorMod_7cf53, Cond.initialized RJ9, Cond.code yJ9_floorMod_7cf53 cJ9_floorMod_7cf53 3 (some .int), Cond.methodLink RX2 35 yX5_become, Cond.instanceMethod yX5_become, Cond.selects RX5 yX5_become yX5_become, Cond.initialized RX5, Cond.code yX5_become cX5_become 2 none, Cond.fieldLink RX5 9 "NamedMoves$Store" "hooks" "[I", Cond.methodLink RX5 39 arraycopyName, Cond.native arraycopyName, Cond.static arraycopyName, Cond.initialized "java/lang/System", Cond.fieldLink RX5 18 "NamedMoves$Store" "copies" "LNamedMoves$Copies;", Cond.fieldLink RX5 25 "NamedMoves$Store" "queue" "LNamedMoves$Queue;"]
def wsX2_draft_r2 : List Cond := [Cond.fieldLink RX5 29 "NamedMoves$Store" "heavyBound" "I", Cond.fieldLink RX5 52 "NamedMoves$Store" "made" "I", Cond.fieldLink RX5 55 "NamedMoves$Store" "moving" "Z", Cond.fieldLink RX5 59 "NamedMoves$Store" "half" "I", Cond.fieldLink RX5 62 "NamedMoves$Store" "taken" "I", Cond.fieldLink RX5 65 "NamedMoves$Store" "notesLost" "I", Cond.fieldLink RX5 68 "NamedMoves$Store" "movesEnded" "I", Cond.methodLink RX5 45 yX0_become, Cond.instanceMethod yX0_become, Cond.selects RX0 yX0_become yX0_become, Cond.initialized RX0, Cond.code yX0_become cX0_become 2 none, Cond.fieldLink RX0 9 "NamedMoves$Copies" "things" "[I", Cond.methodLink RX0 33 arraycopyName, Cond.fieldLink RX0 15 "NamedMoves$Copies" "sizes" "[I", Cond.fieldLink RX0 18 "NamedMoves$Copies" "notes" "[I", Cond.fieldLink RX0 21 "NamedMoves$Copies" "marks" "[I", Cond.fieldLink RX0 24 "NamedMoves$Copies" "names" "[I", Cond.methodLink RX5 49 yX3_become, Cond.instanceMethod yX3_become, Cond.selects RX3 yX3_become yX3_become, Cond.initialized RX3, Cond.code yX3_become cX3_become 2 none, Cond.fieldLink RX3 9 "NamedMoves$Queue" "addresses" "[I"]
def wsX2_draft_r3 : List Cond := [Cond.methodLink RX3 15 arraycopyName, Cond.fieldLink RX3 21 "NamedMoves$Queue" "first" "I", Cond.fieldLink RX3 25 "NamedMoves$Queue" "end" "I"]
def wsX2_draft : List Cond := .code yX2_draft cX2_draft 3 none :: ((wsX2_draft_r1 ++ (wsX2_draft_r2 ++ wsX2_draft_r3)) ++ wsX20 ++ wsX50 ++ wsX00 ++ wsX30)
def wsX2_keepDraft : List Cond := .code yX2_keepDraft cX2_keepDraft 1 none :: ([.fieldLink RX2 18 "NamedMoves$History" "held" "I", .fieldLink RX2 22 "NamedMoves$History" "first" "I", .methodLink RX2 25 yJ9_floorMod_7cf53, .static yJ9_floorMod_7cf53, .initialized RJ9, .code yJ9_floorMod_7cf53 cJ9_floorMod_7cf53 3 (some .int)] ++ wsX20)
def wsX2_restoreDraft_r1 : List Cond := [Cond.fieldLink RX2 11 "NamedMoves$History" "states" "[LNamedMoves$Store;", Cond.methodLink RX2 31 yX2_slotOfDraft, Cond.instanceMethod yX2_slotOfDraft, Cond.selects RX2 yX2_slotOfDraft yX2_slotOfDraft, Cond.initialized RX2, Cond.code yX2_slotOfDraft cX2_slotOfDraft 1 (some .int), Cond.fieldLink RX2 22 "NamedMoves$History" "first" "I", Cond.fieldLink RX2 18 "NamedMoves$History" "held" "I", Cond.methodLink RX2 25 yJ9_floorMod_7cf53, Cond.static yJ9_floorMod_7cf53, Cond.initialized RJ9, Cond.code yJ9_floorMod_7cf53 cJ9_floorMod_7cf53 3 (some .int), Cond.methodLink RX2 35 yX5_become, Cond.instanceMethod yX5_become, Cond.selects RX5 yX5_become yX5_become, Cond.initialized RX5, Cond.code yX5_become cX5_become 2 none, Cond.fieldLink RX5 9 "NamedMoves$Store" "hooks" "[I", Cond.methodLink RX5 39 arraycopyName, Cond.native arraycopyName, Cond.static arraycopyName, Cond.initialized "java/lang/System", Cond.fieldLink RX5 18 "NamedMoves$Store" "copies" "LNamedMoves$Copies;", Cond.fieldLink RX5 25 "NamedMoves$Store" "queue" "LNamedMoves$Queue;"]
def wsX2_restoreDraft_r2 : List Cond := [Cond.fieldLink RX5 29 "NamedMoves$Store" "heavyBound" "I", Cond.fieldLink RX5 52 "NamedMoves$Store" "made" "I", Cond.fieldLink RX5 55 "NamedMoves$Store" "moving" "Z", Cond.fieldLink RX5 59 "NamedMoves$Store" "half" "I", Cond.fieldLink RX5 62 "NamedMoves$Store" "taken" "I", Cond.fieldLink RX5 65 "NamedMoves$Store" "notesLost" "I", Cond.fieldLink RX5 68 "NamedMoves$Store" "movesEnded" "I", Cond.methodLink RX5 45 yX0_become, Cond.instanceMethod yX0_become, Cond.selects RX0 yX0_become yX0_become, Cond.initialized RX0, Cond.code yX0_become cX0_become 2 none, Cond.fieldLink RX0 9 "NamedMoves$Copies" "things" "[I", Cond.methodLink RX0 33 arraycopyName, Cond.fieldLink RX0 15 "NamedMoves$Copies" "sizes" "[I", Cond.fieldLink RX0 18 "NamedMoves$Copies" "notes" "[I", Cond.fieldLink RX0 21 "NamedMoves$Copies" "marks" "[I", Cond.fieldLink RX0 24 "NamedMoves$Copies" "names" "[I", Cond.methodLink RX5 49 yX3_become, Cond.instanceMethod yX3_become, Cond.selects RX3 yX3_become yX3_become, Cond.initialized RX3, Cond.code yX3_become cX3_become 2 none, Cond.fieldLink RX3 9 "NamedMoves$Queue" "addresses" "[I"]
def wsX2_restoreDraft_r3 : List Cond := [Cond.methodLink RX3 15 arraycopyName, Cond.fieldLink RX3 21 "NamedMoves$Queue" "first" "I", Cond.fieldLink RX3 25 "NamedMoves$Queue" "end" "I"]
def wsX2_restoreDraft : List Cond := .code yX2_restoreDraft cX2_restoreDraft 3 none :: ((wsX2_restoreDraft_r1 ++ (wsX2_restoreDraft_r2 ++ wsX2_restoreDraft_r3)) ++ wsX20 ++ wsX50 ++ wsX00 ++ wsX30)
def wsX2_restoreLatest_r1 : List Cond := [Cond.fieldLink RX2 18 "NamedMoves$History" "held" "I", Cond.methodLink RX2 39 yX2_restoreDraft, Cond.instanceMethod yX2_restoreDraft, Cond.selects RX2 yX2_restoreDraft yX2_restoreDraft, Cond.initialized RX2, Cond.code yX2_restoreDraft cX2_restoreDraft 3 none, Cond.fieldLink RX2 11 "NamedMoves$History" "states" "[LNamedMoves$Store;", Cond.methodLink RX2 31 yX2_slotOfDraft, Cond.instanceMethod yX2_slotOfDraft, Cond.selects RX2 yX2_slotOfDraft yX2_slotOfDraft, Cond.code yX2_slotOfDraft cX2_slotOfDraft 1 (some .int), Cond.fieldLink RX2 22 "NamedMoves$History" "first" "I", Cond.methodLink RX2 25 yJ9_floorMod_7cf53, Cond.static yJ9_floorMod_7cf53, Cond.initialized RJ9, Cond.code yJ9_floorMod_7cf53 cJ9_floorMod_7cf53 3 (some .int), Cond.methodLink RX2 35 yX5_become, Cond.instanceMethod yX5_become, Cond.selects RX5 yX5_become yX5_become, Cond.initialized RX5, Cond.code yX5_become cX5_become 2 none, Cond.fieldLink RX5 9 "NamedMoves$Store" "hooks" "[I", Cond.methodLink RX5 39 arraycopyName, Cond.native arraycopyName]
def wsX2_restoreLatest_r2 : List Cond := [Cond.static arraycopyName, Cond.initialized "java/lang/System", Cond.fieldLink RX5 18 "NamedMoves$Store" "copies" "LNamedMoves$Copies;", Cond.fieldLink RX5 25 "NamedMoves$Store" "queue" "LNamedMoves$Queue;", Cond.fieldLink RX5 29 "NamedMoves$Store" "heavyBound" "I", Cond.fieldLink RX5 52 "NamedMoves$Store" "made" "I", Cond.fieldLink RX5 55 "NamedMoves$Store" "moving" "Z", Cond.fieldLink RX5 59 "NamedMoves$Store" "half" "I", Cond.fieldLink RX5 62 "NamedMoves$Store" "taken" "I", Cond.fieldLink RX5 65 "NamedMoves$Store" "notesLost" "I", Cond.fieldLink RX5 68 "NamedMoves$Store" "movesEnded" "I", Cond.methodLink RX5 45 yX0_become, Cond.instanceMethod yX0_become, Cond.selects RX0 yX0_become yX0_become, Cond.initialized RX0, Cond.code yX0_become cX0_become 2 none, Cond.fieldLink RX0 9 "NamedMoves$Copies" "things" "[I", Cond.methodLink RX0 33 arraycopyName, Cond.fieldLink RX0 15 "NamedMoves$Copies" "sizes" "[I", Cond.fieldLink RX0 18 "NamedMoves$Copies" "notes" "[I", Cond.fieldLink RX0 21 "NamedMoves$Copies" "marks" "[I", Cond.fieldLink RX0 24 "NamedMoves$Copies" "names" "[I", Cond.methodLink RX5 49 yX3_become, Cond.instanceMethod yX3_become]
def wsX2_restoreLatest_r3 : List Cond := [Cond.selects RX3 yX3_become yX3_become, Cond.initialized RX3, Cond.code yX3_become cX3_become 2 none, Cond.fieldLink RX3 9 "NamedMoves$Queue" "addresses" "[I", Cond.methodLink RX3 15 arraycopyName, Cond.fieldLink RX3 21 "NamedMoves$Queue" "first" "I", Cond.fieldLink RX3 25 "NamedMoves$Queue" "end" "I"]
def wsX2_restoreLatest : List Cond := .code yX2_restoreLatest cX2_restoreLatest 2 none :: ((wsX2_restoreLatest_r1 ++ (wsX2_restoreLatest_r2 ++ wsX2_restoreLatest_r3)) ++ wsX20 ++ wsX50 ++ wsX00 ++ wsX30)
def wsX4_init : List Cond := .code yX4_init cX4_init 1 none :: ([.methodLink RX4 3 objectInit, .instanceMethod objectInit, .code objectInit ⟨#[0xb1]⟩ 1 none, .arrayClass .boolean, .fieldLink RX4 9 "NamedMoves$Reach" "reached" "[Z", .arrayClass .int, .fieldLink RX4 15 "NamedMoves$Reach" "found" "[I", .fieldLink RX4 19 "NamedMoves$Reach" "seenThings" "[Z"] ++ wsX40)
def wsX4_clear : List Cond := .code yX4_clear cX4_clear 2 none :: ([.fieldLink RX4 9 "NamedMoves$Reach" "reached" "[Z", .fieldLink RX4 22 "NamedMoves$Reach" "foundNumber" "I"] ++ wsX40)
def wsX4_isReached : List Cond := .code yX4_isReached cX4_isReached 2 (some .boolean) :: ([.fieldLink RX4 9 "NamedMoves$Reach" "reached" "[Z"] ++ wsX40)
def wsX4_add : List Cond := .code yX4_add cX4_add 4 none :: ([.fieldLink RX4 22 "NamedMoves$Reach" "foundNumber" "I", .fieldLink RX4 9 "NamedMoves$Reach" "reached" "[Z", .fieldLink RX4 15 "NamedMoves$Reach" "found" "[I", .methodLink RX4 26 yX0_leadsTo, .instanceMethod yX0_leadsTo, .selects RX0 yX0_leadsTo yX0_leadsTo, .initialized RX0, .code yX0_leadsTo cX0_leadsTo 3 (some .int), .methodLink RX0 54 yX0_noteAt, .instanceMethod yX0_noteAt, .selects RX0 yX0_noteAt yX0_noteAt, .code yX0_noteAt cX0_noteAt 2 (some .int), .fieldLink RX0 18 "NamedMoves$Copies" "notes" "[I", .methodLink RX0 39 yX0_isAt, .instanceMethod yX0_isAt, .selects RX0 yX0_isAt yX0_isAt, .code yX0_isAt cX0_isAt 2 (some .boolean), .fieldLink RX0 15 "NamedMoves$Copies" "sizes" "[I", .methodLink RX4 32 yX0_isAt, .methodLink RX4 36 yX4_isReached, .instanceMethod yX4_isReached, .selects RX4 yX4_isReached yX4_isReached, .initialized RX4, .code yX4_isReached cX4_isReached 2 (some .boolean)] ++ wsX40 ++ wsX00)
def wsX4_spread_r1 : List Cond := [Cond.fieldLink RX4 22 "NamedMoves$Reach" "foundNumber" "I", Cond.fieldLink RX4 15 "NamedMoves$Reach" "found" "[I", Cond.methodLink RX4 39 yX0_nameAt, Cond.instanceMethod yX0_nameAt, Cond.selects RX0 yX0_nameAt yX0_nameAt, Cond.initialized RX0, Cond.code yX0_nameAt cX0_nameAt 3 (some .int), Cond.fieldLink RX0 24 "NamedMoves$Copies" "names" "[I", Cond.methodLink RX0 39 yX0_isAt, Cond.instanceMethod yX0_isAt, Cond.selects RX0 yX0_isAt yX0_isAt, Cond.code yX0_isAt cX0_isAt 2 (some .boolean), Cond.fieldLink RX0 15 "NamedMoves$Copies" "sizes" "[I", Cond.static yX7_isName, Cond.initialized RX7, Cond.code yX7_isName cX7_isName 1 (some .boolean), Cond.methodLink RX4 43 yX4_add, Cond.instanceMethod yX4_add, Cond.selects RX4 yX4_add yX4_add, Cond.initialized RX4, Cond.code yX4_add cX4_add 4 none, Cond.fieldLink RX4 9 "NamedMoves$Reach" "reached" "[Z", Cond.methodLink RX4 26 yX0_leadsTo, Cond.instanceMethod yX0_leadsTo]
def wsX4_spread_r2 : List Cond := [Cond.selects RX0 yX0_leadsTo yX0_leadsTo, Cond.code yX0_leadsTo cX0_leadsTo 3 (some .int), Cond.methodLink RX0 54 yX0_noteAt, Cond.instanceMethod yX0_noteAt, Cond.selects RX0 yX0_noteAt yX0_noteAt, Cond.code yX0_noteAt cX0_noteAt 2 (some .int), Cond.fieldLink RX0 18 "NamedMoves$Copies" "notes" "[I", Cond.methodLink RX4 32 yX0_isAt, Cond.methodLink RX4 36 yX4_isReached, Cond.instanceMethod yX4_isReached, Cond.selects RX4 yX4_isReached yX4_isReached, Cond.code yX4_isReached cX4_isReached 2 (some .boolean)]
def wsX4_spread : List Cond := .code yX4_spread cX4_spread 3 none :: ((wsX4_spread_r1 ++ wsX4_spread_r2) ++ wsX40 ++ wsX00)
def wsX4_differentThings : List Cond := .code yX4_differentThings cX4_differentThings 5 (some .int) :: ([.fieldLink RX4 19 "NamedMoves$Reach" "seenThings" "[Z", .fieldLink RX4 22 "NamedMoves$Reach" "foundNumber" "I", .fieldLink RX4 15 "NamedMoves$Reach" "found" "[I", .methodLink RX4 47 yX0_thingAt, .instanceMethod yX0_thingAt, .selects RX0 yX0_thingAt yX0_thingAt, .initialized RX0, .code yX0_thingAt cX0_thingAt 2 (some .int), .fieldLink RX0 9 "NamedMoves$Copies" "things" "[I", .methodLink RX0 39 yX0_isAt, .instanceMethod yX0_isAt, .selects RX0 yX0_isAt yX0_isAt, .code yX0_isAt cX0_isAt 2 (some .boolean), .fieldLink RX0 15 "NamedMoves$Copies" "sizes" "[I"] ++ wsX40 ++ wsX00)
def wsX4_placesOutside : List Cond := .code yX4_placesOutside cX4_placesOutside 4 (some .int) :: ([.methodLink RX4 36 yX4_isReached, .instanceMethod yX4_isReached, .selects RX4 yX4_isReached yX4_isReached, .initialized RX4, .code yX4_isReached cX4_isReached 2 (some .boolean), .fieldLink RX4 9 "NamedMoves$Reach" "reached" "[Z", .methodLink RX4 50 yX0_noteAt, .instanceMethod yX0_noteAt, .selects RX0 yX0_noteAt yX0_noteAt, .initialized RX0, .code yX0_noteAt cX0_noteAt 2 (some .int), .fieldLink RX0 18 "NamedMoves$Copies" "notes" "[I", .methodLink RX0 39 yX0_isAt, .instanceMethod yX0_isAt, .selects RX0 yX0_isAt yX0_isAt, .code yX0_isAt cX0_isAt 2 (some .boolean), .fieldLink RX0 15 "NamedMoves$Copies" "sizes" "[I", .methodLink RX4 53 yX0_sizeAt, .instanceMethod yX0_sizeAt, .selects RX0 yX0_sizeAt yX0_sizeAt, .code yX0_sizeAt cX0_sizeAt 2 (some .int)] ++ wsX40 ++ wsX00)
def wsX5_isThing : List Cond := .code yX5_isThing cX5_isThing 2 (some .boolean) :: ([.fieldLink RX5 52 "NamedMoves$Store" "made" "I"] ++ wsX50)
def wsX5_hungOn : List Cond := .code yX5_hungOn cX5_hungOn 2 (some .int) :: ([.fieldLink RX5 9 "NamedMoves$Store" "hooks" "[I", .static yX7_isHook, .initialized RX7, .code yX7_isHook cX7_isHook 1 (some .boolean)] ++ wsX50)
def wsX5_hasTwins : List Cond := .code yX5_hasTwins cX5_hasTwins 4 (some .boolean) :: ([.fieldLink RX5 18 "NamedMoves$Store" "copies" "LNamedMoves$Copies;", .methodLink RX5 85 yX0_isOf, .instanceMethod yX0_isOf, .selects RX0 yX0_isOf yX0_isOf, .initialized RX0, .code yX0_isOf cX0_isOf 3 (some .boolean), .fieldLink RX0 9 "NamedMoves$Copies" "things" "[I", .methodLink RX0 39 yX0_isAt, .instanceMethod yX0_isAt, .selects RX0 yX0_isAt yX0_isAt, .code yX0_isAt cX0_isAt 2 (some .boolean), .fieldLink RX0 15 "NamedMoves$Copies" "sizes" "[I", .methodLink RX5 89 yX5_isInOldHalf, .instanceMethod yX5_isInOldHalf, .selects RX5 yX5_isInOldHalf yX5_isInOldHalf, .initialized RX5, .code yX5_isInOldHalf cX5_isInOldHalf 3 (some .boolean), .fieldLink RX5 59 "NamedMoves$Store" "half" "I", .fieldLink RX5 55 "NamedMoves$Store" "moving" "Z", .methodLink RX5 75 yX5_addressOfHalf, .instanceMethod yX5_addressOfHalf, .selects RX5 yX5_addressOfHalf yX5_addressOfHalf, .code yX5_addressOfHalf cX5_addressOfHalf 2 (some .int)] ++ wsX50 ++ wsX00)
def wsX5_thingsWithTwins_r1 : List Cond := [Cond.fieldLink RX5 52 "NamedMoves$Store" "made" "I", Cond.methodLink RX5 92 yX5_hasTwins, Cond.instanceMethod yX5_hasTwins, Cond.selects RX5 yX5_hasTwins yX5_hasTwins, Cond.initialized RX5, Cond.code yX5_hasTwins cX5_hasTwins 4 (some .boolean), Cond.fieldLink RX5 18 "NamedMoves$Store" "copies" "LNamedMoves$Copies;", Cond.methodLink RX5 85 yX0_isOf, Cond.instanceMethod yX0_isOf, Cond.selects RX0 yX0_isOf yX0_isOf, Cond.initialized RX0, Cond.code yX0_isOf cX0_isOf 3 (some .boolean), Cond.fieldLink RX0 9 "NamedMoves$Copies" "things" "[I", Cond.methodLink RX0 39 yX0_isAt, Cond.instanceMethod yX0_isAt, Cond.selects RX0 yX0_isAt yX0_isAt, Cond.code yX0_isAt cX0_isAt 2 (some .boolean), Cond.fieldLink RX0 15 "NamedMoves$Copies" "sizes" "[I", Cond.methodLink RX5 89 yX5_isInOldHalf, Cond.instanceMethod yX5_isInOldHalf, Cond.selects RX5 yX5_isInOldHalf yX5_isInOldHalf, Cond.code yX5_isInOldHalf cX5_isInOldHalf 3 (some .boolean), Cond.fieldLink RX5 59 "NamedMoves$Store" "half" "I", Cond.fieldLink RX5 55 "NamedMoves$Store" "moving" "Z"]
def wsX5_thingsWithTwins_r2 : List Cond := [Cond.methodLink RX5 75 yX5_addressOfHalf, Cond.instanceMethod yX5_addressOfHalf, Cond.selects RX5 yX5_addressOfHalf yX5_addressOfHalf, Cond.code yX5_addressOfHalf cX5_addressOfHalf 2 (some .int)]
def wsX5_thingsWithTwins : List Cond := .code yX5_thingsWithTwins cX5_thingsWithTwins 3 (some .int) :: ((wsX5_thingsWithTwins_r1 ++ wsX5_thingsWithTwins_r2) ++ wsX50 ++ wsX00)
def wsX5_numberOf_r1 : List Cond := [Cond.fieldLink RX5 52 "NamedMoves$Store" "made" "I", Cond.fieldLink RX5 18 "NamedMoves$Store" "copies" "LNamedMoves$Copies;", Cond.fieldLink RX5 55 "NamedMoves$Store" "moving" "Z", Cond.fieldLink RX5 59 "NamedMoves$Store" "half" "I", Cond.fieldLink RX5 25 "NamedMoves$Store" "queue" "LNamedMoves$Queue;", Cond.fieldLink RX5 65 "NamedMoves$Store" "notesLost" "I", Cond.fieldLink RX5 68 "NamedMoves$Store" "movesEnded" "I", Cond.fieldLink RX5 29 "NamedMoves$Store" "heavyBound" "I", Cond.methodLink RX5 95 yX0_number, Cond.instanceMethod yX0_number, Cond.selects RX0 yX0_number yX0_number, Cond.initialized RX0, Cond.code yX0_number cX0_number 3 (some .int), Cond.methodLink RX0 39 yX0_isAt, Cond.instanceMethod yX0_isAt, Cond.selects RX0 yX0_isAt yX0_isAt, Cond.code yX0_isAt cX0_isAt 2 (some .boolean), Cond.fieldLink RX0 15 "NamedMoves$Copies" "sizes" "[I", Cond.methodLink RX5 99 yX5_freeInHalf, Cond.instanceMethod yX5_freeInHalf, Cond.selects RX5 yX5_freeInHalf yX5_freeInHalf, Cond.initialized RX5, Cond.code yX5_freeInHalf cX5_freeInHalf 1 (some .int), Cond.fieldLink RX5 62 "NamedMoves$Store" "taken" "I"]
def wsX5_numberOf_r2 : List Cond := [Cond.methodLink RX5 102 yX0_floorTaken, Cond.instanceMethod yX0_floorTaken, Cond.selects RX0 yX0_floorTaken yX0_floorTaken, Cond.code yX0_floorTaken cX0_floorTaken 3 (some .int), Cond.methodLink RX0 50 yX0_sizeAt, Cond.instanceMethod yX0_sizeAt, Cond.selects RX0 yX0_sizeAt yX0_sizeAt, Cond.code yX0_sizeAt cX0_sizeAt 2 (some .int), Cond.methodLink RX5 105 yX3_size, Cond.instanceMethod yX3_size, Cond.selects RX3 yX3_size yX3_size, Cond.initialized RX3, Cond.code yX3_size cX3_size 1 (some .int), Cond.fieldLink RX3 25 "NamedMoves$Queue" "end" "I", Cond.fieldLink RX3 21 "NamedMoves$Queue" "first" "I", Cond.methodLink RX5 108 yX5_roomKept, Cond.instanceMethod yX5_roomKept, Cond.selects RX5 yX5_roomKept yX5_roomKept, Cond.code yX5_roomKept cX5_roomKept 4 (some .int), Cond.methodLink RX5 75 yX5_addressOfHalf, Cond.instanceMethod yX5_addressOfHalf, Cond.selects RX5 yX5_addressOfHalf yX5_addressOfHalf, Cond.code yX5_addressOfHalf cX5_addressOfHalf 2 (some .int), Cond.methodLink RX5 79 yX0_noteAt]
def wsX5_numberOf_r3 : List Cond := [Cond.instanceMethod yX0_noteAt, Cond.selects RX0 yX0_noteAt yX0_noteAt, Cond.code yX0_noteAt cX0_noteAt 2 (some .int), Cond.fieldLink RX0 18 "NamedMoves$Copies" "notes" "[I", Cond.methodLink RX5 82 yX0_sizeAt, Cond.methodLink RX5 111 yX5_thingsWithTwins, Cond.instanceMethod yX5_thingsWithTwins, Cond.selects RX5 yX5_thingsWithTwins yX5_thingsWithTwins, Cond.code yX5_thingsWithTwins cX5_thingsWithTwins 3 (some .int), Cond.methodLink RX5 92 yX5_hasTwins, Cond.instanceMethod yX5_hasTwins, Cond.selects RX5 yX5_hasTwins yX5_hasTwins, Cond.code yX5_hasTwins cX5_hasTwins 4 (some .boolean), Cond.methodLink RX5 85 yX0_isOf, Cond.instanceMethod yX0_isOf, Cond.selects RX0 yX0_isOf yX0_isOf, Cond.code yX0_isOf cX0_isOf 3 (some .boolean), Cond.fieldLink RX0 9 "NamedMoves$Copies" "things" "[I", Cond.methodLink RX5 89 yX5_isInOldHalf, Cond.instanceMethod yX5_isInOldHalf, Cond.selects RX5 yX5_isInOldHalf yX5_isInOldHalf, Cond.code yX5_isInOldHalf cX5_isInOldHalf 3 (some .boolean)]
def wsX5_numberOf : List Cond := .code yX5_numberOf cX5_numberOf 2 (some .int) :: ((wsX5_numberOf_r1 ++ (wsX5_numberOf_r2 ++ wsX5_numberOf_r3)) ++ wsX50 ++ wsX00 ++ wsX30)
def wsX5_changeBound : List Cond := .code yX5_changeBound cX5_changeBound 3 (some .int) :: ([.fieldLink RX5 29 "NamedMoves$Store" "heavyBound" "I"] ++ wsX50)
def wsX5_firstWithNote : List Cond := .code yX5_firstWithNote cX5_firstWithNote 3 (some .int) :: ([.fieldLink RX5 18 "NamedMoves$Store" "copies" "LNamedMoves$Copies;", .methodLink RX5 85 yX0_isOf, .instanceMethod yX0_isOf, .selects RX0 yX0_isOf yX0_isOf, .initialized RX0, .code yX0_isOf cX0_isOf 3 (some .boolean), .fieldLink RX0 9 "NamedMoves$Copies" "things" "[I", .methodLink RX0 39 yX0_isAt, .instanceMethod yX0_isAt, .selects RX0 yX0_isAt yX0_isAt, .code yX0_isAt cX0_isAt 2 (some .boolean), .fieldLink RX0 15 "NamedMoves$Copies" "sizes" "[I", .methodLink RX5 79 yX0_noteAt, .instanceMethod yX0_noteAt, .selects RX0 yX0_noteAt yX0_noteAt, .code yX0_noteAt cX0_noteAt 2 (some .int), .fieldLink RX0 18 "NamedMoves$Copies" "notes" "[I"] ++ wsX50 ++ wsX00)
def wsX5_loseNote_r1 : List Cond := [Cond.fieldLink RX5 18 "NamedMoves$Store" "copies" "LNamedMoves$Copies;", Cond.fieldLink RX5 65 "NamedMoves$Store" "notesLost" "I", Cond.methodLink RX5 159 yX5_isThing, Cond.instanceMethod yX5_isThing, Cond.selects RX5 yX5_isThing yX5_isThing, Cond.initialized RX5, Cond.code yX5_isThing cX5_isThing 2 (some .boolean), Cond.fieldLink RX5 52 "NamedMoves$Store" "made" "I", Cond.methodLink RX5 162 yX5_firstWithNote, Cond.instanceMethod yX5_firstWithNote, Cond.selects RX5 yX5_firstWithNote yX5_firstWithNote, Cond.code yX5_firstWithNote cX5_firstWithNote 3 (some .int), Cond.methodLink RX5 85 yX0_isOf, Cond.instanceMethod yX0_isOf, Cond.selects RX0 yX0_isOf yX0_isOf, Cond.initialized RX0, Cond.code yX0_isOf cX0_isOf 3 (some .boolean), Cond.fieldLink RX0 9 "NamedMoves$Copies" "things" "[I", Cond.methodLink RX0 39 yX0_isAt, Cond.instanceMethod yX0_isAt, Cond.selects RX0 yX0_isAt yX0_isAt, Cond.code yX0_isAt cX0_isAt 2 (some .boolean), Cond.fieldLink RX0 15 "NamedMoves$Copies" "sizes" "[I", Cond.methodLink RX5 79 yX0_noteAt]
def wsX5_loseNote_r2 : List Cond := [Cond.instanceMethod yX0_noteAt, Cond.selects RX0 yX0_noteAt yX0_noteAt, Cond.code yX0_noteAt cX0_noteAt 2 (some .int), Cond.fieldLink RX0 18 "NamedMoves$Copies" "notes" "[I", Cond.methodLink RX5 99 yX5_freeInHalf, Cond.instanceMethod yX5_freeInHalf, Cond.selects RX5 yX5_freeInHalf yX5_freeInHalf, Cond.code yX5_freeInHalf cX5_freeInHalf 1 (some .int), Cond.fieldLink RX5 62 "NamedMoves$Store" "taken" "I", Cond.methodLink RX5 108 yX5_roomKept, Cond.instanceMethod yX5_roomKept, Cond.selects RX5 yX5_roomKept yX5_roomKept, Cond.code yX5_roomKept cX5_roomKept 4 (some .int), Cond.fieldLink RX5 59 "NamedMoves$Store" "half" "I", Cond.fieldLink RX5 55 "NamedMoves$Store" "moving" "Z", Cond.methodLink RX5 75 yX5_addressOfHalf, Cond.instanceMethod yX5_addressOfHalf, Cond.selects RX5 yX5_addressOfHalf yX5_addressOfHalf, Cond.code yX5_addressOfHalf cX5_addressOfHalf 2 (some .int), Cond.methodLink RX5 82 yX0_sizeAt, Cond.instanceMethod yX0_sizeAt, Cond.selects RX0 yX0_sizeAt yX0_sizeAt, Cond.code yX0_sizeAt cX0_sizeAt 2 (some .int), Cond.methodLink RX5 165 yX0_loseNoteAt]
def wsX5_loseNote_r3 : List Cond := [Cond.instanceMethod yX0_loseNoteAt, Cond.selects RX0 yX0_loseNoteAt yX0_loseNoteAt, Cond.code yX0_loseNoteAt cX0_loseNoteAt 2 none]
def wsX5_loseNote : List Cond := .code yX5_loseNote cX5_loseNote 3 (some .int) :: ((wsX5_loseNote_r1 ++ (wsX5_loseNote_r2 ++ wsX5_loseNote_r3)) ++ wsX50 ++ wsX00)
def wsX5_replaceHooks : List Cond := .code yX5_replaceHooks cX5_replaceHooks 4 none :: ([.fieldLink RX5 9 "NamedMoves$Store" "hooks" "[I"] ++ wsX50)
def wsX5_mendTwins_r1 : List Cond := [Cond.fieldLink RX5 55 "NamedMoves$Store" "moving" "Z", Cond.fieldLink RX5 18 "NamedMoves$Store" "copies" "LNamedMoves$Copies;", Cond.methodLink RX5 159 yX5_isThing, Cond.instanceMethod yX5_isThing, Cond.selects RX5 yX5_isThing yX5_isThing, Cond.initialized RX5, Cond.code yX5_isThing cX5_isThing 2 (some .boolean), Cond.fieldLink RX5 52 "NamedMoves$Store" "made" "I", Cond.methodLink RX5 92 yX5_hasTwins, Cond.instanceMethod yX5_hasTwins, Cond.selects RX5 yX5_hasTwins yX5_hasTwins, Cond.code yX5_hasTwins cX5_hasTwins 4 (some .boolean), Cond.methodLink RX5 85 yX0_isOf, Cond.instanceMethod yX0_isOf, Cond.selects RX0 yX0_isOf yX0_isOf, Cond.initialized RX0, Cond.code yX0_isOf cX0_isOf 3 (some .boolean), Cond.fieldLink RX0 9 "NamedMoves$Copies" "things" "[I", Cond.methodLink RX0 39 yX0_isAt, Cond.instanceMethod yX0_isAt, Cond.selects RX0 yX0_isAt yX0_isAt, Cond.code yX0_isAt cX0_isAt 2 (some .boolean), Cond.fieldLink RX0 15 "NamedMoves$Copies" "sizes" "[I", Cond.methodLink RX5 89 yX5_isInOldHalf]
def wsX5_mendTwins_r2 : List Cond := [Cond.instanceMethod yX5_isInOldHalf, Cond.selects RX5 yX5_isInOldHalf yX5_isInOldHalf, Cond.code yX5_isInOldHalf cX5_isInOldHalf 3 (some .boolean), Cond.fieldLink RX5 59 "NamedMoves$Store" "half" "I", Cond.methodLink RX5 75 yX5_addressOfHalf, Cond.instanceMethod yX5_addressOfHalf, Cond.selects RX5 yX5_addressOfHalf yX5_addressOfHalf, Cond.code yX5_addressOfHalf cX5_addressOfHalf 2 (some .int), Cond.methodLink RX5 168 yX0_addressOf, Cond.instanceMethod yX0_addressOf, Cond.selects RX0 yX0_addressOf yX0_addressOf, Cond.code yX0_addressOf cX0_addressOf 5 (some .int), Cond.methodLink RX0 46 yX0_isOf, Cond.methodLink RX5 172 yX0_remove, Cond.instanceMethod yX0_remove, Cond.selects RX0 yX0_remove yX0_remove, Cond.code yX0_remove cX0_remove 2 none, Cond.methodLink RX5 175 yX0_replaceNames, Cond.instanceMethod yX0_replaceNames, Cond.selects RX0 yX0_replaceNames yX0_replaceNames, Cond.code yX0_replaceNames cX0_replaceNames 4 none, Cond.fieldLink RX0 24 "NamedMoves$Copies" "names" "[I", Cond.methodLink RX5 179 yX5_replaceHooks, Cond.instanceMethod yX5_replaceHooks]
def wsX5_mendTwins_r3 : List Cond := [Cond.selects RX5 yX5_replaceHooks yX5_replaceHooks, Cond.code yX5_replaceHooks cX5_replaceHooks 4 none, Cond.fieldLink RX5 9 "NamedMoves$Store" "hooks" "[I"]
def wsX5_mendTwins : List Cond := .code yX5_mendTwins cX5_mendTwins 5 (some .int) :: ((wsX5_mendTwins_r1 ++ (wsX5_mendTwins_r2 ++ wsX5_mendTwins_r3)) ++ wsX50 ++ wsX00)
def wsX6_init : List Cond := .code yX6_init cX6_init 1 none :: ([.methodLink RX6 3 objectInit, .instanceMethod objectInit, .code objectInit ⟨#[0xb1]⟩ 1 none, .arrayClass .int, .fieldLink RX6 9 "NamedMoves$Text" "characters" "[I"] ++ wsX60)
def wsX6_size : List Cond := .code yX6_size cX6_size 1 (some .int) :: ([.fieldLink RX6 15 "NamedMoves$Text" "length" "I"] ++ wsX60)
def wsX6_empty : List Cond := .code yX6_empty cX6_empty 1 none :: ([.fieldLink RX6 15 "NamedMoves$Text" "length" "I"] ++ wsX60)
def wsX6_addCharacter : List Cond := .code yX6_addCharacter cX6_addCharacter 2 (some .int) :: ([.fieldLink RX6 15 "NamedMoves$Text" "length" "I", .fieldLink RX6 9 "NamedMoves$Text" "characters" "[I"] ++ wsX60)
def wsX7_init_r1 : List Cond := [Cond.methodLink RX7 3 objectInit, Cond.instanceMethod objectInit, Cond.code objectInit ⟨#[0xb1]⟩ 1 none, Cond.classLink RX7 9 RX5, Cond.instantiable RX5 10, Cond.initialized RX5, Cond.fieldLink RX7 12 "NamedMoves" "store" "LNamedMoves$Store;", Cond.fieldLink RX7 16 "NamedMoves" "forecast" "LNamedMoves$Store;", Cond.classLink RX7 19 RX2, Cond.instantiable RX2 3, Cond.initialized RX2, Cond.fieldLink RX7 22 "NamedMoves" "history" "LNamedMoves$History;", Cond.classLink RX7 26 RX4, Cond.instantiable RX4 4, Cond.initialized RX4, Cond.fieldLink RX7 29 "NamedMoves" "reach" "LNamedMoves$Reach;", Cond.classLink RX7 33 RX6, Cond.instantiable RX6 2, Cond.initialized RX6, Cond.fieldLink RX7 36 "NamedMoves" "text" "LNamedMoves$Text;", Cond.classLink RX7 40 RX1, Cond.instantiable RX1 3, Cond.initialized RX1, Cond.fieldLink RX7 43 "NamedMoves" "errand" "LNamedMoves$Errand;"]
def wsX7_init_r2 : List Cond := [Cond.methodLink RX7 11 yX5_init, Cond.instanceMethod yX5_init, Cond.code yX5_init cX5_init 1 none, Cond.methodLink RX5 3 objectInit, Cond.arrayClass .int, Cond.fieldLink RX5 9 "NamedMoves$Store" "hooks" "[I", Cond.classLink RX5 15 RX0, Cond.instantiable RX0 5, Cond.initialized RX0, Cond.fieldLink RX5 18 "NamedMoves$Store" "copies" "LNamedMoves$Copies;", Cond.classLink RX5 22 RX3, Cond.instantiable RX3 3, Cond.initialized RX3, Cond.fieldLink RX5 25 "NamedMoves$Store" "queue" "LNamedMoves$Queue;", Cond.fieldLink RX5 29 "NamedMoves$Store" "heavyBound" "I", Cond.methodLink RX5 17 yX0_init, Cond.instanceMethod yX0_init, Cond.code yX0_init cX0_init 1 none, Cond.methodLink RX0 3 objectInit, Cond.fieldLink RX0 9 "NamedMoves$Copies" "things" "[I", Cond.fieldLink RX0 15 "NamedMoves$Copies" "sizes" "[I", Cond.fieldLink RX0 18 "NamedMoves$Copies" "notes" "[I", Cond.fieldLink RX0 21 "NamedMoves$Copies" "marks" "[I", Cond.fieldLink RX0 24 "NamedMoves$Copies" "names" "[I"]
def wsX7_init_r3 : List Cond := [Cond.methodLink RX0 27 yJ7_fill_53178, Cond.static yJ7_fill_53178, Cond.initialized RJ7, Cond.code yJ7_fill_53178 cJ7_fill_53178 4 none, Cond.instanceMethod yX3_init, Cond.code yX3_init cX3_init 1 none, Cond.methodLink RX3 3 objectInit, Cond.fieldLink RX3 9 "NamedMoves$Queue" "addresses" "[I", Cond.methodLink RX5 33 yJ7_fill_53178, Cond.methodLink RX7 21 yX2_init, Cond.instanceMethod yX2_init, Cond.code yX2_init cX2_init 2 none, Cond.methodLink RX2 3 objectInit, Cond.classLink RX2 9 RX5, Cond.fieldLink RX2 11 "NamedMoves$History" "states" "[LNamedMoves$Store;", Cond.methodLink RX2 17 yX5_init, Cond.instanceMethod yX4_init, Cond.code yX4_init cX4_init 1 none, Cond.methodLink RX4 3 objectInit, Cond.arrayClass .boolean, Cond.fieldLink RX4 9 "NamedMoves$Reach" "reached" "[Z", Cond.fieldLink RX4 15 "NamedMoves$Reach" "found" "[I", Cond.fieldLink RX4 19 "NamedMoves$Reach" "seenThings" "[Z", Cond.instanceMethod yX6_init]
def wsX7_init_r4 : List Cond := [Cond.code yX6_init cX6_init 1 none, Cond.methodLink RX6 3 objectInit, Cond.fieldLink RX6 9 "NamedMoves$Text" "characters" "[I", Cond.instanceMethod yX1_init, Cond.code yX1_init cX1_init 1 none, Cond.methodLink RX1 3 objectInit, Cond.fieldLink RX1 9 "NamedMoves$Errand" "numbers" "[I"]
def wsX7_init : List Cond := .code yX7_init cX7_init 1 none :: ((wsX7_init_r1 ++ (wsX7_init_r2 ++ (wsX7_init_r3 ++ wsX7_init_r4))) ++ wsX50 ++ wsX70 ++ wsX20 ++ wsX40 ++ wsX60 ++ wsX10 ++ wsX00 ++ wsX30)
def wsX7_recorded : List Cond := .code yX7_recorded cX7_recorded 2 (some .int) :: ([.fieldLink RX7 22 "NamedMoves" "history" "LNamedMoves$History;", .methodLink RX7 186 yX2_keepDraft, .instanceMethod yX2_keepDraft, .selects RX2 yX2_keepDraft yX2_keepDraft, .initialized RX2, .code yX2_keepDraft cX2_keepDraft 1 none, .fieldLink RX2 18 "NamedMoves$History" "held" "I", .fieldLink RX2 22 "NamedMoves$History" "first" "I", .methodLink RX2 25 yJ9_floorMod_7cf53, .static yJ9_floorMod_7cf53, .initialized RJ9, .code yJ9_floorMod_7cf53 cJ9_floorMod_7cf53 3 (some .int)] ++ wsX70 ++ wsX20)
def wsX7_setHeavy_r1 : List Cond := [Cond.fieldLink RX7 22 "NamedMoves" "history" "LNamedMoves$History;", Cond.fieldLink RX7 12 "NamedMoves" "store" "LNamedMoves$Store;", Cond.methodLink RX7 47 yX2_draft, Cond.instanceMethod yX2_draft, Cond.selects RX2 yX2_draft yX2_draft, Cond.initialized RX2, Cond.code yX2_draft cX2_draft 3 none, Cond.fieldLink RX2 11 "NamedMoves$History" "states" "[LNamedMoves$Store;", Cond.methodLink RX2 31 yX2_slotOfDraft, Cond.instanceMethod yX2_slotOfDraft, Cond.selects RX2 yX2_slotOfDraft yX2_slotOfDraft, Cond.code yX2_slotOfDraft cX2_slotOfDraft 1 (some .int), Cond.fieldLink RX2 22 "NamedMoves$History" "first" "I", Cond.fieldLink RX2 18 "NamedMoves$History" "held" "I", Cond.methodLink RX2 25 yJ9_floorMod_7cf53, Cond.static yJ9_floorMod_7cf53, Cond.initialized RJ9, Cond.code yJ9_floorMod_7cf53 cJ9_floorMod_7cf53 3 (some .int), Cond.methodLink RX2 35 yX5_become, Cond.instanceMethod yX5_become, Cond.selects RX5 yX5_become yX5_become, Cond.initialized RX5, Cond.code yX5_become cX5_become 2 none, Cond.fieldLink RX5 9 "NamedMoves$Store" "hooks" "[I"]
def wsX7_setHeavy_r2 : List Cond := [Cond.methodLink RX5 39 arraycopyName, Cond.native arraycopyName, Cond.static arraycopyName, Cond.initialized "java/lang/System", Cond.fieldLink RX5 18 "NamedMoves$Store" "copies" "LNamedMoves$Copies;", Cond.fieldLink RX5 25 "NamedMoves$Store" "queue" "LNamedMoves$Queue;", Cond.fieldLink RX5 29 "NamedMoves$Store" "heavyBound" "I", Cond.fieldLink RX5 52 "NamedMoves$Store" "made" "I", Cond.fieldLink RX5 55 "NamedMoves$Store" "moving" "Z", Cond.fieldLink RX5 59 "NamedMoves$Store" "half" "I", Cond.fieldLink RX5 62 "NamedMoves$Store" "taken" "I", Cond.fieldLink RX5 65 "NamedMoves$Store" "notesLost" "I", Cond.fieldLink RX5 68 "NamedMoves$Store" "movesEnded" "I", Cond.methodLink RX5 45 yX0_become, Cond.instanceMethod yX0_become, Cond.selects RX0 yX0_become yX0_become, Cond.initialized RX0, Cond.code yX0_become cX0_become 2 none, Cond.fieldLink RX0 9 "NamedMoves$Copies" "things" "[I", Cond.methodLink RX0 33 arraycopyName, Cond.fieldLink RX0 15 "NamedMoves$Copies" "sizes" "[I", Cond.fieldLink RX0 18 "NamedMoves$Copies" "notes" "[I", Cond.fieldLink RX0 21 "NamedMoves$Copies" "marks" "[I", Cond.fieldLink RX0 24 "NamedMoves$Copies" "names" "[I"]
def wsX7_setHeavy_r3 : List Cond := [Cond.methodLink RX5 49 yX3_become, Cond.instanceMethod yX3_become, Cond.selects RX3 yX3_become yX3_become, Cond.initialized RX3, Cond.code yX3_become cX3_become 2 none, Cond.fieldLink RX3 9 "NamedMoves$Queue" "addresses" "[I", Cond.methodLink RX3 15 arraycopyName, Cond.fieldLink RX3 21 "NamedMoves$Queue" "first" "I", Cond.fieldLink RX3 25 "NamedMoves$Queue" "end" "I", Cond.methodLink RX7 51 yX5_changeBound, Cond.instanceMethod yX5_changeBound, Cond.selects RX5 yX5_changeBound yX5_changeBound, Cond.code yX5_changeBound cX5_changeBound 3 (some .int), Cond.methodLink RX7 55 yX7_recorded, Cond.instanceMethod yX7_recorded, Cond.selects RX7 yX7_recorded yX7_recorded, Cond.initialized RX7, Cond.code yX7_recorded cX7_recorded 2 (some .int), Cond.methodLink RX7 186 yX2_keepDraft, Cond.instanceMethod yX2_keepDraft, Cond.selects RX2 yX2_keepDraft yX2_keepDraft, Cond.code yX2_keepDraft cX2_keepDraft 1 none]
def wsX7_setHeavy : List Cond := .code yX7_setHeavy cX7_setHeavy 2 (some .int) :: ((wsX7_setHeavy_r1 ++ (wsX7_setHeavy_r2 ++ wsX7_setHeavy_r3)) ++ wsX70 ++ wsX20 ++ wsX50 ++ wsX00 ++ wsX30)
def wsX7_make_r1 : List Cond := [Cond.fieldLink RX7 22 "NamedMoves" "history" "LNamedMoves$History;", Cond.fieldLink RX7 12 "NamedMoves" "store" "LNamedMoves$Store;", Cond.methodLink RX7 47 yX2_draft, Cond.instanceMethod yX2_draft, Cond.selects RX2 yX2_draft yX2_draft, Cond.initialized RX2, Cond.code yX2_draft cX2_draft 3 none, Cond.fieldLink RX2 11 "NamedMoves$History" "states" "[LNamedMoves$Store;", Cond.methodLink RX2 31 yX2_slotOfDraft, Cond.instanceMethod yX2_slotOfDraft, Cond.selects RX2 yX2_slotOfDraft yX2_slotOfDraft, Cond.code yX2_slotOfDraft cX2_slotOfDraft 1 (some .int), Cond.fieldLink RX2 22 "NamedMoves$History" "first" "I", Cond.fieldLink RX2 18 "NamedMoves$History" "held" "I", Cond.methodLink RX2 25 yJ9_floorMod_7cf53, Cond.static yJ9_floorMod_7cf53, Cond.initialized RJ9, Cond.code yJ9_floorMod_7cf53 cJ9_floorMod_7cf53 3 (some .int), Cond.methodLink RX2 35 yX5_become, Cond.instanceMethod yX5_become, Cond.selects RX5 yX5_become yX5_become, Cond.initialized RX5, Cond.code yX5_become cX5_become 2 none, Cond.fieldLink RX5 9 "NamedMoves$Store" "hooks" "[I"]
def wsX7_make_r2 : List Cond := [Cond.methodLink RX5 39 arraycopyName, Cond.native arraycopyName, Cond.static arraycopyName, Cond.initialized "java/lang/System", Cond.fieldLink RX5 18 "NamedMoves$Store" "copies" "LNamedMoves$Copies;", Cond.fieldLink RX5 25 "NamedMoves$Store" "queue" "LNamedMoves$Queue;", Cond.fieldLink RX5 29 "NamedMoves$Store" "heavyBound" "I", Cond.fieldLink RX5 52 "NamedMoves$Store" "made" "I", Cond.fieldLink RX5 55 "NamedMoves$Store" "moving" "Z", Cond.fieldLink RX5 59 "NamedMoves$Store" "half" "I", Cond.fieldLink RX5 62 "NamedMoves$Store" "taken" "I", Cond.fieldLink RX5 65 "NamedMoves$Store" "notesLost" "I", Cond.fieldLink RX5 68 "NamedMoves$Store" "movesEnded" "I", Cond.methodLink RX5 45 yX0_become, Cond.instanceMethod yX0_become, Cond.selects RX0 yX0_become yX0_become, Cond.initialized RX0, Cond.code yX0_become cX0_become 2 none, Cond.fieldLink RX0 9 "NamedMoves$Copies" "things" "[I", Cond.methodLink RX0 33 arraycopyName, Cond.fieldLink RX0 15 "NamedMoves$Copies" "sizes" "[I", Cond.fieldLink RX0 18 "NamedMoves$Copies" "notes" "[I", Cond.fieldLink RX0 21 "NamedMoves$Copies" "marks" "[I", Cond.fieldLink RX0 24 "NamedMoves$Copies" "names" "[I"]
def wsX7_make_r3 : List Cond := [Cond.methodLink RX5 49 yX3_become, Cond.instanceMethod yX3_become, Cond.selects RX3 yX3_become yX3_become, Cond.initialized RX3, Cond.code yX3_become cX3_become 2 none, Cond.fieldLink RX3 9 "NamedMoves$Queue" "addresses" "[I", Cond.methodLink RX3 15 arraycopyName, Cond.fieldLink RX3 21 "NamedMoves$Queue" "first" "I", Cond.fieldLink RX3 25 "NamedMoves$Queue" "end" "I", Cond.methodLink RX7 58 yX5_makeThing, Cond.instanceMethod yX5_makeThing, Cond.selects RX5 yX5_makeThing yX5_makeThing, Cond.code yX5_makeThing cX5_makeThing 5 (some .int), Cond.static yX7_isHook, Cond.initialized RX7, Cond.code yX7_isHook cX7_isHook 1 (some .boolean), Cond.methodLink RX5 114 yX0_floorAddressFor, Cond.instanceMethod yX0_floorAddressFor, Cond.selects RX0 yX0_floorAddressFor yX0_floorAddressFor, Cond.code yX0_floorAddressFor cX0_floorAddressFor 5 (some .int), Cond.methodLink RX0 50 yX0_sizeAt, Cond.instanceMethod yX0_sizeAt, Cond.selects RX0 yX0_sizeAt yX0_sizeAt, Cond.code yX0_sizeAt cX0_sizeAt 2 (some .int)]
def wsX7_make_r4 : List Cond := [Cond.methodLink RX0 39 yX0_isAt, Cond.instanceMethod yX0_isAt, Cond.selects RX0 yX0_isAt yX0_isAt, Cond.code yX0_isAt cX0_isAt 2 (some .boolean), Cond.methodLink RX5 117 yX5_halfAddressFor, Cond.instanceMethod yX5_halfAddressFor, Cond.selects RX5 yX5_halfAddressFor yX5_halfAddressFor, Cond.code yX5_halfAddressFor cX5_halfAddressFor 2 (some .int), Cond.methodLink RX5 99 yX5_freeInHalf, Cond.instanceMethod yX5_freeInHalf, Cond.selects RX5 yX5_freeInHalf yX5_freeInHalf, Cond.code yX5_freeInHalf cX5_freeInHalf 1 (some .int), Cond.methodLink RX5 108 yX5_roomKept, Cond.instanceMethod yX5_roomKept, Cond.selects RX5 yX5_roomKept yX5_roomKept, Cond.code yX5_roomKept cX5_roomKept 4 (some .int), Cond.methodLink RX5 75 yX5_addressOfHalf, Cond.instanceMethod yX5_addressOfHalf, Cond.selects RX5 yX5_addressOfHalf yX5_addressOfHalf, Cond.code yX5_addressOfHalf cX5_addressOfHalf 2 (some .int), Cond.methodLink RX5 79 yX0_noteAt, Cond.instanceMethod yX0_noteAt, Cond.selects RX0 yX0_noteAt yX0_noteAt, Cond.code yX0_noteAt cX0_noteAt 2 (some .int)]
def wsX7_make_r5 : List Cond := [Cond.methodLink RX5 82 yX0_sizeAt, Cond.methodLink RX5 120 yX0_lay, Cond.instanceMethod yX0_lay, Cond.selects RX0 yX0_lay yX0_lay, Cond.code yX0_lay cX0_lay 4 none, Cond.methodLink RX5 124 yX0_mark, Cond.instanceMethod yX0_mark, Cond.selects RX0 yX0_mark yX0_mark, Cond.code yX0_mark cX0_mark 2 (some .boolean), Cond.methodLink RX7 55 yX7_recorded, Cond.instanceMethod yX7_recorded, Cond.selects RX7 yX7_recorded yX7_recorded, Cond.code yX7_recorded cX7_recorded 2 (some .int), Cond.methodLink RX7 186 yX2_keepDraft, Cond.instanceMethod yX2_keepDraft, Cond.selects RX2 yX2_keepDraft yX2_keepDraft, Cond.code yX2_keepDraft cX2_keepDraft 1 none]
def wsX7_make : List Cond := .code yX7_make cX7_make 3 (some .int) :: ((wsX7_make_r1 ++ (wsX7_make_r2 ++ (wsX7_make_r3 ++ (wsX7_make_r4 ++ wsX7_make_r5)))) ++ wsX70 ++ wsX20 ++ wsX50 ++ wsX00 ++ wsX30)
def wsX7_link_r1 : List Cond := [Cond.fieldLink RX7 22 "NamedMoves" "history" "LNamedMoves$History;", Cond.fieldLink RX7 12 "NamedMoves" "store" "LNamedMoves$Store;", Cond.methodLink RX7 47 yX2_draft, Cond.instanceMethod yX2_draft, Cond.selects RX2 yX2_draft yX2_draft, Cond.initialized RX2, Cond.code yX2_draft cX2_draft 3 none, Cond.fieldLink RX2 11 "NamedMoves$History" "states" "[LNamedMoves$Store;", Cond.methodLink RX2 31 yX2_slotOfDraft, Cond.instanceMethod yX2_slotOfDraft, Cond.selects RX2 yX2_slotOfDraft yX2_slotOfDraft, Cond.code yX2_slotOfDraft cX2_slotOfDraft 1 (some .int), Cond.fieldLink RX2 22 "NamedMoves$History" "first" "I", Cond.fieldLink RX2 18 "NamedMoves$History" "held" "I", Cond.methodLink RX2 25 yJ9_floorMod_7cf53, Cond.static yJ9_floorMod_7cf53, Cond.initialized RJ9, Cond.code yJ9_floorMod_7cf53 cJ9_floorMod_7cf53 3 (some .int), Cond.methodLink RX2 35 yX5_become, Cond.instanceMethod yX5_become, Cond.selects RX5 yX5_become yX5_become, Cond.initialized RX5, Cond.code yX5_become cX5_become 2 none, Cond.fieldLink RX5 9 "NamedMoves$Store" "hooks" "[I"]
def wsX7_link_r2 : List Cond := [Cond.methodLink RX5 39 arraycopyName, Cond.native arraycopyName, Cond.static arraycopyName, Cond.initialized "java/lang/System", Cond.fieldLink RX5 18 "NamedMoves$Store" "copies" "LNamedMoves$Copies;", Cond.fieldLink RX5 25 "NamedMoves$Store" "queue" "LNamedMoves$Queue;", Cond.fieldLink RX5 29 "NamedMoves$Store" "heavyBound" "I", Cond.fieldLink RX5 52 "NamedMoves$Store" "made" "I", Cond.fieldLink RX5 55 "NamedMoves$Store" "moving" "Z", Cond.fieldLink RX5 59 "NamedMoves$Store" "half" "I", Cond.fieldLink RX5 62 "NamedMoves$Store" "taken" "I", Cond.fieldLink RX5 65 "NamedMoves$Store" "notesLost" "I", Cond.fieldLink RX5 68 "NamedMoves$Store" "movesEnded" "I", Cond.methodLink RX5 45 yX0_become, Cond.instanceMethod yX0_become, Cond.selects RX0 yX0_become yX0_become, Cond.initialized RX0, Cond.code yX0_become cX0_become 2 none, Cond.fieldLink RX0 9 "NamedMoves$Copies" "things" "[I", Cond.methodLink RX0 33 arraycopyName, Cond.fieldLink RX0 15 "NamedMoves$Copies" "sizes" "[I", Cond.fieldLink RX0 18 "NamedMoves$Copies" "notes" "[I", Cond.fieldLink RX0 21 "NamedMoves$Copies" "marks" "[I", Cond.fieldLink RX0 24 "NamedMoves$Copies" "names" "[I"]
def wsX7_link_r3 : List Cond := [Cond.methodLink RX5 49 yX3_become, Cond.instanceMethod yX3_become, Cond.selects RX3 yX3_become yX3_become, Cond.initialized RX3, Cond.code yX3_become cX3_become 2 none, Cond.fieldLink RX3 9 "NamedMoves$Queue" "addresses" "[I", Cond.methodLink RX3 15 arraycopyName, Cond.fieldLink RX3 21 "NamedMoves$Queue" "first" "I", Cond.fieldLink RX3 25 "NamedMoves$Queue" "end" "I", Cond.methodLink RX7 62 yX5_linkHooks, Cond.instanceMethod yX5_linkHooks, Cond.selects RX5 yX5_linkHooks yX5_linkHooks, Cond.code yX5_linkHooks cX5_linkHooks 6 (some .int), Cond.static yX7_isHook, Cond.initialized RX7, Cond.code yX7_isHook cX7_isHook 1 (some .boolean), Cond.static yX7_isName, Cond.code yX7_isName cX7_isName 1 (some .boolean), Cond.methodLink RX5 130 yX5_readIn, Cond.instanceMethod yX5_readIn, Cond.selects RX5 yX5_readIn yX5_readIn, Cond.code yX5_readIn cX5_readIn 5 (some .int), Cond.methodLink RX5 89 yX5_isInOldHalf, Cond.instanceMethod yX5_isInOldHalf]
def wsX7_link_r4 : List Cond := [Cond.selects RX5 yX5_isInOldHalf yX5_isInOldHalf, Cond.code yX5_isInOldHalf cX5_isInOldHalf 3 (some .boolean), Cond.methodLink RX5 75 yX5_addressOfHalf, Cond.instanceMethod yX5_addressOfHalf, Cond.selects RX5 yX5_addressOfHalf yX5_addressOfHalf, Cond.code yX5_addressOfHalf cX5_addressOfHalf 2 (some .int), Cond.methodLink RX5 79 yX0_noteAt, Cond.instanceMethod yX0_noteAt, Cond.selects RX0 yX0_noteAt yX0_noteAt, Cond.code yX0_noteAt cX0_noteAt 2 (some .int), Cond.methodLink RX0 39 yX0_isAt, Cond.instanceMethod yX0_isAt, Cond.selects RX0 yX0_isAt yX0_isAt, Cond.code yX0_isAt cX0_isAt 2 (some .boolean), Cond.methodLink RX5 82 yX0_sizeAt, Cond.instanceMethod yX0_sizeAt, Cond.selects RX0 yX0_sizeAt yX0_sizeAt, Cond.code yX0_sizeAt cX0_sizeAt 2 (some .int), Cond.methodLink RX5 182 yX5_carryOver, Cond.instanceMethod yX5_carryOver, Cond.selects RX5 yX5_carryOver yX5_carryOver, Cond.code yX5_carryOver cX5_carryOver 4 (some .int), Cond.methodLink RX5 99 yX5_freeInHalf, Cond.instanceMethod yX5_freeInHalf]
def wsX7_link_r5 : List Cond := [Cond.selects RX5 yX5_freeInHalf yX5_freeInHalf, Cond.code yX5_freeInHalf cX5_freeInHalf 1 (some .int), Cond.methodLink RX5 188 yX0_layAgain, Cond.instanceMethod yX0_layAgain, Cond.selects RX0 yX0_layAgain yX0_layAgain, Cond.code yX0_layAgain cX0_layAgain 3 none, Cond.methodLink RX5 185 yX3_join, Cond.instanceMethod yX3_join, Cond.selects RX3 yX3_join yX3_join, Cond.code yX3_join cX3_join 2 none, Cond.methodLink RX5 124 yX0_mark, Cond.instanceMethod yX0_mark, Cond.selects RX0 yX0_mark yX0_mark, Cond.code yX0_mark cX0_mark 2 (some .boolean), Cond.methodLink RX5 134 yX0_setName, Cond.instanceMethod yX0_setName, Cond.selects RX0 yX0_setName yX0_setName, Cond.code yX0_setName cX0_setName 4 none, Cond.methodLink RX7 55 yX7_recorded, Cond.instanceMethod yX7_recorded, Cond.selects RX7 yX7_recorded yX7_recorded, Cond.code yX7_recorded cX7_recorded 2 (some .int), Cond.methodLink RX7 186 yX2_keepDraft, Cond.instanceMethod yX2_keepDraft]
def wsX7_link_r6 : List Cond := [Cond.selects RX2 yX2_keepDraft yX2_keepDraft, Cond.code yX2_keepDraft cX2_keepDraft 1 none]
def wsX7_link : List Cond := .code yX7_link cX7_link 4 (some .int) :: ((wsX7_link_r1 ++ (wsX7_link_r2 ++ (wsX7_link_r3 ++ (wsX7_link_r4 ++ (wsX7_link_r5 ++ wsX7_link_r6))))) ++ wsX70 ++ wsX20 ++ wsX50 ++ wsX00 ++ wsX30)
def wsX7_follow_r1 : List Cond := [Cond.fieldLink RX7 22 "NamedMoves" "history" "LNamedMoves$History;", Cond.fieldLink RX7 12 "NamedMoves" "store" "LNamedMoves$Store;", Cond.methodLink RX7 47 yX2_draft, Cond.instanceMethod yX2_draft, Cond.selects RX2 yX2_draft yX2_draft, Cond.initialized RX2, Cond.code yX2_draft cX2_draft 3 none, Cond.fieldLink RX2 11 "NamedMoves$History" "states" "[LNamedMoves$Store;", Cond.methodLink RX2 31 yX2_slotOfDraft, Cond.instanceMethod yX2_slotOfDraft, Cond.selects RX2 yX2_slotOfDraft yX2_slotOfDraft, Cond.code yX2_slotOfDraft cX2_slotOfDraft 1 (some .int), Cond.fieldLink RX2 22 "NamedMoves$History" "first" "I", Cond.fieldLink RX2 18 "NamedMoves$History" "held" "I", Cond.methodLink RX2 25 yJ9_floorMod_7cf53, Cond.static yJ9_floorMod_7cf53, Cond.initialized RJ9, Cond.code yJ9_floorMod_7cf53 cJ9_floorMod_7cf53 3 (some .int), Cond.methodLink RX2 35 yX5_become, Cond.instanceMethod yX5_become, Cond.selects RX5 yX5_become yX5_become, Cond.initialized RX5, Cond.code yX5_become cX5_become 2 none, Cond.fieldLink RX5 9 "NamedMoves$Store" "hooks" "[I"]
def wsX7_follow_r2 : List Cond := [Cond.methodLink RX5 39 arraycopyName, Cond.native arraycopyName, Cond.static arraycopyName, Cond.initialized "java/lang/System", Cond.fieldLink RX5 18 "NamedMoves$Store" "copies" "LNamedMoves$Copies;", Cond.fieldLink RX5 25 "NamedMoves$Store" "queue" "LNamedMoves$Queue;", Cond.fieldLink RX5 29 "NamedMoves$Store" "heavyBound" "I", Cond.fieldLink RX5 52 "NamedMoves$Store" "made" "I", Cond.fieldLink RX5 55 "NamedMoves$Store" "moving" "Z", Cond.fieldLink RX5 59 "NamedMoves$Store" "half" "I", Cond.fieldLink RX5 62 "NamedMoves$Store" "taken" "I", Cond.fieldLink RX5 65 "NamedMoves$Store" "notesLost" "I", Cond.fieldLink RX5 68 "NamedMoves$Store" "movesEnded" "I", Cond.methodLink RX5 45 yX0_become, Cond.instanceMethod yX0_become, Cond.selects RX0 yX0_become yX0_become, Cond.initialized RX0, Cond.code yX0_become cX0_become 2 none, Cond.fieldLink RX0 9 "NamedMoves$Copies" "things" "[I", Cond.methodLink RX0 33 arraycopyName, Cond.fieldLink RX0 15 "NamedMoves$Copies" "sizes" "[I", Cond.fieldLink RX0 18 "NamedMoves$Copies" "notes" "[I", Cond.fieldLink RX0 21 "NamedMoves$Copies" "marks" "[I", Cond.fieldLink RX0 24 "NamedMoves$Copies" "names" "[I"]
def wsX7_follow_r3 : List Cond := [Cond.methodLink RX5 49 yX3_become, Cond.instanceMethod yX3_become, Cond.selects RX3 yX3_become yX3_become, Cond.initialized RX3, Cond.code yX3_become cX3_become 2 none, Cond.fieldLink RX3 9 "NamedMoves$Queue" "addresses" "[I", Cond.methodLink RX3 15 arraycopyName, Cond.fieldLink RX3 21 "NamedMoves$Queue" "first" "I", Cond.fieldLink RX3 25 "NamedMoves$Queue" "end" "I", Cond.methodLink RX7 66 yX5_followName, Cond.instanceMethod yX5_followName, Cond.selects RX5 yX5_followName yX5_followName, Cond.code yX5_followName cX5_followName 5 (some .int), Cond.static yX7_isHook, Cond.initialized RX7, Cond.code yX7_isHook cX7_isHook 1 (some .boolean), Cond.static yX7_isName, Cond.code yX7_isName cX7_isName 1 (some .boolean), Cond.methodLink RX5 130 yX5_readIn, Cond.instanceMethod yX5_readIn, Cond.selects RX5 yX5_readIn yX5_readIn, Cond.code yX5_readIn cX5_readIn 5 (some .int), Cond.methodLink RX5 89 yX5_isInOldHalf, Cond.instanceMethod yX5_isInOldHalf]
def wsX7_follow_r4 : List Cond := [Cond.selects RX5 yX5_isInOldHalf yX5_isInOldHalf, Cond.code yX5_isInOldHalf cX5_isInOldHalf 3 (some .boolean), Cond.methodLink RX5 75 yX5_addressOfHalf, Cond.instanceMethod yX5_addressOfHalf, Cond.selects RX5 yX5_addressOfHalf yX5_addressOfHalf, Cond.code yX5_addressOfHalf cX5_addressOfHalf 2 (some .int), Cond.methodLink RX5 79 yX0_noteAt, Cond.instanceMethod yX0_noteAt, Cond.selects RX0 yX0_noteAt yX0_noteAt, Cond.code yX0_noteAt cX0_noteAt 2 (some .int), Cond.methodLink RX0 39 yX0_isAt, Cond.instanceMethod yX0_isAt, Cond.selects RX0 yX0_isAt yX0_isAt, Cond.code yX0_isAt cX0_isAt 2 (some .boolean), Cond.methodLink RX5 82 yX0_sizeAt, Cond.instanceMethod yX0_sizeAt, Cond.selects RX0 yX0_sizeAt yX0_sizeAt, Cond.code yX0_sizeAt cX0_sizeAt 2 (some .int), Cond.methodLink RX5 182 yX5_carryOver, Cond.instanceMethod yX5_carryOver, Cond.selects RX5 yX5_carryOver yX5_carryOver, Cond.code yX5_carryOver cX5_carryOver 4 (some .int), Cond.methodLink RX5 99 yX5_freeInHalf, Cond.instanceMethod yX5_freeInHalf]
def wsX7_follow_r5 : List Cond := [Cond.selects RX5 yX5_freeInHalf yX5_freeInHalf, Cond.code yX5_freeInHalf cX5_freeInHalf 1 (some .int), Cond.methodLink RX5 188 yX0_layAgain, Cond.instanceMethod yX0_layAgain, Cond.selects RX0 yX0_layAgain yX0_layAgain, Cond.code yX0_layAgain cX0_layAgain 3 none, Cond.methodLink RX5 185 yX3_join, Cond.instanceMethod yX3_join, Cond.selects RX3 yX3_join yX3_join, Cond.code yX3_join cX3_join 2 none, Cond.methodLink RX5 124 yX0_mark, Cond.instanceMethod yX0_mark, Cond.selects RX0 yX0_mark yX0_mark, Cond.code yX0_mark cX0_mark 2 (some .boolean), Cond.methodLink RX7 55 yX7_recorded, Cond.instanceMethod yX7_recorded, Cond.selects RX7 yX7_recorded yX7_recorded, Cond.code yX7_recorded cX7_recorded 2 (some .int), Cond.methodLink RX7 186 yX2_keepDraft, Cond.instanceMethod yX2_keepDraft, Cond.selects RX2 yX2_keepDraft yX2_keepDraft, Cond.code yX2_keepDraft cX2_keepDraft 1 none]
def wsX7_follow : List Cond := .code yX7_follow cX7_follow 4 (some .int) :: ((wsX7_follow_r1 ++ (wsX7_follow_r2 ++ (wsX7_follow_r3 ++ (wsX7_follow_r4 ++ wsX7_follow_r5)))) ++ wsX70 ++ wsX20 ++ wsX50 ++ wsX00 ++ wsX30)
def wsX7_drop_r1 : List Cond := [Cond.fieldLink RX7 22 "NamedMoves" "history" "LNamedMoves$History;", Cond.fieldLink RX7 12 "NamedMoves" "store" "LNamedMoves$Store;", Cond.methodLink RX7 47 yX2_draft, Cond.instanceMethod yX2_draft, Cond.selects RX2 yX2_draft yX2_draft, Cond.initialized RX2, Cond.code yX2_draft cX2_draft 3 none, Cond.fieldLink RX2 11 "NamedMoves$History" "states" "[LNamedMoves$Store;", Cond.methodLink RX2 31 yX2_slotOfDraft, Cond.instanceMethod yX2_slotOfDraft, Cond.selects RX2 yX2_slotOfDraft yX2_slotOfDraft, Cond.code yX2_slotOfDraft cX2_slotOfDraft 1 (some .int), Cond.fieldLink RX2 22 "NamedMoves$History" "first" "I", Cond.fieldLink RX2 18 "NamedMoves$History" "held" "I", Cond.methodLink RX2 25 yJ9_floorMod_7cf53, Cond.static yJ9_floorMod_7cf53, Cond.initialized RJ9, Cond.code yJ9_floorMod_7cf53 cJ9_floorMod_7cf53 3 (some .int), Cond.methodLink RX2 35 yX5_become, Cond.instanceMethod yX5_become, Cond.selects RX5 yX5_become yX5_become, Cond.initialized RX5, Cond.code yX5_become cX5_become 2 none, Cond.fieldLink RX5 9 "NamedMoves$Store" "hooks" "[I"]
def wsX7_drop_r2 : List Cond := [Cond.methodLink RX5 39 arraycopyName, Cond.native arraycopyName, Cond.static arraycopyName, Cond.initialized "java/lang/System", Cond.fieldLink RX5 18 "NamedMoves$Store" "copies" "LNamedMoves$Copies;", Cond.fieldLink RX5 25 "NamedMoves$Store" "queue" "LNamedMoves$Queue;", Cond.fieldLink RX5 29 "NamedMoves$Store" "heavyBound" "I", Cond.fieldLink RX5 52 "NamedMoves$Store" "made" "I", Cond.fieldLink RX5 55 "NamedMoves$Store" "moving" "Z", Cond.fieldLink RX5 59 "NamedMoves$Store" "half" "I", Cond.fieldLink RX5 62 "NamedMoves$Store" "taken" "I", Cond.fieldLink RX5 65 "NamedMoves$Store" "notesLost" "I", Cond.fieldLink RX5 68 "NamedMoves$Store" "movesEnded" "I", Cond.methodLink RX5 45 yX0_become, Cond.instanceMethod yX0_become, Cond.selects RX0 yX0_become yX0_become, Cond.initialized RX0, Cond.code yX0_become cX0_become 2 none, Cond.fieldLink RX0 9 "NamedMoves$Copies" "things" "[I", Cond.methodLink RX0 33 arraycopyName, Cond.fieldLink RX0 15 "NamedMoves$Copies" "sizes" "[I", Cond.fieldLink RX0 18 "NamedMoves$Copies" "notes" "[I", Cond.fieldLink RX0 21 "NamedMoves$Copies" "marks" "[I", Cond.fieldLink RX0 24 "NamedMoves$Copies" "names" "[I"]
def wsX7_drop_r3 : List Cond := [Cond.methodLink RX5 49 yX3_become, Cond.instanceMethod yX3_become, Cond.selects RX3 yX3_become yX3_become, Cond.initialized RX3, Cond.code yX3_become cX3_become 2 none, Cond.fieldLink RX3 9 "NamedMoves$Queue" "addresses" "[I", Cond.methodLink RX3 15 arraycopyName, Cond.fieldLink RX3 21 "NamedMoves$Queue" "first" "I", Cond.fieldLink RX3 25 "NamedMoves$Queue" "end" "I", Cond.methodLink RX7 69 yX5_dropHook, Cond.instanceMethod yX5_dropHook, Cond.selects RX5 yX5_dropHook yX5_dropHook, Cond.code yX5_dropHook cX5_dropHook 3 (some .int), Cond.static yX7_isHook, Cond.initialized RX7, Cond.code yX7_isHook cX7_isHook 1 (some .boolean), Cond.methodLink RX7 55 yX7_recorded, Cond.instanceMethod yX7_recorded, Cond.selects RX7 yX7_recorded yX7_recorded, Cond.code yX7_recorded cX7_recorded 2 (some .int), Cond.methodLink RX7 186 yX2_keepDraft, Cond.instanceMethod yX2_keepDraft, Cond.selects RX2 yX2_keepDraft yX2_keepDraft, Cond.code yX2_keepDraft cX2_keepDraft 1 none]
def wsX7_drop : List Cond := .code yX7_drop cX7_drop 2 (some .int) :: ((wsX7_drop_r1 ++ (wsX7_drop_r2 ++ wsX7_drop_r3)) ++ wsX70 ++ wsX20 ++ wsX50 ++ wsX00 ++ wsX30)
def wsX7_begin_r1 : List Cond := [Cond.fieldLink RX7 22 "NamedMoves" "history" "LNamedMoves$History;", Cond.fieldLink RX7 12 "NamedMoves" "store" "LNamedMoves$Store;", Cond.methodLink RX7 47 yX2_draft, Cond.instanceMethod yX2_draft, Cond.selects RX2 yX2_draft yX2_draft, Cond.initialized RX2, Cond.code yX2_draft cX2_draft 3 none, Cond.fieldLink RX2 11 "NamedMoves$History" "states" "[LNamedMoves$Store;", Cond.methodLink RX2 31 yX2_slotOfDraft, Cond.instanceMethod yX2_slotOfDraft, Cond.selects RX2 yX2_slotOfDraft yX2_slotOfDraft, Cond.code yX2_slotOfDraft cX2_slotOfDraft 1 (some .int), Cond.fieldLink RX2 22 "NamedMoves$History" "first" "I", Cond.fieldLink RX2 18 "NamedMoves$History" "held" "I", Cond.methodLink RX2 25 yJ9_floorMod_7cf53, Cond.static yJ9_floorMod_7cf53, Cond.initialized RJ9, Cond.code yJ9_floorMod_7cf53 cJ9_floorMod_7cf53 3 (some .int), Cond.methodLink RX2 35 yX5_become, Cond.instanceMethod yX5_become, Cond.selects RX5 yX5_become yX5_become, Cond.initialized RX5, Cond.code yX5_become cX5_become 2 none, Cond.fieldLink RX5 9 "NamedMoves$Store" "hooks" "[I"]
def wsX7_begin_r2 : List Cond := [Cond.methodLink RX5 39 arraycopyName, Cond.native arraycopyName, Cond.static arraycopyName, Cond.initialized "java/lang/System", Cond.fieldLink RX5 18 "NamedMoves$Store" "copies" "LNamedMoves$Copies;", Cond.fieldLink RX5 25 "NamedMoves$Store" "queue" "LNamedMoves$Queue;", Cond.fieldLink RX5 29 "NamedMoves$Store" "heavyBound" "I", Cond.fieldLink RX5 52 "NamedMoves$Store" "made" "I", Cond.fieldLink RX5 55 "NamedMoves$Store" "moving" "Z", Cond.fieldLink RX5 59 "NamedMoves$Store" "half" "I", Cond.fieldLink RX5 62 "NamedMoves$Store" "taken" "I", Cond.fieldLink RX5 65 "NamedMoves$Store" "notesLost" "I", Cond.fieldLink RX5 68 "NamedMoves$Store" "movesEnded" "I", Cond.methodLink RX5 45 yX0_become, Cond.instanceMethod yX0_become, Cond.selects RX0 yX0_become yX0_become, Cond.initialized RX0, Cond.code yX0_become cX0_become 2 none, Cond.fieldLink RX0 9 "NamedMoves$Copies" "things" "[I", Cond.methodLink RX0 33 arraycopyName, Cond.fieldLink RX0 15 "NamedMoves$Copies" "sizes" "[I", Cond.fieldLink RX0 18 "NamedMoves$Copies" "notes" "[I", Cond.fieldLink RX0 21 "NamedMoves$Copies" "marks" "[I", Cond.fieldLink RX0 24 "NamedMoves$Copies" "names" "[I"]
def wsX7_begin_r3 : List Cond := [Cond.methodLink RX5 49 yX3_become, Cond.instanceMethod yX3_become, Cond.selects RX3 yX3_become yX3_become, Cond.initialized RX3, Cond.code yX3_become cX3_become 2 none, Cond.fieldLink RX3 9 "NamedMoves$Queue" "addresses" "[I", Cond.methodLink RX3 15 arraycopyName, Cond.fieldLink RX3 21 "NamedMoves$Queue" "first" "I", Cond.fieldLink RX3 25 "NamedMoves$Queue" "end" "I", Cond.methodLink RX7 72 yX5_beginMove, Cond.instanceMethod yX5_beginMove, Cond.selects RX5 yX5_beginMove yX5_beginMove, Cond.code yX5_beginMove cX5_beginMove 2 (some .int), Cond.methodLink RX5 140 yX3_clear, Cond.instanceMethod yX3_clear, Cond.selects RX3 yX3_clear yX3_clear, Cond.code yX3_clear cX3_clear 1 none, Cond.methodLink RX5 130 yX5_readIn, Cond.instanceMethod yX5_readIn, Cond.selects RX5 yX5_readIn yX5_readIn, Cond.code yX5_readIn cX5_readIn 5 (some .int), Cond.methodLink RX5 89 yX5_isInOldHalf, Cond.instanceMethod yX5_isInOldHalf, Cond.selects RX5 yX5_isInOldHalf yX5_isInOldHalf]
def wsX7_begin_r4 : List Cond := [Cond.code yX5_isInOldHalf cX5_isInOldHalf 3 (some .boolean), Cond.methodLink RX5 75 yX5_addressOfHalf, Cond.instanceMethod yX5_addressOfHalf, Cond.selects RX5 yX5_addressOfHalf yX5_addressOfHalf, Cond.code yX5_addressOfHalf cX5_addressOfHalf 2 (some .int), Cond.methodLink RX5 79 yX0_noteAt, Cond.instanceMethod yX0_noteAt, Cond.selects RX0 yX0_noteAt yX0_noteAt, Cond.code yX0_noteAt cX0_noteAt 2 (some .int), Cond.methodLink RX0 39 yX0_isAt, Cond.instanceMethod yX0_isAt, Cond.selects RX0 yX0_isAt yX0_isAt, Cond.code yX0_isAt cX0_isAt 2 (some .boolean), Cond.methodLink RX5 82 yX0_sizeAt, Cond.instanceMethod yX0_sizeAt, Cond.selects RX0 yX0_sizeAt yX0_sizeAt, Cond.code yX0_sizeAt cX0_sizeAt 2 (some .int), Cond.methodLink RX5 182 yX5_carryOver, Cond.instanceMethod yX5_carryOver, Cond.selects RX5 yX5_carryOver yX5_carryOver, Cond.code yX5_carryOver cX5_carryOver 4 (some .int), Cond.methodLink RX5 99 yX5_freeInHalf, Cond.instanceMethod yX5_freeInHalf, Cond.selects RX5 yX5_freeInHalf yX5_freeInHalf]
def wsX7_begin_r5 : List Cond := [Cond.code yX5_freeInHalf cX5_freeInHalf 1 (some .int), Cond.methodLink RX5 188 yX0_layAgain, Cond.instanceMethod yX0_layAgain, Cond.selects RX0 yX0_layAgain yX0_layAgain, Cond.code yX0_layAgain cX0_layAgain 3 none, Cond.methodLink RX5 185 yX3_join, Cond.instanceMethod yX3_join, Cond.selects RX3 yX3_join yX3_join, Cond.code yX3_join cX3_join 2 none, Cond.methodLink RX5 124 yX0_mark, Cond.instanceMethod yX0_mark, Cond.selects RX0 yX0_mark yX0_mark, Cond.code yX0_mark cX0_mark 2 (some .boolean), Cond.methodLink RX5 105 yX3_size, Cond.instanceMethod yX3_size, Cond.selects RX3 yX3_size yX3_size, Cond.code yX3_size cX3_size 1 (some .int), Cond.methodLink RX5 143 yX5_endMove, Cond.instanceMethod yX5_endMove, Cond.selects RX5 yX5_endMove yX5_endMove, Cond.code yX5_endMove cX5_endMove 1 none, Cond.methodLink RX5 152 yX0_emptyHalf, Cond.instanceMethod yX0_emptyHalf, Cond.selects RX0 yX0_emptyHalf yX0_emptyHalf]
def wsX7_begin_r6 : List Cond := [Cond.code yX0_emptyHalf cX0_emptyHalf 3 none, Cond.methodLink RX0 57 yX0_remove, Cond.instanceMethod yX0_remove, Cond.selects RX0 yX0_remove yX0_remove, Cond.code yX0_remove cX0_remove 2 none, Cond.methodLink RX5 156 yX0_sweepFloor, Cond.instanceMethod yX0_sweepFloor, Cond.selects RX0 yX0_sweepFloor yX0_sweepFloor, Cond.code yX0_sweepFloor cX0_sweepFloor 2 none, Cond.methodLink RX7 55 yX7_recorded, Cond.instanceMethod yX7_recorded, Cond.selects RX7 yX7_recorded yX7_recorded, Cond.initialized RX7, Cond.code yX7_recorded cX7_recorded 2 (some .int), Cond.methodLink RX7 186 yX2_keepDraft, Cond.instanceMethod yX2_keepDraft, Cond.selects RX2 yX2_keepDraft yX2_keepDraft, Cond.code yX2_keepDraft cX2_keepDraft 1 none]
def wsX7_begin : List Cond := .code yX7_begin cX7_begin 1 (some .int) :: ((wsX7_begin_r1 ++ (wsX7_begin_r2 ++ (wsX7_begin_r3 ++ (wsX7_begin_r4 ++ (wsX7_begin_r5 ++ wsX7_begin_r6))))) ++ wsX70 ++ wsX20 ++ wsX50 ++ wsX00 ++ wsX30)
def wsX7_carry_r1 : List Cond := [Cond.fieldLink RX7 22 "NamedMoves" "history" "LNamedMoves$History;", Cond.fieldLink RX7 12 "NamedMoves" "store" "LNamedMoves$Store;", Cond.methodLink RX7 47 yX2_draft, Cond.instanceMethod yX2_draft, Cond.selects RX2 yX2_draft yX2_draft, Cond.initialized RX2, Cond.code yX2_draft cX2_draft 3 none, Cond.fieldLink RX2 11 "NamedMoves$History" "states" "[LNamedMoves$Store;", Cond.methodLink RX2 31 yX2_slotOfDraft, Cond.instanceMethod yX2_slotOfDraft, Cond.selects RX2 yX2_slotOfDraft yX2_slotOfDraft, Cond.code yX2_slotOfDraft cX2_slotOfDraft 1 (some .int), Cond.fieldLink RX2 22 "NamedMoves$History" "first" "I", Cond.fieldLink RX2 18 "NamedMoves$History" "held" "I", Cond.methodLink RX2 25 yJ9_floorMod_7cf53, Cond.static yJ9_floorMod_7cf53, Cond.initialized RJ9, Cond.code yJ9_floorMod_7cf53 cJ9_floorMod_7cf53 3 (some .int), Cond.methodLink RX2 35 yX5_become, Cond.instanceMethod yX5_become, Cond.selects RX5 yX5_become yX5_become, Cond.initialized RX5, Cond.code yX5_become cX5_become 2 none, Cond.fieldLink RX5 9 "NamedMoves$Store" "hooks" "[I"]
def wsX7_carry_r2 : List Cond := [Cond.methodLink RX5 39 arraycopyName, Cond.native arraycopyName, Cond.static arraycopyName, Cond.initialized "java/lang/System", Cond.fieldLink RX5 18 "NamedMoves$Store" "copies" "LNamedMoves$Copies;", Cond.fieldLink RX5 25 "NamedMoves$Store" "queue" "LNamedMoves$Queue;", Cond.fieldLink RX5 29 "NamedMoves$Store" "heavyBound" "I", Cond.fieldLink RX5 52 "NamedMoves$Store" "made" "I", Cond.fieldLink RX5 55 "NamedMoves$Store" "moving" "Z", Cond.fieldLink RX5 59 "NamedMoves$Store" "half" "I", Cond.fieldLink RX5 62 "NamedMoves$Store" "taken" "I", Cond.fieldLink RX5 65 "NamedMoves$Store" "notesLost" "I", Cond.fieldLink RX5 68 "NamedMoves$Store" "movesEnded" "I", Cond.methodLink RX5 45 yX0_become, Cond.instanceMethod yX0_become, Cond.selects RX0 yX0_become yX0_become, Cond.initialized RX0, Cond.code yX0_become cX0_become 2 none, Cond.fieldLink RX0 9 "NamedMoves$Copies" "things" "[I", Cond.methodLink RX0 33 arraycopyName, Cond.fieldLink RX0 15 "NamedMoves$Copies" "sizes" "[I", Cond.fieldLink RX0 18 "NamedMoves$Copies" "notes" "[I", Cond.fieldLink RX0 21 "NamedMoves$Copies" "marks" "[I", Cond.fieldLink RX0 24 "NamedMoves$Copies" "names" "[I"]
def wsX7_carry_r3 : List Cond := [Cond.methodLink RX5 49 yX3_become, Cond.instanceMethod yX3_become, Cond.selects RX3 yX3_become yX3_become, Cond.initialized RX3, Cond.code yX3_become cX3_become 2 none, Cond.fieldLink RX3 9 "NamedMoves$Queue" "addresses" "[I", Cond.methodLink RX3 15 arraycopyName, Cond.fieldLink RX3 21 "NamedMoves$Queue" "first" "I", Cond.fieldLink RX3 25 "NamedMoves$Queue" "end" "I", Cond.methodLink RX7 76 yX5_carrySteps, Cond.instanceMethod yX5_carrySteps, Cond.selects RX5 yX5_carrySteps yX5_carrySteps, Cond.code yX5_carrySteps cX5_carrySteps 2 (some .int), Cond.methodLink RX5 146 yX5_stepsUpTo, Cond.instanceMethod yX5_stepsUpTo, Cond.selects RX5 yX5_stepsUpTo yX5_stepsUpTo, Cond.code yX5_stepsUpTo cX5_stepsUpTo 4 (some .int), Cond.methodLink RX5 149 yX3_takeFirst, Cond.instanceMethod yX3_takeFirst, Cond.selects RX3 yX3_takeFirst yX3_takeFirst, Cond.code yX3_takeFirst cX3_takeFirst 1 (some .int), Cond.methodLink RX5 130 yX5_readIn, Cond.instanceMethod yX5_readIn, Cond.selects RX5 yX5_readIn yX5_readIn]
def wsX7_carry_r4 : List Cond := [Cond.code yX5_readIn cX5_readIn 5 (some .int), Cond.methodLink RX5 89 yX5_isInOldHalf, Cond.instanceMethod yX5_isInOldHalf, Cond.selects RX5 yX5_isInOldHalf yX5_isInOldHalf, Cond.code yX5_isInOldHalf cX5_isInOldHalf 3 (some .boolean), Cond.methodLink RX5 75 yX5_addressOfHalf, Cond.instanceMethod yX5_addressOfHalf, Cond.selects RX5 yX5_addressOfHalf yX5_addressOfHalf, Cond.code yX5_addressOfHalf cX5_addressOfHalf 2 (some .int), Cond.methodLink RX5 79 yX0_noteAt, Cond.instanceMethod yX0_noteAt, Cond.selects RX0 yX0_noteAt yX0_noteAt, Cond.code yX0_noteAt cX0_noteAt 2 (some .int), Cond.methodLink RX0 39 yX0_isAt, Cond.instanceMethod yX0_isAt, Cond.selects RX0 yX0_isAt yX0_isAt, Cond.code yX0_isAt cX0_isAt 2 (some .boolean), Cond.methodLink RX5 82 yX0_sizeAt, Cond.instanceMethod yX0_sizeAt, Cond.selects RX0 yX0_sizeAt yX0_sizeAt, Cond.code yX0_sizeAt cX0_sizeAt 2 (some .int), Cond.methodLink RX5 182 yX5_carryOver, Cond.instanceMethod yX5_carryOver, Cond.selects RX5 yX5_carryOver yX5_carryOver]
def wsX7_carry_r5 : List Cond := [Cond.code yX5_carryOver cX5_carryOver 4 (some .int), Cond.methodLink RX5 99 yX5_freeInHalf, Cond.instanceMethod yX5_freeInHalf, Cond.selects RX5 yX5_freeInHalf yX5_freeInHalf, Cond.code yX5_freeInHalf cX5_freeInHalf 1 (some .int), Cond.methodLink RX5 188 yX0_layAgain, Cond.instanceMethod yX0_layAgain, Cond.selects RX0 yX0_layAgain yX0_layAgain, Cond.code yX0_layAgain cX0_layAgain 3 none, Cond.methodLink RX5 185 yX3_join, Cond.instanceMethod yX3_join, Cond.selects RX3 yX3_join yX3_join, Cond.code yX3_join cX3_join 2 none, Cond.methodLink RX5 124 yX0_mark, Cond.instanceMethod yX0_mark, Cond.selects RX0 yX0_mark yX0_mark, Cond.code yX0_mark cX0_mark 2 (some .boolean), Cond.methodLink RX5 105 yX3_size, Cond.instanceMethod yX3_size, Cond.selects RX3 yX3_size yX3_size, Cond.code yX3_size cX3_size 1 (some .int), Cond.methodLink RX5 143 yX5_endMove, Cond.instanceMethod yX5_endMove, Cond.selects RX5 yX5_endMove yX5_endMove]
def wsX7_carry_r6 : List Cond := [Cond.code yX5_endMove cX5_endMove 1 none, Cond.methodLink RX5 152 yX0_emptyHalf, Cond.instanceMethod yX0_emptyHalf, Cond.selects RX0 yX0_emptyHalf yX0_emptyHalf, Cond.code yX0_emptyHalf cX0_emptyHalf 3 none, Cond.methodLink RX0 57 yX0_remove, Cond.instanceMethod yX0_remove, Cond.selects RX0 yX0_remove yX0_remove, Cond.code yX0_remove cX0_remove 2 none, Cond.methodLink RX5 156 yX0_sweepFloor, Cond.instanceMethod yX0_sweepFloor, Cond.selects RX0 yX0_sweepFloor yX0_sweepFloor, Cond.code yX0_sweepFloor cX0_sweepFloor 2 none, Cond.methodLink RX7 55 yX7_recorded, Cond.instanceMethod yX7_recorded, Cond.selects RX7 yX7_recorded yX7_recorded, Cond.initialized RX7, Cond.code yX7_recorded cX7_recorded 2 (some .int), Cond.methodLink RX7 186 yX2_keepDraft, Cond.instanceMethod yX2_keepDraft, Cond.selects RX2 yX2_keepDraft yX2_keepDraft, Cond.code yX2_keepDraft cX2_keepDraft 1 none]
def wsX7_carry : List Cond := .code yX7_carry cX7_carry 2 (some .int) :: ((wsX7_carry_r1 ++ (wsX7_carry_r2 ++ (wsX7_carry_r3 ++ (wsX7_carry_r4 ++ (wsX7_carry_r5 ++ wsX7_carry_r6))))) ++ wsX70 ++ wsX20 ++ wsX50 ++ wsX00 ++ wsX30)
def wsX7_lose_r1 : List Cond := [Cond.fieldLink RX7 22 "NamedMoves" "history" "LNamedMoves$History;", Cond.fieldLink RX7 12 "NamedMoves" "store" "LNamedMoves$Store;", Cond.methodLink RX7 47 yX2_draft, Cond.instanceMethod yX2_draft, Cond.selects RX2 yX2_draft yX2_draft, Cond.initialized RX2, Cond.code yX2_draft cX2_draft 3 none, Cond.fieldLink RX2 11 "NamedMoves$History" "states" "[LNamedMoves$Store;", Cond.methodLink RX2 31 yX2_slotOfDraft, Cond.instanceMethod yX2_slotOfDraft, Cond.selects RX2 yX2_slotOfDraft yX2_slotOfDraft, Cond.code yX2_slotOfDraft cX2_slotOfDraft 1 (some .int), Cond.fieldLink RX2 22 "NamedMoves$History" "first" "I", Cond.fieldLink RX2 18 "NamedMoves$History" "held" "I", Cond.methodLink RX2 25 yJ9_floorMod_7cf53, Cond.static yJ9_floorMod_7cf53, Cond.initialized RJ9, Cond.code yJ9_floorMod_7cf53 cJ9_floorMod_7cf53 3 (some .int), Cond.methodLink RX2 35 yX5_become, Cond.instanceMethod yX5_become, Cond.selects RX5 yX5_become yX5_become, Cond.initialized RX5, Cond.code yX5_become cX5_become 2 none, Cond.fieldLink RX5 9 "NamedMoves$Store" "hooks" "[I"]
def wsX7_lose_r2 : List Cond := [Cond.methodLink RX5 39 arraycopyName, Cond.native arraycopyName, Cond.static arraycopyName, Cond.initialized "java/lang/System", Cond.fieldLink RX5 18 "NamedMoves$Store" "copies" "LNamedMoves$Copies;", Cond.fieldLink RX5 25 "NamedMoves$Store" "queue" "LNamedMoves$Queue;", Cond.fieldLink RX5 29 "NamedMoves$Store" "heavyBound" "I", Cond.fieldLink RX5 52 "NamedMoves$Store" "made" "I", Cond.fieldLink RX5 55 "NamedMoves$Store" "moving" "Z", Cond.fieldLink RX5 59 "NamedMoves$Store" "half" "I", Cond.fieldLink RX5 62 "NamedMoves$Store" "taken" "I", Cond.fieldLink RX5 65 "NamedMoves$Store" "notesLost" "I", Cond.fieldLink RX5 68 "NamedMoves$Store" "movesEnded" "I", Cond.methodLink RX5 45 yX0_become, Cond.instanceMethod yX0_become, Cond.selects RX0 yX0_become yX0_become, Cond.initialized RX0, Cond.code yX0_become cX0_become 2 none, Cond.fieldLink RX0 9 "NamedMoves$Copies" "things" "[I", Cond.methodLink RX0 33 arraycopyName, Cond.fieldLink RX0 15 "NamedMoves$Copies" "sizes" "[I", Cond.fieldLink RX0 18 "NamedMoves$Copies" "notes" "[I", Cond.fieldLink RX0 21 "NamedMoves$Copies" "marks" "[I", Cond.fieldLink RX0 24 "NamedMoves$Copies" "names" "[I"]
def wsX7_lose_r3 : List Cond := [Cond.methodLink RX5 49 yX3_become, Cond.instanceMethod yX3_become, Cond.selects RX3 yX3_become yX3_become, Cond.initialized RX3, Cond.code yX3_become cX3_become 2 none, Cond.fieldLink RX3 9 "NamedMoves$Queue" "addresses" "[I", Cond.methodLink RX3 15 arraycopyName, Cond.fieldLink RX3 21 "NamedMoves$Queue" "first" "I", Cond.fieldLink RX3 25 "NamedMoves$Queue" "end" "I", Cond.methodLink RX7 79 yX5_loseNote, Cond.instanceMethod yX5_loseNote, Cond.selects RX5 yX5_loseNote yX5_loseNote, Cond.code yX5_loseNote cX5_loseNote 3 (some .int), Cond.methodLink RX5 159 yX5_isThing, Cond.instanceMethod yX5_isThing, Cond.selects RX5 yX5_isThing yX5_isThing, Cond.code yX5_isThing cX5_isThing 2 (some .boolean), Cond.methodLink RX5 162 yX5_firstWithNote, Cond.instanceMethod yX5_firstWithNote, Cond.selects RX5 yX5_firstWithNote yX5_firstWithNote, Cond.code yX5_firstWithNote cX5_firstWithNote 3 (some .int), Cond.methodLink RX5 85 yX0_isOf, Cond.instanceMethod yX0_isOf, Cond.selects RX0 yX0_isOf yX0_isOf]
def wsX7_lose_r4 : List Cond := [Cond.code yX0_isOf cX0_isOf 3 (some .boolean), Cond.methodLink RX0 39 yX0_isAt, Cond.instanceMethod yX0_isAt, Cond.selects RX0 yX0_isAt yX0_isAt, Cond.code yX0_isAt cX0_isAt 2 (some .boolean), Cond.methodLink RX5 79 yX0_noteAt, Cond.instanceMethod yX0_noteAt, Cond.selects RX0 yX0_noteAt yX0_noteAt, Cond.code yX0_noteAt cX0_noteAt 2 (some .int), Cond.methodLink RX5 99 yX5_freeInHalf, Cond.instanceMethod yX5_freeInHalf, Cond.selects RX5 yX5_freeInHalf yX5_freeInHalf, Cond.code yX5_freeInHalf cX5_freeInHalf 1 (some .int), Cond.methodLink RX5 108 yX5_roomKept, Cond.instanceMethod yX5_roomKept, Cond.selects RX5 yX5_roomKept yX5_roomKept, Cond.code yX5_roomKept cX5_roomKept 4 (some .int), Cond.methodLink RX5 75 yX5_addressOfHalf, Cond.instanceMethod yX5_addressOfHalf, Cond.selects RX5 yX5_addressOfHalf yX5_addressOfHalf, Cond.code yX5_addressOfHalf cX5_addressOfHalf 2 (some .int), Cond.methodLink RX5 82 yX0_sizeAt, Cond.instanceMethod yX0_sizeAt, Cond.selects RX0 yX0_sizeAt yX0_sizeAt]
def wsX7_lose_r5 : List Cond := [Cond.code yX0_sizeAt cX0_sizeAt 2 (some .int), Cond.methodLink RX5 165 yX0_loseNoteAt, Cond.instanceMethod yX0_loseNoteAt, Cond.selects RX0 yX0_loseNoteAt yX0_loseNoteAt, Cond.code yX0_loseNoteAt cX0_loseNoteAt 2 none, Cond.methodLink RX7 55 yX7_recorded, Cond.instanceMethod yX7_recorded, Cond.selects RX7 yX7_recorded yX7_recorded, Cond.initialized RX7, Cond.code yX7_recorded cX7_recorded 2 (some .int), Cond.methodLink RX7 186 yX2_keepDraft, Cond.instanceMethod yX2_keepDraft, Cond.selects RX2 yX2_keepDraft yX2_keepDraft, Cond.code yX2_keepDraft cX2_keepDraft 1 none]
def wsX7_lose : List Cond := .code yX7_lose cX7_lose 2 (some .int) :: ((wsX7_lose_r1 ++ (wsX7_lose_r2 ++ (wsX7_lose_r3 ++ (wsX7_lose_r4 ++ wsX7_lose_r5)))) ++ wsX70 ++ wsX20 ++ wsX50 ++ wsX00 ++ wsX30)
def wsX7_mend_r1 : List Cond := [Cond.fieldLink RX7 22 "NamedMoves" "history" "LNamedMoves$History;", Cond.fieldLink RX7 12 "NamedMoves" "store" "LNamedMoves$Store;", Cond.methodLink RX7 47 yX2_draft, Cond.instanceMethod yX2_draft, Cond.selects RX2 yX2_draft yX2_draft, Cond.initialized RX2, Cond.code yX2_draft cX2_draft 3 none, Cond.fieldLink RX2 11 "NamedMoves$History" "states" "[LNamedMoves$Store;", Cond.methodLink RX2 31 yX2_slotOfDraft, Cond.instanceMethod yX2_slotOfDraft, Cond.selects RX2 yX2_slotOfDraft yX2_slotOfDraft, Cond.code yX2_slotOfDraft cX2_slotOfDraft 1 (some .int), Cond.fieldLink RX2 22 "NamedMoves$History" "first" "I", Cond.fieldLink RX2 18 "NamedMoves$History" "held" "I", Cond.methodLink RX2 25 yJ9_floorMod_7cf53, Cond.static yJ9_floorMod_7cf53, Cond.initialized RJ9, Cond.code yJ9_floorMod_7cf53 cJ9_floorMod_7cf53 3 (some .int), Cond.methodLink RX2 35 yX5_become, Cond.instanceMethod yX5_become, Cond.selects RX5 yX5_become yX5_become, Cond.initialized RX5, Cond.code yX5_become cX5_become 2 none, Cond.fieldLink RX5 9 "NamedMoves$Store" "hooks" "[I"]
def wsX7_mend_r2 : List Cond := [Cond.methodLink RX5 39 arraycopyName, Cond.native arraycopyName, Cond.static arraycopyName, Cond.initialized "java/lang/System", Cond.fieldLink RX5 18 "NamedMoves$Store" "copies" "LNamedMoves$Copies;", Cond.fieldLink RX5 25 "NamedMoves$Store" "queue" "LNamedMoves$Queue;", Cond.fieldLink RX5 29 "NamedMoves$Store" "heavyBound" "I", Cond.fieldLink RX5 52 "NamedMoves$Store" "made" "I", Cond.fieldLink RX5 55 "NamedMoves$Store" "moving" "Z", Cond.fieldLink RX5 59 "NamedMoves$Store" "half" "I", Cond.fieldLink RX5 62 "NamedMoves$Store" "taken" "I", Cond.fieldLink RX5 65 "NamedMoves$Store" "notesLost" "I", Cond.fieldLink RX5 68 "NamedMoves$Store" "movesEnded" "I", Cond.methodLink RX5 45 yX0_become, Cond.instanceMethod yX0_become, Cond.selects RX0 yX0_become yX0_become, Cond.initialized RX0, Cond.code yX0_become cX0_become 2 none, Cond.fieldLink RX0 9 "NamedMoves$Copies" "things" "[I", Cond.methodLink RX0 33 arraycopyName, Cond.fieldLink RX0 15 "NamedMoves$Copies" "sizes" "[I", Cond.fieldLink RX0 18 "NamedMoves$Copies" "notes" "[I", Cond.fieldLink RX0 21 "NamedMoves$Copies" "marks" "[I", Cond.fieldLink RX0 24 "NamedMoves$Copies" "names" "[I"]
def wsX7_mend_r3 : List Cond := [Cond.methodLink RX5 49 yX3_become, Cond.instanceMethod yX3_become, Cond.selects RX3 yX3_become yX3_become, Cond.initialized RX3, Cond.code yX3_become cX3_become 2 none, Cond.fieldLink RX3 9 "NamedMoves$Queue" "addresses" "[I", Cond.methodLink RX3 15 arraycopyName, Cond.fieldLink RX3 21 "NamedMoves$Queue" "first" "I", Cond.fieldLink RX3 25 "NamedMoves$Queue" "end" "I", Cond.methodLink RX7 82 yX5_mendTwins, Cond.instanceMethod yX5_mendTwins, Cond.selects RX5 yX5_mendTwins yX5_mendTwins, Cond.code yX5_mendTwins cX5_mendTwins 5 (some .int), Cond.methodLink RX5 159 yX5_isThing, Cond.instanceMethod yX5_isThing, Cond.selects RX5 yX5_isThing yX5_isThing, Cond.code yX5_isThing cX5_isThing 2 (some .boolean), Cond.methodLink RX5 92 yX5_hasTwins, Cond.instanceMethod yX5_hasTwins, Cond.selects RX5 yX5_hasTwins yX5_hasTwins, Cond.code yX5_hasTwins cX5_hasTwins 4 (some .boolean), Cond.methodLink RX5 85 yX0_isOf, Cond.instanceMethod yX0_isOf, Cond.selects RX0 yX0_isOf yX0_isOf]
def wsX7_mend_r4 : List Cond := [Cond.code yX0_isOf cX0_isOf 3 (some .boolean), Cond.methodLink RX0 39 yX0_isAt, Cond.instanceMethod yX0_isAt, Cond.selects RX0 yX0_isAt yX0_isAt, Cond.code yX0_isAt cX0_isAt 2 (some .boolean), Cond.methodLink RX5 89 yX5_isInOldHalf, Cond.instanceMethod yX5_isInOldHalf, Cond.selects RX5 yX5_isInOldHalf yX5_isInOldHalf, Cond.code yX5_isInOldHalf cX5_isInOldHalf 3 (some .boolean), Cond.methodLink RX5 75 yX5_addressOfHalf, Cond.instanceMethod yX5_addressOfHalf, Cond.selects RX5 yX5_addressOfHalf yX5_addressOfHalf, Cond.code yX5_addressOfHalf cX5_addressOfHalf 2 (some .int), Cond.methodLink RX5 168 yX0_addressOf, Cond.instanceMethod yX0_addressOf, Cond.selects RX0 yX0_addressOf yX0_addressOf, Cond.code yX0_addressOf cX0_addressOf 5 (some .int), Cond.methodLink RX0 46 yX0_isOf, Cond.methodLink RX5 172 yX0_remove, Cond.instanceMethod yX0_remove, Cond.selects RX0 yX0_remove yX0_remove, Cond.code yX0_remove cX0_remove 2 none, Cond.methodLink RX5 175 yX0_replaceNames, Cond.instanceMethod yX0_replaceNames]
def wsX7_mend_r5 : List Cond := [Cond.selects RX0 yX0_replaceNames yX0_replaceNames, Cond.code yX0_replaceNames cX0_replaceNames 4 none, Cond.methodLink RX5 179 yX5_replaceHooks, Cond.instanceMethod yX5_replaceHooks, Cond.selects RX5 yX5_replaceHooks yX5_replaceHooks, Cond.code yX5_replaceHooks cX5_replaceHooks 4 none, Cond.methodLink RX7 55 yX7_recorded, Cond.instanceMethod yX7_recorded, Cond.selects RX7 yX7_recorded yX7_recorded, Cond.initialized RX7, Cond.code yX7_recorded cX7_recorded 2 (some .int), Cond.methodLink RX7 186 yX2_keepDraft, Cond.instanceMethod yX2_keepDraft, Cond.selects RX2 yX2_keepDraft yX2_keepDraft, Cond.code yX2_keepDraft cX2_keepDraft 1 none]
def wsX7_mend : List Cond := .code yX7_mend cX7_mend 2 (some .int) :: ((wsX7_mend_r1 ++ (wsX7_mend_r2 ++ (wsX7_mend_r3 ++ (wsX7_mend_r4 ++ wsX7_mend_r5)))) ++ wsX70 ++ wsX20 ++ wsX50 ++ wsX00 ++ wsX30)
def wsX7_undo_r1 : List Cond := [Cond.fieldLink RX7 22 "NamedMoves" "history" "LNamedMoves$History;", Cond.fieldLink RX7 12 "NamedMoves" "store" "LNamedMoves$Store;", Cond.methodLink RX7 85 yX2_size, Cond.instanceMethod yX2_size, Cond.selects RX2 yX2_size yX2_size, Cond.initialized RX2, Cond.code yX2_size cX2_size 1 (some .int), Cond.fieldLink RX2 18 "NamedMoves$History" "held" "I", Cond.methodLink RX7 88 yX2_restoreLatest, Cond.instanceMethod yX2_restoreLatest, Cond.selects RX2 yX2_restoreLatest yX2_restoreLatest, Cond.code yX2_restoreLatest cX2_restoreLatest 2 none, Cond.methodLink RX2 39 yX2_restoreDraft, Cond.instanceMethod yX2_restoreDraft, Cond.selects RX2 yX2_restoreDraft yX2_restoreDraft, Cond.code yX2_restoreDraft cX2_restoreDraft 3 none, Cond.fieldLink RX2 11 "NamedMoves$History" "states" "[LNamedMoves$Store;", Cond.methodLink RX2 31 yX2_slotOfDraft, Cond.instanceMethod yX2_slotOfDraft, Cond.selects RX2 yX2_slotOfDraft yX2_slotOfDraft, Cond.code yX2_slotOfDraft cX2_slotOfDraft 1 (some .int), Cond.fieldLink RX2 22 "NamedMoves$History" "first" "I", Cond.methodLink RX2 25 yJ9_floorMod_7cf53, Cond.static yJ9_floorMod_7cf53]
def wsX7_undo_r2 : List Cond := [Cond.initialized RJ9, Cond.code yJ9_floorMod_7cf53 cJ9_floorMod_7cf53 3 (some .int), Cond.methodLink RX2 35 yX5_become, Cond.instanceMethod yX5_become, Cond.selects RX5 yX5_become yX5_become, Cond.initialized RX5, Cond.code yX5_become cX5_become 2 none, Cond.fieldLink RX5 9 "NamedMoves$Store" "hooks" "[I", Cond.methodLink RX5 39 arraycopyName, Cond.native arraycopyName, Cond.static arraycopyName, Cond.initialized "java/lang/System", Cond.fieldLink RX5 18 "NamedMoves$Store" "copies" "LNamedMoves$Copies;", Cond.fieldLink RX5 25 "NamedMoves$Store" "queue" "LNamedMoves$Queue;", Cond.fieldLink RX5 29 "NamedMoves$Store" "heavyBound" "I", Cond.fieldLink RX5 52 "NamedMoves$Store" "made" "I", Cond.fieldLink RX5 55 "NamedMoves$Store" "moving" "Z", Cond.fieldLink RX5 59 "NamedMoves$Store" "half" "I", Cond.fieldLink RX5 62 "NamedMoves$Store" "taken" "I", Cond.fieldLink RX5 65 "NamedMoves$Store" "notesLost" "I", Cond.fieldLink RX5 68 "NamedMoves$Store" "movesEnded" "I", Cond.methodLink RX5 45 yX0_become, Cond.instanceMethod yX0_become, Cond.selects RX0 yX0_become yX0_become]
def wsX7_undo_r3 : List Cond := [Cond.initialized RX0, Cond.code yX0_become cX0_become 2 none, Cond.fieldLink RX0 9 "NamedMoves$Copies" "things" "[I", Cond.methodLink RX0 33 arraycopyName, Cond.fieldLink RX0 15 "NamedMoves$Copies" "sizes" "[I", Cond.fieldLink RX0 18 "NamedMoves$Copies" "notes" "[I", Cond.fieldLink RX0 21 "NamedMoves$Copies" "marks" "[I", Cond.fieldLink RX0 24 "NamedMoves$Copies" "names" "[I", Cond.methodLink RX5 49 yX3_become, Cond.instanceMethod yX3_become, Cond.selects RX3 yX3_become yX3_become, Cond.initialized RX3, Cond.code yX3_become cX3_become 2 none, Cond.fieldLink RX3 9 "NamedMoves$Queue" "addresses" "[I", Cond.methodLink RX3 15 arraycopyName, Cond.fieldLink RX3 21 "NamedMoves$Queue" "first" "I", Cond.fieldLink RX3 25 "NamedMoves$Queue" "end" "I"]
def wsX7_undo : List Cond := .code yX7_undo cX7_undo 1 (some .int) :: ((wsX7_undo_r1 ++ (wsX7_undo_r2 ++ wsX7_undo_r3)) ++ wsX70 ++ wsX20 ++ wsX50 ++ wsX00 ++ wsX30)
def wsX7_append : List Cond := .code yX7_append cX7_append 2 (some .int) :: ([.fieldLink RX7 36 "NamedMoves" "text" "LNamedMoves$Text;", .methodLink RX7 91 yX6_addCharacter, .instanceMethod yX6_addCharacter, .selects RX6 yX6_addCharacter yX6_addCharacter, .initialized RX6, .code yX6_addCharacter cX6_addCharacter 2 (some .int), .fieldLink RX6 15 "NamedMoves$Text" "length" "I", .fieldLink RX6 9 "NamedMoves$Text" "characters" "[I"] ++ wsX70 ++ wsX60)
def wsX7_clearText : List Cond := .code yX7_clearText cX7_clearText 2 (some .int) :: ([.fieldLink RX7 36 "NamedMoves" "text" "LNamedMoves$Text;", .methodLink RX7 94 yX6_size, .instanceMethod yX6_size, .selects RX6 yX6_size yX6_size, .initialized RX6, .code yX6_size cX6_size 1 (some .int), .fieldLink RX6 15 "NamedMoves$Text" "length" "I", .methodLink RX7 95 yX6_empty, .instanceMethod yX6_empty, .selects RX6 yX6_empty yX6_empty, .code yX6_empty cX6_empty 1 none] ++ wsX70 ++ wsX60)
def wsX7_textFailed_r1 : List Cond := [Cond.fieldLink RX7 22 "NamedMoves" "history" "LNamedMoves$History;", Cond.fieldLink RX7 12 "NamedMoves" "store" "LNamedMoves$Store;", Cond.methodLink RX7 189 yX2_restoreDraft, Cond.instanceMethod yX2_restoreDraft, Cond.selects RX2 yX2_restoreDraft yX2_restoreDraft, Cond.initialized RX2, Cond.code yX2_restoreDraft cX2_restoreDraft 3 none, Cond.fieldLink RX2 11 "NamedMoves$History" "states" "[LNamedMoves$Store;", Cond.methodLink RX2 31 yX2_slotOfDraft, Cond.instanceMethod yX2_slotOfDraft, Cond.selects RX2 yX2_slotOfDraft yX2_slotOfDraft, Cond.code yX2_slotOfDraft cX2_slotOfDraft 1 (some .int), Cond.fieldLink RX2 22 "NamedMoves$History" "first" "I", Cond.fieldLink RX2 18 "NamedMoves$History" "held" "I", Cond.methodLink RX2 25 yJ9_floorMod_7cf53, Cond.static yJ9_floorMod_7cf53, Cond.initialized RJ9, Cond.code yJ9_floorMod_7cf53 cJ9_floorMod_7cf53 3 (some .int), Cond.methodLink RX2 35 yX5_become, Cond.instanceMethod yX5_become, Cond.selects RX5 yX5_become yX5_become, Cond.initialized RX5, Cond.code yX5_become cX5_become 2 none, Cond.fieldLink RX5 9 "NamedMoves$Store" "hooks" "[I"]
def wsX7_textFailed_r2 : List Cond := [Cond.methodLink RX5 39 arraycopyName, Cond.native arraycopyName, Cond.static arraycopyName, Cond.initialized "java/lang/System", Cond.fieldLink RX5 18 "NamedMoves$Store" "copies" "LNamedMoves$Copies;", Cond.fieldLink RX5 25 "NamedMoves$Store" "queue" "LNamedMoves$Queue;", Cond.fieldLink RX5 29 "NamedMoves$Store" "heavyBound" "I", Cond.fieldLink RX5 52 "NamedMoves$Store" "made" "I", Cond.fieldLink RX5 55 "NamedMoves$Store" "moving" "Z", Cond.fieldLink RX5 59 "NamedMoves$Store" "half" "I", Cond.fieldLink RX5 62 "NamedMoves$Store" "taken" "I", Cond.fieldLink RX5 65 "NamedMoves$Store" "notesLost" "I", Cond.fieldLink RX5 68 "NamedMoves$Store" "movesEnded" "I", Cond.methodLink RX5 45 yX0_become, Cond.instanceMethod yX0_become, Cond.selects RX0 yX0_become yX0_become, Cond.initialized RX0, Cond.code yX0_become cX0_become 2 none, Cond.fieldLink RX0 9 "NamedMoves$Copies" "things" "[I", Cond.methodLink RX0 33 arraycopyName, Cond.fieldLink RX0 15 "NamedMoves$Copies" "sizes" "[I", Cond.fieldLink RX0 18 "NamedMoves$Copies" "notes" "[I", Cond.fieldLink RX0 21 "NamedMoves$Copies" "marks" "[I", Cond.fieldLink RX0 24 "NamedMoves$Copies" "names" "[I"]
def wsX7_textFailed_r3 : List Cond := [Cond.methodLink RX5 49 yX3_become, Cond.instanceMethod yX3_become, Cond.selects RX3 yX3_become yX3_become, Cond.initialized RX3, Cond.code yX3_become cX3_become 2 none, Cond.fieldLink RX3 9 "NamedMoves$Queue" "addresses" "[I", Cond.methodLink RX3 15 arraycopyName, Cond.fieldLink RX3 21 "NamedMoves$Queue" "first" "I", Cond.fieldLink RX3 25 "NamedMoves$Queue" "end" "I"]
def wsX7_textFailed : List Cond := .code yX7_textFailed cX7_textFailed 2 (some .int) :: ((wsX7_textFailed_r1 ++ (wsX7_textFailed_r2 ++ wsX7_textFailed_r3)) ++ wsX70 ++ wsX20 ++ wsX50 ++ wsX00 ++ wsX30)
def wsX7_run_r1 : List Cond := [Cond.fieldLink RX7 22 "NamedMoves" "history" "LNamedMoves$History;", Cond.fieldLink RX7 12 "NamedMoves" "store" "LNamedMoves$Store;", Cond.fieldLink RX7 36 "NamedMoves" "text" "LNamedMoves$Text;", Cond.fieldLink RX7 43 "NamedMoves" "errand" "LNamedMoves$Errand;", Cond.methodLink RX7 47 yX2_draft, Cond.instanceMethod yX2_draft, Cond.selects RX2 yX2_draft yX2_draft, Cond.initialized RX2, Cond.code yX2_draft cX2_draft 3 none, Cond.fieldLink RX2 11 "NamedMoves$History" "states" "[LNamedMoves$Store;", Cond.methodLink RX2 31 yX2_slotOfDraft, Cond.instanceMethod yX2_slotOfDraft, Cond.selects RX2 yX2_slotOfDraft yX2_slotOfDraft, Cond.code yX2_slotOfDraft cX2_slotOfDraft 1 (some .int), Cond.fieldLink RX2 22 "NamedMoves$History" "first" "I", Cond.fieldLink RX2 18 "NamedMoves$History" "held" "I", Cond.methodLink RX2 25 yJ9_floorMod_7cf53, Cond.static yJ9_floorMod_7cf53, Cond.initialized RJ9, Cond.code yJ9_floorMod_7cf53 cJ9_floorMod_7cf53 3 (some .int), Cond.methodLink RX2 35 yX5_become, Cond.instanceMethod yX5_become, Cond.selects RX5 yX5_become yX5_become, Cond.initialized RX5]
def wsX7_run_r2 : List Cond := [Cond.code yX5_become cX5_become 2 none, Cond.fieldLink RX5 9 "NamedMoves$Store" "hooks" "[I", Cond.methodLink RX5 39 arraycopyName, Cond.native arraycopyName, Cond.static arraycopyName, Cond.initialized "java/lang/System", Cond.fieldLink RX5 18 "NamedMoves$Store" "copies" "LNamedMoves$Copies;", Cond.fieldLink RX5 25 "NamedMoves$Store" "queue" "LNamedMoves$Queue;", Cond.fieldLink RX5 29 "NamedMoves$Store" "heavyBound" "I", Cond.fieldLink RX5 52 "NamedMoves$Store" "made" "I", Cond.fieldLink RX5 55 "NamedMoves$Store" "moving" "Z", Cond.fieldLink RX5 59 "NamedMoves$Store" "half" "I", Cond.fieldLink RX5 62 "NamedMoves$Store" "taken" "I", Cond.fieldLink RX5 65 "NamedMoves$Store" "notesLost" "I", Cond.fieldLink RX5 68 "NamedMoves$Store" "movesEnded" "I", Cond.methodLink RX5 45 yX0_become, Cond.instanceMethod yX0_become, Cond.selects RX0 yX0_become yX0_become, Cond.initialized RX0, Cond.code yX0_become cX0_become 2 none, Cond.fieldLink RX0 9 "NamedMoves$Copies" "things" "[I", Cond.methodLink RX0 33 arraycopyName, Cond.fieldLink RX0 15 "NamedMoves$Copies" "sizes" "[I", Cond.fieldLink RX0 18 "NamedMoves$Copies" "notes" "[I"]
def wsX7_run_r3 : List Cond := [Cond.fieldLink RX0 21 "NamedMoves$Copies" "marks" "[I", Cond.fieldLink RX0 24 "NamedMoves$Copies" "names" "[I", Cond.methodLink RX5 49 yX3_become, Cond.instanceMethod yX3_become, Cond.selects RX3 yX3_become yX3_become, Cond.initialized RX3, Cond.code yX3_become cX3_become 2 none, Cond.fieldLink RX3 9 "NamedMoves$Queue" "addresses" "[I", Cond.methodLink RX3 15 arraycopyName, Cond.fieldLink RX3 21 "NamedMoves$Queue" "first" "I", Cond.fieldLink RX3 25 "NamedMoves$Queue" "end" "I", Cond.methodLink RX7 94 yX6_size, Cond.instanceMethod yX6_size, Cond.selects RX6 yX6_size yX6_size, Cond.initialized RX6, Cond.code yX6_size cX6_size 1 (some .int), Cond.fieldLink RX6 15 "NamedMoves$Text" "length" "I", Cond.methodLink RX7 98 yX1_readFrom, Cond.instanceMethod yX1_readFrom, Cond.selects RX1 yX1_readFrom yX1_readFrom, Cond.initialized RX1, Cond.code yX1_readFrom cX1_readFrom 5 (some .boolean), Cond.fieldLink RX1 15 "NamedMoves$Errand" "place" "I", Cond.fieldLink RX1 25 "NamedMoves$Errand" "letter" "I"]
def wsX7_run_r4 : List Cond := [Cond.fieldLink RX1 9 "NamedMoves$Errand" "numbers" "[I", Cond.methodLink RX1 19 yX6_at, Cond.instanceMethod yX6_at, Cond.selects RX6 yX6_at yX6_at, Cond.code yX6_at cX6_at 3 (some .int), Cond.fieldLink RX6 9 "NamedMoves$Text" "characters" "[I", Cond.methodLink RX1 28 yX1_numbersDue, Cond.instanceMethod yX1_numbersDue, Cond.selects RX1 yX1_numbersDue yX1_numbersDue, Cond.code yX1_numbersDue cX1_numbersDue 1 (some .int), Cond.methodLink RX1 32 yX1_passes, Cond.instanceMethod yX1_passes, Cond.selects RX1 yX1_passes yX1_passes, Cond.code yX1_passes cX1_passes 3 (some .boolean), Cond.methodLink RX1 36 yX6_hasDigitAt, Cond.instanceMethod yX6_hasDigitAt, Cond.selects RX6 yX6_hasDigitAt yX6_hasDigitAt, Cond.code yX6_hasDigitAt cX6_hasDigitAt 2 (some .boolean), Cond.methodLink RX6 19 yX6_at, Cond.methodLink RX1 40 yX1_readNumber, Cond.instanceMethod yX1_readNumber, Cond.selects RX1 yX1_readNumber yX1_readNumber, Cond.code yX1_readNumber cX1_readNumber 3 (some .int), Cond.methodLink RX7 102 yX1_end]
def wsX7_run_r5 : List Cond := [Cond.instanceMethod yX1_end, Cond.selects RX1 yX1_end yX1_end, Cond.code yX1_end cX1_end 1 (some .int), Cond.methodLink RX7 105 yX7_textFailed, Cond.instanceMethod yX7_textFailed, Cond.selects RX7 yX7_textFailed yX7_textFailed, Cond.initialized RX7, Cond.code yX7_textFailed cX7_textFailed 2 (some .int), Cond.methodLink RX7 189 yX2_restoreDraft, Cond.instanceMethod yX2_restoreDraft, Cond.selects RX2 yX2_restoreDraft yX2_restoreDraft, Cond.code yX2_restoreDraft cX2_restoreDraft 3 none, Cond.methodLink RX7 108 yX1_callOn, Cond.instanceMethod yX1_callOn, Cond.selects RX1 yX1_callOn yX1_callOn, Cond.code yX1_callOn cX1_callOn 2 (some .int), Cond.methodLink RX1 44 yX5_makeThing, Cond.instanceMethod yX5_makeThing, Cond.selects RX5 yX5_makeThing yX5_makeThing, Cond.code yX5_makeThing cX5_makeThing 5 (some .int), Cond.static yX7_isHook, Cond.code yX7_isHook cX7_isHook 1 (some .boolean), Cond.methodLink RX5 114 yX0_floorAddressFor, Cond.instanceMethod yX0_floorAddressFor]
def wsX7_run_r6 : List Cond := [Cond.selects RX0 yX0_floorAddressFor yX0_floorAddressFor, Cond.code yX0_floorAddressFor cX0_floorAddressFor 5 (some .int), Cond.methodLink RX0 50 yX0_sizeAt, Cond.instanceMethod yX0_sizeAt, Cond.selects RX0 yX0_sizeAt yX0_sizeAt, Cond.code yX0_sizeAt cX0_sizeAt 2 (some .int), Cond.methodLink RX0 39 yX0_isAt, Cond.instanceMethod yX0_isAt, Cond.selects RX0 yX0_isAt yX0_isAt, Cond.code yX0_isAt cX0_isAt 2 (some .boolean), Cond.methodLink RX5 117 yX5_halfAddressFor, Cond.instanceMethod yX5_halfAddressFor, Cond.selects RX5 yX5_halfAddressFor yX5_halfAddressFor, Cond.code yX5_halfAddressFor cX5_halfAddressFor 2 (some .int), Cond.methodLink RX5 99 yX5_freeInHalf, Cond.instanceMethod yX5_freeInHalf, Cond.selects RX5 yX5_freeInHalf yX5_freeInHalf, Cond.code yX5_freeInHalf cX5_freeInHalf 1 (some .int), Cond.methodLink RX5 108 yX5_roomKept, Cond.instanceMethod yX5_roomKept, Cond.selects RX5 yX5_roomKept yX5_roomKept, Cond.code yX5_roomKept cX5_roomKept 4 (some .int), Cond.methodLink RX5 75 yX5_addressOfHalf, Cond.instanceMethod yX5_addressOfHalf]
def wsX7_run_r7 : List Cond := [Cond.selects RX5 yX5_addressOfHalf yX5_addressOfHalf, Cond.code yX5_addressOfHalf cX5_addressOfHalf 2 (some .int), Cond.methodLink RX5 79 yX0_noteAt, Cond.instanceMethod yX0_noteAt, Cond.selects RX0 yX0_noteAt yX0_noteAt, Cond.code yX0_noteAt cX0_noteAt 2 (some .int), Cond.methodLink RX5 82 yX0_sizeAt, Cond.methodLink RX5 120 yX0_lay, Cond.instanceMethod yX0_lay, Cond.selects RX0 yX0_lay yX0_lay, Cond.code yX0_lay cX0_lay 4 none, Cond.methodLink RX5 124 yX0_mark, Cond.instanceMethod yX0_mark, Cond.selects RX0 yX0_mark yX0_mark, Cond.code yX0_mark cX0_mark 2 (some .boolean), Cond.methodLink RX1 50 yX5_linkHooks, Cond.instanceMethod yX5_linkHooks, Cond.selects RX5 yX5_linkHooks yX5_linkHooks, Cond.code yX5_linkHooks cX5_linkHooks 6 (some .int), Cond.static yX7_isName, Cond.code yX7_isName cX7_isName 1 (some .boolean), Cond.methodLink RX5 130 yX5_readIn, Cond.instanceMethod yX5_readIn, Cond.selects RX5 yX5_readIn yX5_readIn]
def wsX7_run_r8 : List Cond := [Cond.code yX5_readIn cX5_readIn 5 (some .int), Cond.methodLink RX5 89 yX5_isInOldHalf, Cond.instanceMethod yX5_isInOldHalf, Cond.selects RX5 yX5_isInOldHalf yX5_isInOldHalf, Cond.code yX5_isInOldHalf cX5_isInOldHalf 3 (some .boolean), Cond.methodLink RX5 182 yX5_carryOver, Cond.instanceMethod yX5_carryOver, Cond.selects RX5 yX5_carryOver yX5_carryOver, Cond.code yX5_carryOver cX5_carryOver 4 (some .int), Cond.methodLink RX5 188 yX0_layAgain, Cond.instanceMethod yX0_layAgain, Cond.selects RX0 yX0_layAgain yX0_layAgain, Cond.code yX0_layAgain cX0_layAgain 3 none, Cond.methodLink RX5 185 yX3_join, Cond.instanceMethod yX3_join, Cond.selects RX3 yX3_join yX3_join, Cond.code yX3_join cX3_join 2 none, Cond.methodLink RX5 134 yX0_setName, Cond.instanceMethod yX0_setName, Cond.selects RX0 yX0_setName yX0_setName, Cond.code yX0_setName cX0_setName 4 none, Cond.methodLink RX1 54 yX5_followName, Cond.instanceMethod yX5_followName, Cond.selects RX5 yX5_followName yX5_followName]
def wsX7_run_r9 : List Cond := [Cond.code yX5_followName cX5_followName 5 (some .int), Cond.methodLink RX1 57 yX5_dropHook, Cond.instanceMethod yX5_dropHook, Cond.selects RX5 yX5_dropHook yX5_dropHook, Cond.code yX5_dropHook cX5_dropHook 3 (some .int), Cond.methodLink RX1 60 yX5_beginMove, Cond.instanceMethod yX5_beginMove, Cond.selects RX5 yX5_beginMove yX5_beginMove, Cond.code yX5_beginMove cX5_beginMove 2 (some .int), Cond.methodLink RX5 140 yX3_clear, Cond.instanceMethod yX3_clear, Cond.selects RX3 yX3_clear yX3_clear, Cond.code yX3_clear cX3_clear 1 none, Cond.methodLink RX5 105 yX3_size, Cond.instanceMethod yX3_size, Cond.selects RX3 yX3_size yX3_size, Cond.code yX3_size cX3_size 1 (some .int), Cond.methodLink RX5 143 yX5_endMove, Cond.instanceMethod yX5_endMove, Cond.selects RX5 yX5_endMove yX5_endMove, Cond.code yX5_endMove cX5_endMove 1 none, Cond.methodLink RX5 152 yX0_emptyHalf, Cond.instanceMethod yX0_emptyHalf, Cond.selects RX0 yX0_emptyHalf yX0_emptyHalf]
def wsX7_run_r10 : List Cond := [Cond.code yX0_emptyHalf cX0_emptyHalf 3 none, Cond.methodLink RX0 57 yX0_remove, Cond.instanceMethod yX0_remove, Cond.selects RX0 yX0_remove yX0_remove, Cond.code yX0_remove cX0_remove 2 none, Cond.methodLink RX5 156 yX0_sweepFloor, Cond.instanceMethod yX0_sweepFloor, Cond.selects RX0 yX0_sweepFloor yX0_sweepFloor, Cond.code yX0_sweepFloor cX0_sweepFloor 2 none, Cond.methodLink RX1 63 yX5_carrySteps, Cond.instanceMethod yX5_carrySteps, Cond.selects RX5 yX5_carrySteps yX5_carrySteps, Cond.code yX5_carrySteps cX5_carrySteps 2 (some .int), Cond.methodLink RX5 146 yX5_stepsUpTo, Cond.instanceMethod yX5_stepsUpTo, Cond.selects RX5 yX5_stepsUpTo yX5_stepsUpTo, Cond.code yX5_stepsUpTo cX5_stepsUpTo 4 (some .int), Cond.methodLink RX5 149 yX3_takeFirst, Cond.instanceMethod yX3_takeFirst, Cond.selects RX3 yX3_takeFirst yX3_takeFirst, Cond.code yX3_takeFirst cX3_takeFirst 1 (some .int), Cond.methodLink RX7 95 yX6_empty, Cond.instanceMethod yX6_empty, Cond.selects RX6 yX6_empty yX6_empty]
def wsX7_run_r11 : List Cond := [Cond.code yX6_empty cX6_empty 1 none, Cond.methodLink RX7 55 yX7_recorded, Cond.instanceMethod yX7_recorded, Cond.selects RX7 yX7_recorded yX7_recorded, Cond.code yX7_recorded cX7_recorded 2 (some .int), Cond.methodLink RX7 186 yX2_keepDraft, Cond.instanceMethod yX2_keepDraft, Cond.selects RX2 yX2_keepDraft yX2_keepDraft, Cond.code yX2_keepDraft cX2_keepDraft 1 none]
def wsX7_run : List Cond := .code yX7_run cX7_run 3 (some .int) :: ((wsX7_run_r1 ++ (wsX7_run_r2 ++ (wsX7_run_r3 ++ (wsX7_run_r4 ++ (wsX7_run_r5 ++ (wsX7_run_r6 ++ (wsX7_run_r7 ++ (wsX7_run_r8 ++ (wsX7_run_r9 ++ (wsX7_run_r10 ++ wsX7_run_r11)))))))))) ++ wsX70 ++ wsX20 ++ wsX50 ++ wsX00 ++ wsX30 ++ wsX60 ++ wsX10)
def wsX7_count_r1 : List Cond := [Cond.fieldLink RX7 22 "NamedMoves" "history" "LNamedMoves$History;", Cond.fieldLink RX7 36 "NamedMoves" "text" "LNamedMoves$Text;", Cond.fieldLink RX7 12 "NamedMoves" "store" "LNamedMoves$Store;", Cond.methodLink RX7 85 yX2_size, Cond.instanceMethod yX2_size, Cond.selects RX2 yX2_size yX2_size, Cond.initialized RX2, Cond.code yX2_size cX2_size 1 (some .int), Cond.fieldLink RX2 18 "NamedMoves$History" "held" "I", Cond.methodLink RX7 94 yX6_size, Cond.instanceMethod yX6_size, Cond.selects RX6 yX6_size yX6_size, Cond.initialized RX6, Cond.code yX6_size cX6_size 1 (some .int), Cond.fieldLink RX6 15 "NamedMoves$Text" "length" "I", Cond.methodLink RX7 112 yX5_numberOf, Cond.instanceMethod yX5_numberOf, Cond.selects RX5 yX5_numberOf yX5_numberOf, Cond.initialized RX5, Cond.code yX5_numberOf cX5_numberOf 2 (some .int), Cond.fieldLink RX5 52 "NamedMoves$Store" "made" "I", Cond.fieldLink RX5 18 "NamedMoves$Store" "copies" "LNamedMoves$Copies;", Cond.fieldLink RX5 55 "NamedMoves$Store" "moving" "Z", Cond.fieldLink RX5 59 "NamedMoves$Store" "half" "I"]
def wsX7_count_r2 : List Cond := [Cond.fieldLink RX5 25 "NamedMoves$Store" "queue" "LNamedMoves$Queue;", Cond.fieldLink RX5 65 "NamedMoves$Store" "notesLost" "I", Cond.fieldLink RX5 68 "NamedMoves$Store" "movesEnded" "I", Cond.fieldLink RX5 29 "NamedMoves$Store" "heavyBound" "I", Cond.methodLink RX5 95 yX0_number, Cond.instanceMethod yX0_number, Cond.selects RX0 yX0_number yX0_number, Cond.initialized RX0, Cond.code yX0_number cX0_number 3 (some .int), Cond.methodLink RX0 39 yX0_isAt, Cond.instanceMethod yX0_isAt, Cond.selects RX0 yX0_isAt yX0_isAt, Cond.code yX0_isAt cX0_isAt 2 (some .boolean), Cond.fieldLink RX0 15 "NamedMoves$Copies" "sizes" "[I", Cond.methodLink RX5 99 yX5_freeInHalf, Cond.instanceMethod yX5_freeInHalf, Cond.selects RX5 yX5_freeInHalf yX5_freeInHalf, Cond.code yX5_freeInHalf cX5_freeInHalf 1 (some .int), Cond.fieldLink RX5 62 "NamedMoves$Store" "taken" "I", Cond.methodLink RX5 102 yX0_floorTaken, Cond.instanceMethod yX0_floorTaken, Cond.selects RX0 yX0_floorTaken yX0_floorTaken, Cond.code yX0_floorTaken cX0_floorTaken 3 (some .int), Cond.methodLink RX0 50 yX0_sizeAt]
def wsX7_count_r3 : List Cond := [Cond.instanceMethod yX0_sizeAt, Cond.selects RX0 yX0_sizeAt yX0_sizeAt, Cond.code yX0_sizeAt cX0_sizeAt 2 (some .int), Cond.methodLink RX5 105 yX3_size, Cond.instanceMethod yX3_size, Cond.selects RX3 yX3_size yX3_size, Cond.initialized RX3, Cond.code yX3_size cX3_size 1 (some .int), Cond.fieldLink RX3 25 "NamedMoves$Queue" "end" "I", Cond.fieldLink RX3 21 "NamedMoves$Queue" "first" "I", Cond.methodLink RX5 108 yX5_roomKept, Cond.instanceMethod yX5_roomKept, Cond.selects RX5 yX5_roomKept yX5_roomKept, Cond.code yX5_roomKept cX5_roomKept 4 (some .int), Cond.methodLink RX5 75 yX5_addressOfHalf, Cond.instanceMethod yX5_addressOfHalf, Cond.selects RX5 yX5_addressOfHalf yX5_addressOfHalf, Cond.code yX5_addressOfHalf cX5_addressOfHalf 2 (some .int), Cond.methodLink RX5 79 yX0_noteAt, Cond.instanceMethod yX0_noteAt, Cond.selects RX0 yX0_noteAt yX0_noteAt, Cond.code yX0_noteAt cX0_noteAt 2 (some .int), Cond.fieldLink RX0 18 "NamedMoves$Copies" "notes" "[I", Cond.methodLink RX5 82 yX0_sizeAt]
def wsX7_count_r4 : List Cond := [Cond.methodLink RX5 111 yX5_thingsWithTwins, Cond.instanceMethod yX5_thingsWithTwins, Cond.selects RX5 yX5_thingsWithTwins yX5_thingsWithTwins, Cond.code yX5_thingsWithTwins cX5_thingsWithTwins 3 (some .int), Cond.methodLink RX5 92 yX5_hasTwins, Cond.instanceMethod yX5_hasTwins, Cond.selects RX5 yX5_hasTwins yX5_hasTwins, Cond.code yX5_hasTwins cX5_hasTwins 4 (some .boolean), Cond.methodLink RX5 85 yX0_isOf, Cond.instanceMethod yX0_isOf, Cond.selects RX0 yX0_isOf yX0_isOf, Cond.code yX0_isOf cX0_isOf 3 (some .boolean), Cond.fieldLink RX0 9 "NamedMoves$Copies" "things" "[I", Cond.methodLink RX5 89 yX5_isInOldHalf, Cond.instanceMethod yX5_isInOldHalf, Cond.selects RX5 yX5_isInOldHalf yX5_isInOldHalf, Cond.code yX5_isInOldHalf cX5_isInOldHalf 3 (some .boolean)]
def wsX7_count : List Cond := .code yX7_count cX7_count 2 (some .int) :: ((wsX7_count_r1 ++ (wsX7_count_r2 ++ (wsX7_count_r3 ++ wsX7_count_r4))) ++ wsX70 ++ wsX20 ++ wsX60 ++ wsX50 ++ wsX00 ++ wsX30)
def wsX7_orNone : List Cond := .code yX7_orNone cX7_orNone 1 (some .int) :: ([])
def wsX7_hook : List Cond := .code yX7_hook cX7_hook 2 (some .int) :: ([.fieldLink RX7 12 "NamedMoves" "store" "LNamedMoves$Store;", .methodLink RX7 115 yX7_isHook, .static yX7_isHook, .initialized RX7, .code yX7_isHook cX7_isHook 1 (some .boolean), .methodLink RX7 119 yX5_hungOn, .instanceMethod yX5_hungOn, .selects RX5 yX5_hungOn yX5_hungOn, .initialized RX5, .code yX5_hungOn cX5_hungOn 2 (some .int), .fieldLink RX5 9 "NamedMoves$Store" "hooks" "[I", .methodLink RX7 122 yX7_orNone, .static yX7_orNone, .code yX7_orNone cX7_orNone 1 (some .int)] ++ wsX70 ++ wsX50)
def wsX7_copy_r1 : List Cond := [Cond.fieldLink RX7 12 "NamedMoves" "store" "LNamedMoves$Store;", Cond.methodLink RX7 129 yX0_isAt, Cond.instanceMethod yX0_isAt, Cond.selects RX0 yX0_isAt yX0_isAt, Cond.initialized RX0, Cond.code yX0_isAt cX0_isAt 2 (some .boolean), Cond.fieldLink RX0 15 "NamedMoves$Copies" "sizes" "[I", Cond.methodLink RX7 134 yX0_thingAt, Cond.instanceMethod yX0_thingAt, Cond.selects RX0 yX0_thingAt yX0_thingAt, Cond.code yX0_thingAt cX0_thingAt 2 (some .int), Cond.fieldLink RX0 9 "NamedMoves$Copies" "things" "[I", Cond.methodLink RX0 39 yX0_isAt, Cond.methodLink RX7 137 yX0_sizeAt, Cond.instanceMethod yX0_sizeAt, Cond.selects RX0 yX0_sizeAt yX0_sizeAt, Cond.code yX0_sizeAt cX0_sizeAt 2 (some .int), Cond.methodLink RX7 140 yX0_noteAt, Cond.instanceMethod yX0_noteAt, Cond.selects RX0 yX0_noteAt yX0_noteAt, Cond.code yX0_noteAt cX0_noteAt 2 (some .int), Cond.fieldLink RX0 18 "NamedMoves$Copies" "notes" "[I", Cond.methodLink RX7 122 yX7_orNone, Cond.static yX7_orNone]
def wsX7_copy_r2 : List Cond := [Cond.initialized RX7, Cond.code yX7_orNone cX7_orNone 1 (some .int), Cond.methodLink RX7 143 yX0_isMarked, Cond.instanceMethod yX0_isMarked, Cond.selects RX0 yX0_isMarked yX0_isMarked, Cond.code yX0_isMarked cX0_isMarked 2 (some .boolean), Cond.fieldLink RX0 21 "NamedMoves$Copies" "marks" "[I", Cond.methodLink RX7 146 yX0_nameAt, Cond.instanceMethod yX0_nameAt, Cond.selects RX0 yX0_nameAt yX0_nameAt, Cond.code yX0_nameAt cX0_nameAt 3 (some .int), Cond.fieldLink RX0 24 "NamedMoves$Copies" "names" "[I", Cond.static yX7_isName, Cond.code yX7_isName cX7_isName 1 (some .boolean)]
def wsX7_copy : List Cond := .code yX7_copy cX7_copy 4 (some .int) :: ((wsX7_copy_r1 ++ wsX7_copy_r2) ++ wsX70 ++ wsX50 ++ wsX00)
def wsX7_where_r1 : List Cond := [Cond.fieldLink RX7 12 "NamedMoves" "store" "LNamedMoves$Store;", Cond.methodLink RX7 149 yX5_isThing, Cond.instanceMethod yX5_isThing, Cond.selects RX5 yX5_isThing yX5_isThing, Cond.initialized RX5, Cond.code yX5_isThing cX5_isThing 2 (some .boolean), Cond.fieldLink RX5 52 "NamedMoves$Store" "made" "I", Cond.methodLink RX7 152 yX0_addressOf, Cond.instanceMethod yX0_addressOf, Cond.selects RX0 yX0_addressOf yX0_addressOf, Cond.initialized RX0, Cond.code yX0_addressOf cX0_addressOf 5 (some .int), Cond.methodLink RX0 46 yX0_isOf, Cond.instanceMethod yX0_isOf, Cond.selects RX0 yX0_isOf yX0_isOf, Cond.code yX0_isOf cX0_isOf 3 (some .boolean), Cond.fieldLink RX0 9 "NamedMoves$Copies" "things" "[I", Cond.methodLink RX0 39 yX0_isAt, Cond.instanceMethod yX0_isAt, Cond.selects RX0 yX0_isAt yX0_isAt, Cond.code yX0_isAt cX0_isAt 2 (some .boolean), Cond.fieldLink RX0 15 "NamedMoves$Copies" "sizes" "[I", Cond.methodLink RX7 122 yX7_orNone, Cond.static yX7_orNone]
def wsX7_where_r2 : List Cond := [Cond.initialized RX7, Cond.code yX7_orNone cX7_orNone 1 (some .int)]
def wsX7_where : List Cond := .code yX7_where cX7_where 3 (some .int) :: ((wsX7_where_r1 ++ wsX7_where_r2) ++ wsX70 ++ wsX50 ++ wsX00)
def wsX7_named_r1 : List Cond := [Cond.fieldLink RX7 29 "NamedMoves" "reach" "LNamedMoves$Reach;", Cond.fieldLink RX7 12 "NamedMoves" "store" "LNamedMoves$Store;", Cond.methodLink RX7 115 yX7_isHook, Cond.static yX7_isHook, Cond.initialized RX7, Cond.code yX7_isHook cX7_isHook 1 (some .boolean), Cond.methodLink RX7 155 yX4_clear, Cond.instanceMethod yX4_clear, Cond.selects RX4 yX4_clear yX4_clear, Cond.initialized RX4, Cond.code yX4_clear cX4_clear 2 none, Cond.fieldLink RX4 9 "NamedMoves$Reach" "reached" "[Z", Cond.fieldLink RX4 22 "NamedMoves$Reach" "foundNumber" "I", Cond.methodLink RX7 119 yX5_hungOn, Cond.instanceMethod yX5_hungOn, Cond.selects RX5 yX5_hungOn yX5_hungOn, Cond.initialized RX5, Cond.code yX5_hungOn cX5_hungOn 2 (some .int), Cond.fieldLink RX5 9 "NamedMoves$Store" "hooks" "[I", Cond.methodLink RX7 158 yX4_add, Cond.instanceMethod yX4_add, Cond.selects RX4 yX4_add yX4_add, Cond.code yX4_add cX4_add 4 none, Cond.fieldLink RX4 15 "NamedMoves$Reach" "found" "[I"]
def wsX7_named_r2 : List Cond := [Cond.methodLink RX4 26 yX0_leadsTo, Cond.instanceMethod yX0_leadsTo, Cond.selects RX0 yX0_leadsTo yX0_leadsTo, Cond.initialized RX0, Cond.code yX0_leadsTo cX0_leadsTo 3 (some .int), Cond.methodLink RX0 54 yX0_noteAt, Cond.instanceMethod yX0_noteAt, Cond.selects RX0 yX0_noteAt yX0_noteAt, Cond.code yX0_noteAt cX0_noteAt 2 (some .int), Cond.fieldLink RX0 18 "NamedMoves$Copies" "notes" "[I", Cond.methodLink RX0 39 yX0_isAt, Cond.instanceMethod yX0_isAt, Cond.selects RX0 yX0_isAt yX0_isAt, Cond.code yX0_isAt cX0_isAt 2 (some .boolean), Cond.fieldLink RX0 15 "NamedMoves$Copies" "sizes" "[I", Cond.methodLink RX4 32 yX0_isAt, Cond.methodLink RX4 36 yX4_isReached, Cond.instanceMethod yX4_isReached, Cond.selects RX4 yX4_isReached yX4_isReached, Cond.code yX4_isReached cX4_isReached 2 (some .boolean), Cond.methodLink RX7 162 yX4_spread, Cond.instanceMethod yX4_spread, Cond.selects RX4 yX4_spread yX4_spread, Cond.code yX4_spread cX4_spread 3 none]
def wsX7_named_r3 : List Cond := [Cond.methodLink RX4 39 yX0_nameAt, Cond.instanceMethod yX0_nameAt, Cond.selects RX0 yX0_nameAt yX0_nameAt, Cond.code yX0_nameAt cX0_nameAt 3 (some .int), Cond.fieldLink RX0 24 "NamedMoves$Copies" "names" "[I", Cond.static yX7_isName, Cond.code yX7_isName cX7_isName 1 (some .boolean), Cond.methodLink RX4 43 yX4_add, Cond.methodLink RX7 166 yX4_differentThings, Cond.instanceMethod yX4_differentThings, Cond.selects RX4 yX4_differentThings yX4_differentThings, Cond.code yX4_differentThings cX4_differentThings 5 (some .int), Cond.fieldLink RX4 19 "NamedMoves$Reach" "seenThings" "[Z", Cond.methodLink RX4 47 yX0_thingAt, Cond.instanceMethod yX0_thingAt, Cond.selects RX0 yX0_thingAt yX0_thingAt, Cond.code yX0_thingAt cX0_thingAt 2 (some .int), Cond.fieldLink RX0 9 "NamedMoves$Copies" "things" "[I"]
def wsX7_named : List Cond := .code yX7_named cX7_named 2 (some .int) :: ((wsX7_named_r1 ++ (wsX7_named_r2 ++ wsX7_named_r3)) ++ wsX70 ++ wsX50 ++ wsX40 ++ wsX00)
def wsX7_garbage_r1 : List Cond := [Cond.fieldLink RX7 29 "NamedMoves" "reach" "LNamedMoves$Reach;", Cond.fieldLink RX7 12 "NamedMoves" "store" "LNamedMoves$Store;", Cond.methodLink RX7 155 yX4_clear, Cond.instanceMethod yX4_clear, Cond.selects RX4 yX4_clear yX4_clear, Cond.initialized RX4, Cond.code yX4_clear cX4_clear 2 none, Cond.fieldLink RX4 9 "NamedMoves$Reach" "reached" "[Z", Cond.fieldLink RX4 22 "NamedMoves$Reach" "foundNumber" "I", Cond.methodLink RX7 119 yX5_hungOn, Cond.instanceMethod yX5_hungOn, Cond.selects RX5 yX5_hungOn yX5_hungOn, Cond.initialized RX5, Cond.code yX5_hungOn cX5_hungOn 2 (some .int), Cond.fieldLink RX5 9 "NamedMoves$Store" "hooks" "[I", Cond.static yX7_isHook, Cond.initialized RX7, Cond.code yX7_isHook cX7_isHook 1 (some .boolean), Cond.methodLink RX7 158 yX4_add, Cond.instanceMethod yX4_add, Cond.selects RX4 yX4_add yX4_add, Cond.code yX4_add cX4_add 4 none, Cond.fieldLink RX4 15 "NamedMoves$Reach" "found" "[I", Cond.methodLink RX4 26 yX0_leadsTo]
def wsX7_garbage_r2 : List Cond := [Cond.instanceMethod yX0_leadsTo, Cond.selects RX0 yX0_leadsTo yX0_leadsTo, Cond.initialized RX0, Cond.code yX0_leadsTo cX0_leadsTo 3 (some .int), Cond.methodLink RX0 54 yX0_noteAt, Cond.instanceMethod yX0_noteAt, Cond.selects RX0 yX0_noteAt yX0_noteAt, Cond.code yX0_noteAt cX0_noteAt 2 (some .int), Cond.fieldLink RX0 18 "NamedMoves$Copies" "notes" "[I", Cond.methodLink RX0 39 yX0_isAt, Cond.instanceMethod yX0_isAt, Cond.selects RX0 yX0_isAt yX0_isAt, Cond.code yX0_isAt cX0_isAt 2 (some .boolean), Cond.fieldLink RX0 15 "NamedMoves$Copies" "sizes" "[I", Cond.methodLink RX4 32 yX0_isAt, Cond.methodLink RX4 36 yX4_isReached, Cond.instanceMethod yX4_isReached, Cond.selects RX4 yX4_isReached yX4_isReached, Cond.code yX4_isReached cX4_isReached 2 (some .boolean), Cond.methodLink RX7 162 yX4_spread, Cond.instanceMethod yX4_spread, Cond.selects RX4 yX4_spread yX4_spread, Cond.code yX4_spread cX4_spread 3 none, Cond.methodLink RX4 39 yX0_nameAt]
def wsX7_garbage_r3 : List Cond := [Cond.instanceMethod yX0_nameAt, Cond.selects RX0 yX0_nameAt yX0_nameAt, Cond.code yX0_nameAt cX0_nameAt 3 (some .int), Cond.fieldLink RX0 24 "NamedMoves$Copies" "names" "[I", Cond.static yX7_isName, Cond.code yX7_isName cX7_isName 1 (some .boolean), Cond.methodLink RX4 43 yX4_add, Cond.methodLink RX7 170 yX4_placesOutside, Cond.instanceMethod yX4_placesOutside, Cond.selects RX4 yX4_placesOutside yX4_placesOutside, Cond.code yX4_placesOutside cX4_placesOutside 4 (some .int), Cond.methodLink RX4 50 yX0_noteAt, Cond.methodLink RX4 53 yX0_sizeAt, Cond.instanceMethod yX0_sizeAt, Cond.selects RX0 yX0_sizeAt yX0_sizeAt, Cond.code yX0_sizeAt cX0_sizeAt 2 (some .int)]
def wsX7_garbage : List Cond := .code yX7_garbage cX7_garbage 2 (some .int) :: ((wsX7_garbage_r1 ++ (wsX7_garbage_r2 ++ wsX7_garbage_r3)) ++ wsX70 ++ wsX50 ++ wsX40 ++ wsX00)
def wsX7_stepsLeft_r1 : List Cond := [Cond.fieldLink RX7 12 "NamedMoves" "store" "LNamedMoves$Store;", Cond.fieldLink RX7 16 "NamedMoves" "forecast" "LNamedMoves$Store;", Cond.methodLink RX7 177 yX5_become, Cond.instanceMethod yX5_become, Cond.selects RX5 yX5_become yX5_become, Cond.initialized RX5, Cond.code yX5_become cX5_become 2 none, Cond.fieldLink RX5 9 "NamedMoves$Store" "hooks" "[I", Cond.methodLink RX5 39 arraycopyName, Cond.native arraycopyName, Cond.static arraycopyName, Cond.initialized "java/lang/System", Cond.fieldLink RX5 18 "NamedMoves$Store" "copies" "LNamedMoves$Copies;", Cond.fieldLink RX5 25 "NamedMoves$Store" "queue" "LNamedMoves$Queue;", Cond.fieldLink RX5 29 "NamedMoves$Store" "heavyBound" "I", Cond.fieldLink RX5 52 "NamedMoves$Store" "made" "I", Cond.fieldLink RX5 55 "NamedMoves$Store" "moving" "Z", Cond.fieldLink RX5 59 "NamedMoves$Store" "half" "I", Cond.fieldLink RX5 62 "NamedMoves$Store" "taken" "I", Cond.fieldLink RX5 65 "NamedMoves$Store" "notesLost" "I", Cond.fieldLink RX5 68 "NamedMoves$Store" "movesEnded" "I", Cond.methodLink RX5 45 yX0_become, Cond.instanceMethod yX0_become, Cond.selects RX0 yX0_become yX0_become]
def wsX7_stepsLeft_r2 : List Cond := [Cond.initialized RX0, Cond.code yX0_become cX0_become 2 none, Cond.fieldLink RX0 9 "NamedMoves$Copies" "things" "[I", Cond.methodLink RX0 33 arraycopyName, Cond.fieldLink RX0 15 "NamedMoves$Copies" "sizes" "[I", Cond.fieldLink RX0 18 "NamedMoves$Copies" "notes" "[I", Cond.fieldLink RX0 21 "NamedMoves$Copies" "marks" "[I", Cond.fieldLink RX0 24 "NamedMoves$Copies" "names" "[I", Cond.methodLink RX5 49 yX3_become, Cond.instanceMethod yX3_become, Cond.selects RX3 yX3_become yX3_become, Cond.initialized RX3, Cond.code yX3_become cX3_become 2 none, Cond.fieldLink RX3 9 "NamedMoves$Queue" "addresses" "[I", Cond.methodLink RX3 15 arraycopyName, Cond.fieldLink RX3 21 "NamedMoves$Queue" "first" "I", Cond.fieldLink RX3 25 "NamedMoves$Queue" "end" "I", Cond.methodLink RX7 180 yX5_stepsUpTo, Cond.instanceMethod yX5_stepsUpTo, Cond.selects RX5 yX5_stepsUpTo yX5_stepsUpTo, Cond.code yX5_stepsUpTo cX5_stepsUpTo 4 (some .int), Cond.methodLink RX5 149 yX3_takeFirst, Cond.instanceMethod yX3_takeFirst, Cond.selects RX3 yX3_takeFirst yX3_takeFirst]
def wsX7_stepsLeft_r3 : List Cond := [Cond.code yX3_takeFirst cX3_takeFirst 1 (some .int), Cond.methodLink RX5 130 yX5_readIn, Cond.instanceMethod yX5_readIn, Cond.selects RX5 yX5_readIn yX5_readIn, Cond.code yX5_readIn cX5_readIn 5 (some .int), Cond.methodLink RX5 89 yX5_isInOldHalf, Cond.instanceMethod yX5_isInOldHalf, Cond.selects RX5 yX5_isInOldHalf yX5_isInOldHalf, Cond.code yX5_isInOldHalf cX5_isInOldHalf 3 (some .boolean), Cond.methodLink RX5 75 yX5_addressOfHalf, Cond.instanceMethod yX5_addressOfHalf, Cond.selects RX5 yX5_addressOfHalf yX5_addressOfHalf, Cond.code yX5_addressOfHalf cX5_addressOfHalf 2 (some .int), Cond.methodLink RX5 79 yX0_noteAt, Cond.instanceMethod yX0_noteAt, Cond.selects RX0 yX0_noteAt yX0_noteAt, Cond.code yX0_noteAt cX0_noteAt 2 (some .int), Cond.methodLink RX0 39 yX0_isAt, Cond.instanceMethod yX0_isAt, Cond.selects RX0 yX0_isAt yX0_isAt, Cond.code yX0_isAt cX0_isAt 2 (some .boolean), Cond.methodLink RX5 82 yX0_sizeAt, Cond.instanceMethod yX0_sizeAt, Cond.selects RX0 yX0_sizeAt yX0_sizeAt]
def wsX7_stepsLeft_r4 : List Cond := [Cond.code yX0_sizeAt cX0_sizeAt 2 (some .int), Cond.methodLink RX5 182 yX5_carryOver, Cond.instanceMethod yX5_carryOver, Cond.selects RX5 yX5_carryOver yX5_carryOver, Cond.code yX5_carryOver cX5_carryOver 4 (some .int), Cond.methodLink RX5 99 yX5_freeInHalf, Cond.instanceMethod yX5_freeInHalf, Cond.selects RX5 yX5_freeInHalf yX5_freeInHalf, Cond.code yX5_freeInHalf cX5_freeInHalf 1 (some .int), Cond.methodLink RX5 188 yX0_layAgain, Cond.instanceMethod yX0_layAgain, Cond.selects RX0 yX0_layAgain yX0_layAgain, Cond.code yX0_layAgain cX0_layAgain 3 none, Cond.methodLink RX5 185 yX3_join, Cond.instanceMethod yX3_join, Cond.selects RX3 yX3_join yX3_join, Cond.code yX3_join cX3_join 2 none, Cond.methodLink RX5 124 yX0_mark, Cond.instanceMethod yX0_mark, Cond.selects RX0 yX0_mark yX0_mark, Cond.code yX0_mark cX0_mark 2 (some .boolean), Cond.methodLink RX5 105 yX3_size, Cond.instanceMethod yX3_size, Cond.selects RX3 yX3_size yX3_size]
def wsX7_stepsLeft_r5 : List Cond := [Cond.code yX3_size cX3_size 1 (some .int), Cond.methodLink RX5 143 yX5_endMove, Cond.instanceMethod yX5_endMove, Cond.selects RX5 yX5_endMove yX5_endMove, Cond.code yX5_endMove cX5_endMove 1 none, Cond.methodLink RX5 152 yX0_emptyHalf, Cond.instanceMethod yX0_emptyHalf, Cond.selects RX0 yX0_emptyHalf yX0_emptyHalf, Cond.code yX0_emptyHalf cX0_emptyHalf 3 none, Cond.methodLink RX0 57 yX0_remove, Cond.instanceMethod yX0_remove, Cond.selects RX0 yX0_remove yX0_remove, Cond.code yX0_remove cX0_remove 2 none, Cond.methodLink RX5 156 yX0_sweepFloor, Cond.instanceMethod yX0_sweepFloor, Cond.selects RX0 yX0_sweepFloor yX0_sweepFloor, Cond.code yX0_sweepFloor cX0_sweepFloor 2 none]
def wsX7_stepsLeft : List Cond := .code yX7_stepsLeft cX7_stepsLeft 1 (some .int) :: ((wsX7_stepsLeft_r1 ++ (wsX7_stepsLeft_r2 ++ (wsX7_stepsLeft_r3 ++ (wsX7_stepsLeft_r4 ++ wsX7_stepsLeft_r5)))) ++ wsX70 ++ wsX50 ++ wsX00 ++ wsX30)
def wsX7_freeThen_r1 : List Cond := [Cond.fieldLink RX7 16 "NamedMoves" "forecast" "LNamedMoves$Store;", Cond.fieldLink RX7 12 "NamedMoves" "store" "LNamedMoves$Store;", Cond.methodLink RX7 177 yX5_become, Cond.instanceMethod yX5_become, Cond.selects RX5 yX5_become yX5_become, Cond.initialized RX5, Cond.code yX5_become cX5_become 2 none, Cond.fieldLink RX5 9 "NamedMoves$Store" "hooks" "[I", Cond.methodLink RX5 39 arraycopyName, Cond.native arraycopyName, Cond.static arraycopyName, Cond.initialized "java/lang/System", Cond.fieldLink RX5 18 "NamedMoves$Store" "copies" "LNamedMoves$Copies;", Cond.fieldLink RX5 25 "NamedMoves$Store" "queue" "LNamedMoves$Queue;", Cond.fieldLink RX5 29 "NamedMoves$Store" "heavyBound" "I", Cond.fieldLink RX5 52 "NamedMoves$Store" "made" "I", Cond.fieldLink RX5 55 "NamedMoves$Store" "moving" "Z", Cond.fieldLink RX5 59 "NamedMoves$Store" "half" "I", Cond.fieldLink RX5 62 "NamedMoves$Store" "taken" "I", Cond.fieldLink RX5 65 "NamedMoves$Store" "notesLost" "I", Cond.fieldLink RX5 68 "NamedMoves$Store" "movesEnded" "I", Cond.methodLink RX5 45 yX0_become, Cond.instanceMethod yX0_become, Cond.selects RX0 yX0_become yX0_become]
def wsX7_freeThen_r2 : List Cond := [Cond.initialized RX0, Cond.code yX0_become cX0_become 2 none, Cond.fieldLink RX0 9 "NamedMoves$Copies" "things" "[I", Cond.methodLink RX0 33 arraycopyName, Cond.fieldLink RX0 15 "NamedMoves$Copies" "sizes" "[I", Cond.fieldLink RX0 18 "NamedMoves$Copies" "notes" "[I", Cond.fieldLink RX0 21 "NamedMoves$Copies" "marks" "[I", Cond.fieldLink RX0 24 "NamedMoves$Copies" "names" "[I", Cond.methodLink RX5 49 yX3_become, Cond.instanceMethod yX3_become, Cond.selects RX3 yX3_become yX3_become, Cond.initialized RX3, Cond.code yX3_become cX3_become 2 none, Cond.fieldLink RX3 9 "NamedMoves$Queue" "addresses" "[I", Cond.methodLink RX3 15 arraycopyName, Cond.fieldLink RX3 21 "NamedMoves$Queue" "first" "I", Cond.fieldLink RX3 25 "NamedMoves$Queue" "end" "I", Cond.methodLink RX7 180 yX5_stepsUpTo, Cond.instanceMethod yX5_stepsUpTo, Cond.selects RX5 yX5_stepsUpTo yX5_stepsUpTo, Cond.code yX5_stepsUpTo cX5_stepsUpTo 4 (some .int), Cond.methodLink RX5 149 yX3_takeFirst, Cond.instanceMethod yX3_takeFirst, Cond.selects RX3 yX3_takeFirst yX3_takeFirst]
def wsX7_freeThen_r3 : List Cond := [Cond.code yX3_takeFirst cX3_takeFirst 1 (some .int), Cond.methodLink RX5 130 yX5_readIn, Cond.instanceMethod yX5_readIn, Cond.selects RX5 yX5_readIn yX5_readIn, Cond.code yX5_readIn cX5_readIn 5 (some .int), Cond.methodLink RX5 89 yX5_isInOldHalf, Cond.instanceMethod yX5_isInOldHalf, Cond.selects RX5 yX5_isInOldHalf yX5_isInOldHalf, Cond.code yX5_isInOldHalf cX5_isInOldHalf 3 (some .boolean), Cond.methodLink RX5 75 yX5_addressOfHalf, Cond.instanceMethod yX5_addressOfHalf, Cond.selects RX5 yX5_addressOfHalf yX5_addressOfHalf, Cond.code yX5_addressOfHalf cX5_addressOfHalf 2 (some .int), Cond.methodLink RX5 79 yX0_noteAt, Cond.instanceMethod yX0_noteAt, Cond.selects RX0 yX0_noteAt yX0_noteAt, Cond.code yX0_noteAt cX0_noteAt 2 (some .int), Cond.methodLink RX0 39 yX0_isAt, Cond.instanceMethod yX0_isAt, Cond.selects RX0 yX0_isAt yX0_isAt, Cond.code yX0_isAt cX0_isAt 2 (some .boolean), Cond.methodLink RX5 82 yX0_sizeAt, Cond.instanceMethod yX0_sizeAt, Cond.selects RX0 yX0_sizeAt yX0_sizeAt]
def wsX7_freeThen_r4 : List Cond := [Cond.code yX0_sizeAt cX0_sizeAt 2 (some .int), Cond.methodLink RX5 182 yX5_carryOver, Cond.instanceMethod yX5_carryOver, Cond.selects RX5 yX5_carryOver yX5_carryOver, Cond.code yX5_carryOver cX5_carryOver 4 (some .int), Cond.methodLink RX5 99 yX5_freeInHalf, Cond.instanceMethod yX5_freeInHalf, Cond.selects RX5 yX5_freeInHalf yX5_freeInHalf, Cond.code yX5_freeInHalf cX5_freeInHalf 1 (some .int), Cond.methodLink RX5 188 yX0_layAgain, Cond.instanceMethod yX0_layAgain, Cond.selects RX0 yX0_layAgain yX0_layAgain, Cond.code yX0_layAgain cX0_layAgain 3 none, Cond.methodLink RX5 185 yX3_join, Cond.instanceMethod yX3_join, Cond.selects RX3 yX3_join yX3_join, Cond.code yX3_join cX3_join 2 none, Cond.methodLink RX5 124 yX0_mark, Cond.instanceMethod yX0_mark, Cond.selects RX0 yX0_mark yX0_mark, Cond.code yX0_mark cX0_mark 2 (some .boolean), Cond.methodLink RX5 105 yX3_size, Cond.instanceMethod yX3_size, Cond.selects RX3 yX3_size yX3_size]
def wsX7_freeThen_r5 : List Cond := [Cond.code yX3_size cX3_size 1 (some .int), Cond.methodLink RX5 143 yX5_endMove, Cond.instanceMethod yX5_endMove, Cond.selects RX5 yX5_endMove yX5_endMove, Cond.code yX5_endMove cX5_endMove 1 none, Cond.methodLink RX5 152 yX0_emptyHalf, Cond.instanceMethod yX0_emptyHalf, Cond.selects RX0 yX0_emptyHalf yX0_emptyHalf, Cond.code yX0_emptyHalf cX0_emptyHalf 3 none, Cond.methodLink RX0 57 yX0_remove, Cond.instanceMethod yX0_remove, Cond.selects RX0 yX0_remove yX0_remove, Cond.code yX0_remove cX0_remove 2 none, Cond.methodLink RX5 156 yX0_sweepFloor, Cond.instanceMethod yX0_sweepFloor, Cond.selects RX0 yX0_sweepFloor yX0_sweepFloor, Cond.code yX0_sweepFloor cX0_sweepFloor 2 none, Cond.methodLink RX7 72 yX5_beginMove, Cond.instanceMethod yX5_beginMove, Cond.selects RX5 yX5_beginMove yX5_beginMove, Cond.code yX5_beginMove cX5_beginMove 2 (some .int), Cond.methodLink RX5 140 yX3_clear, Cond.instanceMethod yX3_clear, Cond.selects RX3 yX3_clear yX3_clear]
def wsX7_freeThen_r6 : List Cond := [Cond.code yX3_clear cX3_clear 1 none, Cond.methodLink RX7 183 yX5_freeInHalf]
def wsX7_freeThen : List Cond := .code yX7_freeThen cX7_freeThen 1 (some .int) :: ((wsX7_freeThen_r1 ++ (wsX7_freeThen_r2 ++ (wsX7_freeThen_r3 ++ (wsX7_freeThen_r4 ++ (wsX7_freeThen_r5 ++ wsX7_freeThen_r6))))) ++ wsX70 ++ wsX50 ++ wsX00 ++ wsX30)
def wsX8_init : List Cond := .code yX8_init cX8_init 2 none :: ([.methodLink RX8 1 objectInit, .instanceMethod objectInit, .code objectInit ⟨#[0xb1]⟩ 1 none, .arrayClass .int, .fieldLink RX8 7 "NamedMovesModel" "s" "[I", .fieldLink RX8 13 "NamedMovesModel" "past" "[I", .fieldLink RX8 16 "NamedMovesModel" "held" "[I", .fieldLink RX8 19 "NamedMovesModel" "text" "[I", .fieldLink RX8 22 "NamedMovesModel" "read" "[I", .arrayClass .boolean, .fieldLink RX8 25 "NamedMovesModel" "isReached" "[Z", .fieldLink RX8 29 "NamedMovesModel" "found" "[I"] ++ wsX80)
def wsX8_in : List Cond := .code yX8_in cX8_in 3 (some .boolean) :: ([])
def wsX8_acts : List Cond := .code yX8_acts cX8_acts 2 none :: ([.fieldLink RX8 32 "NamedMovesModel" "runs" "Z", .fieldLink RX8 36 "NamedMovesModel" "pasts" "I", .fieldLink RX8 13 "NamedMovesModel" "past" "[I", .fieldLink RX8 7 "NamedMovesModel" "s" "[I"] ++ wsX80)
def wsX8_isHook : List Cond := .code yX8_isHook cX8_isHook 1 (some .boolean) :: ([.methodLink RX8 40 yX8_in, .static yX8_in, .initialized RX8, .code yX8_in cX8_in 3 (some .boolean)])
def wsX8_isThing : List Cond := .code yX8_isThing cX8_isThing 2 (some .boolean) :: ([.fieldLink RX8 7 "NamedMovesModel" "s" "[I"] ++ wsX80)
def wsX8_isAddress : List Cond := .code yX8_isAddress cX8_isAddress 1 (some .boolean) :: ([])
def wsX8_cell : List Cond := .code yX8_cell cX8_cell 1 (some .int) :: ([])
def wsX8_address : List Cond := .code yX8_address cX8_address 1 (some .int) :: ([])
def wsX8_ofCopy : List Cond := .code yX8_ofCopy cX8_ofCopy 3 (some .int) :: ([.fieldLink RX8 7 "NamedMovesModel" "s" "[I"] ++ wsX80)
def wsX8_isCopy : List Cond := .code yX8_isCopy cX8_isCopy 2 (some .boolean) :: ([.methodLink RX8 44 yX8_ofCopy, .instanceMethod yX8_ofCopy, .selects RX8 yX8_ofCopy yX8_ofCopy, .initialized RX8, .code yX8_ofCopy cX8_ofCopy 3 (some .int), .fieldLink RX8 7 "NamedMovesModel" "s" "[I"] ++ wsX80)
def wsX8_sizeAt : List Cond := .code yX8_sizeAt cX8_sizeAt 2 (some .int) :: ([.fieldLink RX8 7 "NamedMovesModel" "s" "[I", .methodLink RX8 48 yX8_isCopy, .instanceMethod yX8_isCopy, .selects RX8 yX8_isCopy yX8_isCopy, .initialized RX8, .code yX8_isCopy cX8_isCopy 2 (some .boolean), .methodLink RX8 44 yX8_ofCopy, .instanceMethod yX8_ofCopy, .selects RX8 yX8_ofCopy yX8_ofCopy, .code yX8_ofCopy cX8_ofCopy 3 (some .int)] ++ wsX80)
def wsX8_isMoving : List Cond := .code yX8_isMoving cX8_isMoving 1 (some .boolean) :: ([.fieldLink RX8 7 "NamedMovesModel" "s" "[I"] ++ wsX80)
def wsX8_old : List Cond := .code yX8_old cX8_old 1 (some .int) :: ([.fieldLink RX8 7 "NamedMovesModel" "s" "[I"] ++ wsX80)
def wsX8_free : List Cond := .code yX8_free cX8_free 2 (some .int) :: ([.fieldLink RX8 7 "NamedMovesModel" "s" "[I"] ++ wsX80)
def wsX8_kept : List Cond := .code yX8_kept cX8_kept 3 (some .int) :: ([.methodLink RX8 52 yX8_old, .instanceMethod yX8_old, .selects RX8 yX8_old yX8_old, .initialized RX8, .code yX8_old cX8_old 1 (some .int), .fieldLink RX8 7 "NamedMovesModel" "s" "[I", .methodLink RX8 56 yX8_isMoving, .instanceMethod yX8_isMoving, .selects RX8 yX8_isMoving yX8_isMoving, .code yX8_isMoving cX8_isMoving 1 (some .boolean), .methodLink RX8 48 yX8_isCopy, .instanceMethod yX8_isCopy, .selects RX8 yX8_isCopy yX8_isCopy, .code yX8_isCopy cX8_isCopy 2 (some .boolean), .methodLink RX8 44 yX8_ofCopy, .instanceMethod yX8_ofCopy, .selects RX8 yX8_ofCopy yX8_ofCopy, .code yX8_ofCopy cX8_ofCopy 3 (some .int), .methodLink RX8 60 yX8_sizeAt, .instanceMethod yX8_sizeAt, .selects RX8 yX8_sizeAt yX8_sizeAt, .code yX8_sizeAt cX8_sizeAt 2 (some .int)] ++ wsX80)
def wsX8_lays : List Cond := .code yX8_lays cX8_lays 7 none :: ([.fieldLink RX8 7 "NamedMovesModel" "s" "[I"] ++ wsX80)
def wsX8_joins : List Cond := .code yX8_joins cX8_joins 2 none :: ([.fieldLink RX8 7 "NamedMovesModel" "s" "[I"] ++ wsX80)
def wsX8_laysInHalf : List Cond := .code yX8_laysInHalf cX8_laysInHalf 5 (some .int) :: ([.fieldLink RX8 7 "NamedMovesModel" "s" "[I", .methodLink RX8 64 yX8_lays, .instanceMethod yX8_lays, .selects RX8 yX8_lays yX8_lays, .initialized RX8, .code yX8_lays cX8_lays 7 none] ++ wsX80)
def wsX8_carries : List Cond := .code yX8_carries cX8_carries 3 (some .int) :: ([.fieldLink RX8 7 "NamedMovesModel" "s" "[I", .methodLink RX8 44 yX8_ofCopy, .instanceMethod yX8_ofCopy, .selects RX8 yX8_ofCopy yX8_ofCopy, .initialized RX8, .code yX8_ofCopy cX8_ofCopy 3 (some .int), .methodLink RX8 68 yX8_laysInHalf, .instanceMethod yX8_laysInHalf, .selects RX8 yX8_laysInHalf yX8_laysInHalf, .code yX8_laysInHalf cX8_laysInHalf 5 (some .int), .methodLink RX8 64 yX8_lays, .instanceMethod yX8_lays, .selects RX8 yX8_lays yX8_lays, .code yX8_lays cX8_lays 7 none, .methodLink RX8 72 yX8_joins, .instanceMethod yX8_joins, .selects RX8 yX8_joins yX8_joins, .code yX8_joins cX8_joins 2 none, .methodLink RX8 76 yX8_address, .static yX8_address, .code yX8_address cX8_address 1 (some .int)] ++ wsX80)
def wsX8_reads_r1 : List Cond := [Cond.fieldLink RX8 7 "NamedMovesModel" "s" "[I", Cond.methodLink RX8 56 yX8_isMoving, Cond.instanceMethod yX8_isMoving, Cond.selects RX8 yX8_isMoving yX8_isMoving, Cond.initialized RX8, Cond.code yX8_isMoving cX8_isMoving 1 (some .boolean), Cond.methodLink RX8 79 yX8_cell, Cond.static yX8_cell, Cond.code yX8_cell cX8_cell 1 (some .int), Cond.methodLink RX8 52 yX8_old, Cond.instanceMethod yX8_old, Cond.selects RX8 yX8_old yX8_old, Cond.code yX8_old cX8_old 1 (some .int), Cond.methodLink RX8 44 yX8_ofCopy, Cond.instanceMethod yX8_ofCopy, Cond.selects RX8 yX8_ofCopy yX8_ofCopy, Cond.code yX8_ofCopy cX8_ofCopy 3 (some .int), Cond.methodLink RX8 82 yX8_carries, Cond.instanceMethod yX8_carries, Cond.selects RX8 yX8_carries yX8_carries, Cond.code yX8_carries cX8_carries 3 (some .int), Cond.methodLink RX8 68 yX8_laysInHalf, Cond.instanceMethod yX8_laysInHalf, Cond.selects RX8 yX8_laysInHalf yX8_laysInHalf]
def wsX8_reads_r2 : List Cond := [Cond.code yX8_laysInHalf cX8_laysInHalf 5 (some .int), Cond.methodLink RX8 64 yX8_lays, Cond.instanceMethod yX8_lays, Cond.selects RX8 yX8_lays yX8_lays, Cond.code yX8_lays cX8_lays 7 none, Cond.methodLink RX8 72 yX8_joins, Cond.instanceMethod yX8_joins, Cond.selects RX8 yX8_joins yX8_joins, Cond.code yX8_joins cX8_joins 2 none, Cond.methodLink RX8 76 yX8_address, Cond.static yX8_address, Cond.code yX8_address cX8_address 1 (some .int)]
def wsX8_reads : List Cond := .code yX8_reads cX8_reads 4 none :: ((wsX8_reads_r1 ++ wsX8_reads_r2) ++ wsX80)
def wsX8_ends : List Cond := .code yX8_ends cX8_ends 3 none :: ([.fieldLink RX8 7 "NamedMovesModel" "s" "[I", .methodLink RX8 52 yX8_old, .instanceMethod yX8_old, .selects RX8 yX8_old yX8_old, .initialized RX8, .code yX8_old cX8_old 1 (some .int), .methodLink RX8 44 yX8_ofCopy, .instanceMethod yX8_ofCopy, .selects RX8 yX8_ofCopy yX8_ofCopy, .code yX8_ofCopy cX8_ofCopy 3 (some .int)] ++ wsX80)
def wsX8_begins_r1 : List Cond := [Cond.fieldLink RX8 7 "NamedMovesModel" "s" "[I", Cond.methodLink RX8 52 yX8_old, Cond.instanceMethod yX8_old, Cond.selects RX8 yX8_old yX8_old, Cond.initialized RX8, Cond.code yX8_old cX8_old 1 (some .int), Cond.methodLink RX8 85 yX8_reads, Cond.instanceMethod yX8_reads, Cond.selects RX8 yX8_reads yX8_reads, Cond.code yX8_reads cX8_reads 4 none, Cond.methodLink RX8 56 yX8_isMoving, Cond.instanceMethod yX8_isMoving, Cond.selects RX8 yX8_isMoving yX8_isMoving, Cond.code yX8_isMoving cX8_isMoving 1 (some .boolean), Cond.methodLink RX8 79 yX8_cell, Cond.static yX8_cell, Cond.code yX8_cell cX8_cell 1 (some .int), Cond.methodLink RX8 44 yX8_ofCopy, Cond.instanceMethod yX8_ofCopy, Cond.selects RX8 yX8_ofCopy yX8_ofCopy, Cond.code yX8_ofCopy cX8_ofCopy 3 (some .int), Cond.methodLink RX8 82 yX8_carries, Cond.instanceMethod yX8_carries, Cond.selects RX8 yX8_carries yX8_carries]
def wsX8_begins_r2 : List Cond := [Cond.code yX8_carries cX8_carries 3 (some .int), Cond.methodLink RX8 68 yX8_laysInHalf, Cond.instanceMethod yX8_laysInHalf, Cond.selects RX8 yX8_laysInHalf yX8_laysInHalf, Cond.code yX8_laysInHalf cX8_laysInHalf 5 (some .int), Cond.methodLink RX8 64 yX8_lays, Cond.instanceMethod yX8_lays, Cond.selects RX8 yX8_lays yX8_lays, Cond.code yX8_lays cX8_lays 7 none, Cond.methodLink RX8 72 yX8_joins, Cond.instanceMethod yX8_joins, Cond.selects RX8 yX8_joins yX8_joins, Cond.code yX8_joins cX8_joins 2 none, Cond.methodLink RX8 76 yX8_address, Cond.static yX8_address, Cond.code yX8_address cX8_address 1 (some .int), Cond.methodLink RX8 88 yX8_ends, Cond.instanceMethod yX8_ends, Cond.selects RX8 yX8_ends yX8_ends, Cond.code yX8_ends cX8_ends 3 none]
def wsX8_begins : List Cond := .code yX8_begins cX8_begins 2 none :: ((wsX8_begins_r1 ++ wsX8_begins_r2) ++ wsX80)
def wsX8_steps_r1 : List Cond := [Cond.fieldLink RX8 7 "NamedMovesModel" "s" "[I", Cond.methodLink RX8 85 yX8_reads, Cond.instanceMethod yX8_reads, Cond.selects RX8 yX8_reads yX8_reads, Cond.initialized RX8, Cond.code yX8_reads cX8_reads 4 none, Cond.methodLink RX8 56 yX8_isMoving, Cond.instanceMethod yX8_isMoving, Cond.selects RX8 yX8_isMoving yX8_isMoving, Cond.code yX8_isMoving cX8_isMoving 1 (some .boolean), Cond.methodLink RX8 79 yX8_cell, Cond.static yX8_cell, Cond.code yX8_cell cX8_cell 1 (some .int), Cond.methodLink RX8 52 yX8_old, Cond.instanceMethod yX8_old, Cond.selects RX8 yX8_old yX8_old, Cond.code yX8_old cX8_old 1 (some .int), Cond.methodLink RX8 44 yX8_ofCopy, Cond.instanceMethod yX8_ofCopy, Cond.selects RX8 yX8_ofCopy yX8_ofCopy, Cond.code yX8_ofCopy cX8_ofCopy 3 (some .int), Cond.methodLink RX8 82 yX8_carries, Cond.instanceMethod yX8_carries, Cond.selects RX8 yX8_carries yX8_carries]
def wsX8_steps_r2 : List Cond := [Cond.code yX8_carries cX8_carries 3 (some .int), Cond.methodLink RX8 68 yX8_laysInHalf, Cond.instanceMethod yX8_laysInHalf, Cond.selects RX8 yX8_laysInHalf yX8_laysInHalf, Cond.code yX8_laysInHalf cX8_laysInHalf 5 (some .int), Cond.methodLink RX8 64 yX8_lays, Cond.instanceMethod yX8_lays, Cond.selects RX8 yX8_lays yX8_lays, Cond.code yX8_lays cX8_lays 7 none, Cond.methodLink RX8 72 yX8_joins, Cond.instanceMethod yX8_joins, Cond.selects RX8 yX8_joins yX8_joins, Cond.code yX8_joins cX8_joins 2 none, Cond.methodLink RX8 76 yX8_address, Cond.static yX8_address, Cond.code yX8_address cX8_address 1 (some .int), Cond.methodLink RX8 88 yX8_ends, Cond.instanceMethod yX8_ends, Cond.selects RX8 yX8_ends yX8_ends, Cond.code yX8_ends cX8_ends 3 none]
def wsX8_steps : List Cond := .code yX8_steps cX8_steps 3 none :: ((wsX8_steps_r1 ++ wsX8_steps_r2) ++ wsX80)
def wsX8_stepsToEnd_r1 : List Cond := [Cond.methodLink RX8 56 yX8_isMoving, Cond.instanceMethod yX8_isMoving, Cond.selects RX8 yX8_isMoving yX8_isMoving, Cond.initialized RX8, Cond.code yX8_isMoving cX8_isMoving 1 (some .boolean), Cond.fieldLink RX8 7 "NamedMovesModel" "s" "[I", Cond.methodLink RX8 91 yX8_steps, Cond.instanceMethod yX8_steps, Cond.selects RX8 yX8_steps yX8_steps, Cond.code yX8_steps cX8_steps 3 none, Cond.methodLink RX8 85 yX8_reads, Cond.instanceMethod yX8_reads, Cond.selects RX8 yX8_reads yX8_reads, Cond.code yX8_reads cX8_reads 4 none, Cond.methodLink RX8 79 yX8_cell, Cond.static yX8_cell, Cond.code yX8_cell cX8_cell 1 (some .int), Cond.methodLink RX8 52 yX8_old, Cond.instanceMethod yX8_old, Cond.selects RX8 yX8_old yX8_old, Cond.code yX8_old cX8_old 1 (some .int), Cond.methodLink RX8 44 yX8_ofCopy, Cond.instanceMethod yX8_ofCopy, Cond.selects RX8 yX8_ofCopy yX8_ofCopy]
def wsX8_stepsToEnd_r2 : List Cond := [Cond.code yX8_ofCopy cX8_ofCopy 3 (some .int), Cond.methodLink RX8 82 yX8_carries, Cond.instanceMethod yX8_carries, Cond.selects RX8 yX8_carries yX8_carries, Cond.code yX8_carries cX8_carries 3 (some .int), Cond.methodLink RX8 68 yX8_laysInHalf, Cond.instanceMethod yX8_laysInHalf, Cond.selects RX8 yX8_laysInHalf yX8_laysInHalf, Cond.code yX8_laysInHalf cX8_laysInHalf 5 (some .int), Cond.methodLink RX8 64 yX8_lays, Cond.instanceMethod yX8_lays, Cond.selects RX8 yX8_lays yX8_lays, Cond.code yX8_lays cX8_lays 7 none, Cond.methodLink RX8 72 yX8_joins, Cond.instanceMethod yX8_joins, Cond.selects RX8 yX8_joins yX8_joins, Cond.code yX8_joins cX8_joins 2 none, Cond.methodLink RX8 76 yX8_address, Cond.static yX8_address, Cond.code yX8_address cX8_address 1 (some .int), Cond.methodLink RX8 88 yX8_ends, Cond.instanceMethod yX8_ends, Cond.selects RX8 yX8_ends yX8_ends, Cond.code yX8_ends cX8_ends 3 none]
def wsX8_stepsToEnd : List Cond := .code yX8_stepsToEnd cX8_stepsToEnd 2 (some .int) :: ((wsX8_stepsToEnd_r1 ++ wsX8_stepsToEnd_r2) ++ wsX80)
def wsX8_setHeavy : List Cond := .code yX8_setHeavy cX8_setHeavy 3 (some .int) :: ([.fieldLink RX8 7 "NamedMovesModel" "s" "[I", .methodLink RX8 40 yX8_in, .static yX8_in, .initialized RX8, .code yX8_in cX8_in 3 (some .boolean), .methodLink RX8 94 yX8_acts, .instanceMethod yX8_acts, .selects RX8 yX8_acts yX8_acts, .code yX8_acts cX8_acts 2 none, .fieldLink RX8 32 "NamedMovesModel" "runs" "Z", .fieldLink RX8 36 "NamedMovesModel" "pasts" "I", .fieldLink RX8 13 "NamedMovesModel" "past" "[I"] ++ wsX80)
def wsX8_floorPlace : List Cond := .code yX8_floorPlace cX8_floorPlace 5 (some .int) :: ([.methodLink RX8 60 yX8_sizeAt, .instanceMethod yX8_sizeAt, .selects RX8 yX8_sizeAt yX8_sizeAt, .initialized RX8, .code yX8_sizeAt cX8_sizeAt 2 (some .int), .fieldLink RX8 7 "NamedMovesModel" "s" "[I", .methodLink RX8 48 yX8_isCopy, .instanceMethod yX8_isCopy, .selects RX8 yX8_isCopy yX8_isCopy, .code yX8_isCopy cX8_isCopy 2 (some .boolean), .methodLink RX8 44 yX8_ofCopy, .instanceMethod yX8_ofCopy, .selects RX8 yX8_ofCopy yX8_ofCopy, .code yX8_ofCopy cX8_ofCopy 3 (some .int)] ++ wsX80)
def wsX8_make_r1 : List Cond := [Cond.fieldLink RX8 7 "NamedMovesModel" "s" "[I", Cond.methodLink RX8 40 yX8_in, Cond.static yX8_in, Cond.initialized RX8, Cond.code yX8_in cX8_in 3 (some .boolean), Cond.methodLink RX8 97 yX8_isHook, Cond.static yX8_isHook, Cond.code yX8_isHook cX8_isHook 1 (some .boolean), Cond.methodLink RX8 100 yX8_floorPlace, Cond.instanceMethod yX8_floorPlace, Cond.selects RX8 yX8_floorPlace yX8_floorPlace, Cond.code yX8_floorPlace cX8_floorPlace 5 (some .int), Cond.methodLink RX8 60 yX8_sizeAt, Cond.instanceMethod yX8_sizeAt, Cond.selects RX8 yX8_sizeAt yX8_sizeAt, Cond.code yX8_sizeAt cX8_sizeAt 2 (some .int), Cond.methodLink RX8 48 yX8_isCopy, Cond.instanceMethod yX8_isCopy, Cond.selects RX8 yX8_isCopy yX8_isCopy, Cond.code yX8_isCopy cX8_isCopy 2 (some .boolean), Cond.methodLink RX8 44 yX8_ofCopy, Cond.instanceMethod yX8_ofCopy, Cond.selects RX8 yX8_ofCopy yX8_ofCopy, Cond.code yX8_ofCopy cX8_ofCopy 3 (some .int)]
def wsX8_make_r2 : List Cond := [Cond.methodLink RX8 103 yX8_free, Cond.instanceMethod yX8_free, Cond.selects RX8 yX8_free yX8_free, Cond.code yX8_free cX8_free 2 (some .int), Cond.methodLink RX8 106 yX8_kept, Cond.instanceMethod yX8_kept, Cond.selects RX8 yX8_kept yX8_kept, Cond.code yX8_kept cX8_kept 3 (some .int), Cond.methodLink RX8 52 yX8_old, Cond.instanceMethod yX8_old, Cond.selects RX8 yX8_old yX8_old, Cond.code yX8_old cX8_old 1 (some .int), Cond.methodLink RX8 56 yX8_isMoving, Cond.instanceMethod yX8_isMoving, Cond.selects RX8 yX8_isMoving yX8_isMoving, Cond.code yX8_isMoving cX8_isMoving 1 (some .boolean), Cond.methodLink RX8 94 yX8_acts, Cond.instanceMethod yX8_acts, Cond.selects RX8 yX8_acts yX8_acts, Cond.code yX8_acts cX8_acts 2 none, Cond.fieldLink RX8 32 "NamedMovesModel" "runs" "Z", Cond.fieldLink RX8 36 "NamedMovesModel" "pasts" "I", Cond.fieldLink RX8 13 "NamedMovesModel" "past" "[I", Cond.methodLink RX8 64 yX8_lays]
def wsX8_make_r3 : List Cond := [Cond.instanceMethod yX8_lays, Cond.selects RX8 yX8_lays yX8_lays, Cond.code yX8_lays cX8_lays 7 none, Cond.methodLink RX8 68 yX8_laysInHalf, Cond.instanceMethod yX8_laysInHalf, Cond.selects RX8 yX8_laysInHalf yX8_laysInHalf, Cond.code yX8_laysInHalf cX8_laysInHalf 5 (some .int), Cond.methodLink RX8 76 yX8_address, Cond.static yX8_address, Cond.code yX8_address cX8_address 1 (some .int)]
def wsX8_make : List Cond := .code yX8_make cX8_make 8 (some .int) :: ((wsX8_make_r1 ++ (wsX8_make_r2 ++ wsX8_make_r3)) ++ wsX80)
def wsX8_told : List Cond := .code yX8_told cX8_told 1 (some .int) :: ([])
def wsX8_isRight : List Cond := .code yX8_isRight cX8_isRight 4 (some .boolean) :: ([.methodLink RX8 97 yX8_isHook, .static yX8_isHook, .initialized RX8, .code yX8_isHook cX8_isHook 1 (some .boolean), .methodLink RX8 40 yX8_in, .static yX8_in, .code yX8_in cX8_in 3 (some .boolean)])
def wsX8_link_r1 : List Cond := [Cond.fieldLink RX8 7 "NamedMovesModel" "s" "[I", Cond.methodLink RX8 109 yX8_isRight, Cond.instanceMethod yX8_isRight, Cond.selects RX8 yX8_isRight yX8_isRight, Cond.initialized RX8, Cond.code yX8_isRight cX8_isRight 4 (some .boolean), Cond.methodLink RX8 97 yX8_isHook, Cond.static yX8_isHook, Cond.code yX8_isHook cX8_isHook 1 (some .boolean), Cond.methodLink RX8 40 yX8_in, Cond.static yX8_in, Cond.code yX8_in cX8_in 3 (some .boolean), Cond.methodLink RX8 94 yX8_acts, Cond.instanceMethod yX8_acts, Cond.selects RX8 yX8_acts yX8_acts, Cond.code yX8_acts cX8_acts 2 none, Cond.fieldLink RX8 32 "NamedMovesModel" "runs" "Z", Cond.fieldLink RX8 36 "NamedMovesModel" "pasts" "I", Cond.fieldLink RX8 13 "NamedMovesModel" "past" "[I", Cond.methodLink RX8 85 yX8_reads, Cond.instanceMethod yX8_reads, Cond.selects RX8 yX8_reads yX8_reads, Cond.code yX8_reads cX8_reads 4 none, Cond.methodLink RX8 56 yX8_isMoving]
def wsX8_link_r2 : List Cond := [Cond.instanceMethod yX8_isMoving, Cond.selects RX8 yX8_isMoving yX8_isMoving, Cond.code yX8_isMoving cX8_isMoving 1 (some .boolean), Cond.methodLink RX8 79 yX8_cell, Cond.static yX8_cell, Cond.code yX8_cell cX8_cell 1 (some .int), Cond.methodLink RX8 52 yX8_old, Cond.instanceMethod yX8_old, Cond.selects RX8 yX8_old yX8_old, Cond.code yX8_old cX8_old 1 (some .int), Cond.methodLink RX8 44 yX8_ofCopy, Cond.instanceMethod yX8_ofCopy, Cond.selects RX8 yX8_ofCopy yX8_ofCopy, Cond.code yX8_ofCopy cX8_ofCopy 3 (some .int), Cond.methodLink RX8 82 yX8_carries, Cond.instanceMethod yX8_carries, Cond.selects RX8 yX8_carries yX8_carries, Cond.code yX8_carries cX8_carries 3 (some .int), Cond.methodLink RX8 68 yX8_laysInHalf, Cond.instanceMethod yX8_laysInHalf, Cond.selects RX8 yX8_laysInHalf yX8_laysInHalf, Cond.code yX8_laysInHalf cX8_laysInHalf 5 (some .int), Cond.methodLink RX8 64 yX8_lays, Cond.instanceMethod yX8_lays]
def wsX8_link_r3 : List Cond := [Cond.selects RX8 yX8_lays yX8_lays, Cond.code yX8_lays cX8_lays 7 none, Cond.methodLink RX8 72 yX8_joins, Cond.instanceMethod yX8_joins, Cond.selects RX8 yX8_joins yX8_joins, Cond.code yX8_joins cX8_joins 2 none, Cond.methodLink RX8 76 yX8_address, Cond.static yX8_address, Cond.code yX8_address cX8_address 1 (some .int), Cond.methodLink RX8 112 yX8_told, Cond.static yX8_told, Cond.code yX8_told cX8_told 1 (some .int)]
def wsX8_link : List Cond := .code yX8_link cX8_link 4 (some .int) :: ((wsX8_link_r1 ++ (wsX8_link_r2 ++ wsX8_link_r3)) ++ wsX80)
def wsX8_follow_r1 : List Cond := [Cond.fieldLink RX8 7 "NamedMovesModel" "s" "[I", Cond.methodLink RX8 109 yX8_isRight, Cond.instanceMethod yX8_isRight, Cond.selects RX8 yX8_isRight yX8_isRight, Cond.initialized RX8, Cond.code yX8_isRight cX8_isRight 4 (some .boolean), Cond.methodLink RX8 97 yX8_isHook, Cond.static yX8_isHook, Cond.code yX8_isHook cX8_isHook 1 (some .boolean), Cond.methodLink RX8 40 yX8_in, Cond.static yX8_in, Cond.code yX8_in cX8_in 3 (some .boolean), Cond.methodLink RX8 94 yX8_acts, Cond.instanceMethod yX8_acts, Cond.selects RX8 yX8_acts yX8_acts, Cond.code yX8_acts cX8_acts 2 none, Cond.fieldLink RX8 32 "NamedMovesModel" "runs" "Z", Cond.fieldLink RX8 36 "NamedMovesModel" "pasts" "I", Cond.fieldLink RX8 13 "NamedMovesModel" "past" "[I", Cond.methodLink RX8 85 yX8_reads, Cond.instanceMethod yX8_reads, Cond.selects RX8 yX8_reads yX8_reads, Cond.code yX8_reads cX8_reads 4 none, Cond.methodLink RX8 56 yX8_isMoving]
def wsX8_follow_r2 : List Cond := [Cond.instanceMethod yX8_isMoving, Cond.selects RX8 yX8_isMoving yX8_isMoving, Cond.code yX8_isMoving cX8_isMoving 1 (some .boolean), Cond.methodLink RX8 79 yX8_cell, Cond.static yX8_cell, Cond.code yX8_cell cX8_cell 1 (some .int), Cond.methodLink RX8 52 yX8_old, Cond.instanceMethod yX8_old, Cond.selects RX8 yX8_old yX8_old, Cond.code yX8_old cX8_old 1 (some .int), Cond.methodLink RX8 44 yX8_ofCopy, Cond.instanceMethod yX8_ofCopy, Cond.selects RX8 yX8_ofCopy yX8_ofCopy, Cond.code yX8_ofCopy cX8_ofCopy 3 (some .int), Cond.methodLink RX8 82 yX8_carries, Cond.instanceMethod yX8_carries, Cond.selects RX8 yX8_carries yX8_carries, Cond.code yX8_carries cX8_carries 3 (some .int), Cond.methodLink RX8 68 yX8_laysInHalf, Cond.instanceMethod yX8_laysInHalf, Cond.selects RX8 yX8_laysInHalf yX8_laysInHalf, Cond.code yX8_laysInHalf cX8_laysInHalf 5 (some .int), Cond.methodLink RX8 64 yX8_lays, Cond.instanceMethod yX8_lays]
def wsX8_follow_r3 : List Cond := [Cond.selects RX8 yX8_lays yX8_lays, Cond.code yX8_lays cX8_lays 7 none, Cond.methodLink RX8 72 yX8_joins, Cond.instanceMethod yX8_joins, Cond.selects RX8 yX8_joins yX8_joins, Cond.code yX8_joins cX8_joins 2 none, Cond.methodLink RX8 76 yX8_address, Cond.static yX8_address, Cond.code yX8_address cX8_address 1 (some .int), Cond.methodLink RX8 112 yX8_told, Cond.static yX8_told, Cond.code yX8_told cX8_told 1 (some .int)]
def wsX8_follow : List Cond := .code yX8_follow cX8_follow 5 (some .int) :: ((wsX8_follow_r1 ++ (wsX8_follow_r2 ++ wsX8_follow_r3)) ++ wsX80)
def wsX8_drop : List Cond := .code yX8_drop cX8_drop 3 (some .int) :: ([.fieldLink RX8 7 "NamedMovesModel" "s" "[I", .methodLink RX8 97 yX8_isHook, .static yX8_isHook, .initialized RX8, .code yX8_isHook cX8_isHook 1 (some .boolean), .methodLink RX8 40 yX8_in, .static yX8_in, .code yX8_in cX8_in 3 (some .boolean), .methodLink RX8 94 yX8_acts, .instanceMethod yX8_acts, .selects RX8 yX8_acts yX8_acts, .code yX8_acts cX8_acts 2 none, .fieldLink RX8 32 "NamedMovesModel" "runs" "Z", .fieldLink RX8 36 "NamedMovesModel" "pasts" "I", .fieldLink RX8 13 "NamedMovesModel" "past" "[I", .methodLink RX8 112 yX8_told, .static yX8_told, .code yX8_told cX8_told 1 (some .int)] ++ wsX80)
def wsX8_begin_r1 : List Cond := [Cond.fieldLink RX8 7 "NamedMovesModel" "s" "[I", Cond.methodLink RX8 56 yX8_isMoving, Cond.instanceMethod yX8_isMoving, Cond.selects RX8 yX8_isMoving yX8_isMoving, Cond.initialized RX8, Cond.code yX8_isMoving cX8_isMoving 1 (some .boolean), Cond.methodLink RX8 94 yX8_acts, Cond.instanceMethod yX8_acts, Cond.selects RX8 yX8_acts yX8_acts, Cond.code yX8_acts cX8_acts 2 none, Cond.fieldLink RX8 32 "NamedMovesModel" "runs" "Z", Cond.fieldLink RX8 36 "NamedMovesModel" "pasts" "I", Cond.fieldLink RX8 13 "NamedMovesModel" "past" "[I", Cond.methodLink RX8 115 yX8_begins, Cond.instanceMethod yX8_begins, Cond.selects RX8 yX8_begins yX8_begins, Cond.code yX8_begins cX8_begins 2 none, Cond.methodLink RX8 52 yX8_old, Cond.instanceMethod yX8_old, Cond.selects RX8 yX8_old yX8_old, Cond.code yX8_old cX8_old 1 (some .int), Cond.methodLink RX8 85 yX8_reads, Cond.instanceMethod yX8_reads, Cond.selects RX8 yX8_reads yX8_reads]
def wsX8_begin_r2 : List Cond := [Cond.code yX8_reads cX8_reads 4 none, Cond.methodLink RX8 79 yX8_cell, Cond.static yX8_cell, Cond.code yX8_cell cX8_cell 1 (some .int), Cond.methodLink RX8 44 yX8_ofCopy, Cond.instanceMethod yX8_ofCopy, Cond.selects RX8 yX8_ofCopy yX8_ofCopy, Cond.code yX8_ofCopy cX8_ofCopy 3 (some .int), Cond.methodLink RX8 82 yX8_carries, Cond.instanceMethod yX8_carries, Cond.selects RX8 yX8_carries yX8_carries, Cond.code yX8_carries cX8_carries 3 (some .int), Cond.methodLink RX8 68 yX8_laysInHalf, Cond.instanceMethod yX8_laysInHalf, Cond.selects RX8 yX8_laysInHalf yX8_laysInHalf, Cond.code yX8_laysInHalf cX8_laysInHalf 5 (some .int), Cond.methodLink RX8 64 yX8_lays, Cond.instanceMethod yX8_lays, Cond.selects RX8 yX8_lays yX8_lays, Cond.code yX8_lays cX8_lays 7 none, Cond.methodLink RX8 72 yX8_joins, Cond.instanceMethod yX8_joins, Cond.selects RX8 yX8_joins yX8_joins, Cond.code yX8_joins cX8_joins 2 none]
def wsX8_begin_r3 : List Cond := [Cond.methodLink RX8 76 yX8_address, Cond.static yX8_address, Cond.code yX8_address cX8_address 1 (some .int), Cond.methodLink RX8 88 yX8_ends, Cond.instanceMethod yX8_ends, Cond.selects RX8 yX8_ends yX8_ends, Cond.code yX8_ends cX8_ends 3 none]
def wsX8_begin : List Cond := .code yX8_begin cX8_begin 1 (some .int) :: ((wsX8_begin_r1 ++ (wsX8_begin_r2 ++ wsX8_begin_r3)) ++ wsX80)
def wsX8_carry_r1 : List Cond := [Cond.methodLink RX8 40 yX8_in, Cond.static yX8_in, Cond.initialized RX8, Cond.code yX8_in cX8_in 3 (some .boolean), Cond.methodLink RX8 56 yX8_isMoving, Cond.instanceMethod yX8_isMoving, Cond.selects RX8 yX8_isMoving yX8_isMoving, Cond.code yX8_isMoving cX8_isMoving 1 (some .boolean), Cond.fieldLink RX8 7 "NamedMovesModel" "s" "[I", Cond.methodLink RX8 94 yX8_acts, Cond.instanceMethod yX8_acts, Cond.selects RX8 yX8_acts yX8_acts, Cond.code yX8_acts cX8_acts 2 none, Cond.fieldLink RX8 32 "NamedMovesModel" "runs" "Z", Cond.fieldLink RX8 36 "NamedMovesModel" "pasts" "I", Cond.fieldLink RX8 13 "NamedMovesModel" "past" "[I", Cond.methodLink RX8 91 yX8_steps, Cond.instanceMethod yX8_steps, Cond.selects RX8 yX8_steps yX8_steps, Cond.code yX8_steps cX8_steps 3 none, Cond.methodLink RX8 85 yX8_reads, Cond.instanceMethod yX8_reads, Cond.selects RX8 yX8_reads yX8_reads, Cond.code yX8_reads cX8_reads 4 none]
def wsX8_carry_r2 : List Cond := [Cond.methodLink RX8 79 yX8_cell, Cond.static yX8_cell, Cond.code yX8_cell cX8_cell 1 (some .int), Cond.methodLink RX8 52 yX8_old, Cond.instanceMethod yX8_old, Cond.selects RX8 yX8_old yX8_old, Cond.code yX8_old cX8_old 1 (some .int), Cond.methodLink RX8 44 yX8_ofCopy, Cond.instanceMethod yX8_ofCopy, Cond.selects RX8 yX8_ofCopy yX8_ofCopy, Cond.code yX8_ofCopy cX8_ofCopy 3 (some .int), Cond.methodLink RX8 82 yX8_carries, Cond.instanceMethod yX8_carries, Cond.selects RX8 yX8_carries yX8_carries, Cond.code yX8_carries cX8_carries 3 (some .int), Cond.methodLink RX8 68 yX8_laysInHalf, Cond.instanceMethod yX8_laysInHalf, Cond.selects RX8 yX8_laysInHalf yX8_laysInHalf, Cond.code yX8_laysInHalf cX8_laysInHalf 5 (some .int), Cond.methodLink RX8 64 yX8_lays, Cond.instanceMethod yX8_lays, Cond.selects RX8 yX8_lays yX8_lays, Cond.code yX8_lays cX8_lays 7 none, Cond.methodLink RX8 72 yX8_joins]
def wsX8_carry_r3 : List Cond := [Cond.instanceMethod yX8_joins, Cond.selects RX8 yX8_joins yX8_joins, Cond.code yX8_joins cX8_joins 2 none, Cond.methodLink RX8 76 yX8_address, Cond.static yX8_address, Cond.code yX8_address cX8_address 1 (some .int), Cond.methodLink RX8 88 yX8_ends, Cond.instanceMethod yX8_ends, Cond.selects RX8 yX8_ends yX8_ends, Cond.code yX8_ends cX8_ends 3 none]
def wsX8_carry : List Cond := .code yX8_carry cX8_carry 3 (some .int) :: ((wsX8_carry_r1 ++ (wsX8_carry_r2 ++ wsX8_carry_r3)) ++ wsX80)
def wsX8_noted : List Cond := .code yX8_noted cX8_noted 5 (some .int) :: ([.methodLink RX8 52 yX8_old, .instanceMethod yX8_old, .selects RX8 yX8_old yX8_old, .initialized RX8, .code yX8_old cX8_old 1 (some .int), .fieldLink RX8 7 "NamedMovesModel" "s" "[I", .methodLink RX8 44 yX8_ofCopy, .instanceMethod yX8_ofCopy, .selects RX8 yX8_ofCopy yX8_ofCopy, .code yX8_ofCopy cX8_ofCopy 3 (some .int)] ++ wsX80)
def wsX8_lose_r1 : List Cond := [Cond.fieldLink RX8 7 "NamedMovesModel" "s" "[I", Cond.methodLink RX8 118 yX8_isThing, Cond.instanceMethod yX8_isThing, Cond.selects RX8 yX8_isThing yX8_isThing, Cond.initialized RX8, Cond.code yX8_isThing cX8_isThing 2 (some .boolean), Cond.methodLink RX8 56 yX8_isMoving, Cond.instanceMethod yX8_isMoving, Cond.selects RX8 yX8_isMoving yX8_isMoving, Cond.code yX8_isMoving cX8_isMoving 1 (some .boolean), Cond.methodLink RX8 121 yX8_noted, Cond.instanceMethod yX8_noted, Cond.selects RX8 yX8_noted yX8_noted, Cond.code yX8_noted cX8_noted 5 (some .int), Cond.methodLink RX8 52 yX8_old, Cond.instanceMethod yX8_old, Cond.selects RX8 yX8_old yX8_old, Cond.code yX8_old cX8_old 1 (some .int), Cond.methodLink RX8 44 yX8_ofCopy, Cond.instanceMethod yX8_ofCopy, Cond.selects RX8 yX8_ofCopy yX8_ofCopy, Cond.code yX8_ofCopy cX8_ofCopy 3 (some .int), Cond.methodLink RX8 103 yX8_free, Cond.instanceMethod yX8_free]
def wsX8_lose_r2 : List Cond := [Cond.selects RX8 yX8_free yX8_free, Cond.code yX8_free cX8_free 2 (some .int), Cond.methodLink RX8 106 yX8_kept, Cond.instanceMethod yX8_kept, Cond.selects RX8 yX8_kept yX8_kept, Cond.code yX8_kept cX8_kept 3 (some .int), Cond.methodLink RX8 48 yX8_isCopy, Cond.instanceMethod yX8_isCopy, Cond.selects RX8 yX8_isCopy yX8_isCopy, Cond.code yX8_isCopy cX8_isCopy 2 (some .boolean), Cond.methodLink RX8 60 yX8_sizeAt, Cond.instanceMethod yX8_sizeAt, Cond.selects RX8 yX8_sizeAt yX8_sizeAt, Cond.code yX8_sizeAt cX8_sizeAt 2 (some .int), Cond.methodLink RX8 94 yX8_acts, Cond.instanceMethod yX8_acts, Cond.selects RX8 yX8_acts yX8_acts, Cond.code yX8_acts cX8_acts 2 none, Cond.fieldLink RX8 32 "NamedMovesModel" "runs" "Z", Cond.fieldLink RX8 36 "NamedMovesModel" "pasts" "I", Cond.fieldLink RX8 13 "NamedMovesModel" "past" "[I", Cond.methodLink RX8 76 yX8_address, Cond.static yX8_address, Cond.code yX8_address cX8_address 1 (some .int)]
def wsX8_lose : List Cond := .code yX8_lose cX8_lose 3 (some .int) :: ((wsX8_lose_r1 ++ wsX8_lose_r2) ++ wsX80)
def wsX8_copies : List Cond := .code yX8_copies cX8_copies 5 (some .int) :: ([.methodLink RX8 56 yX8_isMoving, .instanceMethod yX8_isMoving, .selects RX8 yX8_isMoving yX8_isMoving, .initialized RX8, .code yX8_isMoving cX8_isMoving 1 (some .boolean), .fieldLink RX8 7 "NamedMovesModel" "s" "[I", .methodLink RX8 52 yX8_old, .instanceMethod yX8_old, .selects RX8 yX8_old yX8_old, .code yX8_old cX8_old 1 (some .int), .methodLink RX8 44 yX8_ofCopy, .instanceMethod yX8_ofCopy, .selects RX8 yX8_ofCopy yX8_ofCopy, .code yX8_ofCopy cX8_ofCopy 3 (some .int)] ++ wsX80)
def wsX8_first : List Cond := .code yX8_first cX8_first 3 (some .int) :: ([.methodLink RX8 44 yX8_ofCopy, .instanceMethod yX8_ofCopy, .selects RX8 yX8_ofCopy yX8_ofCopy, .initialized RX8, .code yX8_ofCopy cX8_ofCopy 3 (some .int), .fieldLink RX8 7 "NamedMovesModel" "s" "[I"] ++ wsX80)
def wsX8_turns : List Cond := .code yX8_turns cX8_turns 5 none :: ([.fieldLink RX8 7 "NamedMovesModel" "s" "[I", .methodLink RX8 79 yX8_cell, .static yX8_cell, .initialized RX8, .code yX8_cell cX8_cell 1 (some .int), .methodLink RX8 44 yX8_ofCopy, .instanceMethod yX8_ofCopy, .selects RX8 yX8_ofCopy yX8_ofCopy, .code yX8_ofCopy cX8_ofCopy 3 (some .int)] ++ wsX80)
def wsX8_mend_r1 : List Cond := [Cond.fieldLink RX8 7 "NamedMovesModel" "s" "[I", Cond.methodLink RX8 118 yX8_isThing, Cond.instanceMethod yX8_isThing, Cond.selects RX8 yX8_isThing yX8_isThing, Cond.initialized RX8, Cond.code yX8_isThing cX8_isThing 2 (some .boolean), Cond.methodLink RX8 124 yX8_copies, Cond.instanceMethod yX8_copies, Cond.selects RX8 yX8_copies yX8_copies, Cond.code yX8_copies cX8_copies 5 (some .int), Cond.methodLink RX8 56 yX8_isMoving, Cond.instanceMethod yX8_isMoving, Cond.selects RX8 yX8_isMoving yX8_isMoving, Cond.code yX8_isMoving cX8_isMoving 1 (some .boolean), Cond.methodLink RX8 52 yX8_old, Cond.instanceMethod yX8_old, Cond.selects RX8 yX8_old yX8_old, Cond.code yX8_old cX8_old 1 (some .int), Cond.methodLink RX8 44 yX8_ofCopy, Cond.instanceMethod yX8_ofCopy, Cond.selects RX8 yX8_ofCopy yX8_ofCopy, Cond.code yX8_ofCopy cX8_ofCopy 3 (some .int), Cond.methodLink RX8 94 yX8_acts, Cond.instanceMethod yX8_acts]
def wsX8_mend_r2 : List Cond := [Cond.selects RX8 yX8_acts yX8_acts, Cond.code yX8_acts cX8_acts 2 none, Cond.fieldLink RX8 32 "NamedMovesModel" "runs" "Z", Cond.fieldLink RX8 36 "NamedMovesModel" "pasts" "I", Cond.fieldLink RX8 13 "NamedMovesModel" "past" "[I", Cond.methodLink RX8 127 yX8_first, Cond.instanceMethod yX8_first, Cond.selects RX8 yX8_first yX8_first, Cond.code yX8_first cX8_first 3 (some .int), Cond.methodLink RX8 76 yX8_address, Cond.static yX8_address, Cond.code yX8_address cX8_address 1 (some .int), Cond.methodLink RX8 130 yX8_turns, Cond.instanceMethod yX8_turns, Cond.selects RX8 yX8_turns yX8_turns, Cond.code yX8_turns cX8_turns 5 none, Cond.methodLink RX8 79 yX8_cell, Cond.static yX8_cell, Cond.code yX8_cell cX8_cell 1 (some .int), Cond.methodLink RX8 48 yX8_isCopy, Cond.instanceMethod yX8_isCopy, Cond.selects RX8 yX8_isCopy yX8_isCopy, Cond.code yX8_isCopy cX8_isCopy 2 (some .boolean)]
def wsX8_mend : List Cond := .code yX8_mend cX8_mend 5 (some .int) :: ((wsX8_mend_r1 ++ wsX8_mend_r2) ++ wsX80)
def wsX8_undo : List Cond := .code yX8_undo cX8_undo 2 (some .int) :: ([.fieldLink RX8 36 "NamedMovesModel" "pasts" "I", .fieldLink RX8 7 "NamedMovesModel" "s" "[I", .fieldLink RX8 13 "NamedMovesModel" "past" "[I"] ++ wsX80)
def wsX8_append : List Cond := .code yX8_append cX8_append 2 (some .int) :: ([.fieldLink RX8 134 "NamedMovesModel" "typed" "I", .fieldLink RX8 19 "NamedMovesModel" "text" "[I", .methodLink RX8 40 yX8_in, .static yX8_in, .initialized RX8, .code yX8_in cX8_in 3 (some .boolean)] ++ wsX80)
def wsX8_clearText : List Cond := .code yX8_clearText cX8_clearText 2 (some .int) :: ([.fieldLink RX8 134 "NamedMovesModel" "typed" "I"] ++ wsX80)
def wsX8_isAt : List Cond := .code yX8_isAt cX8_isAt 3 (some .boolean) :: ([.fieldLink RX8 137 "NamedMovesModel" "at" "I", .fieldLink RX8 134 "NamedMovesModel" "typed" "I", .fieldLink RX8 19 "NamedMovesModel" "text" "[I", .methodLink RX8 40 yX8_in, .static yX8_in, .initialized RX8, .code yX8_in cX8_in 3 (some .boolean)] ++ wsX80)
def wsX8_number : List Cond := .code yX8_number cX8_number 4 (some .boolean) :: ([.fieldLink RX8 137 "NamedMovesModel" "at" "I", .fieldLink RX8 22 "NamedMovesModel" "read" "[I", .fieldLink RX8 19 "NamedMovesModel" "text" "[I", .methodLink RX8 140 yX8_isAt, .instanceMethod yX8_isAt, .selects RX8 yX8_isAt yX8_isAt, .initialized RX8, .code yX8_isAt cX8_isAt 3 (some .boolean), .fieldLink RX8 134 "NamedMovesModel" "typed" "I", .methodLink RX8 40 yX8_in, .static yX8_in, .code yX8_in cX8_in 3 (some .boolean)] ++ wsX80)
def wsX8_numbersOf : List Cond := .code yX8_numbersOf cX8_numbersOf 1 (some .int) :: ([])
def wsX8_does_r1 : List Cond := [Cond.fieldLink RX8 22 "NamedMovesModel" "read" "[I", Cond.methodLink RX8 144 yX8_make, Cond.instanceMethod yX8_make, Cond.selects RX8 yX8_make yX8_make, Cond.initialized RX8, Cond.code yX8_make cX8_make 8 (some .int), Cond.fieldLink RX8 7 "NamedMovesModel" "s" "[I", Cond.methodLink RX8 40 yX8_in, Cond.static yX8_in, Cond.code yX8_in cX8_in 3 (some .boolean), Cond.methodLink RX8 97 yX8_isHook, Cond.static yX8_isHook, Cond.code yX8_isHook cX8_isHook 1 (some .boolean), Cond.methodLink RX8 100 yX8_floorPlace, Cond.instanceMethod yX8_floorPlace, Cond.selects RX8 yX8_floorPlace yX8_floorPlace, Cond.code yX8_floorPlace cX8_floorPlace 5 (some .int), Cond.methodLink RX8 60 yX8_sizeAt, Cond.instanceMethod yX8_sizeAt, Cond.selects RX8 yX8_sizeAt yX8_sizeAt, Cond.code yX8_sizeAt cX8_sizeAt 2 (some .int), Cond.methodLink RX8 48 yX8_isCopy, Cond.instanceMethod yX8_isCopy, Cond.selects RX8 yX8_isCopy yX8_isCopy]
def wsX8_does_r2 : List Cond := [Cond.code yX8_isCopy cX8_isCopy 2 (some .boolean), Cond.methodLink RX8 44 yX8_ofCopy, Cond.instanceMethod yX8_ofCopy, Cond.selects RX8 yX8_ofCopy yX8_ofCopy, Cond.code yX8_ofCopy cX8_ofCopy 3 (some .int), Cond.methodLink RX8 103 yX8_free, Cond.instanceMethod yX8_free, Cond.selects RX8 yX8_free yX8_free, Cond.code yX8_free cX8_free 2 (some .int), Cond.methodLink RX8 106 yX8_kept, Cond.instanceMethod yX8_kept, Cond.selects RX8 yX8_kept yX8_kept, Cond.code yX8_kept cX8_kept 3 (some .int), Cond.methodLink RX8 52 yX8_old, Cond.instanceMethod yX8_old, Cond.selects RX8 yX8_old yX8_old, Cond.code yX8_old cX8_old 1 (some .int), Cond.methodLink RX8 56 yX8_isMoving, Cond.instanceMethod yX8_isMoving, Cond.selects RX8 yX8_isMoving yX8_isMoving, Cond.code yX8_isMoving cX8_isMoving 1 (some .boolean), Cond.methodLink RX8 94 yX8_acts, Cond.instanceMethod yX8_acts, Cond.selects RX8 yX8_acts yX8_acts]
def wsX8_does_r3 : List Cond := [Cond.code yX8_acts cX8_acts 2 none, Cond.fieldLink RX8 32 "NamedMovesModel" "runs" "Z", Cond.fieldLink RX8 36 "NamedMovesModel" "pasts" "I", Cond.fieldLink RX8 13 "NamedMovesModel" "past" "[I", Cond.methodLink RX8 64 yX8_lays, Cond.instanceMethod yX8_lays, Cond.selects RX8 yX8_lays yX8_lays, Cond.code yX8_lays cX8_lays 7 none, Cond.methodLink RX8 68 yX8_laysInHalf, Cond.instanceMethod yX8_laysInHalf, Cond.selects RX8 yX8_laysInHalf yX8_laysInHalf, Cond.code yX8_laysInHalf cX8_laysInHalf 5 (some .int), Cond.methodLink RX8 76 yX8_address, Cond.static yX8_address, Cond.code yX8_address cX8_address 1 (some .int), Cond.methodLink RX8 147 yX8_link, Cond.instanceMethod yX8_link, Cond.selects RX8 yX8_link yX8_link, Cond.code yX8_link cX8_link 4 (some .int), Cond.methodLink RX8 109 yX8_isRight, Cond.instanceMethod yX8_isRight, Cond.selects RX8 yX8_isRight yX8_isRight, Cond.code yX8_isRight cX8_isRight 4 (some .boolean), Cond.methodLink RX8 85 yX8_reads]
def wsX8_does_r4 : List Cond := [Cond.instanceMethod yX8_reads, Cond.selects RX8 yX8_reads yX8_reads, Cond.code yX8_reads cX8_reads 4 none, Cond.methodLink RX8 79 yX8_cell, Cond.static yX8_cell, Cond.code yX8_cell cX8_cell 1 (some .int), Cond.methodLink RX8 82 yX8_carries, Cond.instanceMethod yX8_carries, Cond.selects RX8 yX8_carries yX8_carries, Cond.code yX8_carries cX8_carries 3 (some .int), Cond.methodLink RX8 72 yX8_joins, Cond.instanceMethod yX8_joins, Cond.selects RX8 yX8_joins yX8_joins, Cond.code yX8_joins cX8_joins 2 none, Cond.methodLink RX8 112 yX8_told, Cond.static yX8_told, Cond.code yX8_told cX8_told 1 (some .int), Cond.methodLink RX8 150 yX8_follow, Cond.instanceMethod yX8_follow, Cond.selects RX8 yX8_follow yX8_follow, Cond.code yX8_follow cX8_follow 5 (some .int), Cond.methodLink RX8 153 yX8_drop, Cond.instanceMethod yX8_drop, Cond.selects RX8 yX8_drop yX8_drop]
def wsX8_does_r5 : List Cond := [Cond.code yX8_drop cX8_drop 3 (some .int), Cond.methodLink RX8 156 yX8_carry, Cond.instanceMethod yX8_carry, Cond.selects RX8 yX8_carry yX8_carry, Cond.code yX8_carry cX8_carry 3 (some .int), Cond.methodLink RX8 91 yX8_steps, Cond.instanceMethod yX8_steps, Cond.selects RX8 yX8_steps yX8_steps, Cond.code yX8_steps cX8_steps 3 none, Cond.methodLink RX8 88 yX8_ends, Cond.instanceMethod yX8_ends, Cond.selects RX8 yX8_ends yX8_ends, Cond.code yX8_ends cX8_ends 3 none, Cond.methodLink RX8 159 yX8_begin, Cond.instanceMethod yX8_begin, Cond.selects RX8 yX8_begin yX8_begin, Cond.code yX8_begin cX8_begin 1 (some .int), Cond.methodLink RX8 115 yX8_begins, Cond.instanceMethod yX8_begins, Cond.selects RX8 yX8_begins yX8_begins, Cond.code yX8_begins cX8_begins 2 none]
def wsX8_does : List Cond := .code yX8_does cX8_does 2 (some .int) :: ((wsX8_does_r1 ++ (wsX8_does_r2 ++ (wsX8_does_r3 ++ (wsX8_does_r4 ++ wsX8_does_r5)))) ++ wsX80)
def wsX8_doesOne_r1 : List Cond := [Cond.fieldLink RX8 137 "NamedMovesModel" "at" "I", Cond.fieldLink RX8 19 "NamedMovesModel" "text" "[I", Cond.methodLink RX8 162 yX8_numbersOf, Cond.static yX8_numbersOf, Cond.initialized RX8, Cond.code yX8_numbersOf cX8_numbersOf 1 (some .int), Cond.methodLink RX8 140 yX8_isAt, Cond.instanceMethod yX8_isAt, Cond.selects RX8 yX8_isAt yX8_isAt, Cond.code yX8_isAt cX8_isAt 3 (some .boolean), Cond.fieldLink RX8 134 "NamedMovesModel" "typed" "I", Cond.methodLink RX8 40 yX8_in, Cond.static yX8_in, Cond.code yX8_in cX8_in 3 (some .boolean), Cond.methodLink RX8 165 yX8_number, Cond.instanceMethod yX8_number, Cond.selects RX8 yX8_number yX8_number, Cond.code yX8_number cX8_number 4 (some .boolean), Cond.fieldLink RX8 22 "NamedMovesModel" "read" "[I", Cond.methodLink RX8 168 yX8_does, Cond.instanceMethod yX8_does, Cond.selects RX8 yX8_does yX8_does, Cond.code yX8_does cX8_does 2 (some .int), Cond.methodLink RX8 144 yX8_make]
def wsX8_doesOne_r2 : List Cond := [Cond.instanceMethod yX8_make, Cond.selects RX8 yX8_make yX8_make, Cond.code yX8_make cX8_make 8 (some .int), Cond.fieldLink RX8 7 "NamedMovesModel" "s" "[I", Cond.methodLink RX8 97 yX8_isHook, Cond.static yX8_isHook, Cond.code yX8_isHook cX8_isHook 1 (some .boolean), Cond.methodLink RX8 100 yX8_floorPlace, Cond.instanceMethod yX8_floorPlace, Cond.selects RX8 yX8_floorPlace yX8_floorPlace, Cond.code yX8_floorPlace cX8_floorPlace 5 (some .int), Cond.methodLink RX8 60 yX8_sizeAt, Cond.instanceMethod yX8_sizeAt, Cond.selects RX8 yX8_sizeAt yX8_sizeAt, Cond.code yX8_sizeAt cX8_sizeAt 2 (some .int), Cond.methodLink RX8 48 yX8_isCopy, Cond.instanceMethod yX8_isCopy, Cond.selects RX8 yX8_isCopy yX8_isCopy, Cond.code yX8_isCopy cX8_isCopy 2 (some .boolean), Cond.methodLink RX8 44 yX8_ofCopy, Cond.instanceMethod yX8_ofCopy, Cond.selects RX8 yX8_ofCopy yX8_ofCopy, Cond.code yX8_ofCopy cX8_ofCopy 3 (some .int), Cond.methodLink RX8 103 yX8_free]
def wsX8_doesOne_r3 : List Cond := [Cond.instanceMethod yX8_free, Cond.selects RX8 yX8_free yX8_free, Cond.code yX8_free cX8_free 2 (some .int), Cond.methodLink RX8 106 yX8_kept, Cond.instanceMethod yX8_kept, Cond.selects RX8 yX8_kept yX8_kept, Cond.code yX8_kept cX8_kept 3 (some .int), Cond.methodLink RX8 52 yX8_old, Cond.instanceMethod yX8_old, Cond.selects RX8 yX8_old yX8_old, Cond.code yX8_old cX8_old 1 (some .int), Cond.methodLink RX8 56 yX8_isMoving, Cond.instanceMethod yX8_isMoving, Cond.selects RX8 yX8_isMoving yX8_isMoving, Cond.code yX8_isMoving cX8_isMoving 1 (some .boolean), Cond.methodLink RX8 94 yX8_acts, Cond.instanceMethod yX8_acts, Cond.selects RX8 yX8_acts yX8_acts, Cond.code yX8_acts cX8_acts 2 none, Cond.fieldLink RX8 32 "NamedMovesModel" "runs" "Z", Cond.fieldLink RX8 36 "NamedMovesModel" "pasts" "I", Cond.fieldLink RX8 13 "NamedMovesModel" "past" "[I", Cond.methodLink RX8 64 yX8_lays, Cond.instanceMethod yX8_lays]
def wsX8_doesOne_r4 : List Cond := [Cond.selects RX8 yX8_lays yX8_lays, Cond.code yX8_lays cX8_lays 7 none, Cond.methodLink RX8 68 yX8_laysInHalf, Cond.instanceMethod yX8_laysInHalf, Cond.selects RX8 yX8_laysInHalf yX8_laysInHalf, Cond.code yX8_laysInHalf cX8_laysInHalf 5 (some .int), Cond.methodLink RX8 76 yX8_address, Cond.static yX8_address, Cond.code yX8_address cX8_address 1 (some .int), Cond.methodLink RX8 147 yX8_link, Cond.instanceMethod yX8_link, Cond.selects RX8 yX8_link yX8_link, Cond.code yX8_link cX8_link 4 (some .int), Cond.methodLink RX8 109 yX8_isRight, Cond.instanceMethod yX8_isRight, Cond.selects RX8 yX8_isRight yX8_isRight, Cond.code yX8_isRight cX8_isRight 4 (some .boolean), Cond.methodLink RX8 85 yX8_reads, Cond.instanceMethod yX8_reads, Cond.selects RX8 yX8_reads yX8_reads, Cond.code yX8_reads cX8_reads 4 none, Cond.methodLink RX8 79 yX8_cell, Cond.static yX8_cell, Cond.code yX8_cell cX8_cell 1 (some .int)]
def wsX8_doesOne_r5 : List Cond := [Cond.methodLink RX8 82 yX8_carries, Cond.instanceMethod yX8_carries, Cond.selects RX8 yX8_carries yX8_carries, Cond.code yX8_carries cX8_carries 3 (some .int), Cond.methodLink RX8 72 yX8_joins, Cond.instanceMethod yX8_joins, Cond.selects RX8 yX8_joins yX8_joins, Cond.code yX8_joins cX8_joins 2 none, Cond.methodLink RX8 112 yX8_told, Cond.static yX8_told, Cond.code yX8_told cX8_told 1 (some .int), Cond.methodLink RX8 150 yX8_follow, Cond.instanceMethod yX8_follow, Cond.selects RX8 yX8_follow yX8_follow, Cond.code yX8_follow cX8_follow 5 (some .int), Cond.methodLink RX8 153 yX8_drop, Cond.instanceMethod yX8_drop, Cond.selects RX8 yX8_drop yX8_drop, Cond.code yX8_drop cX8_drop 3 (some .int), Cond.methodLink RX8 156 yX8_carry, Cond.instanceMethod yX8_carry, Cond.selects RX8 yX8_carry yX8_carry, Cond.code yX8_carry cX8_carry 3 (some .int), Cond.methodLink RX8 91 yX8_steps]
def wsX8_doesOne_r6 : List Cond := [Cond.instanceMethod yX8_steps, Cond.selects RX8 yX8_steps yX8_steps, Cond.code yX8_steps cX8_steps 3 none, Cond.methodLink RX8 88 yX8_ends, Cond.instanceMethod yX8_ends, Cond.selects RX8 yX8_ends yX8_ends, Cond.code yX8_ends cX8_ends 3 none, Cond.methodLink RX8 159 yX8_begin, Cond.instanceMethod yX8_begin, Cond.selects RX8 yX8_begin yX8_begin, Cond.code yX8_begin cX8_begin 1 (some .int), Cond.methodLink RX8 115 yX8_begins, Cond.instanceMethod yX8_begins, Cond.selects RX8 yX8_begins yX8_begins, Cond.code yX8_begins cX8_begins 2 none]
def wsX8_doesOne : List Cond := .code yX8_doesOne cX8_doesOne 5 (some .int) :: ((wsX8_doesOne_r1 ++ (wsX8_doesOne_r2 ++ (wsX8_doesOne_r3 ++ (wsX8_doesOne_r4 ++ (wsX8_doesOne_r5 ++ wsX8_doesOne_r6))))) ++ wsX80)
def wsX8_exchanges : List Cond := .code yX8_exchanges cX8_exchanges 3 none :: ([.fieldLink RX8 7 "NamedMovesModel" "s" "[I", .fieldLink RX8 16 "NamedMovesModel" "held" "[I"] ++ wsX80)
def wsX8_holds : List Cond := .code yX8_holds cX8_holds 2 none :: ([.fieldLink RX8 16 "NamedMovesModel" "held" "[I", .fieldLink RX8 7 "NamedMovesModel" "s" "[I"] ++ wsX80)
def wsX8_run_r1 : List Cond := [Cond.fieldLink RX8 32 "NamedMovesModel" "runs" "Z", Cond.fieldLink RX8 137 "NamedMovesModel" "at" "I", Cond.fieldLink RX8 134 "NamedMovesModel" "typed" "I", Cond.methodLink RX8 171 yX8_holds, Cond.instanceMethod yX8_holds, Cond.selects RX8 yX8_holds yX8_holds, Cond.initialized RX8, Cond.code yX8_holds cX8_holds 2 none, Cond.fieldLink RX8 16 "NamedMovesModel" "held" "[I", Cond.fieldLink RX8 7 "NamedMovesModel" "s" "[I", Cond.methodLink RX8 174 yX8_doesOne, Cond.instanceMethod yX8_doesOne, Cond.selects RX8 yX8_doesOne yX8_doesOne, Cond.code yX8_doesOne cX8_doesOne 5 (some .int), Cond.fieldLink RX8 19 "NamedMovesModel" "text" "[I", Cond.methodLink RX8 162 yX8_numbersOf, Cond.static yX8_numbersOf, Cond.code yX8_numbersOf cX8_numbersOf 1 (some .int), Cond.methodLink RX8 140 yX8_isAt, Cond.instanceMethod yX8_isAt, Cond.selects RX8 yX8_isAt yX8_isAt, Cond.code yX8_isAt cX8_isAt 3 (some .boolean), Cond.methodLink RX8 40 yX8_in, Cond.static yX8_in]
def wsX8_run_r2 : List Cond := [Cond.code yX8_in cX8_in 3 (some .boolean), Cond.methodLink RX8 165 yX8_number, Cond.instanceMethod yX8_number, Cond.selects RX8 yX8_number yX8_number, Cond.code yX8_number cX8_number 4 (some .boolean), Cond.fieldLink RX8 22 "NamedMovesModel" "read" "[I", Cond.methodLink RX8 168 yX8_does, Cond.instanceMethod yX8_does, Cond.selects RX8 yX8_does yX8_does, Cond.code yX8_does cX8_does 2 (some .int), Cond.methodLink RX8 144 yX8_make, Cond.instanceMethod yX8_make, Cond.selects RX8 yX8_make yX8_make, Cond.code yX8_make cX8_make 8 (some .int), Cond.methodLink RX8 97 yX8_isHook, Cond.static yX8_isHook, Cond.code yX8_isHook cX8_isHook 1 (some .boolean), Cond.methodLink RX8 100 yX8_floorPlace, Cond.instanceMethod yX8_floorPlace, Cond.selects RX8 yX8_floorPlace yX8_floorPlace, Cond.code yX8_floorPlace cX8_floorPlace 5 (some .int), Cond.methodLink RX8 60 yX8_sizeAt, Cond.instanceMethod yX8_sizeAt, Cond.selects RX8 yX8_sizeAt yX8_sizeAt]
def wsX8_run_r3 : List Cond := [Cond.code yX8_sizeAt cX8_sizeAt 2 (some .int), Cond.methodLink RX8 48 yX8_isCopy, Cond.instanceMethod yX8_isCopy, Cond.selects RX8 yX8_isCopy yX8_isCopy, Cond.code yX8_isCopy cX8_isCopy 2 (some .boolean), Cond.methodLink RX8 44 yX8_ofCopy, Cond.instanceMethod yX8_ofCopy, Cond.selects RX8 yX8_ofCopy yX8_ofCopy, Cond.code yX8_ofCopy cX8_ofCopy 3 (some .int), Cond.methodLink RX8 103 yX8_free, Cond.instanceMethod yX8_free, Cond.selects RX8 yX8_free yX8_free, Cond.code yX8_free cX8_free 2 (some .int), Cond.methodLink RX8 106 yX8_kept, Cond.instanceMethod yX8_kept, Cond.selects RX8 yX8_kept yX8_kept, Cond.code yX8_kept cX8_kept 3 (some .int), Cond.methodLink RX8 52 yX8_old, Cond.instanceMethod yX8_old, Cond.selects RX8 yX8_old yX8_old, Cond.code yX8_old cX8_old 1 (some .int), Cond.methodLink RX8 56 yX8_isMoving, Cond.instanceMethod yX8_isMoving, Cond.selects RX8 yX8_isMoving yX8_isMoving]
def wsX8_run_r4 : List Cond := [Cond.code yX8_isMoving cX8_isMoving 1 (some .boolean), Cond.methodLink RX8 94 yX8_acts, Cond.instanceMethod yX8_acts, Cond.selects RX8 yX8_acts yX8_acts, Cond.code yX8_acts cX8_acts 2 none, Cond.fieldLink RX8 36 "NamedMovesModel" "pasts" "I", Cond.fieldLink RX8 13 "NamedMovesModel" "past" "[I", Cond.methodLink RX8 64 yX8_lays, Cond.instanceMethod yX8_lays, Cond.selects RX8 yX8_lays yX8_lays, Cond.code yX8_lays cX8_lays 7 none, Cond.methodLink RX8 68 yX8_laysInHalf, Cond.instanceMethod yX8_laysInHalf, Cond.selects RX8 yX8_laysInHalf yX8_laysInHalf, Cond.code yX8_laysInHalf cX8_laysInHalf 5 (some .int), Cond.methodLink RX8 76 yX8_address, Cond.static yX8_address, Cond.code yX8_address cX8_address 1 (some .int), Cond.methodLink RX8 147 yX8_link, Cond.instanceMethod yX8_link, Cond.selects RX8 yX8_link yX8_link, Cond.code yX8_link cX8_link 4 (some .int), Cond.methodLink RX8 109 yX8_isRight, Cond.instanceMethod yX8_isRight]
def wsX8_run_r5 : List Cond := [Cond.selects RX8 yX8_isRight yX8_isRight, Cond.code yX8_isRight cX8_isRight 4 (some .boolean), Cond.methodLink RX8 85 yX8_reads, Cond.instanceMethod yX8_reads, Cond.selects RX8 yX8_reads yX8_reads, Cond.code yX8_reads cX8_reads 4 none, Cond.methodLink RX8 79 yX8_cell, Cond.static yX8_cell, Cond.code yX8_cell cX8_cell 1 (some .int), Cond.methodLink RX8 82 yX8_carries, Cond.instanceMethod yX8_carries, Cond.selects RX8 yX8_carries yX8_carries, Cond.code yX8_carries cX8_carries 3 (some .int), Cond.methodLink RX8 72 yX8_joins, Cond.instanceMethod yX8_joins, Cond.selects RX8 yX8_joins yX8_joins, Cond.code yX8_joins cX8_joins 2 none, Cond.methodLink RX8 112 yX8_told, Cond.static yX8_told, Cond.code yX8_told cX8_told 1 (some .int), Cond.methodLink RX8 150 yX8_follow, Cond.instanceMethod yX8_follow, Cond.selects RX8 yX8_follow yX8_follow, Cond.code yX8_follow cX8_follow 5 (some .int)]
def wsX8_run_r6 : List Cond := [Cond.methodLink RX8 153 yX8_drop, Cond.instanceMethod yX8_drop, Cond.selects RX8 yX8_drop yX8_drop, Cond.code yX8_drop cX8_drop 3 (some .int), Cond.methodLink RX8 156 yX8_carry, Cond.instanceMethod yX8_carry, Cond.selects RX8 yX8_carry yX8_carry, Cond.code yX8_carry cX8_carry 3 (some .int), Cond.methodLink RX8 91 yX8_steps, Cond.instanceMethod yX8_steps, Cond.selects RX8 yX8_steps yX8_steps, Cond.code yX8_steps cX8_steps 3 none, Cond.methodLink RX8 88 yX8_ends, Cond.instanceMethod yX8_ends, Cond.selects RX8 yX8_ends yX8_ends, Cond.code yX8_ends cX8_ends 3 none, Cond.methodLink RX8 159 yX8_begin, Cond.instanceMethod yX8_begin, Cond.selects RX8 yX8_begin yX8_begin, Cond.code yX8_begin cX8_begin 1 (some .int), Cond.methodLink RX8 115 yX8_begins, Cond.instanceMethod yX8_begins, Cond.selects RX8 yX8_begins yX8_begins, Cond.code yX8_begins cX8_begins 2 none]
def wsX8_run_r7 : List Cond := [Cond.methodLink RX8 177 yX8_exchanges, Cond.instanceMethod yX8_exchanges, Cond.selects RX8 yX8_exchanges yX8_exchanges, Cond.code yX8_exchanges cX8_exchanges 3 none]
def wsX8_run : List Cond := .code yX8_run cX8_run 3 (some .int) :: ((wsX8_run_r1 ++ (wsX8_run_r2 ++ (wsX8_run_r3 ++ (wsX8_run_r4 ++ (wsX8_run_r5 ++ (wsX8_run_r6 ++ wsX8_run_r7)))))) ++ wsX80)
def wsX8_allCopies : List Cond := .code yX8_allCopies cX8_allCopies 3 (some .int) :: ([.methodLink RX8 48 yX8_isCopy, .instanceMethod yX8_isCopy, .selects RX8 yX8_isCopy yX8_isCopy, .initialized RX8, .code yX8_isCopy cX8_isCopy 2 (some .boolean), .methodLink RX8 44 yX8_ofCopy, .instanceMethod yX8_ofCopy, .selects RX8 yX8_ofCopy yX8_ofCopy, .code yX8_ofCopy cX8_ofCopy 3 (some .int), .fieldLink RX8 7 "NamedMovesModel" "s" "[I"] ++ wsX80)
def wsX8_freeFloor : List Cond := .code yX8_freeFloor cX8_freeFloor 3 (some .int) :: ([.methodLink RX8 60 yX8_sizeAt, .instanceMethod yX8_sizeAt, .selects RX8 yX8_sizeAt yX8_sizeAt, .initialized RX8, .code yX8_sizeAt cX8_sizeAt 2 (some .int), .fieldLink RX8 7 "NamedMovesModel" "s" "[I", .methodLink RX8 48 yX8_isCopy, .instanceMethod yX8_isCopy, .selects RX8 yX8_isCopy yX8_isCopy, .code yX8_isCopy cX8_isCopy 2 (some .boolean), .methodLink RX8 44 yX8_ofCopy, .instanceMethod yX8_ofCopy, .selects RX8 yX8_ofCopy yX8_ofCopy, .code yX8_ofCopy cX8_ofCopy 3 (some .int)] ++ wsX80)
def wsX8_twins : List Cond := .code yX8_twins cX8_twins 3 (some .int) :: ([.fieldLink RX8 7 "NamedMovesModel" "s" "[I", .methodLink RX8 124 yX8_copies, .instanceMethod yX8_copies, .selects RX8 yX8_copies yX8_copies, .initialized RX8, .code yX8_copies cX8_copies 5 (some .int), .methodLink RX8 56 yX8_isMoving, .instanceMethod yX8_isMoving, .selects RX8 yX8_isMoving yX8_isMoving, .code yX8_isMoving cX8_isMoving 1 (some .boolean), .methodLink RX8 52 yX8_old, .instanceMethod yX8_old, .selects RX8 yX8_old yX8_old, .code yX8_old cX8_old 1 (some .int), .methodLink RX8 44 yX8_ofCopy, .instanceMethod yX8_ofCopy, .selects RX8 yX8_ofCopy yX8_ofCopy, .code yX8_ofCopy cX8_ofCopy 3 (some .int)] ++ wsX80)
def wsX8_count_r1 : List Cond := [Cond.fieldLink RX8 7 "NamedMovesModel" "s" "[I", Cond.fieldLink RX8 36 "NamedMovesModel" "pasts" "I", Cond.fieldLink RX8 134 "NamedMovesModel" "typed" "I", Cond.methodLink RX8 180 yX8_allCopies, Cond.instanceMethod yX8_allCopies, Cond.selects RX8 yX8_allCopies yX8_allCopies, Cond.initialized RX8, Cond.code yX8_allCopies cX8_allCopies 3 (some .int), Cond.methodLink RX8 48 yX8_isCopy, Cond.instanceMethod yX8_isCopy, Cond.selects RX8 yX8_isCopy yX8_isCopy, Cond.code yX8_isCopy cX8_isCopy 2 (some .boolean), Cond.methodLink RX8 44 yX8_ofCopy, Cond.instanceMethod yX8_ofCopy, Cond.selects RX8 yX8_ofCopy yX8_ofCopy, Cond.code yX8_ofCopy cX8_ofCopy 3 (some .int), Cond.methodLink RX8 103 yX8_free, Cond.instanceMethod yX8_free, Cond.selects RX8 yX8_free yX8_free, Cond.code yX8_free cX8_free 2 (some .int), Cond.methodLink RX8 183 yX8_freeFloor, Cond.instanceMethod yX8_freeFloor, Cond.selects RX8 yX8_freeFloor yX8_freeFloor, Cond.code yX8_freeFloor cX8_freeFloor 3 (some .int)]
def wsX8_count_r2 : List Cond := [Cond.methodLink RX8 60 yX8_sizeAt, Cond.instanceMethod yX8_sizeAt, Cond.selects RX8 yX8_sizeAt yX8_sizeAt, Cond.code yX8_sizeAt cX8_sizeAt 2 (some .int), Cond.methodLink RX8 106 yX8_kept, Cond.instanceMethod yX8_kept, Cond.selects RX8 yX8_kept yX8_kept, Cond.code yX8_kept cX8_kept 3 (some .int), Cond.methodLink RX8 52 yX8_old, Cond.instanceMethod yX8_old, Cond.selects RX8 yX8_old yX8_old, Cond.code yX8_old cX8_old 1 (some .int), Cond.methodLink RX8 56 yX8_isMoving, Cond.instanceMethod yX8_isMoving, Cond.selects RX8 yX8_isMoving yX8_isMoving, Cond.code yX8_isMoving cX8_isMoving 1 (some .boolean), Cond.methodLink RX8 186 yX8_twins, Cond.instanceMethod yX8_twins, Cond.selects RX8 yX8_twins yX8_twins, Cond.code yX8_twins cX8_twins 3 (some .int), Cond.methodLink RX8 124 yX8_copies, Cond.instanceMethod yX8_copies, Cond.selects RX8 yX8_copies yX8_copies, Cond.code yX8_copies cX8_copies 5 (some .int)]
def wsX8_count : List Cond := .code yX8_count cX8_count 2 (some .int) :: ((wsX8_count_r1 ++ wsX8_count_r2) ++ wsX80)
def wsX8_hook : List Cond := .code yX8_hook cX8_hook 2 (some .int) :: ([.fieldLink RX8 7 "NamedMovesModel" "s" "[I", .methodLink RX8 97 yX8_isHook, .static yX8_isHook, .initialized RX8, .code yX8_isHook cX8_isHook 1 (some .boolean), .methodLink RX8 40 yX8_in, .static yX8_in, .code yX8_in cX8_in 3 (some .boolean)] ++ wsX80)
def wsX8_copy : List Cond := .code yX8_copy cX8_copy 4 (some .int) :: ([.methodLink RX8 189 yX8_isAddress, .static yX8_isAddress, .initialized RX8, .code yX8_isAddress cX8_isAddress 1 (some .boolean), .methodLink RX8 79 yX8_cell, .static yX8_cell, .code yX8_cell cX8_cell 1 (some .int), .methodLink RX8 48 yX8_isCopy, .instanceMethod yX8_isCopy, .selects RX8 yX8_isCopy yX8_isCopy, .code yX8_isCopy cX8_isCopy 2 (some .boolean), .methodLink RX8 44 yX8_ofCopy, .instanceMethod yX8_ofCopy, .selects RX8 yX8_ofCopy yX8_ofCopy, .code yX8_ofCopy cX8_ofCopy 3 (some .int), .fieldLink RX8 7 "NamedMovesModel" "s" "[I", .methodLink RX8 40 yX8_in, .static yX8_in, .code yX8_in cX8_in 3 (some .boolean), .methodLink RX8 60 yX8_sizeAt, .instanceMethod yX8_sizeAt, .selects RX8 yX8_sizeAt yX8_sizeAt, .code yX8_sizeAt cX8_sizeAt 2 (some .int)] ++ wsX80)
def wsX8_where : List Cond := .code yX8_where cX8_where 6 (some .int) :: ([.methodLink RX8 118 yX8_isThing, .instanceMethod yX8_isThing, .selects RX8 yX8_isThing yX8_isThing, .initialized RX8, .code yX8_isThing cX8_isThing 2 (some .boolean), .fieldLink RX8 7 "NamedMovesModel" "s" "[I", .methodLink RX8 44 yX8_ofCopy, .instanceMethod yX8_ofCopy, .selects RX8 yX8_ofCopy yX8_ofCopy, .code yX8_ofCopy cX8_ofCopy 3 (some .int), .methodLink RX8 76 yX8_address, .static yX8_address, .code yX8_address cX8_address 1 (some .int)] ++ wsX80)
def wsX8_leads : List Cond := .code yX8_leads cX8_leads 3 none :: ([.fieldLink RX8 25 "NamedMovesModel" "isReached" "[Z", .fieldLink RX8 29 "NamedMovesModel" "found" "[I", .fieldLink RX8 192 "NamedMovesModel" "many" "I", .methodLink RX8 79 yX8_cell, .static yX8_cell, .initialized RX8, .code yX8_cell cX8_cell 1 (some .int), .methodLink RX8 44 yX8_ofCopy, .instanceMethod yX8_ofCopy, .selects RX8 yX8_ofCopy yX8_ofCopy, .code yX8_ofCopy cX8_ofCopy 3 (some .int), .fieldLink RX8 7 "NamedMovesModel" "s" "[I"] ++ wsX80)
def wsX8_forgets : List Cond := .code yX8_forgets cX8_forgets 2 none :: ([.fieldLink RX8 25 "NamedMovesModel" "isReached" "[Z", .fieldLink RX8 192 "NamedMovesModel" "many" "I"] ++ wsX80)
def wsX8_reaches : List Cond := .code yX8_reaches cX8_reaches 2 none :: ([.fieldLink RX8 192 "NamedMovesModel" "many" "I", .fieldLink RX8 29 "NamedMovesModel" "found" "[I", .methodLink RX8 44 yX8_ofCopy, .instanceMethod yX8_ofCopy, .selects RX8 yX8_ofCopy yX8_ofCopy, .initialized RX8, .code yX8_ofCopy cX8_ofCopy 3 (some .int), .fieldLink RX8 7 "NamedMovesModel" "s" "[I", .methodLink RX8 195 yX8_leads, .instanceMethod yX8_leads, .selects RX8 yX8_leads yX8_leads, .code yX8_leads cX8_leads 3 none, .fieldLink RX8 25 "NamedMovesModel" "isReached" "[Z", .methodLink RX8 79 yX8_cell, .static yX8_cell, .code yX8_cell cX8_cell 1 (some .int)] ++ wsX80)
def wsX8_named_r1 : List Cond := [Cond.fieldLink RX8 7 "NamedMovesModel" "s" "[I", Cond.fieldLink RX8 192 "NamedMovesModel" "many" "I", Cond.fieldLink RX8 29 "NamedMovesModel" "found" "[I", Cond.methodLink RX8 97 yX8_isHook, Cond.static yX8_isHook, Cond.initialized RX8, Cond.code yX8_isHook cX8_isHook 1 (some .boolean), Cond.methodLink RX8 40 yX8_in, Cond.static yX8_in, Cond.code yX8_in cX8_in 3 (some .boolean), Cond.methodLink RX8 198 yX8_forgets, Cond.instanceMethod yX8_forgets, Cond.selects RX8 yX8_forgets yX8_forgets, Cond.code yX8_forgets cX8_forgets 2 none, Cond.fieldLink RX8 25 "NamedMovesModel" "isReached" "[Z", Cond.methodLink RX8 195 yX8_leads, Cond.instanceMethod yX8_leads, Cond.selects RX8 yX8_leads yX8_leads, Cond.code yX8_leads cX8_leads 3 none, Cond.methodLink RX8 79 yX8_cell, Cond.static yX8_cell, Cond.code yX8_cell cX8_cell 1 (some .int), Cond.methodLink RX8 44 yX8_ofCopy, Cond.instanceMethod yX8_ofCopy]
def wsX8_named_r2 : List Cond := [Cond.selects RX8 yX8_ofCopy yX8_ofCopy, Cond.code yX8_ofCopy cX8_ofCopy 3 (some .int), Cond.methodLink RX8 201 yX8_reaches, Cond.instanceMethod yX8_reaches, Cond.selects RX8 yX8_reaches yX8_reaches, Cond.code yX8_reaches cX8_reaches 2 none]
def wsX8_named : List Cond := .code yX8_named cX8_named 6 (some .int) :: ((wsX8_named_r1 ++ wsX8_named_r2) ++ wsX80)
def wsX8_garbage_r1 : List Cond := [Cond.fieldLink RX8 7 "NamedMovesModel" "s" "[I", Cond.fieldLink RX8 25 "NamedMovesModel" "isReached" "[Z", Cond.methodLink RX8 198 yX8_forgets, Cond.instanceMethod yX8_forgets, Cond.selects RX8 yX8_forgets yX8_forgets, Cond.initialized RX8, Cond.code yX8_forgets cX8_forgets 2 none, Cond.fieldLink RX8 192 "NamedMovesModel" "many" "I", Cond.methodLink RX8 195 yX8_leads, Cond.instanceMethod yX8_leads, Cond.selects RX8 yX8_leads yX8_leads, Cond.code yX8_leads cX8_leads 3 none, Cond.fieldLink RX8 29 "NamedMovesModel" "found" "[I", Cond.methodLink RX8 79 yX8_cell, Cond.static yX8_cell, Cond.code yX8_cell cX8_cell 1 (some .int), Cond.methodLink RX8 44 yX8_ofCopy, Cond.instanceMethod yX8_ofCopy, Cond.selects RX8 yX8_ofCopy yX8_ofCopy, Cond.code yX8_ofCopy cX8_ofCopy 3 (some .int), Cond.methodLink RX8 201 yX8_reaches, Cond.instanceMethod yX8_reaches, Cond.selects RX8 yX8_reaches yX8_reaches, Cond.code yX8_reaches cX8_reaches 2 none]
def wsX8_garbage_r2 : List Cond := [Cond.methodLink RX8 48 yX8_isCopy, Cond.instanceMethod yX8_isCopy, Cond.selects RX8 yX8_isCopy yX8_isCopy, Cond.code yX8_isCopy cX8_isCopy 2 (some .boolean), Cond.methodLink RX8 60 yX8_sizeAt, Cond.instanceMethod yX8_sizeAt, Cond.selects RX8 yX8_sizeAt yX8_sizeAt, Cond.code yX8_sizeAt cX8_sizeAt 2 (some .int)]
def wsX8_garbage : List Cond := .code yX8_garbage cX8_garbage 3 (some .int) :: ((wsX8_garbage_r1 ++ wsX8_garbage_r2) ++ wsX80)
def wsX8_stepsLeft_r1 : List Cond := [Cond.methodLink RX8 56 yX8_isMoving, Cond.instanceMethod yX8_isMoving, Cond.selects RX8 yX8_isMoving yX8_isMoving, Cond.initialized RX8, Cond.code yX8_isMoving cX8_isMoving 1 (some .boolean), Cond.fieldLink RX8 7 "NamedMovesModel" "s" "[I", Cond.methodLink RX8 171 yX8_holds, Cond.instanceMethod yX8_holds, Cond.selects RX8 yX8_holds yX8_holds, Cond.code yX8_holds cX8_holds 2 none, Cond.fieldLink RX8 16 "NamedMovesModel" "held" "[I", Cond.methodLink RX8 204 yX8_stepsToEnd, Cond.instanceMethod yX8_stepsToEnd, Cond.selects RX8 yX8_stepsToEnd yX8_stepsToEnd, Cond.code yX8_stepsToEnd cX8_stepsToEnd 2 (some .int), Cond.methodLink RX8 91 yX8_steps, Cond.instanceMethod yX8_steps, Cond.selects RX8 yX8_steps yX8_steps, Cond.code yX8_steps cX8_steps 3 none, Cond.methodLink RX8 85 yX8_reads, Cond.instanceMethod yX8_reads, Cond.selects RX8 yX8_reads yX8_reads, Cond.code yX8_reads cX8_reads 4 none, Cond.methodLink RX8 79 yX8_cell]
def wsX8_stepsLeft_r2 : List Cond := [Cond.static yX8_cell, Cond.code yX8_cell cX8_cell 1 (some .int), Cond.methodLink RX8 52 yX8_old, Cond.instanceMethod yX8_old, Cond.selects RX8 yX8_old yX8_old, Cond.code yX8_old cX8_old 1 (some .int), Cond.methodLink RX8 44 yX8_ofCopy, Cond.instanceMethod yX8_ofCopy, Cond.selects RX8 yX8_ofCopy yX8_ofCopy, Cond.code yX8_ofCopy cX8_ofCopy 3 (some .int), Cond.methodLink RX8 82 yX8_carries, Cond.instanceMethod yX8_carries, Cond.selects RX8 yX8_carries yX8_carries, Cond.code yX8_carries cX8_carries 3 (some .int), Cond.methodLink RX8 68 yX8_laysInHalf, Cond.instanceMethod yX8_laysInHalf, Cond.selects RX8 yX8_laysInHalf yX8_laysInHalf, Cond.code yX8_laysInHalf cX8_laysInHalf 5 (some .int), Cond.methodLink RX8 64 yX8_lays, Cond.instanceMethod yX8_lays, Cond.selects RX8 yX8_lays yX8_lays, Cond.code yX8_lays cX8_lays 7 none, Cond.methodLink RX8 72 yX8_joins, Cond.instanceMethod yX8_joins]
def wsX8_stepsLeft_r3 : List Cond := [Cond.selects RX8 yX8_joins yX8_joins, Cond.code yX8_joins cX8_joins 2 none, Cond.methodLink RX8 76 yX8_address, Cond.static yX8_address, Cond.code yX8_address cX8_address 1 (some .int), Cond.methodLink RX8 88 yX8_ends, Cond.instanceMethod yX8_ends, Cond.selects RX8 yX8_ends yX8_ends, Cond.code yX8_ends cX8_ends 3 none, Cond.methodLink RX8 177 yX8_exchanges, Cond.instanceMethod yX8_exchanges, Cond.selects RX8 yX8_exchanges yX8_exchanges, Cond.code yX8_exchanges cX8_exchanges 3 none]
def wsX8_stepsLeft : List Cond := .code yX8_stepsLeft cX8_stepsLeft 2 (some .int) :: ((wsX8_stepsLeft_r1 ++ (wsX8_stepsLeft_r2 ++ wsX8_stepsLeft_r3)) ++ wsX80)
def wsX8_freeThen_r1 : List Cond := [Cond.fieldLink RX8 7 "NamedMovesModel" "s" "[I", Cond.methodLink RX8 171 yX8_holds, Cond.instanceMethod yX8_holds, Cond.selects RX8 yX8_holds yX8_holds, Cond.initialized RX8, Cond.code yX8_holds cX8_holds 2 none, Cond.fieldLink RX8 16 "NamedMovesModel" "held" "[I", Cond.methodLink RX8 204 yX8_stepsToEnd, Cond.instanceMethod yX8_stepsToEnd, Cond.selects RX8 yX8_stepsToEnd yX8_stepsToEnd, Cond.code yX8_stepsToEnd cX8_stepsToEnd 2 (some .int), Cond.methodLink RX8 56 yX8_isMoving, Cond.instanceMethod yX8_isMoving, Cond.selects RX8 yX8_isMoving yX8_isMoving, Cond.code yX8_isMoving cX8_isMoving 1 (some .boolean), Cond.methodLink RX8 91 yX8_steps, Cond.instanceMethod yX8_steps, Cond.selects RX8 yX8_steps yX8_steps, Cond.code yX8_steps cX8_steps 3 none, Cond.methodLink RX8 85 yX8_reads, Cond.instanceMethod yX8_reads, Cond.selects RX8 yX8_reads yX8_reads, Cond.code yX8_reads cX8_reads 4 none, Cond.methodLink RX8 79 yX8_cell]
def wsX8_freeThen_r2 : List Cond := [Cond.static yX8_cell, Cond.code yX8_cell cX8_cell 1 (some .int), Cond.methodLink RX8 52 yX8_old, Cond.instanceMethod yX8_old, Cond.selects RX8 yX8_old yX8_old, Cond.code yX8_old cX8_old 1 (some .int), Cond.methodLink RX8 44 yX8_ofCopy, Cond.instanceMethod yX8_ofCopy, Cond.selects RX8 yX8_ofCopy yX8_ofCopy, Cond.code yX8_ofCopy cX8_ofCopy 3 (some .int), Cond.methodLink RX8 82 yX8_carries, Cond.instanceMethod yX8_carries, Cond.selects RX8 yX8_carries yX8_carries, Cond.code yX8_carries cX8_carries 3 (some .int), Cond.methodLink RX8 68 yX8_laysInHalf, Cond.instanceMethod yX8_laysInHalf, Cond.selects RX8 yX8_laysInHalf yX8_laysInHalf, Cond.code yX8_laysInHalf cX8_laysInHalf 5 (some .int), Cond.methodLink RX8 64 yX8_lays, Cond.instanceMethod yX8_lays, Cond.selects RX8 yX8_lays yX8_lays, Cond.code yX8_lays cX8_lays 7 none, Cond.methodLink RX8 72 yX8_joins, Cond.instanceMethod yX8_joins]
def wsX8_freeThen_r3 : List Cond := [Cond.selects RX8 yX8_joins yX8_joins, Cond.code yX8_joins cX8_joins 2 none, Cond.methodLink RX8 76 yX8_address, Cond.static yX8_address, Cond.code yX8_address cX8_address 1 (some .int), Cond.methodLink RX8 88 yX8_ends, Cond.instanceMethod yX8_ends, Cond.selects RX8 yX8_ends yX8_ends, Cond.code yX8_ends cX8_ends 3 none, Cond.methodLink RX8 115 yX8_begins, Cond.instanceMethod yX8_begins, Cond.selects RX8 yX8_begins yX8_begins, Cond.code yX8_begins cX8_begins 2 none, Cond.methodLink RX8 103 yX8_free, Cond.instanceMethod yX8_free, Cond.selects RX8 yX8_free yX8_free, Cond.code yX8_free cX8_free 2 (some .int), Cond.methodLink RX8 177 yX8_exchanges, Cond.instanceMethod yX8_exchanges, Cond.selects RX8 yX8_exchanges yX8_exchanges, Cond.code yX8_exchanges cX8_exchanges 3 none]
def wsX8_freeThen : List Cond := .code yX8_freeThen cX8_freeThen 3 (some .int) :: ((wsX8_freeThen_r1 ++ (wsX8_freeThen_r2 ++ wsX8_freeThen_r3)) ++ wsX80)
def wsL_law_r1 : List Cond := [Cond.classLink RL 7 RX7, Cond.instantiable RX7 6, Cond.initialized RX7, Cond.classLink RL 10 RX8, Cond.instantiable RX8 12, Cond.initialized RX8, Cond.methodLink RL 9 yX7_init, Cond.instanceMethod yX7_init, Cond.code yX7_init cX7_init 1 none, Cond.methodLink RX7 3 objectInit, Cond.instanceMethod objectInit, Cond.code objectInit ⟨#[0xb1]⟩ 1 none, Cond.classLink RX7 9 RX5, Cond.instantiable RX5 10, Cond.initialized RX5, Cond.fieldLink RX7 12 "NamedMoves" "store" "LNamedMoves$Store;", Cond.fieldLink RX7 16 "NamedMoves" "forecast" "LNamedMoves$Store;", Cond.classLink RX7 19 RX2, Cond.instantiable RX2 3, Cond.initialized RX2, Cond.fieldLink RX7 22 "NamedMoves" "history" "LNamedMoves$History;", Cond.classLink RX7 26 RX4, Cond.instantiable RX4 4, Cond.initialized RX4]
def wsL_law_r2 : List Cond := [Cond.fieldLink RX7 29 "NamedMoves" "reach" "LNamedMoves$Reach;", Cond.classLink RX7 33 RX6, Cond.instantiable RX6 2, Cond.initialized RX6, Cond.fieldLink RX7 36 "NamedMoves" "text" "LNamedMoves$Text;", Cond.classLink RX7 40 RX1, Cond.instantiable RX1 3, Cond.initialized RX1, Cond.fieldLink RX7 43 "NamedMoves" "errand" "LNamedMoves$Errand;", Cond.methodLink RX7 11 yX5_init, Cond.instanceMethod yX5_init, Cond.code yX5_init cX5_init 1 none, Cond.methodLink RX5 3 objectInit, Cond.arrayClass .int, Cond.fieldLink RX5 9 "NamedMoves$Store" "hooks" "[I", Cond.classLink RX5 15 RX0, Cond.instantiable RX0 5, Cond.initialized RX0, Cond.fieldLink RX5 18 "NamedMoves$Store" "copies" "LNamedMoves$Copies;", Cond.classLink RX5 22 RX3, Cond.instantiable RX3 3, Cond.initialized RX3, Cond.fieldLink RX5 25 "NamedMoves$Store" "queue" "LNamedMoves$Queue;", Cond.fieldLink RX5 29 "NamedMoves$Store" "heavyBound" "I"]
def wsL_law_r3 : List Cond := [Cond.methodLink RX5 17 yX0_init, Cond.instanceMethod yX0_init, Cond.code yX0_init cX0_init 1 none, Cond.methodLink RX0 3 objectInit, Cond.fieldLink RX0 9 "NamedMoves$Copies" "things" "[I", Cond.fieldLink RX0 15 "NamedMoves$Copies" "sizes" "[I", Cond.fieldLink RX0 18 "NamedMoves$Copies" "notes" "[I", Cond.fieldLink RX0 21 "NamedMoves$Copies" "marks" "[I", Cond.fieldLink RX0 24 "NamedMoves$Copies" "names" "[I", Cond.methodLink RX0 27 yJ7_fill_53178, Cond.static yJ7_fill_53178, Cond.initialized RJ7, Cond.code yJ7_fill_53178 cJ7_fill_53178 4 none, Cond.instanceMethod yX3_init, Cond.code yX3_init cX3_init 1 none, Cond.methodLink RX3 3 objectInit, Cond.fieldLink RX3 9 "NamedMoves$Queue" "addresses" "[I", Cond.methodLink RX5 33 yJ7_fill_53178, Cond.methodLink RX7 21 yX2_init, Cond.instanceMethod yX2_init, Cond.code yX2_init cX2_init 2 none, Cond.methodLink RX2 3 objectInit, Cond.classLink RX2 9 RX5, Cond.fieldLink RX2 11 "NamedMoves$History" "states" "[LNamedMoves$Store;"]
def wsL_law_r4 : List Cond := [Cond.methodLink RX2 17 yX5_init, Cond.instanceMethod yX4_init, Cond.code yX4_init cX4_init 1 none, Cond.methodLink RX4 3 objectInit, Cond.arrayClass .boolean, Cond.fieldLink RX4 9 "NamedMoves$Reach" "reached" "[Z", Cond.fieldLink RX4 15 "NamedMoves$Reach" "found" "[I", Cond.fieldLink RX4 19 "NamedMoves$Reach" "seenThings" "[Z", Cond.instanceMethod yX6_init, Cond.code yX6_init cX6_init 1 none, Cond.methodLink RX6 3 objectInit, Cond.fieldLink RX6 9 "NamedMoves$Text" "characters" "[I", Cond.instanceMethod yX1_init, Cond.code yX1_init cX1_init 1 none, Cond.methodLink RX1 3 objectInit, Cond.fieldLink RX1 9 "NamedMoves$Errand" "numbers" "[I", Cond.methodLink RL 12 yX8_init, Cond.instanceMethod yX8_init, Cond.code yX8_init cX8_init 2 none, Cond.methodLink RX8 1 objectInit, Cond.fieldLink RX8 7 "NamedMovesModel" "s" "[I", Cond.fieldLink RX8 13 "NamedMovesModel" "past" "[I", Cond.fieldLink RX8 16 "NamedMovesModel" "held" "[I", Cond.fieldLink RX8 19 "NamedMovesModel" "text" "[I"]
def wsL_law_r5 : List Cond := [Cond.fieldLink RX8 22 "NamedMovesModel" "read" "[I", Cond.fieldLink RX8 25 "NamedMovesModel" "isReached" "[Z", Cond.fieldLink RX8 29 "NamedMovesModel" "found" "[I", Cond.methodLink RL 13 yX7_setHeavy, Cond.instanceMethod yX7_setHeavy, Cond.selects RX7 yX7_setHeavy yX7_setHeavy, Cond.code yX7_setHeavy cX7_setHeavy 2 (some .int), Cond.methodLink RX7 47 yX2_draft, Cond.instanceMethod yX2_draft, Cond.selects RX2 yX2_draft yX2_draft, Cond.code yX2_draft cX2_draft 3 none, Cond.methodLink RX2 31 yX2_slotOfDraft, Cond.instanceMethod yX2_slotOfDraft, Cond.selects RX2 yX2_slotOfDraft yX2_slotOfDraft, Cond.code yX2_slotOfDraft cX2_slotOfDraft 1 (some .int), Cond.fieldLink RX2 22 "NamedMoves$History" "first" "I", Cond.fieldLink RX2 18 "NamedMoves$History" "held" "I", Cond.methodLink RX2 25 yJ9_floorMod_7cf53, Cond.static yJ9_floorMod_7cf53, Cond.initialized RJ9, Cond.code yJ9_floorMod_7cf53 cJ9_floorMod_7cf53 3 (some .int), Cond.methodLink RX2 35 yX5_become, Cond.instanceMethod yX5_become, Cond.selects RX5 yX5_become yX5_become]
def wsL_law_r6 : List Cond := [Cond.code yX5_become cX5_become 2 none, Cond.methodLink RX5 39 arraycopyName, Cond.native arraycopyName, Cond.static arraycopyName, Cond.initialized "java/lang/System", Cond.fieldLink RX5 52 "NamedMoves$Store" "made" "I", Cond.fieldLink RX5 55 "NamedMoves$Store" "moving" "Z", Cond.fieldLink RX5 59 "NamedMoves$Store" "half" "I", Cond.fieldLink RX5 62 "NamedMoves$Store" "taken" "I", Cond.fieldLink RX5 65 "NamedMoves$Store" "notesLost" "I", Cond.fieldLink RX5 68 "NamedMoves$Store" "movesEnded" "I", Cond.methodLink RX5 45 yX0_become, Cond.instanceMethod yX0_become, Cond.selects RX0 yX0_become yX0_become, Cond.code yX0_become cX0_become 2 none, Cond.methodLink RX0 33 arraycopyName, Cond.methodLink RX5 49 yX3_become, Cond.instanceMethod yX3_become, Cond.selects RX3 yX3_become yX3_become, Cond.code yX3_become cX3_become 2 none, Cond.methodLink RX3 15 arraycopyName, Cond.fieldLink RX3 21 "NamedMoves$Queue" "first" "I", Cond.fieldLink RX3 25 "NamedMoves$Queue" "end" "I", Cond.methodLink RX7 51 yX5_changeBound]
def wsL_law_r7 : List Cond := [Cond.instanceMethod yX5_changeBound, Cond.selects RX5 yX5_changeBound yX5_changeBound, Cond.code yX5_changeBound cX5_changeBound 3 (some .int), Cond.methodLink RX7 55 yX7_recorded, Cond.instanceMethod yX7_recorded, Cond.selects RX7 yX7_recorded yX7_recorded, Cond.code yX7_recorded cX7_recorded 2 (some .int), Cond.methodLink RX7 186 yX2_keepDraft, Cond.instanceMethod yX2_keepDraft, Cond.selects RX2 yX2_keepDraft yX2_keepDraft, Cond.code yX2_keepDraft cX2_keepDraft 1 none, Cond.methodLink RL 17 yX8_setHeavy, Cond.instanceMethod yX8_setHeavy, Cond.selects RX8 yX8_setHeavy yX8_setHeavy, Cond.code yX8_setHeavy cX8_setHeavy 3 (some .int), Cond.methodLink RX8 40 yX8_in, Cond.static yX8_in, Cond.code yX8_in cX8_in 3 (some .boolean), Cond.methodLink RX8 94 yX8_acts, Cond.instanceMethod yX8_acts, Cond.selects RX8 yX8_acts yX8_acts, Cond.code yX8_acts cX8_acts 2 none, Cond.fieldLink RX8 32 "NamedMovesModel" "runs" "Z", Cond.fieldLink RX8 36 "NamedMovesModel" "pasts" "I"]
def wsL_law_r8 : List Cond := [Cond.methodLink RL 18 yX7_make, Cond.instanceMethod yX7_make, Cond.selects RX7 yX7_make yX7_make, Cond.code yX7_make cX7_make 3 (some .int), Cond.methodLink RX7 58 yX5_makeThing, Cond.instanceMethod yX5_makeThing, Cond.selects RX5 yX5_makeThing yX5_makeThing, Cond.code yX5_makeThing cX5_makeThing 5 (some .int), Cond.static yX7_isHook, Cond.code yX7_isHook cX7_isHook 1 (some .boolean), Cond.methodLink RX5 114 yX0_floorAddressFor, Cond.instanceMethod yX0_floorAddressFor, Cond.selects RX0 yX0_floorAddressFor yX0_floorAddressFor, Cond.code yX0_floorAddressFor cX0_floorAddressFor 5 (some .int), Cond.methodLink RX0 50 yX0_sizeAt, Cond.instanceMethod yX0_sizeAt, Cond.selects RX0 yX0_sizeAt yX0_sizeAt, Cond.code yX0_sizeAt cX0_sizeAt 2 (some .int), Cond.methodLink RX0 39 yX0_isAt, Cond.instanceMethod yX0_isAt, Cond.selects RX0 yX0_isAt yX0_isAt, Cond.code yX0_isAt cX0_isAt 2 (some .boolean), Cond.methodLink RX5 117 yX5_halfAddressFor, Cond.instanceMethod yX5_halfAddressFor]
def wsL_law_r9 : List Cond := [Cond.selects RX5 yX5_halfAddressFor yX5_halfAddressFor, Cond.code yX5_halfAddressFor cX5_halfAddressFor 2 (some .int), Cond.methodLink RX5 99 yX5_freeInHalf, Cond.instanceMethod yX5_freeInHalf, Cond.selects RX5 yX5_freeInHalf yX5_freeInHalf, Cond.code yX5_freeInHalf cX5_freeInHalf 1 (some .int), Cond.methodLink RX5 108 yX5_roomKept, Cond.instanceMethod yX5_roomKept, Cond.selects RX5 yX5_roomKept yX5_roomKept, Cond.code yX5_roomKept cX5_roomKept 4 (some .int), Cond.methodLink RX5 75 yX5_addressOfHalf, Cond.instanceMethod yX5_addressOfHalf, Cond.selects RX5 yX5_addressOfHalf yX5_addressOfHalf, Cond.code yX5_addressOfHalf cX5_addressOfHalf 2 (some .int), Cond.methodLink RX5 79 yX0_noteAt, Cond.instanceMethod yX0_noteAt, Cond.selects RX0 yX0_noteAt yX0_noteAt, Cond.code yX0_noteAt cX0_noteAt 2 (some .int), Cond.methodLink RX5 82 yX0_sizeAt, Cond.methodLink RX5 120 yX0_lay, Cond.instanceMethod yX0_lay, Cond.selects RX0 yX0_lay yX0_lay, Cond.code yX0_lay cX0_lay 4 none, Cond.methodLink RX5 124 yX0_mark]
def wsL_law_r10 : List Cond := [Cond.instanceMethod yX0_mark, Cond.selects RX0 yX0_mark yX0_mark, Cond.code yX0_mark cX0_mark 2 (some .boolean), Cond.methodLink RL 22 yX8_make, Cond.instanceMethod yX8_make, Cond.selects RX8 yX8_make yX8_make, Cond.code yX8_make cX8_make 8 (some .int), Cond.methodLink RX8 97 yX8_isHook, Cond.static yX8_isHook, Cond.code yX8_isHook cX8_isHook 1 (some .boolean), Cond.methodLink RX8 100 yX8_floorPlace, Cond.instanceMethod yX8_floorPlace, Cond.selects RX8 yX8_floorPlace yX8_floorPlace, Cond.code yX8_floorPlace cX8_floorPlace 5 (some .int), Cond.methodLink RX8 60 yX8_sizeAt, Cond.instanceMethod yX8_sizeAt, Cond.selects RX8 yX8_sizeAt yX8_sizeAt, Cond.code yX8_sizeAt cX8_sizeAt 2 (some .int), Cond.methodLink RX8 48 yX8_isCopy, Cond.instanceMethod yX8_isCopy, Cond.selects RX8 yX8_isCopy yX8_isCopy, Cond.code yX8_isCopy cX8_isCopy 2 (some .boolean), Cond.methodLink RX8 44 yX8_ofCopy, Cond.instanceMethod yX8_ofCopy]
def wsL_law_r11 : List Cond := [Cond.selects RX8 yX8_ofCopy yX8_ofCopy, Cond.code yX8_ofCopy cX8_ofCopy 3 (some .int), Cond.methodLink RX8 103 yX8_free, Cond.instanceMethod yX8_free, Cond.selects RX8 yX8_free yX8_free, Cond.code yX8_free cX8_free 2 (some .int), Cond.methodLink RX8 106 yX8_kept, Cond.instanceMethod yX8_kept, Cond.selects RX8 yX8_kept yX8_kept, Cond.code yX8_kept cX8_kept 3 (some .int), Cond.methodLink RX8 52 yX8_old, Cond.instanceMethod yX8_old, Cond.selects RX8 yX8_old yX8_old, Cond.code yX8_old cX8_old 1 (some .int), Cond.methodLink RX8 56 yX8_isMoving, Cond.instanceMethod yX8_isMoving, Cond.selects RX8 yX8_isMoving yX8_isMoving, Cond.code yX8_isMoving cX8_isMoving 1 (some .boolean), Cond.methodLink RX8 64 yX8_lays, Cond.instanceMethod yX8_lays, Cond.selects RX8 yX8_lays yX8_lays, Cond.code yX8_lays cX8_lays 7 none, Cond.methodLink RX8 68 yX8_laysInHalf, Cond.instanceMethod yX8_laysInHalf]
def wsL_law_r12 : List Cond := [Cond.selects RX8 yX8_laysInHalf yX8_laysInHalf, Cond.code yX8_laysInHalf cX8_laysInHalf 5 (some .int), Cond.methodLink RX8 76 yX8_address, Cond.static yX8_address, Cond.code yX8_address cX8_address 1 (some .int), Cond.methodLink RL 23 yX7_link, Cond.instanceMethod yX7_link, Cond.selects RX7 yX7_link yX7_link, Cond.code yX7_link cX7_link 4 (some .int), Cond.methodLink RX7 62 yX5_linkHooks, Cond.instanceMethod yX5_linkHooks, Cond.selects RX5 yX5_linkHooks yX5_linkHooks, Cond.code yX5_linkHooks cX5_linkHooks 6 (some .int), Cond.static yX7_isName, Cond.code yX7_isName cX7_isName 1 (some .boolean), Cond.methodLink RX5 130 yX5_readIn, Cond.instanceMethod yX5_readIn, Cond.selects RX5 yX5_readIn yX5_readIn, Cond.code yX5_readIn cX5_readIn 5 (some .int), Cond.methodLink RX5 89 yX5_isInOldHalf, Cond.instanceMethod yX5_isInOldHalf, Cond.selects RX5 yX5_isInOldHalf yX5_isInOldHalf, Cond.code yX5_isInOldHalf cX5_isInOldHalf 3 (some .boolean), Cond.methodLink RX5 182 yX5_carryOver]
def wsL_law_r13 : List Cond := [Cond.instanceMethod yX5_carryOver, Cond.selects RX5 yX5_carryOver yX5_carryOver, Cond.code yX5_carryOver cX5_carryOver 4 (some .int), Cond.methodLink RX5 188 yX0_layAgain, Cond.instanceMethod yX0_layAgain, Cond.selects RX0 yX0_layAgain yX0_layAgain, Cond.code yX0_layAgain cX0_layAgain 3 none, Cond.methodLink RX5 185 yX3_join, Cond.instanceMethod yX3_join, Cond.selects RX3 yX3_join yX3_join, Cond.code yX3_join cX3_join 2 none, Cond.methodLink RX5 134 yX0_setName, Cond.instanceMethod yX0_setName, Cond.selects RX0 yX0_setName yX0_setName, Cond.code yX0_setName cX0_setName 4 none, Cond.methodLink RL 27 yX8_link, Cond.instanceMethod yX8_link, Cond.selects RX8 yX8_link yX8_link, Cond.code yX8_link cX8_link 4 (some .int), Cond.methodLink RX8 109 yX8_isRight, Cond.instanceMethod yX8_isRight, Cond.selects RX8 yX8_isRight yX8_isRight, Cond.code yX8_isRight cX8_isRight 4 (some .boolean), Cond.methodLink RX8 85 yX8_reads]
def wsL_law_r14 : List Cond := [Cond.instanceMethod yX8_reads, Cond.selects RX8 yX8_reads yX8_reads, Cond.code yX8_reads cX8_reads 4 none, Cond.methodLink RX8 79 yX8_cell, Cond.static yX8_cell, Cond.code yX8_cell cX8_cell 1 (some .int), Cond.methodLink RX8 82 yX8_carries, Cond.instanceMethod yX8_carries, Cond.selects RX8 yX8_carries yX8_carries, Cond.code yX8_carries cX8_carries 3 (some .int), Cond.methodLink RX8 72 yX8_joins, Cond.instanceMethod yX8_joins, Cond.selects RX8 yX8_joins yX8_joins, Cond.code yX8_joins cX8_joins 2 none, Cond.methodLink RX8 112 yX8_told, Cond.static yX8_told, Cond.code yX8_told cX8_told 1 (some .int), Cond.methodLink RL 28 yX7_follow, Cond.instanceMethod yX7_follow, Cond.selects RX7 yX7_follow yX7_follow, Cond.code yX7_follow cX7_follow 4 (some .int), Cond.methodLink RX7 66 yX5_followName, Cond.instanceMethod yX5_followName, Cond.selects RX5 yX5_followName yX5_followName]
def wsL_law_r15 : List Cond := [Cond.code yX5_followName cX5_followName 5 (some .int), Cond.methodLink RL 31 yX8_follow, Cond.instanceMethod yX8_follow, Cond.selects RX8 yX8_follow yX8_follow, Cond.code yX8_follow cX8_follow 5 (some .int), Cond.methodLink RL 32 yX7_drop, Cond.instanceMethod yX7_drop, Cond.selects RX7 yX7_drop yX7_drop, Cond.code yX7_drop cX7_drop 2 (some .int), Cond.methodLink RX7 69 yX5_dropHook, Cond.instanceMethod yX5_dropHook, Cond.selects RX5 yX5_dropHook yX5_dropHook, Cond.code yX5_dropHook cX5_dropHook 3 (some .int), Cond.methodLink RL 35 yX8_drop, Cond.instanceMethod yX8_drop, Cond.selects RX8 yX8_drop yX8_drop, Cond.code yX8_drop cX8_drop 3 (some .int), Cond.methodLink RL 36 yX7_begin, Cond.instanceMethod yX7_begin, Cond.selects RX7 yX7_begin yX7_begin, Cond.code yX7_begin cX7_begin 1 (some .int), Cond.methodLink RX7 72 yX5_beginMove, Cond.instanceMethod yX5_beginMove, Cond.selects RX5 yX5_beginMove yX5_beginMove]
def wsL_law_r16 : List Cond := [Cond.code yX5_beginMove cX5_beginMove 2 (some .int), Cond.methodLink RX5 140 yX3_clear, Cond.instanceMethod yX3_clear, Cond.selects RX3 yX3_clear yX3_clear, Cond.code yX3_clear cX3_clear 1 none, Cond.methodLink RX5 105 yX3_size, Cond.instanceMethod yX3_size, Cond.selects RX3 yX3_size yX3_size, Cond.code yX3_size cX3_size 1 (some .int), Cond.methodLink RX5 143 yX5_endMove, Cond.instanceMethod yX5_endMove, Cond.selects RX5 yX5_endMove yX5_endMove, Cond.code yX5_endMove cX5_endMove 1 none, Cond.methodLink RX5 152 yX0_emptyHalf, Cond.instanceMethod yX0_emptyHalf, Cond.selects RX0 yX0_emptyHalf yX0_emptyHalf, Cond.code yX0_emptyHalf cX0_emptyHalf 3 none, Cond.methodLink RX0 57 yX0_remove, Cond.instanceMethod yX0_remove, Cond.selects RX0 yX0_remove yX0_remove, Cond.code yX0_remove cX0_remove 2 none, Cond.methodLink RX5 156 yX0_sweepFloor, Cond.instanceMethod yX0_sweepFloor, Cond.selects RX0 yX0_sweepFloor yX0_sweepFloor]
def wsL_law_r17 : List Cond := [Cond.code yX0_sweepFloor cX0_sweepFloor 2 none, Cond.methodLink RL 40 yX8_begin, Cond.instanceMethod yX8_begin, Cond.selects RX8 yX8_begin yX8_begin, Cond.code yX8_begin cX8_begin 1 (some .int), Cond.methodLink RX8 115 yX8_begins, Cond.instanceMethod yX8_begins, Cond.selects RX8 yX8_begins yX8_begins, Cond.code yX8_begins cX8_begins 2 none, Cond.methodLink RX8 88 yX8_ends, Cond.instanceMethod yX8_ends, Cond.selects RX8 yX8_ends yX8_ends, Cond.code yX8_ends cX8_ends 3 none, Cond.methodLink RL 41 yX7_carry, Cond.instanceMethod yX7_carry, Cond.selects RX7 yX7_carry yX7_carry, Cond.code yX7_carry cX7_carry 2 (some .int), Cond.methodLink RX7 76 yX5_carrySteps, Cond.instanceMethod yX5_carrySteps, Cond.selects RX5 yX5_carrySteps yX5_carrySteps, Cond.code yX5_carrySteps cX5_carrySteps 2 (some .int), Cond.methodLink RX5 146 yX5_stepsUpTo, Cond.instanceMethod yX5_stepsUpTo, Cond.selects RX5 yX5_stepsUpTo yX5_stepsUpTo]
def wsL_law_r18 : List Cond := [Cond.code yX5_stepsUpTo cX5_stepsUpTo 4 (some .int), Cond.methodLink RX5 149 yX3_takeFirst, Cond.instanceMethod yX3_takeFirst, Cond.selects RX3 yX3_takeFirst yX3_takeFirst, Cond.code yX3_takeFirst cX3_takeFirst 1 (some .int), Cond.methodLink RL 44 yX8_carry, Cond.instanceMethod yX8_carry, Cond.selects RX8 yX8_carry yX8_carry, Cond.code yX8_carry cX8_carry 3 (some .int), Cond.methodLink RX8 91 yX8_steps, Cond.instanceMethod yX8_steps, Cond.selects RX8 yX8_steps yX8_steps, Cond.code yX8_steps cX8_steps 3 none, Cond.methodLink RL 45 yX7_lose, Cond.instanceMethod yX7_lose, Cond.selects RX7 yX7_lose yX7_lose, Cond.code yX7_lose cX7_lose 2 (some .int), Cond.methodLink RX7 79 yX5_loseNote, Cond.instanceMethod yX5_loseNote, Cond.selects RX5 yX5_loseNote yX5_loseNote, Cond.code yX5_loseNote cX5_loseNote 3 (some .int), Cond.methodLink RX5 159 yX5_isThing, Cond.instanceMethod yX5_isThing, Cond.selects RX5 yX5_isThing yX5_isThing]
def wsL_law_r19 : List Cond := [Cond.code yX5_isThing cX5_isThing 2 (some .boolean), Cond.methodLink RX5 162 yX5_firstWithNote, Cond.instanceMethod yX5_firstWithNote, Cond.selects RX5 yX5_firstWithNote yX5_firstWithNote, Cond.code yX5_firstWithNote cX5_firstWithNote 3 (some .int), Cond.methodLink RX5 85 yX0_isOf, Cond.instanceMethod yX0_isOf, Cond.selects RX0 yX0_isOf yX0_isOf, Cond.code yX0_isOf cX0_isOf 3 (some .boolean), Cond.methodLink RX5 165 yX0_loseNoteAt, Cond.instanceMethod yX0_loseNoteAt, Cond.selects RX0 yX0_loseNoteAt yX0_loseNoteAt, Cond.code yX0_loseNoteAt cX0_loseNoteAt 2 none, Cond.methodLink RL 48 yX8_lose, Cond.instanceMethod yX8_lose, Cond.selects RX8 yX8_lose yX8_lose, Cond.code yX8_lose cX8_lose 3 (some .int), Cond.methodLink RX8 118 yX8_isThing, Cond.instanceMethod yX8_isThing, Cond.selects RX8 yX8_isThing yX8_isThing, Cond.code yX8_isThing cX8_isThing 2 (some .boolean), Cond.methodLink RX8 121 yX8_noted, Cond.instanceMethod yX8_noted, Cond.selects RX8 yX8_noted yX8_noted]
def wsL_law_r20 : List Cond := [Cond.code yX8_noted cX8_noted 5 (some .int), Cond.methodLink RL 49 yX7_mend, Cond.instanceMethod yX7_mend, Cond.selects RX7 yX7_mend yX7_mend, Cond.code yX7_mend cX7_mend 2 (some .int), Cond.methodLink RX7 82 yX5_mendTwins, Cond.instanceMethod yX5_mendTwins, Cond.selects RX5 yX5_mendTwins yX5_mendTwins, Cond.code yX5_mendTwins cX5_mendTwins 5 (some .int), Cond.methodLink RX5 92 yX5_hasTwins, Cond.instanceMethod yX5_hasTwins, Cond.selects RX5 yX5_hasTwins yX5_hasTwins, Cond.code yX5_hasTwins cX5_hasTwins 4 (some .boolean), Cond.methodLink RX5 168 yX0_addressOf, Cond.instanceMethod yX0_addressOf, Cond.selects RX0 yX0_addressOf yX0_addressOf, Cond.code yX0_addressOf cX0_addressOf 5 (some .int), Cond.methodLink RX0 46 yX0_isOf, Cond.methodLink RX5 172 yX0_remove, Cond.methodLink RX5 175 yX0_replaceNames, Cond.instanceMethod yX0_replaceNames, Cond.selects RX0 yX0_replaceNames yX0_replaceNames, Cond.code yX0_replaceNames cX0_replaceNames 4 none, Cond.methodLink RX5 179 yX5_replaceHooks]
def wsL_law_r21 : List Cond := [Cond.instanceMethod yX5_replaceHooks, Cond.selects RX5 yX5_replaceHooks yX5_replaceHooks, Cond.code yX5_replaceHooks cX5_replaceHooks 4 none, Cond.methodLink RL 52 yX8_mend, Cond.instanceMethod yX8_mend, Cond.selects RX8 yX8_mend yX8_mend, Cond.code yX8_mend cX8_mend 5 (some .int), Cond.methodLink RX8 124 yX8_copies, Cond.instanceMethod yX8_copies, Cond.selects RX8 yX8_copies yX8_copies, Cond.code yX8_copies cX8_copies 5 (some .int), Cond.methodLink RX8 127 yX8_first, Cond.instanceMethod yX8_first, Cond.selects RX8 yX8_first yX8_first, Cond.code yX8_first cX8_first 3 (some .int), Cond.methodLink RX8 130 yX8_turns, Cond.instanceMethod yX8_turns, Cond.selects RX8 yX8_turns yX8_turns, Cond.code yX8_turns cX8_turns 5 none, Cond.methodLink RL 53 yX7_undo, Cond.instanceMethod yX7_undo, Cond.selects RX7 yX7_undo yX7_undo, Cond.code yX7_undo cX7_undo 1 (some .int), Cond.methodLink RX7 85 yX2_size]
def wsL_law_r22 : List Cond := [Cond.instanceMethod yX2_size, Cond.selects RX2 yX2_size yX2_size, Cond.code yX2_size cX2_size 1 (some .int), Cond.methodLink RX7 88 yX2_restoreLatest, Cond.instanceMethod yX2_restoreLatest, Cond.selects RX2 yX2_restoreLatest yX2_restoreLatest, Cond.code yX2_restoreLatest cX2_restoreLatest 2 none, Cond.methodLink RX2 39 yX2_restoreDraft, Cond.instanceMethod yX2_restoreDraft, Cond.selects RX2 yX2_restoreDraft yX2_restoreDraft, Cond.code yX2_restoreDraft cX2_restoreDraft 3 none, Cond.methodLink RL 56 yX8_undo, Cond.instanceMethod yX8_undo, Cond.selects RX8 yX8_undo yX8_undo, Cond.code yX8_undo cX8_undo 2 (some .int), Cond.methodLink RL 57 yX7_append, Cond.instanceMethod yX7_append, Cond.selects RX7 yX7_append yX7_append, Cond.code yX7_append cX7_append 2 (some .int), Cond.methodLink RX7 91 yX6_addCharacter, Cond.instanceMethod yX6_addCharacter, Cond.selects RX6 yX6_addCharacter yX6_addCharacter, Cond.code yX6_addCharacter cX6_addCharacter 2 (some .int), Cond.fieldLink RX6 15 "NamedMoves$Text" "length" "I"]
def wsL_law_r23 : List Cond := [Cond.methodLink RL 60 yX8_append, Cond.instanceMethod yX8_append, Cond.selects RX8 yX8_append yX8_append, Cond.code yX8_append cX8_append 2 (some .int), Cond.fieldLink RX8 134 "NamedMovesModel" "typed" "I", Cond.methodLink RL 61 yX7_clearText, Cond.instanceMethod yX7_clearText, Cond.selects RX7 yX7_clearText yX7_clearText, Cond.code yX7_clearText cX7_clearText 2 (some .int), Cond.methodLink RX7 94 yX6_size, Cond.instanceMethod yX6_size, Cond.selects RX6 yX6_size yX6_size, Cond.code yX6_size cX6_size 1 (some .int), Cond.methodLink RX7 95 yX6_empty, Cond.instanceMethod yX6_empty, Cond.selects RX6 yX6_empty yX6_empty, Cond.code yX6_empty cX6_empty 1 none, Cond.methodLink RL 64 yX8_clearText, Cond.instanceMethod yX8_clearText, Cond.selects RX8 yX8_clearText yX8_clearText, Cond.code yX8_clearText cX8_clearText 2 (some .int), Cond.methodLink RL 65 yX7_run, Cond.instanceMethod yX7_run, Cond.selects RX7 yX7_run yX7_run]
def wsL_law_r24 : List Cond := [Cond.code yX7_run cX7_run 3 (some .int), Cond.methodLink RX7 98 yX1_readFrom, Cond.instanceMethod yX1_readFrom, Cond.selects RX1 yX1_readFrom yX1_readFrom, Cond.code yX1_readFrom cX1_readFrom 5 (some .boolean), Cond.fieldLink RX1 15 "NamedMoves$Errand" "place" "I", Cond.fieldLink RX1 25 "NamedMoves$Errand" "letter" "I", Cond.methodLink RX1 19 yX6_at, Cond.instanceMethod yX6_at, Cond.selects RX6 yX6_at yX6_at, Cond.code yX6_at cX6_at 3 (some .int), Cond.methodLink RX1 28 yX1_numbersDue, Cond.instanceMethod yX1_numbersDue, Cond.selects RX1 yX1_numbersDue yX1_numbersDue, Cond.code yX1_numbersDue cX1_numbersDue 1 (some .int), Cond.methodLink RX1 32 yX1_passes, Cond.instanceMethod yX1_passes, Cond.selects RX1 yX1_passes yX1_passes, Cond.code yX1_passes cX1_passes 3 (some .boolean), Cond.methodLink RX1 36 yX6_hasDigitAt, Cond.instanceMethod yX6_hasDigitAt, Cond.selects RX6 yX6_hasDigitAt yX6_hasDigitAt, Cond.code yX6_hasDigitAt cX6_hasDigitAt 2 (some .boolean), Cond.methodLink RX6 19 yX6_at]
def wsL_law_r25 : List Cond := [Cond.methodLink RX1 40 yX1_readNumber, Cond.instanceMethod yX1_readNumber, Cond.selects RX1 yX1_readNumber yX1_readNumber, Cond.code yX1_readNumber cX1_readNumber 3 (some .int), Cond.methodLink RX7 102 yX1_end, Cond.instanceMethod yX1_end, Cond.selects RX1 yX1_end yX1_end, Cond.code yX1_end cX1_end 1 (some .int), Cond.methodLink RX7 105 yX7_textFailed, Cond.instanceMethod yX7_textFailed, Cond.selects RX7 yX7_textFailed yX7_textFailed, Cond.code yX7_textFailed cX7_textFailed 2 (some .int), Cond.methodLink RX7 189 yX2_restoreDraft, Cond.methodLink RX7 108 yX1_callOn, Cond.instanceMethod yX1_callOn, Cond.selects RX1 yX1_callOn yX1_callOn, Cond.code yX1_callOn cX1_callOn 2 (some .int), Cond.methodLink RX1 44 yX5_makeThing, Cond.methodLink RX1 50 yX5_linkHooks, Cond.methodLink RX1 54 yX5_followName, Cond.methodLink RX1 57 yX5_dropHook, Cond.methodLink RX1 60 yX5_beginMove, Cond.methodLink RX1 63 yX5_carrySteps, Cond.methodLink RL 68 yX8_run]
def wsL_law_r26 : List Cond := [Cond.instanceMethod yX8_run, Cond.selects RX8 yX8_run yX8_run, Cond.code yX8_run cX8_run 3 (some .int), Cond.fieldLink RX8 137 "NamedMovesModel" "at" "I", Cond.methodLink RX8 171 yX8_holds, Cond.instanceMethod yX8_holds, Cond.selects RX8 yX8_holds yX8_holds, Cond.code yX8_holds cX8_holds 2 none, Cond.methodLink RX8 174 yX8_doesOne, Cond.instanceMethod yX8_doesOne, Cond.selects RX8 yX8_doesOne yX8_doesOne, Cond.code yX8_doesOne cX8_doesOne 5 (some .int), Cond.methodLink RX8 162 yX8_numbersOf, Cond.static yX8_numbersOf, Cond.code yX8_numbersOf cX8_numbersOf 1 (some .int), Cond.methodLink RX8 140 yX8_isAt, Cond.instanceMethod yX8_isAt, Cond.selects RX8 yX8_isAt yX8_isAt, Cond.code yX8_isAt cX8_isAt 3 (some .boolean), Cond.methodLink RX8 165 yX8_number, Cond.instanceMethod yX8_number, Cond.selects RX8 yX8_number yX8_number, Cond.code yX8_number cX8_number 4 (some .boolean), Cond.methodLink RX8 168 yX8_does]
def wsL_law_r27 : List Cond := [Cond.instanceMethod yX8_does, Cond.selects RX8 yX8_does yX8_does, Cond.code yX8_does cX8_does 2 (some .int), Cond.methodLink RX8 144 yX8_make, Cond.methodLink RX8 147 yX8_link, Cond.methodLink RX8 150 yX8_follow, Cond.methodLink RX8 153 yX8_drop, Cond.methodLink RX8 156 yX8_carry, Cond.methodLink RX8 159 yX8_begin, Cond.methodLink RX8 177 yX8_exchanges, Cond.instanceMethod yX8_exchanges, Cond.selects RX8 yX8_exchanges yX8_exchanges, Cond.code yX8_exchanges cX8_exchanges 3 none, Cond.methodLink RL 69 yX7_count, Cond.instanceMethod yX7_count, Cond.selects RX7 yX7_count yX7_count, Cond.code yX7_count cX7_count 2 (some .int), Cond.methodLink RX7 112 yX5_numberOf, Cond.instanceMethod yX5_numberOf, Cond.selects RX5 yX5_numberOf yX5_numberOf, Cond.code yX5_numberOf cX5_numberOf 2 (some .int), Cond.methodLink RX5 95 yX0_number, Cond.instanceMethod yX0_number, Cond.selects RX0 yX0_number yX0_number]
def wsL_law_r28 : List Cond := [Cond.code yX0_number cX0_number 3 (some .int), Cond.methodLink RX5 102 yX0_floorTaken, Cond.instanceMethod yX0_floorTaken, Cond.selects RX0 yX0_floorTaken yX0_floorTaken, Cond.code yX0_floorTaken cX0_floorTaken 3 (some .int), Cond.methodLink RX5 111 yX5_thingsWithTwins, Cond.instanceMethod yX5_thingsWithTwins, Cond.selects RX5 yX5_thingsWithTwins yX5_thingsWithTwins, Cond.code yX5_thingsWithTwins cX5_thingsWithTwins 3 (some .int), Cond.methodLink RL 72 yX8_count, Cond.instanceMethod yX8_count, Cond.selects RX8 yX8_count yX8_count, Cond.code yX8_count cX8_count 2 (some .int), Cond.methodLink RX8 180 yX8_allCopies, Cond.instanceMethod yX8_allCopies, Cond.selects RX8 yX8_allCopies yX8_allCopies, Cond.code yX8_allCopies cX8_allCopies 3 (some .int), Cond.methodLink RX8 183 yX8_freeFloor, Cond.instanceMethod yX8_freeFloor, Cond.selects RX8 yX8_freeFloor yX8_freeFloor, Cond.code yX8_freeFloor cX8_freeFloor 3 (some .int), Cond.methodLink RX8 186 yX8_twins, Cond.instanceMethod yX8_twins, Cond.selects RX8 yX8_twins yX8_twins]
def wsL_law_r29 : List Cond := [Cond.code yX8_twins cX8_twins 3 (some .int), Cond.methodLink RL 73 yX7_hook, Cond.instanceMethod yX7_hook, Cond.selects RX7 yX7_hook yX7_hook, Cond.code yX7_hook cX7_hook 2 (some .int), Cond.methodLink RX7 115 yX7_isHook, Cond.methodLink RX7 119 yX5_hungOn, Cond.instanceMethod yX5_hungOn, Cond.selects RX5 yX5_hungOn yX5_hungOn, Cond.code yX5_hungOn cX5_hungOn 2 (some .int), Cond.methodLink RX7 122 yX7_orNone, Cond.static yX7_orNone, Cond.code yX7_orNone cX7_orNone 1 (some .int), Cond.methodLink RL 76 yX8_hook, Cond.instanceMethod yX8_hook, Cond.selects RX8 yX8_hook yX8_hook, Cond.code yX8_hook cX8_hook 2 (some .int), Cond.methodLink RL 77 yX7_copy, Cond.instanceMethod yX7_copy, Cond.selects RX7 yX7_copy yX7_copy, Cond.code yX7_copy cX7_copy 4 (some .int), Cond.methodLink RX7 129 yX0_isAt, Cond.methodLink RX7 134 yX0_thingAt, Cond.instanceMethod yX0_thingAt]
def wsL_law_r30 : List Cond := [Cond.selects RX0 yX0_thingAt yX0_thingAt, Cond.code yX0_thingAt cX0_thingAt 2 (some .int), Cond.methodLink RX7 137 yX0_sizeAt, Cond.methodLink RX7 140 yX0_noteAt, Cond.methodLink RX7 143 yX0_isMarked, Cond.instanceMethod yX0_isMarked, Cond.selects RX0 yX0_isMarked yX0_isMarked, Cond.code yX0_isMarked cX0_isMarked 2 (some .boolean), Cond.methodLink RX7 146 yX0_nameAt, Cond.instanceMethod yX0_nameAt, Cond.selects RX0 yX0_nameAt yX0_nameAt, Cond.code yX0_nameAt cX0_nameAt 3 (some .int), Cond.methodLink RL 80 yX8_copy, Cond.instanceMethod yX8_copy, Cond.selects RX8 yX8_copy yX8_copy, Cond.code yX8_copy cX8_copy 4 (some .int), Cond.methodLink RX8 189 yX8_isAddress, Cond.static yX8_isAddress, Cond.code yX8_isAddress cX8_isAddress 1 (some .boolean), Cond.methodLink RL 81 yX7_where, Cond.instanceMethod yX7_where, Cond.selects RX7 yX7_where yX7_where, Cond.code yX7_where cX7_where 3 (some .int), Cond.methodLink RX7 149 yX5_isThing]
def wsL_law_r31 : List Cond := [Cond.methodLink RX7 152 yX0_addressOf, Cond.methodLink RL 84 yX8_where, Cond.instanceMethod yX8_where, Cond.selects RX8 yX8_where yX8_where, Cond.code yX8_where cX8_where 6 (some .int), Cond.methodLink RL 85 yX7_named, Cond.instanceMethod yX7_named, Cond.selects RX7 yX7_named yX7_named, Cond.code yX7_named cX7_named 2 (some .int), Cond.methodLink RX7 155 yX4_clear, Cond.instanceMethod yX4_clear, Cond.selects RX4 yX4_clear yX4_clear, Cond.code yX4_clear cX4_clear 2 none, Cond.fieldLink RX4 22 "NamedMoves$Reach" "foundNumber" "I", Cond.methodLink RX7 158 yX4_add, Cond.instanceMethod yX4_add, Cond.selects RX4 yX4_add yX4_add, Cond.code yX4_add cX4_add 4 none, Cond.methodLink RX4 26 yX0_leadsTo, Cond.instanceMethod yX0_leadsTo, Cond.selects RX0 yX0_leadsTo yX0_leadsTo, Cond.code yX0_leadsTo cX0_leadsTo 3 (some .int), Cond.methodLink RX0 54 yX0_noteAt, Cond.methodLink RX4 32 yX0_isAt]
def wsL_law_r32 : List Cond := [Cond.methodLink RX4 36 yX4_isReached, Cond.instanceMethod yX4_isReached, Cond.selects RX4 yX4_isReached yX4_isReached, Cond.code yX4_isReached cX4_isReached 2 (some .boolean), Cond.methodLink RX7 162 yX4_spread, Cond.instanceMethod yX4_spread, Cond.selects RX4 yX4_spread yX4_spread, Cond.code yX4_spread cX4_spread 3 none, Cond.methodLink RX4 39 yX0_nameAt, Cond.methodLink RX4 43 yX4_add, Cond.methodLink RX7 166 yX4_differentThings, Cond.instanceMethod yX4_differentThings, Cond.selects RX4 yX4_differentThings yX4_differentThings, Cond.code yX4_differentThings cX4_differentThings 5 (some .int), Cond.methodLink RX4 47 yX0_thingAt, Cond.methodLink RL 88 yX8_named, Cond.instanceMethod yX8_named, Cond.selects RX8 yX8_named yX8_named, Cond.code yX8_named cX8_named 6 (some .int), Cond.fieldLink RX8 192 "NamedMovesModel" "many" "I", Cond.methodLink RX8 198 yX8_forgets, Cond.instanceMethod yX8_forgets, Cond.selects RX8 yX8_forgets yX8_forgets, Cond.code yX8_forgets cX8_forgets 2 none]
def wsL_law_r33 : List Cond := [Cond.methodLink RX8 195 yX8_leads, Cond.instanceMethod yX8_leads, Cond.selects RX8 yX8_leads yX8_leads, Cond.code yX8_leads cX8_leads 3 none, Cond.methodLink RX8 201 yX8_reaches, Cond.instanceMethod yX8_reaches, Cond.selects RX8 yX8_reaches yX8_reaches, Cond.code yX8_reaches cX8_reaches 2 none, Cond.methodLink RL 89 yX7_garbage, Cond.instanceMethod yX7_garbage, Cond.selects RX7 yX7_garbage yX7_garbage, Cond.code yX7_garbage cX7_garbage 2 (some .int), Cond.methodLink RX7 170 yX4_placesOutside, Cond.instanceMethod yX4_placesOutside, Cond.selects RX4 yX4_placesOutside yX4_placesOutside, Cond.code yX4_placesOutside cX4_placesOutside 4 (some .int), Cond.methodLink RX4 50 yX0_noteAt, Cond.methodLink RX4 53 yX0_sizeAt, Cond.methodLink RL 92 yX8_garbage, Cond.instanceMethod yX8_garbage, Cond.selects RX8 yX8_garbage yX8_garbage, Cond.code yX8_garbage cX8_garbage 3 (some .int), Cond.methodLink RL 93 yX7_stepsLeft, Cond.instanceMethod yX7_stepsLeft]
def wsL_law_r34 : List Cond := [Cond.selects RX7 yX7_stepsLeft yX7_stepsLeft, Cond.code yX7_stepsLeft cX7_stepsLeft 1 (some .int), Cond.methodLink RX7 177 yX5_become, Cond.methodLink RX7 180 yX5_stepsUpTo, Cond.methodLink RL 96 yX8_stepsLeft, Cond.instanceMethod yX8_stepsLeft, Cond.selects RX8 yX8_stepsLeft yX8_stepsLeft, Cond.code yX8_stepsLeft cX8_stepsLeft 2 (some .int), Cond.methodLink RX8 204 yX8_stepsToEnd, Cond.instanceMethod yX8_stepsToEnd, Cond.selects RX8 yX8_stepsToEnd yX8_stepsToEnd, Cond.code yX8_stepsToEnd cX8_stepsToEnd 2 (some .int), Cond.methodLink RL 97 yX7_freeThen, Cond.instanceMethod yX7_freeThen, Cond.selects RX7 yX7_freeThen yX7_freeThen, Cond.code yX7_freeThen cX7_freeThen 1 (some .int), Cond.methodLink RX7 183 yX5_freeInHalf, Cond.methodLink RL 100 yX8_freeThen, Cond.instanceMethod yX8_freeThen, Cond.selects RX8 yX8_freeThen yX8_freeThen, Cond.code yX8_freeThen cX8_freeThen 3 (some .int)]
def wsL_law : List Cond := (wsL_law_r1 ++ (wsL_law_r2 ++ (wsL_law_r3 ++ (wsL_law_r4 ++ (wsL_law_r5 ++ (wsL_law_r6 ++ (wsL_law_r7 ++ (wsL_law_r8 ++ (wsL_law_r9 ++ (wsL_law_r10 ++ (wsL_law_r11 ++ (wsL_law_r12 ++ (wsL_law_r13 ++ (wsL_law_r14 ++ (wsL_law_r15 ++ (wsL_law_r16 ++ (wsL_law_r17 ++ (wsL_law_r18 ++ (wsL_law_r19 ++ (wsL_law_r20 ++ (wsL_law_r21 ++ (wsL_law_r22 ++ (wsL_law_r23 ++ (wsL_law_r24 ++ (wsL_law_r25 ++ (wsL_law_r26 ++ (wsL_law_r27 ++ (wsL_law_r28 ++ (wsL_law_r29 ++ (wsL_law_r30 ++ (wsL_law_r31 ++ (wsL_law_r32 ++ (wsL_law_r33 ++ wsL_law_r34))))))))))))))))))))))))))))))))) ++ wsX70 ++ wsX80 ++ wsX50 ++ wsX20 ++ wsX40 ++ wsX60 ++ wsX10 ++ wsX00 ++ wsX30 ++ ([] : List Cond)
end
section
set_option maxRecDepth 20000 in
theorem wsL_law_r1_in : ∀ w ∈ wsL_law_r1, w ∈ lw_tbl := fun w h => (goodIn_p wsL_law_r1 [71, 74] (by decide +kernel) (by decide +kernel) w h).1
set_option maxRecDepth 20000 in
theorem wsL_law_r2_in : ∀ w ∈ wsL_law_r2, w ∈ lw_tbl := fun w h => (goodIn_p wsL_law_r2 [79] (by decide +kernel) (by decide +kernel) w h).1
set_option maxRecDepth 20000 in
theorem wsL_law_r3_in : ∀ w ∈ wsL_law_r3, w ∈ lw_tbl := fun w h => (goodIn_p wsL_law_r3 [85, 89, 112, 162] (by decide +kernel) (by decide +kernel) w h).1
set_option maxRecDepth 20000 in
theorem wsL_law_r4_in : ∀ w ∈ wsL_law_r4, w ∈ lw_tbl := fun w h => (goodIn_p wsL_law_r4 [181, 201, 214, 690] (by decide +kernel) (by decide +kernel) w h).1
set_option maxRecDepth 20000 in
theorem wsL_law_r5_in : ∀ w ∈ wsL_law_r5, w ∈ lw_tbl := fun w h => (goodIn_p wsL_law_r5 [248, 252, 256, 259] (by decide +kernel) (by decide +kernel) w h).1
set_option maxRecDepth 20000 in
theorem wsL_law_r6_in : ∀ w ∈ wsL_law_r6, w ∈ lw_tbl := fun w h => (goodIn_p wsL_law_r6 [263, 270, 275] (by decide +kernel) (by decide +kernel) w h).1
set_option maxRecDepth 20000 in
theorem wsL_law_r7_in : ∀ w ∈ wsL_law_r7, w ∈ lw_tbl := fun w h => (goodIn_p wsL_law_r7 [280, 284, 288, 732, 735, 739] (by decide +kernel) (by decide +kernel) w h).1
set_option maxRecDepth 20000 in
theorem wsL_law_r8_in : ∀ w ∈ wsL_law_r8, w ∈ lw_tbl := fun w h => (goodIn_p wsL_law_r8 [292, 296, 299, 303, 307, 311] (by decide +kernel) (by decide +kernel) w h).1
set_option maxRecDepth 20000 in
theorem wsL_law_r9_in : ∀ w ∈ wsL_law_r9, w ∈ lw_tbl := fun w h => (goodIn_p wsL_law_r9 [315, 319, 323, 327, 331, 336] (by decide +kernel) (by decide +kernel) w h).1
set_option maxRecDepth 20000 in
theorem wsL_law_r10_in : ∀ w ∈ wsL_law_r10, w ∈ lw_tbl := fun w h => (goodIn_p wsL_law_r10 [340, 743, 746, 750, 754, 758] (by decide +kernel) (by decide +kernel) w h).1
set_option maxRecDepth 20000 in
theorem wsL_law_r11_in : ∀ w ∈ wsL_law_r11, w ∈ lw_tbl := fun w h => (goodIn_p wsL_law_r11 [762, 766, 770, 774, 778, 782] (by decide +kernel) (by decide +kernel) w h).1
set_option maxRecDepth 20000 in
theorem wsL_law_r12_in : ∀ w ∈ wsL_law_r12, w ∈ lw_tbl := fun w h => (goodIn_p wsL_law_r12 [786, 789, 344, 348, 351, 355, 359] (by decide +kernel) (by decide +kernel) w h).1
set_option maxRecDepth 20000 in
theorem wsL_law_r13_in : ∀ w ∈ wsL_law_r13, w ∈ lw_tbl := fun w h => (goodIn_p wsL_law_r13 [363, 367, 371, 375, 793, 797] (by decide +kernel) (by decide +kernel) w h).1
set_option maxRecDepth 20000 in
theorem wsL_law_r14_in : ∀ w ∈ wsL_law_r14, w ∈ lw_tbl := fun w h => (goodIn_p wsL_law_r14 [801, 804, 808, 812, 815, 380] (by decide +kernel) (by decide +kernel) w h).1
set_option maxRecDepth 20000 in
theorem wsL_law_r15_in : ∀ w ∈ wsL_law_r15, w ∈ lw_tbl := fun w h => (goodIn_p wsL_law_r15 [384, 819, 388, 392, 823, 396] (by decide +kernel) (by decide +kernel) w h).1
set_option maxRecDepth 20000 in
theorem wsL_law_r16_in : ∀ w ∈ wsL_law_r16, w ∈ lw_tbl := fun w h => (goodIn_p wsL_law_r16 [400, 404, 408, 412, 416, 420] (by decide +kernel) (by decide +kernel) w h).1
set_option maxRecDepth 20000 in
theorem wsL_law_r17_in : ∀ w ∈ wsL_law_r17, w ∈ lw_tbl := fun w h => (goodIn_p wsL_law_r17 [424, 827, 831, 835, 428, 432] (by decide +kernel) (by decide +kernel) w h).1
set_option maxRecDepth 20000 in
theorem wsL_law_r18_in : ∀ w ∈ wsL_law_r18, w ∈ lw_tbl := fun w h => (goodIn_p wsL_law_r18 [436, 440, 839, 843, 444, 448] (by decide +kernel) (by decide +kernel) w h).1
set_option maxRecDepth 20000 in
theorem wsL_law_r19_in : ∀ w ∈ wsL_law_r19, w ∈ lw_tbl := fun w h => (goodIn_p wsL_law_r19 [452, 456, 460, 464, 847, 851] (by decide +kernel) (by decide +kernel) w h).1
set_option maxRecDepth 20000 in
theorem wsL_law_r20_in : ∀ w ∈ wsL_law_r20, w ∈ lw_tbl := fun w h => (goodIn_p wsL_law_r20 [855, 468, 472, 476, 480, 486] (by decide +kernel) (by decide +kernel) w h).1
set_option maxRecDepth 20000 in
theorem wsL_law_r21_in : ∀ w ∈ wsL_law_r21, w ∈ lw_tbl := fun w h => (goodIn_p wsL_law_r21 [490, 859, 863, 867, 871, 494] (by decide +kernel) (by decide +kernel) w h).1
set_option maxRecDepth 20000 in
theorem wsL_law_r22_in : ∀ w ∈ wsL_law_r22, w ∈ lw_tbl := fun w h => (goodIn_p wsL_law_r22 [498, 502, 506, 875, 510, 514] (by decide +kernel) (by decide +kernel) w h).1
set_option maxRecDepth 20000 in
theorem wsL_law_r23_in : ∀ w ∈ wsL_law_r23, w ∈ lw_tbl := fun w h => (goodIn_p wsL_law_r23 [879, 518, 522, 526, 883] (by decide +kernel) (by decide +kernel) w h).1
set_option maxRecDepth 20000 in
theorem wsL_law_r24_in : ∀ w ∈ wsL_law_r24, w ∈ lw_tbl := fun w h => (goodIn_p wsL_law_r24 [530, 534, 538, 542, 546, 550] (by decide +kernel) (by decide +kernel) w h).1
set_option maxRecDepth 20000 in
theorem wsL_law_r25_in : ∀ w ∈ wsL_law_r25, w ∈ lw_tbl := fun w h => (goodIn_p wsL_law_r25 [555, 559, 563, 568] (by decide +kernel) (by decide +kernel) w h).1
set_option maxRecDepth 20000 in
theorem wsL_law_r26_in : ∀ w ∈ wsL_law_r26, w ∈ lw_tbl := fun w h => (goodIn_p wsL_law_r26 [887, 891, 895, 898, 902, 906] (by decide +kernel) (by decide +kernel) w h).1
set_option maxRecDepth 20000 in
theorem wsL_law_r27_in : ∀ w ∈ wsL_law_r27, w ∈ lw_tbl := fun w h => (goodIn_p wsL_law_r27 [910, 920, 578, 582] (by decide +kernel) (by decide +kernel) w h).1
set_option maxRecDepth 20000 in
theorem wsL_law_r28_in : ∀ w ∈ wsL_law_r28, w ∈ lw_tbl := fun w h => (goodIn_p wsL_law_r28 [586, 590, 594, 924, 928, 932] (by decide +kernel) (by decide +kernel) w h).1
set_option maxRecDepth 20000 in
theorem wsL_law_r29_in : ∀ w ∈ wsL_law_r29, w ∈ lw_tbl := fun w h => (goodIn_p wsL_law_r29 [936, 598, 603, 606, 940, 610] (by decide +kernel) (by decide +kernel) w h).1
set_option maxRecDepth 20000 in
theorem wsL_law_r30_in : ∀ w ∈ wsL_law_r30, w ∈ lw_tbl := fun w h => (goodIn_p wsL_law_r30 [615, 621, 625, 944, 947, 629] (by decide +kernel) (by decide +kernel) w h).1
set_option maxRecDepth 20000 in
theorem wsL_law_r31_in : ∀ w ∈ wsL_law_r31, w ∈ lw_tbl := fun w h => (goodIn_p wsL_law_r31 [951, 635, 639, 643, 647] (by decide +kernel) (by decide +kernel) w h).1
set_option maxRecDepth 20000 in
theorem wsL_law_r32_in : ∀ w ∈ wsL_law_r32, w ∈ lw_tbl := fun w h => (goodIn_p wsL_law_r32 [653, 657, 663, 955, 959] (by decide +kernel) (by decide +kernel) w h).1
set_option maxRecDepth 20000 in
theorem wsL_law_r33_in : ∀ w ∈ wsL_law_r33, w ∈ lw_tbl := fun w h => (goodIn_p wsL_law_r33 [963, 967, 668, 672, 971] (by decide +kernel) (by decide +kernel) w h).1
set_option maxRecDepth 20000 in
theorem wsL_law_r34_in : ∀ w ∈ wsL_law_r34, w ∈ lw_tbl := fun w h => (goodIn_p wsL_law_r34 [678, 975, 979, 684, 983] (by decide +kernel) (by decide +kernel) w h).1
set_option maxRecDepth 20000 in
theorem wsX70_tb : ∀ w ∈ wsX70, w ∈ lw_tbl := by decide +kernel
set_option maxRecDepth 20000 in
theorem wsX80_tb : ∀ w ∈ wsX80, w ∈ lw_tbl := by decide +kernel
set_option maxRecDepth 20000 in
theorem wsX50_tb : ∀ w ∈ wsX50, w ∈ lw_tbl := by decide +kernel
set_option maxRecDepth 20000 in
theorem wsX20_tb : ∀ w ∈ wsX20, w ∈ lw_tbl := by decide +kernel
set_option maxRecDepth 20000 in
theorem wsX40_tb : ∀ w ∈ wsX40, w ∈ lw_tbl := by decide +kernel
set_option maxRecDepth 20000 in
theorem wsX60_tb : ∀ w ∈ wsX60, w ∈ lw_tbl := by decide +kernel
set_option maxRecDepth 20000 in
theorem wsX10_tb : ∀ w ∈ wsX10, w ∈ lw_tbl := by decide +kernel
set_option maxRecDepth 20000 in
theorem wsX00_tb : ∀ w ∈ wsX00, w ∈ lw_tbl := by decide +kernel
set_option maxRecDepth 20000 in
theorem wsX30_tb : ∀ w ∈ wsX30, w ∈ lw_tbl := by decide +kernel
theorem wsL_law_rr : ∀ w ∈ (wsL_law_r1 ++ (wsL_law_r2 ++ (wsL_law_r3 ++ (wsL_law_r4 ++ (wsL_law_r5 ++ (wsL_law_r6 ++ (wsL_law_r7 ++ (wsL_law_r8 ++ (wsL_law_r9 ++ (wsL_law_r10 ++ (wsL_law_r11 ++ (wsL_law_r12 ++ (wsL_law_r13 ++ (wsL_law_r14 ++ (wsL_law_r15 ++ (wsL_law_r16 ++ (wsL_law_r17 ++ (wsL_law_r18 ++ (wsL_law_r19 ++ (wsL_law_r20 ++ (wsL_law_r21 ++ (wsL_law_r22 ++ (wsL_law_r23 ++ (wsL_law_r24 ++ (wsL_law_r25 ++ (wsL_law_r26 ++ (wsL_law_r27 ++ (wsL_law_r28 ++ (wsL_law_r29 ++ (wsL_law_r30 ++ (wsL_law_r31 ++ (wsL_law_r32 ++ (wsL_law_r33 ++ wsL_law_r34))))))))))))))))))))))))))))))))), w ∈ lw_tbl :=
  List.forall_mem_append.mpr ⟨wsL_law_r1_in, List.forall_mem_append.mpr ⟨wsL_law_r2_in, List.forall_mem_append.mpr ⟨wsL_law_r3_in, List.forall_mem_append.mpr ⟨wsL_law_r4_in, List.forall_mem_append.mpr ⟨wsL_law_r5_in, List.forall_mem_append.mpr ⟨wsL_law_r6_in, List.forall_mem_append.mpr ⟨wsL_law_r7_in, List.forall_mem_append.mpr ⟨wsL_law_r8_in, List.forall_mem_append.mpr ⟨wsL_law_r9_in, List.forall_mem_append.mpr ⟨wsL_law_r10_in, List.forall_mem_append.mpr ⟨wsL_law_r11_in, List.forall_mem_append.mpr ⟨wsL_law_r12_in, List.forall_mem_append.mpr ⟨wsL_law_r13_in, List.forall_mem_append.mpr ⟨wsL_law_r14_in, List.forall_mem_append.mpr ⟨wsL_law_r15_in, List.forall_mem_append.mpr ⟨wsL_law_r16_in, List.forall_mem_append.mpr ⟨wsL_law_r17_in, List.forall_mem_append.mpr ⟨wsL_law_r18_in, List.forall_mem_append.mpr ⟨wsL_law_r19_in, List.forall_mem_append.mpr ⟨wsL_law_r20_in, List.forall_mem_append.mpr ⟨wsL_law_r21_in, List.forall_mem_append.mpr ⟨wsL_law_r22_in, List.forall_mem_append.mpr ⟨wsL_law_r23_in, List.forall_mem_append.mpr ⟨wsL_law_r24_in, List.forall_mem_append.mpr ⟨wsL_law_r25_in, List.forall_mem_append.mpr ⟨wsL_law_r26_in, List.forall_mem_append.mpr ⟨wsL_law_r27_in, List.forall_mem_append.mpr ⟨wsL_law_r28_in, List.forall_mem_append.mpr ⟨wsL_law_r29_in, List.forall_mem_append.mpr ⟨wsL_law_r30_in, List.forall_mem_append.mpr ⟨wsL_law_r31_in, List.forall_mem_append.mpr ⟨wsL_law_r32_in, List.forall_mem_append.mpr ⟨wsL_law_r33_in, wsL_law_r34_in⟩⟩⟩⟩⟩⟩⟩⟩⟩⟩⟩⟩⟩⟩⟩⟩⟩⟩⟩⟩⟩⟩⟩⟩⟩⟩⟩⟩⟩⟩⟩⟩⟩
theorem wsL_law_in : ∀ w ∈ wsL_law, w ∈ lw_tbl :=
  List.forall_mem_append.mpr ⟨List.forall_mem_append.mpr ⟨List.forall_mem_append.mpr ⟨List.forall_mem_append.mpr ⟨List.forall_mem_append.mpr ⟨List.forall_mem_append.mpr ⟨List.forall_mem_append.mpr ⟨List.forall_mem_append.mpr ⟨List.forall_mem_append.mpr ⟨List.forall_mem_append.mpr ⟨wsL_law_rr, wsX70_tb⟩, wsX80_tb⟩, wsX50_tb⟩, wsX20_tb⟩, wsX40_tb⟩, wsX60_tb⟩, wsX10_tb⟩, wsX00_tb⟩, wsX30_tb⟩, fun _ h => absurd h List.not_mem_nil⟩
theorem inlX0 : ∀ w ∈ wsX00, w ∈ wsL_law := fun _ h => List.mem_append_left _ (List.mem_append_left _ (List.mem_append_right _ h))
theorem inX0 : ∀ w ∈ wsX00, w ∈ lw_tbl := fun w h => wsL_law_in w (inlX0 w h)
theorem inlX1 : ∀ w ∈ wsX10, w ∈ wsL_law := fun _ h => List.mem_append_left _ (List.mem_append_left _ (List.mem_append_left _ (List.mem_append_right _ h)))
theorem inX1 : ∀ w ∈ wsX10, w ∈ lw_tbl := fun w h => wsL_law_in w (inlX1 w h)
theorem inlX2 : ∀ w ∈ wsX20, w ∈ wsL_law := fun _ h => List.mem_append_left _ (List.mem_append_left _ (List.mem_append_left _ (List.mem_append_left _ (List.mem_append_left _ (List.mem_append_left _ (List.mem_append_right _ h))))))
theorem inX2 : ∀ w ∈ wsX20, w ∈ lw_tbl := fun w h => wsL_law_in w (inlX2 w h)
theorem inlX3 : ∀ w ∈ wsX30, w ∈ wsL_law := fun _ h => List.mem_append_left _ (List.mem_append_right _ h)
theorem inX3 : ∀ w ∈ wsX30, w ∈ lw_tbl := fun w h => wsL_law_in w (inlX3 w h)
theorem inlX4 : ∀ w ∈ wsX40, w ∈ wsL_law := fun _ h => List.mem_append_left _ (List.mem_append_left _ (List.mem_append_left _ (List.mem_append_left _ (List.mem_append_left _ (List.mem_append_right _ h)))))
theorem inX4 : ∀ w ∈ wsX40, w ∈ lw_tbl := fun w h => wsL_law_in w (inlX4 w h)
theorem inlX5 : ∀ w ∈ wsX50, w ∈ wsL_law := fun _ h => List.mem_append_left _ (List.mem_append_left _ (List.mem_append_left _ (List.mem_append_left _ (List.mem_append_left _ (List.mem_append_left _ (List.mem_append_left _ (List.mem_append_right _ h)))))))
theorem inX5 : ∀ w ∈ wsX50, w ∈ lw_tbl := fun w h => wsL_law_in w (inlX5 w h)
theorem inlX6 : ∀ w ∈ wsX60, w ∈ wsL_law := fun _ h => List.mem_append_left _ (List.mem_append_left _ (List.mem_append_left _ (List.mem_append_left _ (List.mem_append_right _ h))))
theorem inX6 : ∀ w ∈ wsX60, w ∈ lw_tbl := fun w h => wsL_law_in w (inlX6 w h)
theorem inlX7 : ∀ w ∈ wsX70, w ∈ wsL_law := fun _ h => List.mem_append_left _ (List.mem_append_left _ (List.mem_append_left _ (List.mem_append_left _ (List.mem_append_left _ (List.mem_append_left _ (List.mem_append_left _ (List.mem_append_left _ (List.mem_append_left _ (List.mem_append_right _ h)))))))))
theorem inX7 : ∀ w ∈ wsX70, w ∈ lw_tbl := fun w h => wsL_law_in w (inlX7 w h)
theorem inlX8 : ∀ w ∈ wsX80, w ∈ wsL_law := fun _ h => List.mem_append_left _ (List.mem_append_left _ (List.mem_append_left _ (List.mem_append_left _ (List.mem_append_left _ (List.mem_append_left _ (List.mem_append_left _ (List.mem_append_left _ (List.mem_append_right _ h))))))))
theorem inX8 : ∀ w ∈ wsX80, w ∈ lw_tbl := fun w h => wsL_law_in w (inlX8 w h)
theorem inJ9 : ∀ w ∈ wsJ90, w ∈ lw_tbl := by decide +kernel
theorem inJ10 : ∀ w ∈ wsJ100, w ∈ lw_tbl := by decide +kernel
theorem inJ7 : ∀ w ∈ wsJ70, w ∈ lw_tbl := by decide +kernel
end
section
set_option maxRecDepth 20000 in
theorem ggX0_init_J7_fill_53178 : GoodIn wsX0_init wsJ7_fill_53178 := goodIn_r _ [13] (by decide +kernel) (by decide +kernel)
set_option maxRecDepth 20000 in
theorem gX0_init_J7_fill_53178 : GoodIn wsX0_init (va_wsS RX0 27 yJ7_fill_53178 wsJ7_fill_53178) := goodIn_app (goodIn_of _ (by decide +kernel)) ggX0_init_J7_fill_53178
theorem dX0_init_0 : decode cX0_init 0 = .ok (.aload_n 0, 1) := by decide +kernel
theorem dX0_init_1 : decode cX0_init 1 = .ok (.invokespecial 3, 3) := by decide +kernel
theorem dX0_init_4 : decode cX0_init 4 = .ok (.aload_n 0, 1) := by decide +kernel
theorem dX0_init_5 : decode cX0_init 5 = .ok (.sipush 260, 3) := by decide +kernel
theorem dX0_init_8 : decode cX0_init 8 = .ok (.newarray .int, 2) := by decide +kernel
theorem dX0_init_10 : decode cX0_init 10 = .ok (.putfield 9, 3) := by decide +kernel
theorem dX0_init_13 : decode cX0_init 13 = .ok (.aload_n 0, 1) := by decide +kernel
theorem dX0_init_14 : decode cX0_init 14 = .ok (.sipush 260, 3) := by decide +kernel
theorem dX0_init_17 : decode cX0_init 17 = .ok (.newarray .int, 2) := by decide +kernel
theorem dX0_init_19 : decode cX0_init 19 = .ok (.putfield 15, 3) := by decide +kernel
theorem dX0_init_22 : decode cX0_init 22 = .ok (.aload_n 0, 1) := by decide +kernel
theorem dX0_init_23 : decode cX0_init 23 = .ok (.sipush 260, 3) := by decide +kernel
theorem dX0_init_26 : decode cX0_init 26 = .ok (.newarray .int, 2) := by decide +kernel
theorem dX0_init_28 : decode cX0_init 28 = .ok (.putfield 18, 3) := by decide +kernel
theorem dX0_init_31 : decode cX0_init 31 = .ok (.aload_n 0, 1) := by decide +kernel
theorem dX0_init_32 : decode cX0_init 32 = .ok (.sipush 260, 3) := by decide +kernel
theorem dX0_init_35 : decode cX0_init 35 = .ok (.newarray .int, 2) := by decide +kernel
theorem dX0_init_37 : decode cX0_init 37 = .ok (.putfield 21, 3) := by decide +kernel
theorem dX0_init_40 : decode cX0_init 40 = .ok (.aload_n 0, 1) := by decide +kernel
theorem dX0_init_41 : decode cX0_init 41 = .ok (.sipush 520, 3) := by decide +kernel
theorem dX0_init_44 : decode cX0_init 44 = .ok (.newarray .int, 2) := by decide +kernel
theorem dX0_init_46 : decode cX0_init 46 = .ok (.putfield 24, 3) := by decide +kernel
theorem dX0_init_49 : decode cX0_init 49 = .ok (.aload_n 0, 1) := by decide +kernel
theorem dX0_init_50 : decode cX0_init 50 = .ok (.getfield 18, 3) := by decide +kernel
theorem dX0_init_53 : decode cX0_init 53 = .ok (.sipush 300, 3) := by decide +kernel
theorem dX0_init_56 : decode cX0_init 56 = .ok (.invokestatic 27, 3) := by decide +kernel
theorem dX0_init_59 : decode cX0_init 59 = .ok (.aload_n 0, 1) := by decide +kernel
theorem dX0_init_60 : decode cX0_init 60 = .ok (.getfield 24, 3) := by decide +kernel
theorem dX0_init_63 : decode cX0_init 63 = .ok (.sipush 300, 3) := by decide +kernel
theorem dX0_init_66 : decode cX0_init 66 = .ok (.invokestatic 27, 3) := by decide +kernel
theorem dX0_init_69 : decode cX0_init 69 = .ok (.return_, 1) := by decide +kernel
theorem dX0_become_0 : decode cX0_become 0 = .ok (.aload_n 1, 1) := by decide +kernel
theorem dX0_become_1 : decode cX0_become 1 = .ok (.getfield 9, 3) := by decide +kernel
theorem dX0_become_4 : decode cX0_become 4 = .ok (.iconst 0, 1) := by decide +kernel
theorem dX0_become_5 : decode cX0_become 5 = .ok (.aload_n 0, 1) := by decide +kernel
theorem dX0_become_6 : decode cX0_become 6 = .ok (.getfield 9, 3) := by decide +kernel
theorem dX0_become_9 : decode cX0_become 9 = .ok (.iconst 0, 1) := by decide +kernel
theorem dX0_become_10 : decode cX0_become 10 = .ok (.sipush 260, 3) := by decide +kernel
theorem dX0_become_13 : decode cX0_become 13 = .ok (.invokestatic 33, 3) := by decide +kernel
theorem dX0_become_16 : decode cX0_become 16 = .ok (.aload_n 1, 1) := by decide +kernel
theorem dX0_become_17 : decode cX0_become 17 = .ok (.getfield 15, 3) := by decide +kernel
theorem dX0_become_20 : decode cX0_become 20 = .ok (.iconst 0, 1) := by decide +kernel
theorem dX0_become_21 : decode cX0_become 21 = .ok (.aload_n 0, 1) := by decide +kernel
theorem dX0_become_22 : decode cX0_become 22 = .ok (.getfield 15, 3) := by decide +kernel
theorem dX0_become_25 : decode cX0_become 25 = .ok (.iconst 0, 1) := by decide +kernel
theorem dX0_become_26 : decode cX0_become 26 = .ok (.sipush 260, 3) := by decide +kernel
theorem dX0_become_29 : decode cX0_become 29 = .ok (.invokestatic 33, 3) := by decide +kernel
theorem dX0_become_32 : decode cX0_become 32 = .ok (.aload_n 1, 1) := by decide +kernel
theorem dX0_become_33 : decode cX0_become 33 = .ok (.getfield 18, 3) := by decide +kernel
theorem dX0_become_36 : decode cX0_become 36 = .ok (.iconst 0, 1) := by decide +kernel
theorem dX0_become_37 : decode cX0_become 37 = .ok (.aload_n 0, 1) := by decide +kernel
theorem dX0_become_38 : decode cX0_become 38 = .ok (.getfield 18, 3) := by decide +kernel
theorem dX0_become_41 : decode cX0_become 41 = .ok (.iconst 0, 1) := by decide +kernel
theorem dX0_become_42 : decode cX0_become 42 = .ok (.sipush 260, 3) := by decide +kernel
theorem dX0_become_45 : decode cX0_become 45 = .ok (.invokestatic 33, 3) := by decide +kernel
theorem dX0_become_48 : decode cX0_become 48 = .ok (.aload_n 1, 1) := by decide +kernel
theorem dX0_become_49 : decode cX0_become 49 = .ok (.getfield 21, 3) := by decide +kernel
theorem dX0_become_52 : decode cX0_become 52 = .ok (.iconst 0, 1) := by decide +kernel
theorem dX0_become_53 : decode cX0_become 53 = .ok (.aload_n 0, 1) := by decide +kernel
theorem dX0_become_54 : decode cX0_become 54 = .ok (.getfield 21, 3) := by decide +kernel
theorem dX0_become_57 : decode cX0_become 57 = .ok (.iconst 0, 1) := by decide +kernel
theorem dX0_become_58 : decode cX0_become 58 = .ok (.sipush 260, 3) := by decide +kernel
theorem dX0_become_61 : decode cX0_become 61 = .ok (.invokestatic 33, 3) := by decide +kernel
theorem dX0_become_64 : decode cX0_become 64 = .ok (.aload_n 1, 1) := by decide +kernel
theorem dX0_become_65 : decode cX0_become 65 = .ok (.getfield 24, 3) := by decide +kernel
theorem dX0_become_68 : decode cX0_become 68 = .ok (.iconst 0, 1) := by decide +kernel
theorem dX0_become_69 : decode cX0_become 69 = .ok (.aload_n 0, 1) := by decide +kernel
theorem dX0_become_70 : decode cX0_become 70 = .ok (.getfield 24, 3) := by decide +kernel
theorem dX0_become_73 : decode cX0_become 73 = .ok (.iconst 0, 1) := by decide +kernel
theorem dX0_become_74 : decode cX0_become 74 = .ok (.sipush 520, 3) := by decide +kernel
theorem dX0_become_77 : decode cX0_become 77 = .ok (.invokestatic 33, 3) := by decide +kernel
theorem dX0_become_80 : decode cX0_become 80 = .ok (.return_, 1) := by decide +kernel
theorem dX0_isAt_0 : decode cX0_isAt 0 = .ok (.iload_n 1, 1) := by decide +kernel
theorem dX0_isAt_1 : decode cX0_isAt 1 = .ok (.ifCond .lt 23, 3) := by decide +kernel
theorem dX0_isAt_4 : decode cX0_isAt 4 = .ok (.iload_n 1, 1) := by decide +kernel
theorem dX0_isAt_5 : decode cX0_isAt 5 = .ok (.sipush 260, 3) := by decide +kernel
theorem dX0_isAt_8 : decode cX0_isAt 8 = .ok (.if_icmp .ge 16, 3) := by decide +kernel
theorem dX0_isAt_11 : decode cX0_isAt 11 = .ok (.aload_n 0, 1) := by decide +kernel
theorem dX0_isAt_12 : decode cX0_isAt 12 = .ok (.getfield 15, 3) := by decide +kernel
theorem dX0_isAt_15 : decode cX0_isAt 15 = .ok (.iload_n 1, 1) := by decide +kernel
theorem dX0_isAt_16 : decode cX0_isAt 16 = .ok (.iaload, 1) := by decide +kernel
theorem dX0_isAt_17 : decode cX0_isAt 17 = .ok (.ifCond .le 7, 3) := by decide +kernel
theorem dX0_isAt_20 : decode cX0_isAt 20 = .ok (.iconst 1, 1) := by decide +kernel
theorem dX0_isAt_21 : decode cX0_isAt 21 = .ok (.goto 4, 3) := by decide +kernel
theorem dX0_isAt_24 : decode cX0_isAt 24 = .ok (.iconst 0, 1) := by decide +kernel
theorem dX0_isAt_25 : decode cX0_isAt 25 = .ok (.ireturn, 1) := by decide +kernel
set_option maxRecDepth 20000 in
theorem ggX0_isOf_X0_isAt : GoodIn wsX0_isOf wsX0_isAt := goodIn_r _ [6, 7, 8, 9, 10, 11, 12] (by decide +kernel) (by decide +kernel)
set_option maxRecDepth 20000 in
theorem gX0_isOf_X0_isAt : GoodIn wsX0_isOf (wsV RX0 39 RX0 yX0_isAt wsX0_isAt) := goodIn_app (goodIn_of _ (by decide +kernel)) ggX0_isOf_X0_isAt
theorem dX0_isOf_0 : decode cX0_isOf 0 = .ok (.aload_n 0, 1) := by decide +kernel
theorem dX0_isOf_1 : decode cX0_isOf 1 = .ok (.iload_n 2, 1) := by decide +kernel
theorem dX0_isOf_2 : decode cX0_isOf 2 = .ok (.invokevirtual 39, 3) := by decide +kernel
theorem dX0_isOf_5 : decode cX0_isOf 5 = .ok (.ifCond .eq 17, 3) := by decide +kernel
theorem dX0_isOf_8 : decode cX0_isOf 8 = .ok (.aload_n 0, 1) := by decide +kernel
theorem dX0_isOf_9 : decode cX0_isOf 9 = .ok (.getfield 9, 3) := by decide +kernel
theorem dX0_isOf_12 : decode cX0_isOf 12 = .ok (.iload_n 2, 1) := by decide +kernel
theorem dX0_isOf_13 : decode cX0_isOf 13 = .ok (.iaload, 1) := by decide +kernel
theorem dX0_isOf_14 : decode cX0_isOf 14 = .ok (.iload_n 1, 1) := by decide +kernel
theorem dX0_isOf_15 : decode cX0_isOf 15 = .ok (.if_icmp .ne 7, 3) := by decide +kernel
theorem dX0_isOf_18 : decode cX0_isOf 18 = .ok (.iconst 1, 1) := by decide +kernel
theorem dX0_isOf_19 : decode cX0_isOf 19 = .ok (.goto 4, 3) := by decide +kernel
theorem dX0_isOf_22 : decode cX0_isOf 22 = .ok (.iconst 0, 1) := by decide +kernel
theorem dX0_isOf_23 : decode cX0_isOf 23 = .ok (.ireturn, 1) := by decide +kernel
set_option maxRecDepth 20000 in
theorem ggX0_thingAt_X0_isAt : GoodIn wsX0_thingAt wsX0_isAt := goodIn_r _ [6, 7, 8, 9, 10, 11, 12] (by decide +kernel) (by decide +kernel)
set_option maxRecDepth 20000 in
theorem gX0_thingAt_X0_isAt : GoodIn wsX0_thingAt (wsV RX0 39 RX0 yX0_isAt wsX0_isAt) := goodIn_app (goodIn_of _ (by decide +kernel)) ggX0_thingAt_X0_isAt
theorem dX0_thingAt_0 : decode cX0_thingAt 0 = .ok (.aload_n 0, 1) := by decide +kernel
theorem dX0_thingAt_1 : decode cX0_thingAt 1 = .ok (.iload_n 1, 1) := by decide +kernel
theorem dX0_thingAt_2 : decode cX0_thingAt 2 = .ok (.invokevirtual 39, 3) := by decide +kernel
theorem dX0_thingAt_5 : decode cX0_thingAt 5 = .ok (.ifCond .eq 12, 3) := by decide +kernel
theorem dX0_thingAt_8 : decode cX0_thingAt 8 = .ok (.aload_n 0, 1) := by decide +kernel
theorem dX0_thingAt_9 : decode cX0_thingAt 9 = .ok (.getfield 9, 3) := by decide +kernel
theorem dX0_thingAt_12 : decode cX0_thingAt 12 = .ok (.iload_n 1, 1) := by decide +kernel
theorem dX0_thingAt_13 : decode cX0_thingAt 13 = .ok (.iaload, 1) := by decide +kernel
theorem dX0_thingAt_14 : decode cX0_thingAt 14 = .ok (.goto 5, 3) := by decide +kernel
theorem dX0_thingAt_17 : decode cX0_thingAt 17 = .ok (.bipush (-9), 2) := by decide +kernel
theorem dX0_thingAt_19 : decode cX0_thingAt 19 = .ok (.ireturn, 1) := by decide +kernel
set_option maxRecDepth 20000 in
theorem ggX0_sizeAt_X0_isAt : GoodIn wsX0_sizeAt wsX0_isAt := goodIn_r _ [6, 1, 7, 8, 9, 10, 11] (by decide +kernel) (by decide +kernel)
set_option maxRecDepth 20000 in
theorem gX0_sizeAt_X0_isAt : GoodIn wsX0_sizeAt (wsV RX0 39 RX0 yX0_isAt wsX0_isAt) := goodIn_app (goodIn_of _ (by decide +kernel)) ggX0_sizeAt_X0_isAt
theorem dX0_sizeAt_0 : decode cX0_sizeAt 0 = .ok (.aload_n 0, 1) := by decide +kernel
theorem dX0_sizeAt_1 : decode cX0_sizeAt 1 = .ok (.iload_n 1, 1) := by decide +kernel
theorem dX0_sizeAt_2 : decode cX0_sizeAt 2 = .ok (.invokevirtual 39, 3) := by decide +kernel
theorem dX0_sizeAt_5 : decode cX0_sizeAt 5 = .ok (.ifCond .eq 12, 3) := by decide +kernel
theorem dX0_sizeAt_8 : decode cX0_sizeAt 8 = .ok (.aload_n 0, 1) := by decide +kernel
theorem dX0_sizeAt_9 : decode cX0_sizeAt 9 = .ok (.getfield 15, 3) := by decide +kernel
theorem dX0_sizeAt_12 : decode cX0_sizeAt 12 = .ok (.iload_n 1, 1) := by decide +kernel
theorem dX0_sizeAt_13 : decode cX0_sizeAt 13 = .ok (.iaload, 1) := by decide +kernel
theorem dX0_sizeAt_14 : decode cX0_sizeAt 14 = .ok (.goto 4, 3) := by decide +kernel
theorem dX0_sizeAt_17 : decode cX0_sizeAt 17 = .ok (.iconst 0, 1) := by decide +kernel
theorem dX0_sizeAt_18 : decode cX0_sizeAt 18 = .ok (.ireturn, 1) := by decide +kernel
set_option maxRecDepth 20000 in
theorem ggX0_noteAt_X0_isAt : GoodIn wsX0_noteAt wsX0_isAt := goodIn_r _ [6, 7, 8, 9, 10, 11, 12] (by decide +kernel) (by decide +kernel)
set_option maxRecDepth 20000 in
theorem gX0_noteAt_X0_isAt : GoodIn wsX0_noteAt (wsV RX0 39 RX0 yX0_isAt wsX0_isAt) := goodIn_app (goodIn_of _ (by decide +kernel)) ggX0_noteAt_X0_isAt
theorem dX0_noteAt_0 : decode cX0_noteAt 0 = .ok (.aload_n 0, 1) := by decide +kernel
theorem dX0_noteAt_1 : decode cX0_noteAt 1 = .ok (.iload_n 1, 1) := by decide +kernel
theorem dX0_noteAt_2 : decode cX0_noteAt 2 = .ok (.invokevirtual 39, 3) := by decide +kernel
theorem dX0_noteAt_5 : decode cX0_noteAt 5 = .ok (.ifCond .eq 12, 3) := by decide +kernel
theorem dX0_noteAt_8 : decode cX0_noteAt 8 = .ok (.aload_n 0, 1) := by decide +kernel
theorem dX0_noteAt_9 : decode cX0_noteAt 9 = .ok (.getfield 18, 3) := by decide +kernel
theorem dX0_noteAt_12 : decode cX0_noteAt 12 = .ok (.iload_n 1, 1) := by decide +kernel
theorem dX0_noteAt_13 : decode cX0_noteAt 13 = .ok (.iaload, 1) := by decide +kernel
theorem dX0_noteAt_14 : decode cX0_noteAt 14 = .ok (.goto 6, 3) := by decide +kernel
theorem dX0_noteAt_17 : decode cX0_noteAt 17 = .ok (.sipush 300, 3) := by decide +kernel
theorem dX0_noteAt_20 : decode cX0_noteAt 20 = .ok (.ireturn, 1) := by decide +kernel
set_option maxRecDepth 20000 in
theorem ggX0_isMarked_X0_isAt : GoodIn wsX0_isMarked wsX0_isAt := goodIn_r _ [6, 7, 8, 9, 10, 11, 12] (by decide +kernel) (by decide +kernel)
set_option maxRecDepth 20000 in
theorem gX0_isMarked_X0_isAt : GoodIn wsX0_isMarked (wsV RX0 39 RX0 yX0_isAt wsX0_isAt) := goodIn_app (goodIn_of _ (by decide +kernel)) ggX0_isMarked_X0_isAt
theorem dX0_isMarked_0 : decode cX0_isMarked 0 = .ok (.aload_n 0, 1) := by decide +kernel
theorem dX0_isMarked_1 : decode cX0_isMarked 1 = .ok (.iload_n 1, 1) := by decide +kernel
theorem dX0_isMarked_2 : decode cX0_isMarked 2 = .ok (.invokevirtual 39, 3) := by decide +kernel
theorem dX0_isMarked_5 : decode cX0_isMarked 5 = .ok (.ifCond .eq 17, 3) := by decide +kernel
theorem dX0_isMarked_8 : decode cX0_isMarked 8 = .ok (.aload_n 0, 1) := by decide +kernel
theorem dX0_isMarked_9 : decode cX0_isMarked 9 = .ok (.getfield 21, 3) := by decide +kernel
theorem dX0_isMarked_12 : decode cX0_isMarked 12 = .ok (.iload_n 1, 1) := by decide +kernel
theorem dX0_isMarked_13 : decode cX0_isMarked 13 = .ok (.iaload, 1) := by decide +kernel
theorem dX0_isMarked_14 : decode cX0_isMarked 14 = .ok (.iconst 1, 1) := by decide +kernel
theorem dX0_isMarked_15 : decode cX0_isMarked 15 = .ok (.if_icmp .ne 7, 3) := by decide +kernel
theorem dX0_isMarked_18 : decode cX0_isMarked 18 = .ok (.iconst 1, 1) := by decide +kernel
theorem dX0_isMarked_19 : decode cX0_isMarked 19 = .ok (.goto 4, 3) := by decide +kernel
theorem dX0_isMarked_22 : decode cX0_isMarked 22 = .ok (.iconst 0, 1) := by decide +kernel
theorem dX0_isMarked_23 : decode cX0_isMarked 23 = .ok (.ireturn, 1) := by decide +kernel
set_option maxRecDepth 20000 in
theorem ggX0_nameAt_X0_isAt : GoodIn wsX0_nameAt wsX0_isAt := goodIn_r _ [6, 7, 11, 12, 13, 14, 15] (by decide +kernel) (by decide +kernel)
set_option maxRecDepth 20000 in
theorem gX0_nameAt_X0_isAt : GoodIn wsX0_nameAt (wsV RX0 39 RX0 yX0_isAt wsX0_isAt) := goodIn_app (goodIn_of _ (by decide +kernel)) ggX0_nameAt_X0_isAt
set_option maxRecDepth 20000 in
theorem ggX0_nameAt_X7_isName : GoodIn wsX0_nameAt wsX7_isName := goodIn_r _ [10] (by decide +kernel) (by decide +kernel)
set_option maxRecDepth 20000 in
theorem gX0_nameAt_X7_isName_n43 : GoodIn wsX0_nameAt (wsX7_isName) := ggX0_nameAt_X7_isName
theorem dX0_nameAt_0 : decode cX0_nameAt 0 = .ok (.aload_n 0, 1) := by decide +kernel
theorem dX0_nameAt_1 : decode cX0_nameAt 1 = .ok (.iload_n 1, 1) := by decide +kernel
theorem dX0_nameAt_2 : decode cX0_nameAt 2 = .ok (.invokevirtual 39, 3) := by decide +kernel
theorem dX0_nameAt_5 : decode cX0_nameAt 5 = .ok (.ifCond .eq 23, 3) := by decide +kernel
theorem dX0_nameAt_8 : decode cX0_nameAt 8 = .ok (.iload_n 2, 1) := by decide +kernel
theorem dX0_nameAt_9 : decode cX0_nameAt 9 = .ok (.invokestatic 43, 3) := by decide +kernel
theorem dX0_nameAt_12 : decode cX0_nameAt 12 = .ok (.ifCond .eq 16, 3) := by decide +kernel
theorem dX0_nameAt_15 : decode cX0_nameAt 15 = .ok (.aload_n 0, 1) := by decide +kernel
theorem dX0_nameAt_16 : decode cX0_nameAt 16 = .ok (.getfield 24, 3) := by decide +kernel
theorem dX0_nameAt_19 : decode cX0_nameAt 19 = .ok (.iload_n 1, 1) := by decide +kernel
theorem dX0_nameAt_20 : decode cX0_nameAt 20 = .ok (.iconst 2, 1) := by decide +kernel
theorem dX0_nameAt_21 : decode cX0_nameAt 21 = .ok (.imul, 1) := by decide +kernel
theorem dX0_nameAt_22 : decode cX0_nameAt 22 = .ok (.iload_n 2, 1) := by decide +kernel
theorem dX0_nameAt_23 : decode cX0_nameAt 23 = .ok (.iadd, 1) := by decide +kernel
theorem dX0_nameAt_24 : decode cX0_nameAt 24 = .ok (.iaload, 1) := by decide +kernel
theorem dX0_nameAt_25 : decode cX0_nameAt 25 = .ok (.goto 6, 3) := by decide +kernel
theorem dX0_nameAt_28 : decode cX0_nameAt 28 = .ok (.sipush 300, 3) := by decide +kernel
theorem dX0_nameAt_31 : decode cX0_nameAt 31 = .ok (.ireturn, 1) := by decide +kernel
set_option maxRecDepth 20000 in
theorem ggX0_loseNoteAt_X0_isAt : GoodIn wsX0_loseNoteAt wsX0_isAt := goodIn_r _ [6, 7, 8, 9, 10, 11, 12] (by decide +kernel) (by decide +kernel)
set_option maxRecDepth 20000 in
theorem gX0_loseNoteAt_X0_isAt : GoodIn wsX0_loseNoteAt (wsV RX0 39 RX0 yX0_isAt wsX0_isAt) := goodIn_app (goodIn_of _ (by decide +kernel)) ggX0_loseNoteAt_X0_isAt
theorem dX0_loseNoteAt_0 : decode cX0_loseNoteAt 0 = .ok (.aload_n 0, 1) := by decide +kernel
theorem dX0_loseNoteAt_1 : decode cX0_loseNoteAt 1 = .ok (.iload_n 1, 1) := by decide +kernel
theorem dX0_loseNoteAt_2 : decode cX0_loseNoteAt 2 = .ok (.invokevirtual 39, 3) := by decide +kernel
theorem dX0_loseNoteAt_5 : decode cX0_loseNoteAt 5 = .ok (.ifCond .eq 12, 3) := by decide +kernel
theorem dX0_loseNoteAt_8 : decode cX0_loseNoteAt 8 = .ok (.aload_n 0, 1) := by decide +kernel
theorem dX0_loseNoteAt_9 : decode cX0_loseNoteAt 9 = .ok (.getfield 18, 3) := by decide +kernel
theorem dX0_loseNoteAt_12 : decode cX0_loseNoteAt 12 = .ok (.iload_n 1, 1) := by decide +kernel
theorem dX0_loseNoteAt_13 : decode cX0_loseNoteAt 13 = .ok (.sipush 300, 3) := by decide +kernel
theorem dX0_loseNoteAt_16 : decode cX0_loseNoteAt 16 = .ok (.iastore, 1) := by decide +kernel
theorem dX0_loseNoteAt_17 : decode cX0_loseNoteAt 17 = .ok (.return_, 1) := by decide +kernel
set_option maxRecDepth 20000 in
theorem ggX0_mark_X0_isAt : GoodIn wsX0_mark wsX0_isAt := goodIn_r _ [6, 7, 8, 9, 10, 11, 12] (by decide +kernel) (by decide +kernel)
set_option maxRecDepth 20000 in
theorem gX0_mark_X0_isAt : GoodIn wsX0_mark (wsV RX0 39 RX0 yX0_isAt wsX0_isAt) := goodIn_app (goodIn_of _ (by decide +kernel)) ggX0_mark_X0_isAt
theorem dX0_mark_0 : decode cX0_mark 0 = .ok (.aload_n 0, 1) := by decide +kernel
theorem dX0_mark_1 : decode cX0_mark 1 = .ok (.iload_n 1, 1) := by decide +kernel
theorem dX0_mark_2 : decode cX0_mark 2 = .ok (.invokevirtual 39, 3) := by decide +kernel
theorem dX0_mark_5 : decode cX0_mark 5 = .ok (.ifCond .eq 13, 3) := by decide +kernel
theorem dX0_mark_8 : decode cX0_mark 8 = .ok (.aload_n 0, 1) := by decide +kernel
theorem dX0_mark_9 : decode cX0_mark 9 = .ok (.getfield 21, 3) := by decide +kernel
theorem dX0_mark_12 : decode cX0_mark 12 = .ok (.iload_n 1, 1) := by decide +kernel
theorem dX0_mark_13 : decode cX0_mark 13 = .ok (.iaload, 1) := by decide +kernel
theorem dX0_mark_14 : decode cX0_mark 14 = .ok (.iconst 1, 1) := by decide +kernel
theorem dX0_mark_15 : decode cX0_mark 15 = .ok (.if_icmp .ne 5, 3) := by decide +kernel
theorem dX0_mark_18 : decode cX0_mark 18 = .ok (.iconst 0, 1) := by decide +kernel
theorem dX0_mark_19 : decode cX0_mark 19 = .ok (.ireturn, 1) := by decide +kernel
theorem dX0_mark_20 : decode cX0_mark 20 = .ok (.aload_n 0, 1) := by decide +kernel
theorem dX0_mark_21 : decode cX0_mark 21 = .ok (.getfield 21, 3) := by decide +kernel
theorem dX0_mark_24 : decode cX0_mark 24 = .ok (.iload_n 1, 1) := by decide +kernel
theorem dX0_mark_25 : decode cX0_mark 25 = .ok (.iconst 1, 1) := by decide +kernel
theorem dX0_mark_26 : decode cX0_mark 26 = .ok (.iastore, 1) := by decide +kernel
theorem dX0_mark_27 : decode cX0_mark 27 = .ok (.iconst 1, 1) := by decide +kernel
theorem dX0_mark_28 : decode cX0_mark 28 = .ok (.ireturn, 1) := by decide +kernel
set_option maxRecDepth 20000 in
theorem ggX0_setName_X0_isAt : GoodIn wsX0_setName wsX0_isAt := goodIn_r _ [6, 7, 11, 12, 13, 14, 15] (by decide +kernel) (by decide +kernel)
set_option maxRecDepth 20000 in
theorem gX0_setName_X0_isAt : GoodIn wsX0_setName (wsV RX0 39 RX0 yX0_isAt wsX0_isAt) := goodIn_app (goodIn_of _ (by decide +kernel)) ggX0_setName_X0_isAt
set_option maxRecDepth 20000 in
theorem ggX0_setName_X7_isName : GoodIn wsX0_setName wsX7_isName := goodIn_r _ [10] (by decide +kernel) (by decide +kernel)
set_option maxRecDepth 20000 in
theorem gX0_setName_X7_isName_n43 : GoodIn wsX0_setName (wsX7_isName) := ggX0_setName_X7_isName
theorem dX0_setName_0 : decode cX0_setName 0 = .ok (.aload_n 0, 1) := by decide +kernel
theorem dX0_setName_1 : decode cX0_setName 1 = .ok (.iload_n 1, 1) := by decide +kernel
theorem dX0_setName_2 : decode cX0_setName 2 = .ok (.invokevirtual 39, 3) := by decide +kernel
theorem dX0_setName_5 : decode cX0_setName 5 = .ok (.ifCond .eq 21, 3) := by decide +kernel
theorem dX0_setName_8 : decode cX0_setName 8 = .ok (.iload_n 2, 1) := by decide +kernel
theorem dX0_setName_9 : decode cX0_setName 9 = .ok (.invokestatic 43, 3) := by decide +kernel
theorem dX0_setName_12 : decode cX0_setName 12 = .ok (.ifCond .eq 14, 3) := by decide +kernel
theorem dX0_setName_15 : decode cX0_setName 15 = .ok (.aload_n 0, 1) := by decide +kernel
theorem dX0_setName_16 : decode cX0_setName 16 = .ok (.getfield 24, 3) := by decide +kernel
theorem dX0_setName_19 : decode cX0_setName 19 = .ok (.iload_n 1, 1) := by decide +kernel
theorem dX0_setName_20 : decode cX0_setName 20 = .ok (.iconst 2, 1) := by decide +kernel
theorem dX0_setName_21 : decode cX0_setName 21 = .ok (.imul, 1) := by decide +kernel
theorem dX0_setName_22 : decode cX0_setName 22 = .ok (.iload_n 2, 1) := by decide +kernel
theorem dX0_setName_23 : decode cX0_setName 23 = .ok (.iadd, 1) := by decide +kernel
theorem dX0_setName_24 : decode cX0_setName 24 = .ok (.iload_n 3, 1) := by decide +kernel
theorem dX0_setName_25 : decode cX0_setName 25 = .ok (.iastore, 1) := by decide +kernel
theorem dX0_setName_26 : decode cX0_setName 26 = .ok (.return_, 1) := by decide +kernel
theorem dX0_lay_0 : decode cX0_lay 0 = .ok (.iload_n 1, 1) := by decide +kernel
theorem dX0_lay_1 : decode cX0_lay 1 = .ok (.ifCond .lt 10, 3) := by decide +kernel
theorem dX0_lay_4 : decode cX0_lay 4 = .ok (.iload_n 1, 1) := by decide +kernel
theorem dX0_lay_5 : decode cX0_lay 5 = .ok (.sipush 260, 3) := by decide +kernel
theorem dX0_lay_8 : decode cX0_lay 8 = .ok (.if_icmp .lt 4, 3) := by decide +kernel
theorem dX0_lay_11 : decode cX0_lay 11 = .ok (.return_, 1) := by decide +kernel
theorem dX0_lay_12 : decode cX0_lay 12 = .ok (.aload_n 0, 1) := by decide +kernel
theorem dX0_lay_13 : decode cX0_lay 13 = .ok (.getfield 9, 3) := by decide +kernel
theorem dX0_lay_16 : decode cX0_lay 16 = .ok (.iload_n 1, 1) := by decide +kernel
theorem dX0_lay_17 : decode cX0_lay 17 = .ok (.iload_n 2, 1) := by decide +kernel
theorem dX0_lay_18 : decode cX0_lay 18 = .ok (.iastore, 1) := by decide +kernel
theorem dX0_lay_19 : decode cX0_lay 19 = .ok (.aload_n 0, 1) := by decide +kernel
theorem dX0_lay_20 : decode cX0_lay 20 = .ok (.getfield 15, 3) := by decide +kernel
theorem dX0_lay_23 : decode cX0_lay 23 = .ok (.iload_n 1, 1) := by decide +kernel
theorem dX0_lay_24 : decode cX0_lay 24 = .ok (.iload_n 3, 1) := by decide +kernel
theorem dX0_lay_25 : decode cX0_lay 25 = .ok (.iastore, 1) := by decide +kernel
theorem dX0_lay_26 : decode cX0_lay 26 = .ok (.aload_n 0, 1) := by decide +kernel
theorem dX0_lay_27 : decode cX0_lay 27 = .ok (.getfield 18, 3) := by decide +kernel
theorem dX0_lay_30 : decode cX0_lay 30 = .ok (.iload_n 1, 1) := by decide +kernel
theorem dX0_lay_31 : decode cX0_lay 31 = .ok (.sipush 300, 3) := by decide +kernel
theorem dX0_lay_34 : decode cX0_lay 34 = .ok (.iastore, 1) := by decide +kernel
theorem dX0_lay_35 : decode cX0_lay 35 = .ok (.aload_n 0, 1) := by decide +kernel
theorem dX0_lay_36 : decode cX0_lay 36 = .ok (.getfield 21, 3) := by decide +kernel
theorem dX0_lay_39 : decode cX0_lay 39 = .ok (.iload_n 1, 1) := by decide +kernel
theorem dX0_lay_40 : decode cX0_lay 40 = .ok (.iconst 0, 1) := by decide +kernel
theorem dX0_lay_41 : decode cX0_lay 41 = .ok (.iastore, 1) := by decide +kernel
theorem dX0_lay_42 : decode cX0_lay 42 = .ok (.aload_n 0, 1) := by decide +kernel
theorem dX0_lay_43 : decode cX0_lay 43 = .ok (.getfield 24, 3) := by decide +kernel
theorem dX0_lay_46 : decode cX0_lay 46 = .ok (.iload_n 1, 1) := by decide +kernel
theorem dX0_lay_47 : decode cX0_lay 47 = .ok (.iconst 2, 1) := by decide +kernel
theorem dX0_lay_48 : decode cX0_lay 48 = .ok (.imul, 1) := by decide +kernel
theorem dX0_lay_49 : decode cX0_lay 49 = .ok (.sipush 300, 3) := by decide +kernel
theorem dX0_lay_52 : decode cX0_lay 52 = .ok (.iastore, 1) := by decide +kernel
theorem dX0_lay_53 : decode cX0_lay 53 = .ok (.aload_n 0, 1) := by decide +kernel
theorem dX0_lay_54 : decode cX0_lay 54 = .ok (.getfield 24, 3) := by decide +kernel
theorem dX0_lay_57 : decode cX0_lay 57 = .ok (.iload_n 1, 1) := by decide +kernel
theorem dX0_lay_58 : decode cX0_lay 58 = .ok (.iconst 2, 1) := by decide +kernel
theorem dX0_lay_59 : decode cX0_lay 59 = .ok (.imul, 1) := by decide +kernel
theorem dX0_lay_60 : decode cX0_lay 60 = .ok (.iconst 1, 1) := by decide +kernel
theorem dX0_lay_61 : decode cX0_lay 61 = .ok (.iadd, 1) := by decide +kernel
theorem dX0_lay_62 : decode cX0_lay 62 = .ok (.sipush 300, 3) := by decide +kernel
theorem dX0_lay_65 : decode cX0_lay 65 = .ok (.iastore, 1) := by decide +kernel
theorem dX0_lay_66 : decode cX0_lay 66 = .ok (.return_, 1) := by decide +kernel
theorem dX0_layAgain_0 : decode cX0_layAgain 0 = .ok (.iload_n 1, 1) := by decide +kernel
theorem dX0_layAgain_1 : decode cX0_layAgain 1 = .ok (.ifCond .lt 21, 3) := by decide +kernel
theorem dX0_layAgain_4 : decode cX0_layAgain 4 = .ok (.iload_n 1, 1) := by decide +kernel
theorem dX0_layAgain_5 : decode cX0_layAgain 5 = .ok (.sipush 260, 3) := by decide +kernel
theorem dX0_layAgain_8 : decode cX0_layAgain 8 = .ok (.if_icmp .ge 14, 3) := by decide +kernel
theorem dX0_layAgain_11 : decode cX0_layAgain 11 = .ok (.iload_n 2, 1) := by decide +kernel
theorem dX0_layAgain_12 : decode cX0_layAgain 12 = .ok (.ifCond .lt 10, 3) := by decide +kernel
theorem dX0_layAgain_15 : decode cX0_layAgain 15 = .ok (.iload_n 2, 1) := by decide +kernel
theorem dX0_layAgain_16 : decode cX0_layAgain 16 = .ok (.sipush 260, 3) := by decide +kernel
theorem dX0_layAgain_19 : decode cX0_layAgain 19 = .ok (.if_icmp .lt 4, 3) := by decide +kernel
theorem dX0_layAgain_22 : decode cX0_layAgain 22 = .ok (.return_, 1) := by decide +kernel
theorem dX0_layAgain_23 : decode cX0_layAgain 23 = .ok (.aload_n 0, 1) := by decide +kernel
theorem dX0_layAgain_24 : decode cX0_layAgain 24 = .ok (.getfield 9, 3) := by decide +kernel
theorem dX0_layAgain_27 : decode cX0_layAgain 27 = .ok (.iload_n 2, 1) := by decide +kernel
theorem dX0_layAgain_28 : decode cX0_layAgain 28 = .ok (.aload_n 0, 1) := by decide +kernel
theorem dX0_layAgain_29 : decode cX0_layAgain 29 = .ok (.getfield 9, 3) := by decide +kernel
theorem dX0_layAgain_32 : decode cX0_layAgain 32 = .ok (.iload_n 1, 1) := by decide +kernel
theorem dX0_layAgain_33 : decode cX0_layAgain 33 = .ok (.iaload, 1) := by decide +kernel
theorem dX0_layAgain_34 : decode cX0_layAgain 34 = .ok (.iastore, 1) := by decide +kernel
theorem dX0_layAgain_35 : decode cX0_layAgain 35 = .ok (.aload_n 0, 1) := by decide +kernel
theorem dX0_layAgain_36 : decode cX0_layAgain 36 = .ok (.getfield 15, 3) := by decide +kernel
theorem dX0_layAgain_39 : decode cX0_layAgain 39 = .ok (.iload_n 2, 1) := by decide +kernel
theorem dX0_layAgain_40 : decode cX0_layAgain 40 = .ok (.aload_n 0, 1) := by decide +kernel
theorem dX0_layAgain_41 : decode cX0_layAgain 41 = .ok (.getfield 15, 3) := by decide +kernel
theorem dX0_layAgain_44 : decode cX0_layAgain 44 = .ok (.iload_n 1, 1) := by decide +kernel
theorem dX0_layAgain_45 : decode cX0_layAgain 45 = .ok (.iaload, 1) := by decide +kernel
theorem dX0_layAgain_46 : decode cX0_layAgain 46 = .ok (.iastore, 1) := by decide +kernel
theorem dX0_layAgain_47 : decode cX0_layAgain 47 = .ok (.aload_n 0, 1) := by decide +kernel
theorem dX0_layAgain_48 : decode cX0_layAgain 48 = .ok (.getfield 18, 3) := by decide +kernel
theorem dX0_layAgain_51 : decode cX0_layAgain 51 = .ok (.iload_n 2, 1) := by decide +kernel
theorem dX0_layAgain_52 : decode cX0_layAgain 52 = .ok (.sipush 300, 3) := by decide +kernel
theorem dX0_layAgain_55 : decode cX0_layAgain 55 = .ok (.iastore, 1) := by decide +kernel
theorem dX0_layAgain_56 : decode cX0_layAgain 56 = .ok (.aload_n 0, 1) := by decide +kernel
theorem dX0_layAgain_57 : decode cX0_layAgain 57 = .ok (.getfield 21, 3) := by decide +kernel
theorem dX0_layAgain_60 : decode cX0_layAgain 60 = .ok (.iload_n 2, 1) := by decide +kernel
theorem dX0_layAgain_61 : decode cX0_layAgain 61 = .ok (.iconst 0, 1) := by decide +kernel
theorem dX0_layAgain_62 : decode cX0_layAgain 62 = .ok (.iastore, 1) := by decide +kernel
theorem dX0_layAgain_63 : decode cX0_layAgain 63 = .ok (.aload_n 0, 1) := by decide +kernel
theorem dX0_layAgain_64 : decode cX0_layAgain 64 = .ok (.getfield 24, 3) := by decide +kernel
theorem dX0_layAgain_67 : decode cX0_layAgain 67 = .ok (.iload_n 2, 1) := by decide +kernel
theorem dX0_layAgain_68 : decode cX0_layAgain 68 = .ok (.iconst 2, 1) := by decide +kernel
theorem dX0_layAgain_69 : decode cX0_layAgain 69 = .ok (.imul, 1) := by decide +kernel
theorem dX0_layAgain_70 : decode cX0_layAgain 70 = .ok (.aload_n 0, 1) := by decide +kernel
theorem dX0_layAgain_71 : decode cX0_layAgain 71 = .ok (.getfield 24, 3) := by decide +kernel
theorem dX0_layAgain_74 : decode cX0_layAgain 74 = .ok (.iload_n 1, 1) := by decide +kernel
theorem dX0_layAgain_75 : decode cX0_layAgain 75 = .ok (.iconst 2, 1) := by decide +kernel
theorem dX0_layAgain_76 : decode cX0_layAgain 76 = .ok (.imul, 1) := by decide +kernel
theorem dX0_layAgain_77 : decode cX0_layAgain 77 = .ok (.iaload, 1) := by decide +kernel
theorem dX0_layAgain_78 : decode cX0_layAgain 78 = .ok (.iastore, 1) := by decide +kernel
theorem dX0_layAgain_79 : decode cX0_layAgain 79 = .ok (.aload_n 0, 1) := by decide +kernel
theorem dX0_layAgain_80 : decode cX0_layAgain 80 = .ok (.getfield 24, 3) := by decide +kernel
theorem dX0_layAgain_83 : decode cX0_layAgain 83 = .ok (.iload_n 2, 1) := by decide +kernel
theorem dX0_layAgain_84 : decode cX0_layAgain 84 = .ok (.iconst 2, 1) := by decide +kernel
theorem dX0_layAgain_85 : decode cX0_layAgain 85 = .ok (.imul, 1) := by decide +kernel
theorem dX0_layAgain_86 : decode cX0_layAgain 86 = .ok (.iconst 1, 1) := by decide +kernel
theorem dX0_layAgain_87 : decode cX0_layAgain 87 = .ok (.iadd, 1) := by decide +kernel
theorem dX0_layAgain_88 : decode cX0_layAgain 88 = .ok (.aload_n 0, 1) := by decide +kernel
theorem dX0_layAgain_89 : decode cX0_layAgain 89 = .ok (.getfield 24, 3) := by decide +kernel
theorem dX0_layAgain_92 : decode cX0_layAgain 92 = .ok (.iload_n 1, 1) := by decide +kernel
theorem dX0_layAgain_93 : decode cX0_layAgain 93 = .ok (.iconst 2, 1) := by decide +kernel
theorem dX0_layAgain_94 : decode cX0_layAgain 94 = .ok (.imul, 1) := by decide +kernel
theorem dX0_layAgain_95 : decode cX0_layAgain 95 = .ok (.iconst 1, 1) := by decide +kernel
theorem dX0_layAgain_96 : decode cX0_layAgain 96 = .ok (.iadd, 1) := by decide +kernel
theorem dX0_layAgain_97 : decode cX0_layAgain 97 = .ok (.iaload, 1) := by decide +kernel
theorem dX0_layAgain_98 : decode cX0_layAgain 98 = .ok (.iastore, 1) := by decide +kernel
theorem dX0_layAgain_99 : decode cX0_layAgain 99 = .ok (.aload_n 0, 1) := by decide +kernel
theorem dX0_layAgain_100 : decode cX0_layAgain 100 = .ok (.getfield 18, 3) := by decide +kernel
theorem dX0_layAgain_103 : decode cX0_layAgain 103 = .ok (.iload_n 1, 1) := by decide +kernel
theorem dX0_layAgain_104 : decode cX0_layAgain 104 = .ok (.iload_n 2, 1) := by decide +kernel
theorem dX0_layAgain_105 : decode cX0_layAgain 105 = .ok (.iastore, 1) := by decide +kernel
theorem dX0_layAgain_106 : decode cX0_layAgain 106 = .ok (.return_, 1) := by decide +kernel
theorem dX0_remove_0 : decode cX0_remove 0 = .ok (.iload_n 1, 1) := by decide +kernel
theorem dX0_remove_1 : decode cX0_remove 1 = .ok (.ifCond .lt 17, 3) := by decide +kernel
theorem dX0_remove_4 : decode cX0_remove 4 = .ok (.iload_n 1, 1) := by decide +kernel
theorem dX0_remove_5 : decode cX0_remove 5 = .ok (.sipush 260, 3) := by decide +kernel
theorem dX0_remove_8 : decode cX0_remove 8 = .ok (.if_icmp .ge 10, 3) := by decide +kernel
theorem dX0_remove_11 : decode cX0_remove 11 = .ok (.aload_n 0, 1) := by decide +kernel
theorem dX0_remove_12 : decode cX0_remove 12 = .ok (.getfield 15, 3) := by decide +kernel
theorem dX0_remove_15 : decode cX0_remove 15 = .ok (.iload_n 1, 1) := by decide +kernel
theorem dX0_remove_16 : decode cX0_remove 16 = .ok (.iconst 0, 1) := by decide +kernel
theorem dX0_remove_17 : decode cX0_remove 17 = .ok (.iastore, 1) := by decide +kernel
theorem dX0_remove_18 : decode cX0_remove 18 = .ok (.return_, 1) := by decide +kernel
set_option maxRecDepth 20000 in
theorem ggX0_addressOf_X0_isOf : GoodIn wsX0_addressOf wsX0_isOf := goodIn_r _ [5, 6, 7, 8, 9, 4, 10, 11, 12, 13, 14, 15, 16] (by decide +kernel) (by decide +kernel)
set_option maxRecDepth 20000 in
theorem gX0_addressOf_X0_isOf : GoodIn wsX0_addressOf (wsV RX0 46 RX0 yX0_isOf wsX0_isOf) := goodIn_app (goodIn_of _ (by decide +kernel)) ggX0_addressOf_X0_isOf
theorem dX0_addressOf_0 : decode cX0_addressOf 0 = .ok (.iconst 0, 1) := by decide +kernel
theorem dX0_addressOf_1 : decode cX0_addressOf 1 = .ok (.istore_n 3, 1) := by decide +kernel
theorem dX0_addressOf_2 : decode cX0_addressOf 2 = .ok (.iconst 0, 1) := by decide +kernel
theorem dX0_addressOf_3 : decode cX0_addressOf 3 = .ok (.istore 4, 2) := by decide +kernel
theorem dX0_addressOf_5 : decode cX0_addressOf 5 = .ok (.iload 4, 2) := by decide +kernel
theorem dX0_addressOf_7 : decode cX0_addressOf 7 = .ok (.sipush 260, 3) := by decide +kernel
theorem dX0_addressOf_10 : decode cX0_addressOf 10 = .ok (.if_icmp .ge 30, 3) := by decide +kernel
theorem dX0_addressOf_13 : decode cX0_addressOf 13 = .ok (.aload_n 0, 1) := by decide +kernel
theorem dX0_addressOf_14 : decode cX0_addressOf 14 = .ok (.iload_n 1, 1) := by decide +kernel
theorem dX0_addressOf_15 : decode cX0_addressOf 15 = .ok (.iload 4, 2) := by decide +kernel
theorem dX0_addressOf_17 : decode cX0_addressOf 17 = .ok (.invokevirtual 46, 3) := by decide +kernel
theorem dX0_addressOf_20 : decode cX0_addressOf 20 = .ok (.ifCond .eq 14, 3) := by decide +kernel
theorem dX0_addressOf_23 : decode cX0_addressOf 23 = .ok (.iload_n 3, 1) := by decide +kernel
theorem dX0_addressOf_24 : decode cX0_addressOf 24 = .ok (.iload_n 2, 1) := by decide +kernel
theorem dX0_addressOf_25 : decode cX0_addressOf 25 = .ok (.if_icmp .ne 6, 3) := by decide +kernel
theorem dX0_addressOf_28 : decode cX0_addressOf 28 = .ok (.iload 4, 2) := by decide +kernel
theorem dX0_addressOf_30 : decode cX0_addressOf 30 = .ok (.ireturn, 1) := by decide +kernel
theorem dX0_addressOf_31 : decode cX0_addressOf 31 = .ok (.iinc 3 1, 3) := by decide +kernel
theorem dX0_addressOf_34 : decode cX0_addressOf 34 = .ok (.iinc 4 1, 3) := by decide +kernel
theorem dX0_addressOf_37 : decode cX0_addressOf 37 = .ok (.goto (-32), 3) := by decide +kernel
theorem dX0_addressOf_40 : decode cX0_addressOf 40 = .ok (.sipush 300, 3) := by decide +kernel
theorem dX0_addressOf_43 : decode cX0_addressOf 43 = .ok (.ireturn, 1) := by decide +kernel
set_option maxRecDepth 20000 in
theorem ggX0_number_X0_isAt : GoodIn wsX0_number wsX0_isAt := goodIn_r _ [5, 6, 7, 8, 9, 10, 11] (by decide +kernel) (by decide +kernel)
set_option maxRecDepth 20000 in
theorem gX0_number_X0_isAt : GoodIn wsX0_number (wsV RX0 39 RX0 yX0_isAt wsX0_isAt) := goodIn_app (goodIn_of _ (by decide +kernel)) ggX0_number_X0_isAt
theorem dX0_number_0 : decode cX0_number 0 = .ok (.iconst 0, 1) := by decide +kernel
theorem dX0_number_1 : decode cX0_number 1 = .ok (.istore_n 1, 1) := by decide +kernel
theorem dX0_number_2 : decode cX0_number 2 = .ok (.iconst 0, 1) := by decide +kernel
theorem dX0_number_3 : decode cX0_number 3 = .ok (.istore_n 2, 1) := by decide +kernel
theorem dX0_number_4 : decode cX0_number 4 = .ok (.iload_n 2, 1) := by decide +kernel
theorem dX0_number_5 : decode cX0_number 5 = .ok (.sipush 260, 3) := by decide +kernel
theorem dX0_number_8 : decode cX0_number 8 = .ok (.if_icmp .ge 20, 3) := by decide +kernel
theorem dX0_number_11 : decode cX0_number 11 = .ok (.aload_n 0, 1) := by decide +kernel
theorem dX0_number_12 : decode cX0_number 12 = .ok (.iload_n 2, 1) := by decide +kernel
theorem dX0_number_13 : decode cX0_number 13 = .ok (.invokevirtual 39, 3) := by decide +kernel
theorem dX0_number_16 : decode cX0_number 16 = .ok (.ifCond .eq 6, 3) := by decide +kernel
theorem dX0_number_19 : decode cX0_number 19 = .ok (.iinc 1 1, 3) := by decide +kernel
theorem dX0_number_22 : decode cX0_number 22 = .ok (.iinc 2 1, 3) := by decide +kernel
theorem dX0_number_25 : decode cX0_number 25 = .ok (.goto (-21), 3) := by decide +kernel
theorem dX0_number_28 : decode cX0_number 28 = .ok (.iload_n 1, 1) := by decide +kernel
theorem dX0_number_29 : decode cX0_number 29 = .ok (.ireturn, 1) := by decide +kernel
set_option maxRecDepth 20000 in
theorem ggX0_floorTaken_X0_sizeAt : GoodIn wsX0_floorTaken wsX0_sizeAt := goodIn_r _ [5, 6, 7, 8, 9, 4, 10, 11, 12, 13, 14, 15] (by decide +kernel) (by decide +kernel)
set_option maxRecDepth 20000 in
theorem gX0_floorTaken_X0_sizeAt : GoodIn wsX0_floorTaken (wsV RX0 50 RX0 yX0_sizeAt wsX0_sizeAt) := goodIn_app (goodIn_of _ (by decide +kernel)) ggX0_floorTaken_X0_sizeAt
theorem dX0_floorTaken_0 : decode cX0_floorTaken 0 = .ok (.iconst 0, 1) := by decide +kernel
theorem dX0_floorTaken_1 : decode cX0_floorTaken 1 = .ok (.istore_n 1, 1) := by decide +kernel
theorem dX0_floorTaken_2 : decode cX0_floorTaken 2 = .ok (.iconst 0, 1) := by decide +kernel
theorem dX0_floorTaken_3 : decode cX0_floorTaken 3 = .ok (.istore_n 2, 1) := by decide +kernel
theorem dX0_floorTaken_4 : decode cX0_floorTaken 4 = .ok (.iload_n 2, 1) := by decide +kernel
theorem dX0_floorTaken_5 : decode cX0_floorTaken 5 = .ok (.bipush 60, 2) := by decide +kernel
theorem dX0_floorTaken_7 : decode cX0_floorTaken 7 = .ok (.if_icmp .ge 21, 3) := by decide +kernel
theorem dX0_floorTaken_10 : decode cX0_floorTaken 10 = .ok (.iload_n 1, 1) := by decide +kernel
theorem dX0_floorTaken_11 : decode cX0_floorTaken 11 = .ok (.aload_n 0, 1) := by decide +kernel
theorem dX0_floorTaken_12 : decode cX0_floorTaken 12 = .ok (.sipush 200, 3) := by decide +kernel
theorem dX0_floorTaken_15 : decode cX0_floorTaken 15 = .ok (.iload_n 2, 1) := by decide +kernel
theorem dX0_floorTaken_16 : decode cX0_floorTaken 16 = .ok (.iadd, 1) := by decide +kernel
theorem dX0_floorTaken_17 : decode cX0_floorTaken 17 = .ok (.invokevirtual 50, 3) := by decide +kernel
theorem dX0_floorTaken_20 : decode cX0_floorTaken 20 = .ok (.iadd, 1) := by decide +kernel
theorem dX0_floorTaken_21 : decode cX0_floorTaken 21 = .ok (.istore_n 1, 1) := by decide +kernel
theorem dX0_floorTaken_22 : decode cX0_floorTaken 22 = .ok (.iinc 2 1, 3) := by decide +kernel
theorem dX0_floorTaken_25 : decode cX0_floorTaken 25 = .ok (.goto (-21), 3) := by decide +kernel
theorem dX0_floorTaken_28 : decode cX0_floorTaken 28 = .ok (.iload_n 1, 1) := by decide +kernel
theorem dX0_floorTaken_29 : decode cX0_floorTaken 29 = .ok (.ireturn, 1) := by decide +kernel
set_option maxRecDepth 20000 in
theorem ggX0_floorAddressFor_X0_sizeAt : GoodIn wsX0_floorAddressFor wsX0_sizeAt := goodIn_r _ [5, 6, 7, 8, 9, 4, 10, 11, 12, 13, 14, 15] (by decide +kernel) (by decide +kernel)
set_option maxRecDepth 20000 in
theorem gX0_floorAddressFor_X0_sizeAt : GoodIn wsX0_floorAddressFor (wsV RX0 50 RX0 yX0_sizeAt wsX0_sizeAt) := goodIn_app (goodIn_of _ (by decide +kernel)) ggX0_floorAddressFor_X0_sizeAt
theorem dX0_floorAddressFor_0 : decode cX0_floorAddressFor 0 = .ok (.iconst 0, 1) := by decide +kernel
theorem dX0_floorAddressFor_1 : decode cX0_floorAddressFor 1 = .ok (.istore_n 2, 1) := by decide +kernel
theorem dX0_floorAddressFor_2 : decode cX0_floorAddressFor 2 = .ok (.iconst 0, 1) := by decide +kernel
theorem dX0_floorAddressFor_3 : decode cX0_floorAddressFor 3 = .ok (.istore_n 3, 1) := by decide +kernel
theorem dX0_floorAddressFor_4 : decode cX0_floorAddressFor 4 = .ok (.iload_n 3, 1) := by decide +kernel
theorem dX0_floorAddressFor_5 : decode cX0_floorAddressFor 5 = .ok (.bipush 60, 2) := by decide +kernel
theorem dX0_floorAddressFor_7 : decode cX0_floorAddressFor 7 = .ok (.if_icmp .ge 37, 3) := by decide +kernel
theorem dX0_floorAddressFor_10 : decode cX0_floorAddressFor 10 = .ok (.iload_n 3, 1) := by decide +kernel
theorem dX0_floorAddressFor_11 : decode cX0_floorAddressFor 11 = .ok (.iload_n 2, 1) := by decide +kernel
theorem dX0_floorAddressFor_12 : decode cX0_floorAddressFor 12 = .ok (.isub, 1) := by decide +kernel
theorem dX0_floorAddressFor_13 : decode cX0_floorAddressFor 13 = .ok (.iload_n 1, 1) := by decide +kernel
theorem dX0_floorAddressFor_14 : decode cX0_floorAddressFor 14 = .ok (.if_icmp .ge 30, 3) := by decide +kernel
theorem dX0_floorAddressFor_17 : decode cX0_floorAddressFor 17 = .ok (.aload_n 0, 1) := by decide +kernel
theorem dX0_floorAddressFor_18 : decode cX0_floorAddressFor 18 = .ok (.sipush 200, 3) := by decide +kernel
theorem dX0_floorAddressFor_21 : decode cX0_floorAddressFor 21 = .ok (.iload_n 3, 1) := by decide +kernel
theorem dX0_floorAddressFor_22 : decode cX0_floorAddressFor 22 = .ok (.iadd, 1) := by decide +kernel
theorem dX0_floorAddressFor_23 : decode cX0_floorAddressFor 23 = .ok (.invokevirtual 50, 3) := by decide +kernel
theorem dX0_floorAddressFor_26 : decode cX0_floorAddressFor 26 = .ok (.istore 4, 2) := by decide +kernel
theorem dX0_floorAddressFor_28 : decode cX0_floorAddressFor 28 = .ok (.iload 4, 2) := by decide +kernel
theorem dX0_floorAddressFor_30 : decode cX0_floorAddressFor 30 = .ok (.ifCond .le 8, 3) := by decide +kernel
theorem dX0_floorAddressFor_33 : decode cX0_floorAddressFor 33 = .ok (.iload_n 3, 1) := by decide +kernel
theorem dX0_floorAddressFor_34 : decode cX0_floorAddressFor 34 = .ok (.iload 4, 2) := by decide +kernel
theorem dX0_floorAddressFor_36 : decode cX0_floorAddressFor 36 = .ok (.iadd, 1) := by decide +kernel
theorem dX0_floorAddressFor_37 : decode cX0_floorAddressFor 37 = .ok (.istore_n 2, 1) := by decide +kernel
theorem dX0_floorAddressFor_38 : decode cX0_floorAddressFor 38 = .ok (.iinc 3 1, 3) := by decide +kernel
theorem dX0_floorAddressFor_41 : decode cX0_floorAddressFor 41 = .ok (.goto (-37), 3) := by decide +kernel
theorem dX0_floorAddressFor_44 : decode cX0_floorAddressFor 44 = .ok (.iload_n 2, 1) := by decide +kernel
theorem dX0_floorAddressFor_45 : decode cX0_floorAddressFor 45 = .ok (.iload_n 1, 1) := by decide +kernel
theorem dX0_floorAddressFor_46 : decode cX0_floorAddressFor 46 = .ok (.iadd, 1) := by decide +kernel
theorem dX0_floorAddressFor_47 : decode cX0_floorAddressFor 47 = .ok (.bipush 60, 2) := by decide +kernel
theorem dX0_floorAddressFor_49 : decode cX0_floorAddressFor 49 = .ok (.if_icmp .gt 11, 3) := by decide +kernel
theorem dX0_floorAddressFor_52 : decode cX0_floorAddressFor 52 = .ok (.sipush 200, 3) := by decide +kernel
theorem dX0_floorAddressFor_55 : decode cX0_floorAddressFor 55 = .ok (.iload_n 2, 1) := by decide +kernel
theorem dX0_floorAddressFor_56 : decode cX0_floorAddressFor 56 = .ok (.iadd, 1) := by decide +kernel
theorem dX0_floorAddressFor_57 : decode cX0_floorAddressFor 57 = .ok (.goto 6, 3) := by decide +kernel
theorem dX0_floorAddressFor_60 : decode cX0_floorAddressFor 60 = .ok (.sipush 300, 3) := by decide +kernel
theorem dX0_floorAddressFor_63 : decode cX0_floorAddressFor 63 = .ok (.ireturn, 1) := by decide +kernel
set_option maxRecDepth 20000 in
theorem ggX0_leadsTo_X0_noteAt : GoodIn wsX0_leadsTo wsX0_noteAt := goodIn_r _ [5, 6, 7, 8, 9, 4, 10, 11, 12, 13, 14, 15, 16] (by decide +kernel) (by decide +kernel)
set_option maxRecDepth 20000 in
theorem gX0_leadsTo_X0_noteAt : GoodIn wsX0_leadsTo (wsV RX0 54 RX0 yX0_noteAt wsX0_noteAt) := goodIn_app (goodIn_of _ (by decide +kernel)) ggX0_leadsTo_X0_noteAt
theorem dX0_leadsTo_0 : decode cX0_leadsTo 0 = .ok (.aload_n 0, 1) := by decide +kernel
theorem dX0_leadsTo_1 : decode cX0_leadsTo 1 = .ok (.iload_n 1, 1) := by decide +kernel
theorem dX0_leadsTo_2 : decode cX0_leadsTo 2 = .ok (.invokevirtual 54, 3) := by decide +kernel
theorem dX0_leadsTo_5 : decode cX0_leadsTo 5 = .ok (.istore_n 2, 1) := by decide +kernel
theorem dX0_leadsTo_6 : decode cX0_leadsTo 6 = .ok (.iload_n 2, 1) := by decide +kernel
theorem dX0_leadsTo_7 : decode cX0_leadsTo 7 = .ok (.sipush 300, 3) := by decide +kernel
theorem dX0_leadsTo_10 : decode cX0_leadsTo 10 = .ok (.if_icmp .ne 7, 3) := by decide +kernel
theorem dX0_leadsTo_13 : decode cX0_leadsTo 13 = .ok (.iload_n 1, 1) := by decide +kernel
theorem dX0_leadsTo_14 : decode cX0_leadsTo 14 = .ok (.goto 4, 3) := by decide +kernel
theorem dX0_leadsTo_17 : decode cX0_leadsTo 17 = .ok (.iload_n 2, 1) := by decide +kernel
theorem dX0_leadsTo_18 : decode cX0_leadsTo 18 = .ok (.ireturn, 1) := by decide +kernel
theorem dX0_replaceNames_0 : decode cX0_replaceNames 0 = .ok (.iconst 0, 1) := by decide +kernel
theorem dX0_replaceNames_1 : decode cX0_replaceNames 1 = .ok (.istore_n 3, 1) := by decide +kernel
theorem dX0_replaceNames_2 : decode cX0_replaceNames 2 = .ok (.iload_n 3, 1) := by decide +kernel
theorem dX0_replaceNames_3 : decode cX0_replaceNames 3 = .ok (.sipush 520, 3) := by decide +kernel
theorem dX0_replaceNames_6 : decode cX0_replaceNames 6 = .ok (.if_icmp .ge 26, 3) := by decide +kernel
theorem dX0_replaceNames_9 : decode cX0_replaceNames 9 = .ok (.aload_n 0, 1) := by decide +kernel
theorem dX0_replaceNames_10 : decode cX0_replaceNames 10 = .ok (.getfield 24, 3) := by decide +kernel
theorem dX0_replaceNames_13 : decode cX0_replaceNames 13 = .ok (.iload_n 3, 1) := by decide +kernel
theorem dX0_replaceNames_14 : decode cX0_replaceNames 14 = .ok (.iaload, 1) := by decide +kernel
theorem dX0_replaceNames_15 : decode cX0_replaceNames 15 = .ok (.iload_n 1, 1) := by decide +kernel
theorem dX0_replaceNames_16 : decode cX0_replaceNames 16 = .ok (.if_icmp .ne 10, 3) := by decide +kernel
theorem dX0_replaceNames_19 : decode cX0_replaceNames 19 = .ok (.aload_n 0, 1) := by decide +kernel
theorem dX0_replaceNames_20 : decode cX0_replaceNames 20 = .ok (.getfield 24, 3) := by decide +kernel
theorem dX0_replaceNames_23 : decode cX0_replaceNames 23 = .ok (.iload_n 3, 1) := by decide +kernel
theorem dX0_replaceNames_24 : decode cX0_replaceNames 24 = .ok (.iload_n 2, 1) := by decide +kernel
theorem dX0_replaceNames_25 : decode cX0_replaceNames 25 = .ok (.iastore, 1) := by decide +kernel
theorem dX0_replaceNames_26 : decode cX0_replaceNames 26 = .ok (.iinc 3 1, 3) := by decide +kernel
theorem dX0_replaceNames_29 : decode cX0_replaceNames 29 = .ok (.goto (-27), 3) := by decide +kernel
theorem dX0_replaceNames_32 : decode cX0_replaceNames 32 = .ok (.return_, 1) := by decide +kernel
set_option maxRecDepth 20000 in
theorem ggX0_emptyHalf_X0_remove : GoodIn wsX0_emptyHalf wsX0_remove := goodIn_r _ [5, 6, 7, 8, 9, 10, 11] (by decide +kernel) (by decide +kernel)
set_option maxRecDepth 20000 in
theorem gX0_emptyHalf_X0_remove : GoodIn wsX0_emptyHalf (wsV RX0 57 RX0 yX0_remove wsX0_remove) := goodIn_app (goodIn_of _ (by decide +kernel)) ggX0_emptyHalf_X0_remove
theorem dX0_emptyHalf_0 : decode cX0_emptyHalf 0 = .ok (.iconst 0, 1) := by decide +kernel
theorem dX0_emptyHalf_1 : decode cX0_emptyHalf 1 = .ok (.istore_n 2, 1) := by decide +kernel
theorem dX0_emptyHalf_2 : decode cX0_emptyHalf 2 = .ok (.iload_n 2, 1) := by decide +kernel
theorem dX0_emptyHalf_3 : decode cX0_emptyHalf 3 = .ok (.bipush 64, 2) := by decide +kernel
theorem dX0_emptyHalf_5 : decode cX0_emptyHalf 5 = .ok (.if_icmp .ge 19, 3) := by decide +kernel
theorem dX0_emptyHalf_8 : decode cX0_emptyHalf 8 = .ok (.aload_n 0, 1) := by decide +kernel
theorem dX0_emptyHalf_9 : decode cX0_emptyHalf 9 = .ok (.iload_n 1, 1) := by decide +kernel
theorem dX0_emptyHalf_10 : decode cX0_emptyHalf 10 = .ok (.bipush 100, 2) := by decide +kernel
theorem dX0_emptyHalf_12 : decode cX0_emptyHalf 12 = .ok (.imul, 1) := by decide +kernel
theorem dX0_emptyHalf_13 : decode cX0_emptyHalf 13 = .ok (.iload_n 2, 1) := by decide +kernel
theorem dX0_emptyHalf_14 : decode cX0_emptyHalf 14 = .ok (.iadd, 1) := by decide +kernel
theorem dX0_emptyHalf_15 : decode cX0_emptyHalf 15 = .ok (.invokevirtual 57, 3) := by decide +kernel
theorem dX0_emptyHalf_18 : decode cX0_emptyHalf 18 = .ok (.iinc 2 1, 3) := by decide +kernel
theorem dX0_emptyHalf_21 : decode cX0_emptyHalf 21 = .ok (.goto (-19), 3) := by decide +kernel
theorem dX0_emptyHalf_24 : decode cX0_emptyHalf 24 = .ok (.return_, 1) := by decide +kernel
set_option maxRecDepth 20000 in
theorem ggX0_sweepFloor_X0_remove : GoodIn wsX0_sweepFloor wsX0_remove := goodIn_r _ [6, 7, 8, 9, 10, 11, 12] (by decide +kernel) (by decide +kernel)
set_option maxRecDepth 20000 in
theorem gX0_sweepFloor_X0_remove : GoodIn wsX0_sweepFloor (wsV RX0 57 RX0 yX0_remove wsX0_remove) := goodIn_app (goodIn_of _ (by decide +kernel)) ggX0_sweepFloor_X0_remove
theorem dX0_sweepFloor_0 : decode cX0_sweepFloor 0 = .ok (.sipush 200, 3) := by decide +kernel
theorem dX0_sweepFloor_3 : decode cX0_sweepFloor 3 = .ok (.istore_n 1, 1) := by decide +kernel
theorem dX0_sweepFloor_4 : decode cX0_sweepFloor 4 = .ok (.iload_n 1, 1) := by decide +kernel
theorem dX0_sweepFloor_5 : decode cX0_sweepFloor 5 = .ok (.sipush 260, 3) := by decide +kernel
theorem dX0_sweepFloor_8 : decode cX0_sweepFloor 8 = .ok (.if_icmp .ge 30, 3) := by decide +kernel
theorem dX0_sweepFloor_11 : decode cX0_sweepFloor 11 = .ok (.aload_n 0, 1) := by decide +kernel
theorem dX0_sweepFloor_12 : decode cX0_sweepFloor 12 = .ok (.getfield 21, 3) := by decide +kernel
theorem dX0_sweepFloor_15 : decode cX0_sweepFloor 15 = .ok (.iload_n 1, 1) := by decide +kernel
theorem dX0_sweepFloor_16 : decode cX0_sweepFloor 16 = .ok (.iaload, 1) := by decide +kernel
theorem dX0_sweepFloor_17 : decode cX0_sweepFloor 17 = .ok (.ifCond .ne 8, 3) := by decide +kernel
theorem dX0_sweepFloor_20 : decode cX0_sweepFloor 20 = .ok (.aload_n 0, 1) := by decide +kernel
theorem dX0_sweepFloor_21 : decode cX0_sweepFloor 21 = .ok (.iload_n 1, 1) := by decide +kernel
theorem dX0_sweepFloor_22 : decode cX0_sweepFloor 22 = .ok (.invokevirtual 57, 3) := by decide +kernel
theorem dX0_sweepFloor_25 : decode cX0_sweepFloor 25 = .ok (.aload_n 0, 1) := by decide +kernel
theorem dX0_sweepFloor_26 : decode cX0_sweepFloor 26 = .ok (.getfield 21, 3) := by decide +kernel
theorem dX0_sweepFloor_29 : decode cX0_sweepFloor 29 = .ok (.iload_n 1, 1) := by decide +kernel
theorem dX0_sweepFloor_30 : decode cX0_sweepFloor 30 = .ok (.iconst 0, 1) := by decide +kernel
theorem dX0_sweepFloor_31 : decode cX0_sweepFloor 31 = .ok (.iastore, 1) := by decide +kernel
theorem dX0_sweepFloor_32 : decode cX0_sweepFloor 32 = .ok (.iinc 1 1, 3) := by decide +kernel
theorem dX0_sweepFloor_35 : decode cX0_sweepFloor 35 = .ok (.goto (-31), 3) := by decide +kernel
theorem dX0_sweepFloor_38 : decode cX0_sweepFloor 38 = .ok (.return_, 1) := by decide +kernel
theorem dX1_init_0 : decode cX1_init 0 = .ok (.aload_n 0, 1) := by decide +kernel
theorem dX1_init_1 : decode cX1_init 1 = .ok (.invokespecial 3, 3) := by decide +kernel
theorem dX1_init_4 : decode cX1_init 4 = .ok (.aload_n 0, 1) := by decide +kernel
theorem dX1_init_5 : decode cX1_init 5 = .ok (.iconst 3, 1) := by decide +kernel
theorem dX1_init_6 : decode cX1_init 6 = .ok (.newarray .int, 2) := by decide +kernel
theorem dX1_init_8 : decode cX1_init 8 = .ok (.putfield 9, 3) := by decide +kernel
theorem dX1_init_11 : decode cX1_init 11 = .ok (.return_, 1) := by decide +kernel
theorem dX1_end_0 : decode cX1_end 0 = .ok (.aload_n 0, 1) := by decide +kernel
theorem dX1_end_1 : decode cX1_end 1 = .ok (.getfield 15, 3) := by decide +kernel
theorem dX1_end_4 : decode cX1_end 4 = .ok (.ireturn, 1) := by decide +kernel
set_option maxRecDepth 20000 in
theorem ggX1_readFrom_X6_at : GoodIn wsX1_readFrom wsX6_at := goodIn_r _ [8, 9, 10, 32, 33] (by decide +kernel) (by decide +kernel)
set_option maxRecDepth 20000 in
theorem gX1_readFrom_X6_at : GoodIn wsX1_readFrom (wsV RX1 19 RX6 yX6_at wsX6_at) := goodIn_app (goodIn_of _ (by decide +kernel)) ggX1_readFrom_X6_at
set_option maxRecDepth 20000 in
theorem ggX1_readFrom_X1_numbersDue : GoodIn wsX1_readFrom wsX1_numbersDue := goodIn_r _ [15, 2, 29, 30, 31] (by decide +kernel) (by decide +kernel)
set_option maxRecDepth 20000 in
theorem gX1_readFrom_X1_numbersDue : GoodIn wsX1_readFrom (wsV RX1 28 RX1 yX1_numbersDue wsX1_numbersDue) := goodIn_app (goodIn_of _ (by decide +kernel)) ggX1_readFrom_X1_numbersDue
set_option maxRecDepth 20000 in
theorem ggX1_readFrom_X1_passes : GoodIn wsX1_readFrom wsX1_passes := goodIn_r _ [19, 1, 4, 5, 6, 7, 8, 9, 10, 29, 30, 31, 32, 33] (by decide +kernel) (by decide +kernel)
set_option maxRecDepth 20000 in
theorem gX1_readFrom_X1_passes : GoodIn wsX1_readFrom (wsV RX1 32 RX1 yX1_passes wsX1_passes) := goodIn_app (goodIn_of _ (by decide +kernel)) ggX1_readFrom_X1_passes
set_option maxRecDepth 20000 in
theorem ggX1_readFrom_X6_hasDigitAt : GoodIn wsX1_readFrom wsX6_hasDigitAt := goodIn_r _ [23, 24, 5, 6, 7, 8, 9, 10, 32, 33] (by decide +kernel) (by decide +kernel)
set_option maxRecDepth 20000 in
theorem gX1_readFrom_X6_hasDigitAt : GoodIn wsX1_readFrom (wsV RX1 36 RX6 yX6_hasDigitAt wsX6_hasDigitAt) := goodIn_app (goodIn_of _ (by decide +kernel)) ggX1_readFrom_X6_hasDigitAt
set_option maxRecDepth 20000 in
theorem ggX1_readFrom_X1_readNumber : GoodIn wsX1_readFrom wsX1_readNumber := goodIn_r _ [28, 1, 4, 5, 6, 7, 8, 9, 10, 20, 21, 22, 23, 24, 29, 30, 31, 32, 33] (by decide +kernel) (by decide +kernel)
set_option maxRecDepth 20000 in
theorem gX1_readFrom_X1_readNumber : GoodIn wsX1_readFrom (wsV RX1 40 RX1 yX1_readNumber wsX1_readNumber) := goodIn_app (goodIn_of _ (by decide +kernel)) ggX1_readFrom_X1_readNumber
theorem dX1_readFrom_0 : decode cX1_readFrom 0 = .ok (.aload_n 0, 1) := by decide +kernel
theorem dX1_readFrom_1 : decode cX1_readFrom 1 = .ok (.iload_n 2, 1) := by decide +kernel
theorem dX1_readFrom_2 : decode cX1_readFrom 2 = .ok (.putfield 15, 3) := by decide +kernel
theorem dX1_readFrom_5 : decode cX1_readFrom 5 = .ok (.aload_n 0, 1) := by decide +kernel
theorem dX1_readFrom_6 : decode cX1_readFrom 6 = .ok (.aload_n 1, 1) := by decide +kernel
theorem dX1_readFrom_7 : decode cX1_readFrom 7 = .ok (.iload_n 2, 1) := by decide +kernel
theorem dX1_readFrom_8 : decode cX1_readFrom 8 = .ok (.invokevirtual 19, 3) := by decide +kernel
theorem dX1_readFrom_11 : decode cX1_readFrom 11 = .ok (.putfield 25, 3) := by decide +kernel
theorem dX1_readFrom_14 : decode cX1_readFrom 14 = .ok (.aload_n 0, 1) := by decide +kernel
theorem dX1_readFrom_15 : decode cX1_readFrom 15 = .ok (.invokevirtual 28, 3) := by decide +kernel
theorem dX1_readFrom_18 : decode cX1_readFrom 18 = .ok (.istore_n 3, 1) := by decide +kernel
theorem dX1_readFrom_19 : decode cX1_readFrom 19 = .ok (.iload_n 3, 1) := by decide +kernel
theorem dX1_readFrom_20 : decode cX1_readFrom 20 = .ok (.ifCond .ge 5, 3) := by decide +kernel
theorem dX1_readFrom_23 : decode cX1_readFrom 23 = .ok (.iconst 0, 1) := by decide +kernel
theorem dX1_readFrom_24 : decode cX1_readFrom 24 = .ok (.ireturn, 1) := by decide +kernel
theorem dX1_readFrom_25 : decode cX1_readFrom 25 = .ok (.aload_n 0, 1) := by decide +kernel
theorem dX1_readFrom_26 : decode cX1_readFrom 26 = .ok (.dup, 1) := by decide +kernel
theorem dX1_readFrom_27 : decode cX1_readFrom 27 = .ok (.getfield 15, 3) := by decide +kernel
theorem dX1_readFrom_30 : decode cX1_readFrom 30 = .ok (.iconst 1, 1) := by decide +kernel
theorem dX1_readFrom_31 : decode cX1_readFrom 31 = .ok (.iadd, 1) := by decide +kernel
theorem dX1_readFrom_32 : decode cX1_readFrom 32 = .ok (.putfield 15, 3) := by decide +kernel
theorem dX1_readFrom_35 : decode cX1_readFrom 35 = .ok (.iconst 0, 1) := by decide +kernel
theorem dX1_readFrom_36 : decode cX1_readFrom 36 = .ok (.istore 4, 2) := by decide +kernel
theorem dX1_readFrom_38 : decode cX1_readFrom 38 = .ok (.iload 4, 2) := by decide +kernel
theorem dX1_readFrom_40 : decode cX1_readFrom 40 = .ok (.iload_n 3, 1) := by decide +kernel
theorem dX1_readFrom_41 : decode cX1_readFrom 41 = .ok (.if_icmp .ge 57, 3) := by decide +kernel
theorem dX1_readFrom_44 : decode cX1_readFrom 44 = .ok (.iload 4, 2) := by decide +kernel
theorem dX1_readFrom_46 : decode cX1_readFrom 46 = .ok (.iconst 3, 1) := by decide +kernel
theorem dX1_readFrom_47 : decode cX1_readFrom 47 = .ok (.if_icmp .ge 51, 3) := by decide +kernel
theorem dX1_readFrom_50 : decode cX1_readFrom 50 = .ok (.iload 4, 2) := by decide +kernel
theorem dX1_readFrom_52 : decode cX1_readFrom 52 = .ok (.ifCond .le 15, 3) := by decide +kernel
theorem dX1_readFrom_55 : decode cX1_readFrom 55 = .ok (.aload_n 0, 1) := by decide +kernel
theorem dX1_readFrom_56 : decode cX1_readFrom 56 = .ok (.aload_n 1, 1) := by decide +kernel
theorem dX1_readFrom_57 : decode cX1_readFrom 57 = .ok (.bipush 44, 2) := by decide +kernel
theorem dX1_readFrom_59 : decode cX1_readFrom 59 = .ok (.invokevirtual 32, 3) := by decide +kernel
theorem dX1_readFrom_62 : decode cX1_readFrom 62 = .ok (.ifCond .ne 5, 3) := by decide +kernel
theorem dX1_readFrom_65 : decode cX1_readFrom 65 = .ok (.iconst 0, 1) := by decide +kernel
theorem dX1_readFrom_66 : decode cX1_readFrom 66 = .ok (.ireturn, 1) := by decide +kernel
theorem dX1_readFrom_67 : decode cX1_readFrom 67 = .ok (.aload_n 1, 1) := by decide +kernel
theorem dX1_readFrom_68 : decode cX1_readFrom 68 = .ok (.aload_n 0, 1) := by decide +kernel
theorem dX1_readFrom_69 : decode cX1_readFrom 69 = .ok (.getfield 15, 3) := by decide +kernel
theorem dX1_readFrom_72 : decode cX1_readFrom 72 = .ok (.invokevirtual 36, 3) := by decide +kernel
theorem dX1_readFrom_75 : decode cX1_readFrom 75 = .ok (.ifCond .ne 5, 3) := by decide +kernel
theorem dX1_readFrom_78 : decode cX1_readFrom 78 = .ok (.iconst 0, 1) := by decide +kernel
theorem dX1_readFrom_79 : decode cX1_readFrom 79 = .ok (.ireturn, 1) := by decide +kernel
theorem dX1_readFrom_80 : decode cX1_readFrom 80 = .ok (.aload_n 0, 1) := by decide +kernel
theorem dX1_readFrom_81 : decode cX1_readFrom 81 = .ok (.getfield 9, 3) := by decide +kernel
theorem dX1_readFrom_84 : decode cX1_readFrom 84 = .ok (.iload 4, 2) := by decide +kernel
theorem dX1_readFrom_86 : decode cX1_readFrom 86 = .ok (.aload_n 0, 1) := by decide +kernel
theorem dX1_readFrom_87 : decode cX1_readFrom 87 = .ok (.aload_n 1, 1) := by decide +kernel
theorem dX1_readFrom_88 : decode cX1_readFrom 88 = .ok (.invokevirtual 40, 3) := by decide +kernel
theorem dX1_readFrom_91 : decode cX1_readFrom 91 = .ok (.iastore, 1) := by decide +kernel
theorem dX1_readFrom_92 : decode cX1_readFrom 92 = .ok (.iinc 4 1, 3) := by decide +kernel
theorem dX1_readFrom_95 : decode cX1_readFrom 95 = .ok (.goto (-57), 3) := by decide +kernel
theorem dX1_readFrom_98 : decode cX1_readFrom 98 = .ok (.aload_n 0, 1) := by decide +kernel
theorem dX1_readFrom_99 : decode cX1_readFrom 99 = .ok (.aload_n 1, 1) := by decide +kernel
theorem dX1_readFrom_100 : decode cX1_readFrom 100 = .ok (.bipush 59, 2) := by decide +kernel
theorem dX1_readFrom_102 : decode cX1_readFrom 102 = .ok (.invokevirtual 32, 3) := by decide +kernel
theorem dX1_readFrom_105 : decode cX1_readFrom 105 = .ok (.ireturn, 1) := by decide +kernel
theorem dX1_numbersDue_0 : decode cX1_numbersDue 0 = .ok (.aload_n 0, 1) := by decide +kernel
theorem dX1_numbersDue_1 : decode cX1_numbersDue 1 = .ok (.getfield 25, 3) := by decide +kernel
theorem dX1_numbersDue_4 : decode cX1_numbersDue 4 = .ok (.tableswitch 96 98 115 #[88, 96, 90, 96, 94, 96, 96, 96, 96, 96, 94, 92, 96, 96, 96, 96, 96, 90], 88) := by decide +kernel
theorem dX1_numbersDue_92 : decode cX1_numbersDue 92 = .ok (.iconst 0, 1) := by decide +kernel
theorem dX1_numbersDue_93 : decode cX1_numbersDue 93 = .ok (.ireturn, 1) := by decide +kernel
theorem dX1_numbersDue_94 : decode cX1_numbersDue 94 = .ok (.iconst 1, 1) := by decide +kernel
theorem dX1_numbersDue_95 : decode cX1_numbersDue 95 = .ok (.ireturn, 1) := by decide +kernel
theorem dX1_numbersDue_96 : decode cX1_numbersDue 96 = .ok (.iconst 2, 1) := by decide +kernel
theorem dX1_numbersDue_97 : decode cX1_numbersDue 97 = .ok (.ireturn, 1) := by decide +kernel
theorem dX1_numbersDue_98 : decode cX1_numbersDue 98 = .ok (.iconst 3, 1) := by decide +kernel
theorem dX1_numbersDue_99 : decode cX1_numbersDue 99 = .ok (.ireturn, 1) := by decide +kernel
theorem dX1_numbersDue_100 : decode cX1_numbersDue 100 = .ok (.iconst (-1), 1) := by decide +kernel
theorem dX1_numbersDue_101 : decode cX1_numbersDue 101 = .ok (.ireturn, 1) := by decide +kernel
set_option maxRecDepth 20000 in
theorem ggX1_passes_X6_at : GoodIn wsX1_passes wsX6_at := goodIn_r _ [6, 7, 8, 12, 13] (by decide +kernel) (by decide +kernel)
set_option maxRecDepth 20000 in
theorem gX1_passes_X6_at : GoodIn wsX1_passes (wsV RX1 19 RX6 yX6_at wsX6_at) := goodIn_app (goodIn_of _ (by decide +kernel)) ggX1_passes_X6_at
theorem dX1_passes_0 : decode cX1_passes 0 = .ok (.aload_n 1, 1) := by decide +kernel
theorem dX1_passes_1 : decode cX1_passes 1 = .ok (.aload_n 0, 1) := by decide +kernel
theorem dX1_passes_2 : decode cX1_passes 2 = .ok (.getfield 15, 3) := by decide +kernel
theorem dX1_passes_5 : decode cX1_passes 5 = .ok (.invokevirtual 19, 3) := by decide +kernel
theorem dX1_passes_8 : decode cX1_passes 8 = .ok (.iload_n 2, 1) := by decide +kernel
theorem dX1_passes_9 : decode cX1_passes 9 = .ok (.if_icmp .eq 5, 3) := by decide +kernel
theorem dX1_passes_12 : decode cX1_passes 12 = .ok (.iconst 0, 1) := by decide +kernel
theorem dX1_passes_13 : decode cX1_passes 13 = .ok (.ireturn, 1) := by decide +kernel
theorem dX1_passes_14 : decode cX1_passes 14 = .ok (.aload_n 0, 1) := by decide +kernel
theorem dX1_passes_15 : decode cX1_passes 15 = .ok (.dup, 1) := by decide +kernel
theorem dX1_passes_16 : decode cX1_passes 16 = .ok (.getfield 15, 3) := by decide +kernel
theorem dX1_passes_19 : decode cX1_passes 19 = .ok (.iconst 1, 1) := by decide +kernel
theorem dX1_passes_20 : decode cX1_passes 20 = .ok (.iadd, 1) := by decide +kernel
theorem dX1_passes_21 : decode cX1_passes 21 = .ok (.putfield 15, 3) := by decide +kernel
theorem dX1_passes_24 : decode cX1_passes 24 = .ok (.iconst 1, 1) := by decide +kernel
theorem dX1_passes_25 : decode cX1_passes 25 = .ok (.ireturn, 1) := by decide +kernel
set_option maxRecDepth 20000 in
theorem ggX1_readNumber_X6_at : GoodIn wsX1_readNumber wsX6_at := goodIn_r _ [6, 7, 8, 17, 18] (by decide +kernel) (by decide +kernel)
set_option maxRecDepth 20000 in
theorem gX1_readNumber_X6_at : GoodIn wsX1_readNumber (wsV RX1 19 RX6 yX6_at wsX6_at) := goodIn_app (goodIn_of _ (by decide +kernel)) ggX1_readNumber_X6_at
set_option maxRecDepth 20000 in
theorem ggX1_readNumber_X6_hasDigitAt : GoodIn wsX1_readNumber wsX6_hasDigitAt := goodIn_r _ [12, 13, 3, 4, 5, 6, 7, 8, 17, 18] (by decide +kernel) (by decide +kernel)
end
section
set_option maxRecDepth 20000 in
theorem gX1_readNumber_X6_hasDigitAt : GoodIn wsX1_readNumber (wsV RX1 36 RX6 yX6_hasDigitAt wsX6_hasDigitAt) := goodIn_app (goodIn_of _ (by decide +kernel)) ggX1_readNumber_X6_hasDigitAt
theorem dX1_readNumber_0 : decode cX1_readNumber 0 = .ok (.aload_n 1, 1) := by decide +kernel
theorem dX1_readNumber_1 : decode cX1_readNumber 1 = .ok (.aload_n 0, 1) := by decide +kernel
theorem dX1_readNumber_2 : decode cX1_readNumber 2 = .ok (.getfield 15, 3) := by decide +kernel
theorem dX1_readNumber_5 : decode cX1_readNumber 5 = .ok (.invokevirtual 19, 3) := by decide +kernel
theorem dX1_readNumber_8 : decode cX1_readNumber 8 = .ok (.bipush 48, 2) := by decide +kernel
theorem dX1_readNumber_10 : decode cX1_readNumber 10 = .ok (.isub, 1) := by decide +kernel
theorem dX1_readNumber_11 : decode cX1_readNumber 11 = .ok (.istore_n 2, 1) := by decide +kernel
theorem dX1_readNumber_12 : decode cX1_readNumber 12 = .ok (.aload_n 0, 1) := by decide +kernel
theorem dX1_readNumber_13 : decode cX1_readNumber 13 = .ok (.dup, 1) := by decide +kernel
theorem dX1_readNumber_14 : decode cX1_readNumber 14 = .ok (.getfield 15, 3) := by decide +kernel
theorem dX1_readNumber_17 : decode cX1_readNumber 17 = .ok (.iconst 1, 1) := by decide +kernel
theorem dX1_readNumber_18 : decode cX1_readNumber 18 = .ok (.iadd, 1) := by decide +kernel
theorem dX1_readNumber_19 : decode cX1_readNumber 19 = .ok (.putfield 15, 3) := by decide +kernel
theorem dX1_readNumber_22 : decode cX1_readNumber 22 = .ok (.iload_n 2, 1) := by decide +kernel
theorem dX1_readNumber_23 : decode cX1_readNumber 23 = .ok (.ifCond .le 41, 3) := by decide +kernel
theorem dX1_readNumber_26 : decode cX1_readNumber 26 = .ok (.aload_n 1, 1) := by decide +kernel
theorem dX1_readNumber_27 : decode cX1_readNumber 27 = .ok (.aload_n 0, 1) := by decide +kernel
theorem dX1_readNumber_28 : decode cX1_readNumber 28 = .ok (.getfield 15, 3) := by decide +kernel
theorem dX1_readNumber_31 : decode cX1_readNumber 31 = .ok (.invokevirtual 36, 3) := by decide +kernel
theorem dX1_readNumber_34 : decode cX1_readNumber 34 = .ok (.ifCond .eq 30, 3) := by decide +kernel
theorem dX1_readNumber_37 : decode cX1_readNumber 37 = .ok (.iload_n 2, 1) := by decide +kernel
theorem dX1_readNumber_38 : decode cX1_readNumber 38 = .ok (.bipush 10, 2) := by decide +kernel
theorem dX1_readNumber_40 : decode cX1_readNumber 40 = .ok (.imul, 1) := by decide +kernel
theorem dX1_readNumber_41 : decode cX1_readNumber 41 = .ok (.aload_n 1, 1) := by decide +kernel
theorem dX1_readNumber_42 : decode cX1_readNumber 42 = .ok (.aload_n 0, 1) := by decide +kernel
theorem dX1_readNumber_43 : decode cX1_readNumber 43 = .ok (.getfield 15, 3) := by decide +kernel
theorem dX1_readNumber_46 : decode cX1_readNumber 46 = .ok (.invokevirtual 19, 3) := by decide +kernel
theorem dX1_readNumber_49 : decode cX1_readNumber 49 = .ok (.iadd, 1) := by decide +kernel
theorem dX1_readNumber_50 : decode cX1_readNumber 50 = .ok (.bipush 48, 2) := by decide +kernel
theorem dX1_readNumber_52 : decode cX1_readNumber 52 = .ok (.isub, 1) := by decide +kernel
theorem dX1_readNumber_53 : decode cX1_readNumber 53 = .ok (.istore_n 2, 1) := by decide +kernel
theorem dX1_readNumber_54 : decode cX1_readNumber 54 = .ok (.aload_n 0, 1) := by decide +kernel
theorem dX1_readNumber_55 : decode cX1_readNumber 55 = .ok (.dup, 1) := by decide +kernel
theorem dX1_readNumber_56 : decode cX1_readNumber 56 = .ok (.getfield 15, 3) := by decide +kernel
theorem dX1_readNumber_59 : decode cX1_readNumber 59 = .ok (.iconst 1, 1) := by decide +kernel
theorem dX1_readNumber_60 : decode cX1_readNumber 60 = .ok (.iadd, 1) := by decide +kernel
theorem dX1_readNumber_61 : decode cX1_readNumber 61 = .ok (.putfield 15, 3) := by decide +kernel
theorem dX1_readNumber_64 : decode cX1_readNumber 64 = .ok (.iload_n 2, 1) := by decide +kernel
theorem dX1_readNumber_65 : decode cX1_readNumber 65 = .ok (.ireturn, 1) := by decide +kernel
set_option maxRecDepth 20000 in
theorem ggX1_callOn_X5_makeThing : GoodIn wsX1_callOn wsX5_makeThing := goodIn_r _ [7, 8, 9, 10, 11, 12, 13, 14, 15, 16, 17, 18, 19, 20, 21, 22, 23, 24, 25, 26, 27, 28, 29, 30, 31, 32, 33, 6, 34, 35, 36, 37, 38, 39, 40, 41, 42, 43, 44, 45, 46, 47, 48, 49, 50, 51, 52, 53, 54, 55, 56, 57, 58, 59, 60, 61, 62, 63, 64, 152, 153, 154, 155, 156, 157, 158, 159, 160, 161, 162, 163, 164, 165, 166] (by decide +kernel) (by decide +kernel)
set_option maxRecDepth 20000 in
theorem gX1_callOn_X5_makeThing : GoodIn wsX1_callOn (wsV RX1 44 RX5 yX5_makeThing wsX5_makeThing) := goodIn_app (goodIn_of _ (by decide +kernel)) ggX1_callOn_X5_makeThing
set_option maxRecDepth 20000 in
theorem ggX1_callOn_X5_linkHooks : GoodIn wsX1_callOn wsX5_linkHooks := goodIn_r _ [68, 13, 9, 14, 15, 16, 69, 70, 71, 72, 73, 6, 74, 12, 75, 76, 77, 78, 79, 35, 44, 45, 46, 47, 48, 49, 50, 20, 51, 52, 27, 28, 29, 30, 26, 53, 23, 24, 25, 80, 81, 82, 83, 11, 36, 37, 38, 39, 84, 85, 86, 87, 58, 59, 60, 88, 89, 90, 91, 92, 93, 94, 61, 62, 63, 64, 95, 96, 97, 98, 152, 153, 154, 155, 156, 157, 158, 159, 160, 161, 162, 163, 164, 165, 166, 167, 168, 169] (by decide +kernel) (by decide +kernel)
set_option maxRecDepth 20000 in
theorem gX1_callOn_X5_linkHooks : GoodIn wsX1_callOn (wsV RX1 50 RX5 yX5_linkHooks wsX5_linkHooks) := goodIn_app (goodIn_of _ (by decide +kernel)) ggX1_callOn_X5_linkHooks
set_option maxRecDepth 20000 in
theorem ggX1_callOn_X5_followName : GoodIn wsX1_callOn wsX5_followName := goodIn_r _ [102, 13, 9, 14, 15, 16, 69, 70, 71, 72, 73, 6, 74, 12, 75, 76, 77, 78, 79, 35, 44, 45, 46, 47, 48, 49, 50, 20, 51, 52, 27, 28, 29, 30, 26, 53, 23, 24, 25, 80, 81, 82, 83, 11, 36, 37, 38, 39, 84, 85, 86, 87, 58, 59, 60, 88, 89, 90, 91, 92, 93, 94, 61, 62, 63, 64, 152, 153, 154, 155, 156, 157, 158, 159, 160, 161, 162, 163, 164, 165, 166, 167, 168, 169] (by decide +kernel) (by decide +kernel)
set_option maxRecDepth 20000 in
theorem gX1_callOn_X5_followName : GoodIn wsX1_callOn (wsV RX1 54 RX5 yX5_followName wsX5_followName) := goodIn_app (goodIn_of _ (by decide +kernel)) ggX1_callOn_X5_followName
set_option maxRecDepth 20000 in
theorem ggX1_callOn_X5_dropHook : GoodIn wsX1_callOn wsX5_dropHook := goodIn_r _ [106, 13, 14, 15, 16, 152, 153, 154, 155, 156, 157, 158, 159, 160, 161] (by decide +kernel) (by decide +kernel)
set_option maxRecDepth 20000 in
theorem gX1_callOn_X5_dropHook : GoodIn wsX1_callOn (wsV RX1 57 RX5 yX5_dropHook wsX5_dropHook) := goodIn_app (goodIn_of _ (by decide +kernel)) ggX1_callOn_X5_dropHook
set_option maxRecDepth 20000 in
theorem ggX1_callOn_X5_beginMove : GoodIn wsX1_callOn wsX5_beginMove := goodIn_r _ [110, 12, 35, 11, 75, 13, 111, 112, 113, 91, 114, 115, 93, 71, 72, 73, 6, 74, 9, 76, 77, 78, 79, 44, 45, 46, 47, 48, 49, 50, 20, 51, 52, 27, 28, 29, 30, 26, 53, 23, 24, 25, 80, 81, 82, 83, 36, 37, 38, 39, 84, 85, 86, 87, 58, 59, 60, 88, 89, 90, 92, 94, 61, 62, 63, 64, 116, 117, 118, 119, 120, 121, 122, 123, 124, 125, 126, 127, 128, 129, 130, 131, 132, 133, 134, 135, 136, 152, 153, 154, 155, 156, 157, 158, 159, 160, 161, 167, 168, 169, 162, 163, 164, 165, 166] (by decide +kernel) (by decide +kernel)
set_option maxRecDepth 20000 in
theorem gX1_callOn_X5_beginMove : GoodIn wsX1_callOn (wsV RX1 60 RX5 yX5_beginMove wsX5_beginMove) := goodIn_app (goodIn_of _ (by decide +kernel)) ggX1_callOn_X5_beginMove
set_option maxRecDepth 20000 in
theorem ggX1_callOn_X5_carrySteps : GoodIn wsX1_callOn wsX5_carrySteps := goodIn_r _ [140, 12, 141, 142, 143, 6, 144, 75, 9, 145, 146, 147, 91, 148, 115, 93, 94, 71, 72, 73, 74, 76, 77, 78, 79, 35, 44, 45, 46, 47, 48, 49, 50, 20, 51, 52, 27, 28, 29, 30, 26, 53, 23, 24, 25, 80, 81, 82, 83, 11, 36, 37, 38, 39, 84, 85, 86, 87, 58, 59, 60, 88, 89, 90, 92, 61, 62, 63, 64, 116, 117, 118, 119, 120, 121, 122, 123, 124, 125, 126, 127, 128, 129, 130, 131, 132, 133, 134, 135, 136, 152, 153, 154, 155, 156, 157, 158, 159, 160, 161, 162, 163, 164, 165, 166, 167, 168, 169] (by decide +kernel) (by decide +kernel)
set_option maxRecDepth 20000 in
theorem gX1_callOn_X5_carrySteps : GoodIn wsX1_callOn (wsV RX1 63 RX5 yX5_carrySteps wsX5_carrySteps) := goodIn_app (goodIn_of _ (by decide +kernel)) ggX1_callOn_X5_carrySteps
theorem dX1_callOn_0 : decode cX1_callOn 0 = .ok (.aload_n 0, 1) := by decide +kernel
theorem dX1_callOn_1 : decode cX1_callOn 1 = .ok (.getfield 25, 3) := by decide +kernel
theorem dX1_callOn_4 : decode cX1_callOn 4 = .ok (.tableswitch 178 98 115 #[162, 178, 151, 178, 128, 178, 178, 178, 178, 178, 105, 88, 178, 178, 178, 178, 178, 167], 88) := by decide +kernel
theorem dX1_callOn_92 : decode cX1_callOn 92 = .ok (.aload_n 1, 1) := by decide +kernel
theorem dX1_callOn_93 : decode cX1_callOn 93 = .ok (.aload_n 0, 1) := by decide +kernel
theorem dX1_callOn_94 : decode cX1_callOn 94 = .ok (.getfield 9, 3) := by decide +kernel
theorem dX1_callOn_97 : decode cX1_callOn 97 = .ok (.iconst 0, 1) := by decide +kernel
theorem dX1_callOn_98 : decode cX1_callOn 98 = .ok (.iaload, 1) := by decide +kernel
theorem dX1_callOn_99 : decode cX1_callOn 99 = .ok (.aload_n 0, 1) := by decide +kernel
theorem dX1_callOn_100 : decode cX1_callOn 100 = .ok (.getfield 9, 3) := by decide +kernel
theorem dX1_callOn_103 : decode cX1_callOn 103 = .ok (.iconst 1, 1) := by decide +kernel
theorem dX1_callOn_104 : decode cX1_callOn 104 = .ok (.iaload, 1) := by decide +kernel
theorem dX1_callOn_105 : decode cX1_callOn 105 = .ok (.invokevirtual 44, 3) := by decide +kernel
theorem dX1_callOn_108 : decode cX1_callOn 108 = .ok (.ireturn, 1) := by decide +kernel
theorem dX1_callOn_109 : decode cX1_callOn 109 = .ok (.aload_n 1, 1) := by decide +kernel
theorem dX1_callOn_110 : decode cX1_callOn 110 = .ok (.aload_n 0, 1) := by decide +kernel
theorem dX1_callOn_111 : decode cX1_callOn 111 = .ok (.getfield 9, 3) := by decide +kernel
theorem dX1_callOn_114 : decode cX1_callOn 114 = .ok (.iconst 0, 1) := by decide +kernel
theorem dX1_callOn_115 : decode cX1_callOn 115 = .ok (.iaload, 1) := by decide +kernel
theorem dX1_callOn_116 : decode cX1_callOn 116 = .ok (.aload_n 0, 1) := by decide +kernel
theorem dX1_callOn_117 : decode cX1_callOn 117 = .ok (.getfield 9, 3) := by decide +kernel
theorem dX1_callOn_120 : decode cX1_callOn 120 = .ok (.iconst 1, 1) := by decide +kernel
theorem dX1_callOn_121 : decode cX1_callOn 121 = .ok (.iaload, 1) := by decide +kernel
theorem dX1_callOn_122 : decode cX1_callOn 122 = .ok (.aload_n 0, 1) := by decide +kernel
theorem dX1_callOn_123 : decode cX1_callOn 123 = .ok (.getfield 9, 3) := by decide +kernel
theorem dX1_callOn_126 : decode cX1_callOn 126 = .ok (.iconst 2, 1) := by decide +kernel
theorem dX1_callOn_127 : decode cX1_callOn 127 = .ok (.iaload, 1) := by decide +kernel
theorem dX1_callOn_128 : decode cX1_callOn 128 = .ok (.invokevirtual 50, 3) := by decide +kernel
theorem dX1_callOn_131 : decode cX1_callOn 131 = .ok (.ireturn, 1) := by decide +kernel
theorem dX1_callOn_132 : decode cX1_callOn 132 = .ok (.aload_n 1, 1) := by decide +kernel
theorem dX1_callOn_133 : decode cX1_callOn 133 = .ok (.aload_n 0, 1) := by decide +kernel
theorem dX1_callOn_134 : decode cX1_callOn 134 = .ok (.getfield 9, 3) := by decide +kernel
theorem dX1_callOn_137 : decode cX1_callOn 137 = .ok (.iconst 0, 1) := by decide +kernel
theorem dX1_callOn_138 : decode cX1_callOn 138 = .ok (.iaload, 1) := by decide +kernel
theorem dX1_callOn_139 : decode cX1_callOn 139 = .ok (.aload_n 0, 1) := by decide +kernel
theorem dX1_callOn_140 : decode cX1_callOn 140 = .ok (.getfield 9, 3) := by decide +kernel
theorem dX1_callOn_143 : decode cX1_callOn 143 = .ok (.iconst 1, 1) := by decide +kernel
theorem dX1_callOn_144 : decode cX1_callOn 144 = .ok (.iaload, 1) := by decide +kernel
theorem dX1_callOn_145 : decode cX1_callOn 145 = .ok (.aload_n 0, 1) := by decide +kernel
theorem dX1_callOn_146 : decode cX1_callOn 146 = .ok (.getfield 9, 3) := by decide +kernel
theorem dX1_callOn_149 : decode cX1_callOn 149 = .ok (.iconst 2, 1) := by decide +kernel
theorem dX1_callOn_150 : decode cX1_callOn 150 = .ok (.iaload, 1) := by decide +kernel
theorem dX1_callOn_151 : decode cX1_callOn 151 = .ok (.invokevirtual 54, 3) := by decide +kernel
theorem dX1_callOn_154 : decode cX1_callOn 154 = .ok (.ireturn, 1) := by decide +kernel
theorem dX1_callOn_155 : decode cX1_callOn 155 = .ok (.aload_n 1, 1) := by decide +kernel
theorem dX1_callOn_156 : decode cX1_callOn 156 = .ok (.aload_n 0, 1) := by decide +kernel
theorem dX1_callOn_157 : decode cX1_callOn 157 = .ok (.getfield 9, 3) := by decide +kernel
theorem dX1_callOn_160 : decode cX1_callOn 160 = .ok (.iconst 0, 1) := by decide +kernel
theorem dX1_callOn_161 : decode cX1_callOn 161 = .ok (.iaload, 1) := by decide +kernel
theorem dX1_callOn_162 : decode cX1_callOn 162 = .ok (.invokevirtual 57, 3) := by decide +kernel
theorem dX1_callOn_165 : decode cX1_callOn 165 = .ok (.ireturn, 1) := by decide +kernel
theorem dX1_callOn_166 : decode cX1_callOn 166 = .ok (.aload_n 1, 1) := by decide +kernel
theorem dX1_callOn_167 : decode cX1_callOn 167 = .ok (.invokevirtual 60, 3) := by decide +kernel
theorem dX1_callOn_170 : decode cX1_callOn 170 = .ok (.ireturn, 1) := by decide +kernel
theorem dX1_callOn_171 : decode cX1_callOn 171 = .ok (.aload_n 1, 1) := by decide +kernel
theorem dX1_callOn_172 : decode cX1_callOn 172 = .ok (.aload_n 0, 1) := by decide +kernel
theorem dX1_callOn_173 : decode cX1_callOn 173 = .ok (.getfield 9, 3) := by decide +kernel
theorem dX1_callOn_176 : decode cX1_callOn 176 = .ok (.iconst 0, 1) := by decide +kernel
theorem dX1_callOn_177 : decode cX1_callOn 177 = .ok (.iaload, 1) := by decide +kernel
theorem dX1_callOn_178 : decode cX1_callOn 178 = .ok (.invokevirtual 63, 3) := by decide +kernel
theorem dX1_callOn_181 : decode cX1_callOn 181 = .ok (.ireturn, 1) := by decide +kernel
theorem dX1_callOn_182 : decode cX1_callOn 182 = .ok (.iconst (-1), 1) := by decide +kernel
theorem dX1_callOn_183 : decode cX1_callOn 183 = .ok (.ireturn, 1) := by decide +kernel
set_option maxRecDepth 20000 in
theorem ggX2_init_X5_init : GoodIn wsX2_init wsX5_init := goodIn_r _ [10, 11, 2, 3, 12, 13, 14, 15, 16, 17, 18, 19, 20, 21, 22, 23, 24, 25, 26, 27, 28, 29, 30, 31, 32, 33, 34, 35, 36, 37, 38, 39, 40, 44, 45, 46, 47, 48, 49, 50, 51, 52, 53, 54, 55, 56, 57, 58, 59, 60, 61] (by decide +kernel) (by decide +kernel)
set_option maxRecDepth 20000 in
theorem gX2_init_X5_init : GoodIn wsX2_init (wsX5_init) := ggX2_init_X5_init
theorem dX2_init_0 : decode cX2_init 0 = .ok (.aload_n 0, 1) := by decide +kernel
theorem dX2_init_1 : decode cX2_init 1 = .ok (.invokespecial 3, 3) := by decide +kernel
theorem dX2_init_4 : decode cX2_init 4 = .ok (.aload_n 0, 1) := by decide +kernel
theorem dX2_init_5 : decode cX2_init 5 = .ok (.bipush 6, 2) := by decide +kernel
theorem dX2_init_7 : decode cX2_init 7 = .ok (.anewarray 9, 3) := by decide +kernel
theorem dX2_init_10 : decode cX2_init 10 = .ok (.putfield 11, 3) := by decide +kernel
theorem dX2_init_13 : decode cX2_init 13 = .ok (.iconst 0, 1) := by decide +kernel
theorem dX2_init_14 : decode cX2_init 14 = .ok (.istore_n 1, 1) := by decide +kernel
theorem dX2_init_15 : decode cX2_init 15 = .ok (.iload_n 1, 1) := by decide +kernel
theorem dX2_init_16 : decode cX2_init 16 = .ok (.bipush 6, 2) := by decide +kernel
theorem dX2_init_18 : decode cX2_init 18 = .ok (.if_icmp .ge 22, 3) := by decide +kernel
theorem dX2_init_21 : decode cX2_init 21 = .ok (.aload_n 0, 1) := by decide +kernel
theorem dX2_init_22 : decode cX2_init 22 = .ok (.getfield 11, 3) := by decide +kernel
theorem dX2_init_25 : decode cX2_init 25 = .ok (.iload_n 1, 1) := by decide +kernel
theorem dX2_init_26 : decode cX2_init 26 = .ok (.new 9, 3) := by decide +kernel
theorem dX2_init_29 : decode cX2_init 29 = .ok (.dup, 1) := by decide +kernel
theorem dX2_init_30 : decode cX2_init 30 = .ok (.invokespecial 17, 3) := by decide +kernel
theorem dX2_init_33 : decode cX2_init 33 = .ok (.aastore, 1) := by decide +kernel
theorem dX2_init_34 : decode cX2_init 34 = .ok (.iinc 1 1, 3) := by decide +kernel
theorem dX2_init_37 : decode cX2_init 37 = .ok (.goto (-22), 3) := by decide +kernel
theorem dX2_init_40 : decode cX2_init 40 = .ok (.return_, 1) := by decide +kernel
theorem dX2_size_0 : decode cX2_size 0 = .ok (.aload_n 0, 1) := by decide +kernel
theorem dX2_size_1 : decode cX2_size 1 = .ok (.getfield 18, 3) := by decide +kernel
theorem dX2_size_4 : decode cX2_size 4 = .ok (.ireturn, 1) := by decide +kernel
set_option maxRecDepth 20000 in
theorem ggX2_slotOfDraft_J9_floorMod_7cf53 : GoodIn wsX2_slotOfDraft wsJ9_floorMod_7cf53 := goodIn_r _ [6] (by decide +kernel) (by decide +kernel)
set_option maxRecDepth 20000 in
theorem gX2_slotOfDraft_J9_floorMod_7cf53 : GoodIn wsX2_slotOfDraft (va_wsS RX2 25 yJ9_floorMod_7cf53 wsJ9_floorMod_7cf53) := goodIn_app (goodIn_of _ (by decide +kernel)) ggX2_slotOfDraft_J9_floorMod_7cf53
theorem dX2_slotOfDraft_0 : decode cX2_slotOfDraft 0 = .ok (.aload_n 0, 1) := by decide +kernel
theorem dX2_slotOfDraft_1 : decode cX2_slotOfDraft 1 = .ok (.getfield 22, 3) := by decide +kernel
theorem dX2_slotOfDraft_4 : decode cX2_slotOfDraft 4 = .ok (.aload_n 0, 1) := by decide +kernel
theorem dX2_slotOfDraft_5 : decode cX2_slotOfDraft 5 = .ok (.getfield 18, 3) := by decide +kernel
theorem dX2_slotOfDraft_8 : decode cX2_slotOfDraft 8 = .ok (.iadd, 1) := by decide +kernel
theorem dX2_slotOfDraft_9 : decode cX2_slotOfDraft 9 = .ok (.bipush 6, 2) := by decide +kernel
theorem dX2_slotOfDraft_11 : decode cX2_slotOfDraft 11 = .ok (.invokestatic 25, 3) := by decide +kernel
theorem dX2_slotOfDraft_14 : decode cX2_slotOfDraft 14 = .ok (.ireturn, 1) := by decide +kernel
set_option maxRecDepth 20000 in
theorem ggX2_draft_X2_slotOfDraft : GoodIn wsX2_draft wsX2_slotOfDraft := goodIn_r _ [6, 7, 8, 9, 10, 11, 12, 52, 53, 54] (by decide +kernel) (by decide +kernel)
set_option maxRecDepth 20000 in
theorem gX2_draft_X2_slotOfDraft : GoodIn wsX2_draft (wsV RX2 31 RX2 yX2_slotOfDraft wsX2_slotOfDraft) := goodIn_app (goodIn_of _ (by decide +kernel)) ggX2_draft_X2_slotOfDraft
set_option maxRecDepth 20000 in
theorem ggX2_draft_X5_become : GoodIn wsX2_draft wsX5_become := goodIn_r _ [17, 18, 19, 20, 21, 22, 23, 24, 25, 26, 27, 28, 29, 30, 31, 32, 33, 34, 35, 36, 37, 38, 39, 40, 41, 42, 43, 44, 45, 46, 47, 48, 49, 50, 51, 55, 56, 57, 58, 59, 60, 61, 62, 63, 64, 65, 66, 67, 68, 69, 70, 71, 72] (by decide +kernel) (by decide +kernel)
set_option maxRecDepth 20000 in
theorem gX2_draft_X5_become : GoodIn wsX2_draft (wsV RX2 35 RX5 yX5_become wsX5_become) := goodIn_app (goodIn_of _ (by decide +kernel)) ggX2_draft_X5_become
theorem dX2_draft_0 : decode cX2_draft 0 = .ok (.aload_n 0, 1) := by decide +kernel
theorem dX2_draft_1 : decode cX2_draft 1 = .ok (.getfield 11, 3) := by decide +kernel
theorem dX2_draft_4 : decode cX2_draft 4 = .ok (.aload_n 0, 1) := by decide +kernel
theorem dX2_draft_5 : decode cX2_draft 5 = .ok (.invokevirtual 31, 3) := by decide +kernel
theorem dX2_draft_8 : decode cX2_draft 8 = .ok (.aaload, 1) := by decide +kernel
theorem dX2_draft_9 : decode cX2_draft 9 = .ok (.astore_n 2, 1) := by decide +kernel
theorem dX2_draft_10 : decode cX2_draft 10 = .ok (.aload_n 2, 1) := by decide +kernel
theorem dX2_draft_11 : decode cX2_draft 11 = .ok (.ifnull 8, 3) := by decide +kernel
theorem dX2_draft_14 : decode cX2_draft 14 = .ok (.aload_n 2, 1) := by decide +kernel
theorem dX2_draft_15 : decode cX2_draft 15 = .ok (.aload_n 1, 1) := by decide +kernel
theorem dX2_draft_16 : decode cX2_draft 16 = .ok (.invokevirtual 35, 3) := by decide +kernel
theorem dX2_draft_19 : decode cX2_draft 19 = .ok (.return_, 1) := by decide +kernel
set_option maxRecDepth 20000 in
theorem ggX2_keepDraft_J9_floorMod_7cf53 : GoodIn wsX2_keepDraft wsJ9_floorMod_7cf53 := goodIn_r _ [6] (by decide +kernel) (by decide +kernel)
set_option maxRecDepth 20000 in
theorem gX2_keepDraft_J9_floorMod_7cf53 : GoodIn wsX2_keepDraft (va_wsS RX2 25 yJ9_floorMod_7cf53 wsJ9_floorMod_7cf53) := goodIn_app (goodIn_of _ (by decide +kernel)) ggX2_keepDraft_J9_floorMod_7cf53
theorem dX2_keepDraft_0 : decode cX2_keepDraft 0 = .ok (.aload_n 0, 1) := by decide +kernel
theorem dX2_keepDraft_1 : decode cX2_keepDraft 1 = .ok (.getfield 18, 3) := by decide +kernel
theorem dX2_keepDraft_4 : decode cX2_keepDraft 4 = .ok (.iconst 5, 1) := by decide +kernel
theorem dX2_keepDraft_5 : decode cX2_keepDraft 5 = .ok (.if_icmp .ge 16, 3) := by decide +kernel
theorem dX2_keepDraft_8 : decode cX2_keepDraft 8 = .ok (.aload_n 0, 1) := by decide +kernel
theorem dX2_keepDraft_9 : decode cX2_keepDraft 9 = .ok (.dup, 1) := by decide +kernel
theorem dX2_keepDraft_10 : decode cX2_keepDraft 10 = .ok (.getfield 18, 3) := by decide +kernel
theorem dX2_keepDraft_13 : decode cX2_keepDraft 13 = .ok (.iconst 1, 1) := by decide +kernel
theorem dX2_keepDraft_14 : decode cX2_keepDraft 14 = .ok (.iadd, 1) := by decide +kernel
theorem dX2_keepDraft_15 : decode cX2_keepDraft 15 = .ok (.putfield 18, 3) := by decide +kernel
theorem dX2_keepDraft_18 : decode cX2_keepDraft 18 = .ok (.goto 18, 3) := by decide +kernel
theorem dX2_keepDraft_21 : decode cX2_keepDraft 21 = .ok (.aload_n 0, 1) := by decide +kernel
theorem dX2_keepDraft_22 : decode cX2_keepDraft 22 = .ok (.aload_n 0, 1) := by decide +kernel
theorem dX2_keepDraft_23 : decode cX2_keepDraft 23 = .ok (.getfield 22, 3) := by decide +kernel
theorem dX2_keepDraft_26 : decode cX2_keepDraft 26 = .ok (.iconst 1, 1) := by decide +kernel
theorem dX2_keepDraft_27 : decode cX2_keepDraft 27 = .ok (.iadd, 1) := by decide +kernel
theorem dX2_keepDraft_28 : decode cX2_keepDraft 28 = .ok (.bipush 6, 2) := by decide +kernel
theorem dX2_keepDraft_30 : decode cX2_keepDraft 30 = .ok (.invokestatic 25, 3) := by decide +kernel
theorem dX2_keepDraft_33 : decode cX2_keepDraft 33 = .ok (.putfield 22, 3) := by decide +kernel
theorem dX2_keepDraft_36 : decode cX2_keepDraft 36 = .ok (.return_, 1) := by decide +kernel
set_option maxRecDepth 20000 in
theorem ggX2_restoreDraft_X2_slotOfDraft : GoodIn wsX2_restoreDraft wsX2_slotOfDraft := goodIn_r _ [6, 7, 8, 9, 10, 11, 12, 52, 53, 54] (by decide +kernel) (by decide +kernel)
set_option maxRecDepth 20000 in
theorem gX2_restoreDraft_X2_slotOfDraft : GoodIn wsX2_restoreDraft (wsV RX2 31 RX2 yX2_slotOfDraft wsX2_slotOfDraft) := goodIn_app (goodIn_of _ (by decide +kernel)) ggX2_restoreDraft_X2_slotOfDraft
set_option maxRecDepth 20000 in
theorem ggX2_restoreDraft_X5_become : GoodIn wsX2_restoreDraft wsX5_become := goodIn_r _ [17, 18, 19, 20, 21, 22, 23, 24, 25, 26, 27, 28, 29, 30, 31, 32, 33, 34, 35, 36, 37, 38, 39, 40, 41, 42, 43, 44, 45, 46, 47, 48, 49, 50, 51, 55, 56, 57, 58, 59, 60, 61, 62, 63, 64, 65, 66, 67, 68, 69, 70, 71, 72] (by decide +kernel) (by decide +kernel)
set_option maxRecDepth 20000 in
theorem gX2_restoreDraft_X5_become : GoodIn wsX2_restoreDraft (wsV RX2 35 RX5 yX5_become wsX5_become) := goodIn_app (goodIn_of _ (by decide +kernel)) ggX2_restoreDraft_X5_become
theorem dX2_restoreDraft_0 : decode cX2_restoreDraft 0 = .ok (.aload_n 0, 1) := by decide +kernel
theorem dX2_restoreDraft_1 : decode cX2_restoreDraft 1 = .ok (.getfield 11, 3) := by decide +kernel
theorem dX2_restoreDraft_4 : decode cX2_restoreDraft 4 = .ok (.aload_n 0, 1) := by decide +kernel
theorem dX2_restoreDraft_5 : decode cX2_restoreDraft 5 = .ok (.invokevirtual 31, 3) := by decide +kernel
theorem dX2_restoreDraft_8 : decode cX2_restoreDraft 8 = .ok (.aaload, 1) := by decide +kernel
theorem dX2_restoreDraft_9 : decode cX2_restoreDraft 9 = .ok (.astore_n 2, 1) := by decide +kernel
theorem dX2_restoreDraft_10 : decode cX2_restoreDraft 10 = .ok (.aload_n 2, 1) := by decide +kernel
theorem dX2_restoreDraft_11 : decode cX2_restoreDraft 11 = .ok (.ifnull 8, 3) := by decide +kernel
theorem dX2_restoreDraft_14 : decode cX2_restoreDraft 14 = .ok (.aload_n 1, 1) := by decide +kernel
theorem dX2_restoreDraft_15 : decode cX2_restoreDraft 15 = .ok (.aload_n 2, 1) := by decide +kernel
theorem dX2_restoreDraft_16 : decode cX2_restoreDraft 16 = .ok (.invokevirtual 35, 3) := by decide +kernel
theorem dX2_restoreDraft_19 : decode cX2_restoreDraft 19 = .ok (.return_, 1) := by decide +kernel
set_option maxRecDepth 20000 in
theorem ggX2_restoreLatest_X2_restoreDraft : GoodIn wsX2_restoreLatest wsX2_restoreDraft := goodIn_r _ [6, 7, 8, 9, 10, 5, 11, 12, 1, 13, 14, 15, 16, 17, 18, 19, 20, 21, 22, 23, 24, 25, 26, 27, 28, 29, 30, 31, 32, 33, 34, 35, 36, 37, 38, 39, 40, 41, 42, 43, 44, 45, 46, 47, 48, 49, 50, 51, 52, 53, 54, 55, 56, 57, 58, 59, 60, 61, 62, 63, 64, 65, 66, 67, 68, 69, 70, 71, 72, 73, 74, 75, 76] (by decide +kernel) (by decide +kernel)
set_option maxRecDepth 20000 in
theorem gX2_restoreLatest_X2_restoreDraft : GoodIn wsX2_restoreLatest (wsV RX2 39 RX2 yX2_restoreDraft wsX2_restoreDraft) := goodIn_app (goodIn_of _ (by decide +kernel)) ggX2_restoreLatest_X2_restoreDraft
theorem dX2_restoreLatest_0 : decode cX2_restoreLatest 0 = .ok (.aload_n 0, 1) := by decide +kernel
theorem dX2_restoreLatest_1 : decode cX2_restoreLatest 1 = .ok (.getfield 18, 3) := by decide +kernel
theorem dX2_restoreLatest_4 : decode cX2_restoreLatest 4 = .ok (.ifCond .le 18, 3) := by decide +kernel
theorem dX2_restoreLatest_7 : decode cX2_restoreLatest 7 = .ok (.aload_n 0, 1) := by decide +kernel
theorem dX2_restoreLatest_8 : decode cX2_restoreLatest 8 = .ok (.dup, 1) := by decide +kernel
theorem dX2_restoreLatest_9 : decode cX2_restoreLatest 9 = .ok (.getfield 18, 3) := by decide +kernel
theorem dX2_restoreLatest_12 : decode cX2_restoreLatest 12 = .ok (.iconst 1, 1) := by decide +kernel
theorem dX2_restoreLatest_13 : decode cX2_restoreLatest 13 = .ok (.isub, 1) := by decide +kernel
theorem dX2_restoreLatest_14 : decode cX2_restoreLatest 14 = .ok (.putfield 18, 3) := by decide +kernel
theorem dX2_restoreLatest_17 : decode cX2_restoreLatest 17 = .ok (.aload_n 0, 1) := by decide +kernel
theorem dX2_restoreLatest_18 : decode cX2_restoreLatest 18 = .ok (.aload_n 1, 1) := by decide +kernel
theorem dX2_restoreLatest_19 : decode cX2_restoreLatest 19 = .ok (.invokevirtual 39, 3) := by decide +kernel
theorem dX2_restoreLatest_22 : decode cX2_restoreLatest 22 = .ok (.return_, 1) := by decide +kernel
theorem dX3_init_0 : decode cX3_init 0 = .ok (.aload_n 0, 1) := by decide +kernel
theorem dX3_init_1 : decode cX3_init 1 = .ok (.invokespecial 3, 3) := by decide +kernel
theorem dX3_init_4 : decode cX3_init 4 = .ok (.aload_n 0, 1) := by decide +kernel
theorem dX3_init_5 : decode cX3_init 5 = .ok (.bipush 124, 2) := by decide +kernel
theorem dX3_init_7 : decode cX3_init 7 = .ok (.newarray .int, 2) := by decide +kernel
theorem dX3_init_9 : decode cX3_init 9 = .ok (.putfield 9, 3) := by decide +kernel
theorem dX3_init_12 : decode cX3_init 12 = .ok (.return_, 1) := by decide +kernel
theorem dX3_become_0 : decode cX3_become 0 = .ok (.aload_n 1, 1) := by decide +kernel
theorem dX3_become_1 : decode cX3_become 1 = .ok (.getfield 9, 3) := by decide +kernel
theorem dX3_become_4 : decode cX3_become 4 = .ok (.iconst 0, 1) := by decide +kernel
theorem dX3_become_5 : decode cX3_become 5 = .ok (.aload_n 0, 1) := by decide +kernel
theorem dX3_become_6 : decode cX3_become 6 = .ok (.getfield 9, 3) := by decide +kernel
theorem dX3_become_9 : decode cX3_become 9 = .ok (.iconst 0, 1) := by decide +kernel
theorem dX3_become_10 : decode cX3_become 10 = .ok (.bipush 124, 2) := by decide +kernel
theorem dX3_become_12 : decode cX3_become 12 = .ok (.invokestatic 15, 3) := by decide +kernel
theorem dX3_become_15 : decode cX3_become 15 = .ok (.aload_n 0, 1) := by decide +kernel
theorem dX3_become_16 : decode cX3_become 16 = .ok (.aload_n 1, 1) := by decide +kernel
theorem dX3_become_17 : decode cX3_become 17 = .ok (.getfield 21, 3) := by decide +kernel
theorem dX3_become_20 : decode cX3_become 20 = .ok (.putfield 21, 3) := by decide +kernel
theorem dX3_become_23 : decode cX3_become 23 = .ok (.aload_n 0, 1) := by decide +kernel
theorem dX3_become_24 : decode cX3_become 24 = .ok (.aload_n 1, 1) := by decide +kernel
theorem dX3_become_25 : decode cX3_become 25 = .ok (.getfield 25, 3) := by decide +kernel
theorem dX3_become_28 : decode cX3_become 28 = .ok (.putfield 25, 3) := by decide +kernel
theorem dX3_become_31 : decode cX3_become 31 = .ok (.return_, 1) := by decide +kernel
theorem dX3_clear_0 : decode cX3_clear 0 = .ok (.aload_n 0, 1) := by decide +kernel
theorem dX3_clear_1 : decode cX3_clear 1 = .ok (.iconst 0, 1) := by decide +kernel
theorem dX3_clear_2 : decode cX3_clear 2 = .ok (.putfield 21, 3) := by decide +kernel
theorem dX3_clear_5 : decode cX3_clear 5 = .ok (.aload_n 0, 1) := by decide +kernel
theorem dX3_clear_6 : decode cX3_clear 6 = .ok (.iconst 0, 1) := by decide +kernel
theorem dX3_clear_7 : decode cX3_clear 7 = .ok (.putfield 25, 3) := by decide +kernel
theorem dX3_clear_10 : decode cX3_clear 10 = .ok (.return_, 1) := by decide +kernel
theorem dX3_size_0 : decode cX3_size 0 = .ok (.aload_n 0, 1) := by decide +kernel
theorem dX3_size_1 : decode cX3_size 1 = .ok (.getfield 25, 3) := by decide +kernel
theorem dX3_size_4 : decode cX3_size 4 = .ok (.aload_n 0, 1) := by decide +kernel
theorem dX3_size_5 : decode cX3_size 5 = .ok (.getfield 21, 3) := by decide +kernel
theorem dX3_size_8 : decode cX3_size 8 = .ok (.isub, 1) := by decide +kernel
theorem dX3_size_9 : decode cX3_size 9 = .ok (.ireturn, 1) := by decide +kernel
theorem dX3_join_0 : decode cX3_join 0 = .ok (.aload_n 0, 1) := by decide +kernel
theorem dX3_join_1 : decode cX3_join 1 = .ok (.getfield 25, 3) := by decide +kernel
theorem dX3_join_4 : decode cX3_join 4 = .ok (.ifCond .lt 32, 3) := by decide +kernel
theorem dX3_join_7 : decode cX3_join 7 = .ok (.aload_n 0, 1) := by decide +kernel
theorem dX3_join_8 : decode cX3_join 8 = .ok (.getfield 25, 3) := by decide +kernel
theorem dX3_join_11 : decode cX3_join 11 = .ok (.bipush 124, 2) := by decide +kernel
theorem dX3_join_13 : decode cX3_join 13 = .ok (.if_icmp .ge 23, 3) := by decide +kernel
theorem dX3_join_16 : decode cX3_join 16 = .ok (.aload_n 0, 1) := by decide +kernel
theorem dX3_join_17 : decode cX3_join 17 = .ok (.getfield 9, 3) := by decide +kernel
theorem dX3_join_20 : decode cX3_join 20 = .ok (.aload_n 0, 1) := by decide +kernel
theorem dX3_join_21 : decode cX3_join 21 = .ok (.getfield 25, 3) := by decide +kernel
theorem dX3_join_24 : decode cX3_join 24 = .ok (.iload_n 1, 1) := by decide +kernel
theorem dX3_join_25 : decode cX3_join 25 = .ok (.iastore, 1) := by decide +kernel
theorem dX3_join_26 : decode cX3_join 26 = .ok (.aload_n 0, 1) := by decide +kernel
theorem dX3_join_27 : decode cX3_join 27 = .ok (.dup, 1) := by decide +kernel
theorem dX3_join_28 : decode cX3_join 28 = .ok (.getfield 25, 3) := by decide +kernel
theorem dX3_join_31 : decode cX3_join 31 = .ok (.iconst 1, 1) := by decide +kernel
theorem dX3_join_32 : decode cX3_join 32 = .ok (.iadd, 1) := by decide +kernel
theorem dX3_join_33 : decode cX3_join 33 = .ok (.putfield 25, 3) := by decide +kernel
theorem dX3_join_36 : decode cX3_join 36 = .ok (.return_, 1) := by decide +kernel
theorem dX3_takeFirst_0 : decode cX3_takeFirst 0 = .ok (.aload_n 0, 1) := by decide +kernel
theorem dX3_takeFirst_1 : decode cX3_takeFirst 1 = .ok (.getfield 21, 3) := by decide +kernel
theorem dX3_takeFirst_4 : decode cX3_takeFirst 4 = .ok (.ifCond .lt 23, 3) := by decide +kernel
theorem dX3_takeFirst_7 : decode cX3_takeFirst 7 = .ok (.aload_n 0, 1) := by decide +kernel
theorem dX3_takeFirst_8 : decode cX3_takeFirst 8 = .ok (.getfield 21, 3) := by decide +kernel
theorem dX3_takeFirst_11 : decode cX3_takeFirst 11 = .ok (.aload_n 0, 1) := by decide +kernel
theorem dX3_takeFirst_12 : decode cX3_takeFirst 12 = .ok (.getfield 25, 3) := by decide +kernel
theorem dX3_takeFirst_15 : decode cX3_takeFirst 15 = .ok (.if_icmp .ge 12, 3) := by decide +kernel
theorem dX3_takeFirst_18 : decode cX3_takeFirst 18 = .ok (.aload_n 0, 1) := by decide +kernel
theorem dX3_takeFirst_19 : decode cX3_takeFirst 19 = .ok (.getfield 21, 3) := by decide +kernel
theorem dX3_takeFirst_22 : decode cX3_takeFirst 22 = .ok (.bipush 124, 2) := by decide +kernel
theorem dX3_takeFirst_24 : decode cX3_takeFirst 24 = .ok (.if_icmp .lt 7, 3) := by decide +kernel
theorem dX3_takeFirst_27 : decode cX3_takeFirst 27 = .ok (.sipush 300, 3) := by decide +kernel
theorem dX3_takeFirst_30 : decode cX3_takeFirst 30 = .ok (.ireturn, 1) := by decide +kernel
theorem dX3_takeFirst_31 : decode cX3_takeFirst 31 = .ok (.aload_n 0, 1) := by decide +kernel
theorem dX3_takeFirst_32 : decode cX3_takeFirst 32 = .ok (.dup, 1) := by decide +kernel
theorem dX3_takeFirst_33 : decode cX3_takeFirst 33 = .ok (.getfield 21, 3) := by decide +kernel
theorem dX3_takeFirst_36 : decode cX3_takeFirst 36 = .ok (.iconst 1, 1) := by decide +kernel
theorem dX3_takeFirst_37 : decode cX3_takeFirst 37 = .ok (.iadd, 1) := by decide +kernel
theorem dX3_takeFirst_38 : decode cX3_takeFirst 38 = .ok (.putfield 21, 3) := by decide +kernel
theorem dX3_takeFirst_41 : decode cX3_takeFirst 41 = .ok (.aload_n 0, 1) := by decide +kernel
theorem dX3_takeFirst_42 : decode cX3_takeFirst 42 = .ok (.getfield 9, 3) := by decide +kernel
theorem dX3_takeFirst_45 : decode cX3_takeFirst 45 = .ok (.aload_n 0, 1) := by decide +kernel
theorem dX3_takeFirst_46 : decode cX3_takeFirst 46 = .ok (.getfield 21, 3) := by decide +kernel
theorem dX3_takeFirst_49 : decode cX3_takeFirst 49 = .ok (.iconst 1, 1) := by decide +kernel
theorem dX3_takeFirst_50 : decode cX3_takeFirst 50 = .ok (.isub, 1) := by decide +kernel
theorem dX3_takeFirst_51 : decode cX3_takeFirst 51 = .ok (.iaload, 1) := by decide +kernel
theorem dX3_takeFirst_52 : decode cX3_takeFirst 52 = .ok (.ireturn, 1) := by decide +kernel
theorem dX4_init_0 : decode cX4_init 0 = .ok (.aload_n 0, 1) := by decide +kernel
theorem dX4_init_1 : decode cX4_init 1 = .ok (.invokespecial 3, 3) := by decide +kernel
theorem dX4_init_4 : decode cX4_init 4 = .ok (.aload_n 0, 1) := by decide +kernel
theorem dX4_init_5 : decode cX4_init 5 = .ok (.sipush 260, 3) := by decide +kernel
theorem dX4_init_8 : decode cX4_init 8 = .ok (.newarray .boolean, 2) := by decide +kernel
theorem dX4_init_10 : decode cX4_init 10 = .ok (.putfield 9, 3) := by decide +kernel
theorem dX4_init_13 : decode cX4_init 13 = .ok (.aload_n 0, 1) := by decide +kernel
theorem dX4_init_14 : decode cX4_init 14 = .ok (.sipush 260, 3) := by decide +kernel
theorem dX4_init_17 : decode cX4_init 17 = .ok (.newarray .int, 2) := by decide +kernel
theorem dX4_init_19 : decode cX4_init 19 = .ok (.putfield 15, 3) := by decide +kernel
theorem dX4_init_22 : decode cX4_init 22 = .ok (.aload_n 0, 1) := by decide +kernel
theorem dX4_init_23 : decode cX4_init 23 = .ok (.bipush 40, 2) := by decide +kernel
theorem dX4_init_25 : decode cX4_init 25 = .ok (.newarray .boolean, 2) := by decide +kernel
theorem dX4_init_27 : decode cX4_init 27 = .ok (.putfield 19, 3) := by decide +kernel
theorem dX4_init_30 : decode cX4_init 30 = .ok (.return_, 1) := by decide +kernel
theorem dX4_clear_0 : decode cX4_clear 0 = .ok (.iconst 0, 1) := by decide +kernel
theorem dX4_clear_1 : decode cX4_clear 1 = .ok (.istore_n 1, 1) := by decide +kernel
theorem dX4_clear_2 : decode cX4_clear 2 = .ok (.iload_n 1, 1) := by decide +kernel
theorem dX4_clear_3 : decode cX4_clear 3 = .ok (.sipush 260, 3) := by decide +kernel
theorem dX4_clear_6 : decode cX4_clear 6 = .ok (.if_icmp .ge 16, 3) := by decide +kernel
theorem dX4_clear_9 : decode cX4_clear 9 = .ok (.aload_n 0, 1) := by decide +kernel
theorem dX4_clear_10 : decode cX4_clear 10 = .ok (.getfield 9, 3) := by decide +kernel
theorem dX4_clear_13 : decode cX4_clear 13 = .ok (.iload_n 1, 1) := by decide +kernel
theorem dX4_clear_14 : decode cX4_clear 14 = .ok (.iconst 0, 1) := by decide +kernel
theorem dX4_clear_15 : decode cX4_clear 15 = .ok (.bastore, 1) := by decide +kernel
theorem dX4_clear_16 : decode cX4_clear 16 = .ok (.iinc 1 1, 3) := by decide +kernel
theorem dX4_clear_19 : decode cX4_clear 19 = .ok (.goto (-17), 3) := by decide +kernel
theorem dX4_clear_22 : decode cX4_clear 22 = .ok (.aload_n 0, 1) := by decide +kernel
theorem dX4_clear_23 : decode cX4_clear 23 = .ok (.iconst 0, 1) := by decide +kernel
theorem dX4_clear_24 : decode cX4_clear 24 = .ok (.putfield 22, 3) := by decide +kernel
theorem dX4_clear_27 : decode cX4_clear 27 = .ok (.return_, 1) := by decide +kernel
set_option maxRecDepth 20000 in
theorem ggX4_add_X0_leadsTo : GoodIn wsX4_add wsX0_leadsTo := goodIn_r _ [8, 9, 10, 11, 7, 12, 13, 14, 15, 16, 17, 18, 29, 30, 31, 32, 33] (by decide +kernel) (by decide +kernel)
set_option maxRecDepth 20000 in
theorem gX4_add_X0_leadsTo : GoodIn wsX4_add (wsV RX4 26 RX0 yX0_leadsTo wsX0_leadsTo) := goodIn_app (goodIn_of _ (by decide +kernel)) ggX4_add_X0_leadsTo
set_option maxRecDepth 20000 in
theorem ggX4_add_X0_isAt : GoodIn wsX4_add wsX0_isAt := goodIn_r _ [17, 18, 29, 30, 31, 32, 33] (by decide +kernel) (by decide +kernel)
set_option maxRecDepth 20000 in
theorem gX4_add_X0_isAt : GoodIn wsX4_add (wsV RX4 32 RX0 yX0_isAt wsX0_isAt) := goodIn_app (goodIn_of _ (by decide +kernel)) ggX4_add_X0_isAt
set_option maxRecDepth 20000 in
theorem ggX4_add_X4_isReached : GoodIn wsX4_add wsX4_isReached := goodIn_r _ [24, 2, 25, 26, 27, 28] (by decide +kernel) (by decide +kernel)
set_option maxRecDepth 20000 in
theorem gX4_add_X4_isReached : GoodIn wsX4_add (wsV RX4 36 RX4 yX4_isReached wsX4_isReached) := goodIn_app (goodIn_of _ (by decide +kernel)) ggX4_add_X4_isReached
theorem dX4_add_0 : decode cX4_add 0 = .ok (.aload_n 1, 1) := by decide +kernel
theorem dX4_add_1 : decode cX4_add 1 = .ok (.iload_n 2, 1) := by decide +kernel
theorem dX4_add_2 : decode cX4_add 2 = .ok (.invokevirtual 26, 3) := by decide +kernel
theorem dX4_add_5 : decode cX4_add 5 = .ok (.istore_n 3, 1) := by decide +kernel
theorem dX4_add_6 : decode cX4_add 6 = .ok (.aload_n 1, 1) := by decide +kernel
theorem dX4_add_7 : decode cX4_add 7 = .ok (.iload_n 3, 1) := by decide +kernel
theorem dX4_add_8 : decode cX4_add 8 = .ok (.invokevirtual 32, 3) := by decide +kernel
theorem dX4_add_11 : decode cX4_add 11 = .ok (.ifCond .eq 48, 3) := by decide +kernel
theorem dX4_add_14 : decode cX4_add 14 = .ok (.aload_n 0, 1) := by decide +kernel
theorem dX4_add_15 : decode cX4_add 15 = .ok (.iload_n 3, 1) := by decide +kernel
theorem dX4_add_16 : decode cX4_add 16 = .ok (.invokevirtual 36, 3) := by decide +kernel
theorem dX4_add_19 : decode cX4_add 19 = .ok (.ifCond .ne 40, 3) := by decide +kernel
theorem dX4_add_22 : decode cX4_add 22 = .ok (.aload_n 0, 1) := by decide +kernel
theorem dX4_add_23 : decode cX4_add 23 = .ok (.getfield 22, 3) := by decide +kernel
theorem dX4_add_26 : decode cX4_add 26 = .ok (.sipush 260, 3) := by decide +kernel
theorem dX4_add_29 : decode cX4_add 29 = .ok (.if_icmp .ge 30, 3) := by decide +kernel
theorem dX4_add_32 : decode cX4_add 32 = .ok (.aload_n 0, 1) := by decide +kernel
theorem dX4_add_33 : decode cX4_add 33 = .ok (.getfield 9, 3) := by decide +kernel
theorem dX4_add_36 : decode cX4_add 36 = .ok (.iload_n 3, 1) := by decide +kernel
theorem dX4_add_37 : decode cX4_add 37 = .ok (.iconst 1, 1) := by decide +kernel
theorem dX4_add_38 : decode cX4_add 38 = .ok (.bastore, 1) := by decide +kernel
theorem dX4_add_39 : decode cX4_add 39 = .ok (.aload_n 0, 1) := by decide +kernel
theorem dX4_add_40 : decode cX4_add 40 = .ok (.getfield 15, 3) := by decide +kernel
theorem dX4_add_43 : decode cX4_add 43 = .ok (.aload_n 0, 1) := by decide +kernel
theorem dX4_add_44 : decode cX4_add 44 = .ok (.getfield 22, 3) := by decide +kernel
theorem dX4_add_47 : decode cX4_add 47 = .ok (.iload_n 3, 1) := by decide +kernel
theorem dX4_add_48 : decode cX4_add 48 = .ok (.iastore, 1) := by decide +kernel
theorem dX4_add_49 : decode cX4_add 49 = .ok (.aload_n 0, 1) := by decide +kernel
theorem dX4_add_50 : decode cX4_add 50 = .ok (.dup, 1) := by decide +kernel
theorem dX4_add_51 : decode cX4_add 51 = .ok (.getfield 22, 3) := by decide +kernel
theorem dX4_add_54 : decode cX4_add 54 = .ok (.iconst 1, 1) := by decide +kernel
theorem dX4_add_55 : decode cX4_add 55 = .ok (.iadd, 1) := by decide +kernel
theorem dX4_add_56 : decode cX4_add 56 = .ok (.putfield 22, 3) := by decide +kernel
theorem dX4_add_59 : decode cX4_add 59 = .ok (.return_, 1) := by decide +kernel
theorem dX4_isReached_0 : decode cX4_isReached 0 = .ok (.iload_n 1, 1) := by decide +kernel
theorem dX4_isReached_1 : decode cX4_isReached 1 = .ok (.ifCond .lt 23, 3) := by decide +kernel
theorem dX4_isReached_4 : decode cX4_isReached 4 = .ok (.iload_n 1, 1) := by decide +kernel
theorem dX4_isReached_5 : decode cX4_isReached 5 = .ok (.sipush 260, 3) := by decide +kernel
theorem dX4_isReached_8 : decode cX4_isReached 8 = .ok (.if_icmp .ge 16, 3) := by decide +kernel
theorem dX4_isReached_11 : decode cX4_isReached 11 = .ok (.aload_n 0, 1) := by decide +kernel
theorem dX4_isReached_12 : decode cX4_isReached 12 = .ok (.getfield 9, 3) := by decide +kernel
theorem dX4_isReached_15 : decode cX4_isReached 15 = .ok (.iload_n 1, 1) := by decide +kernel
theorem dX4_isReached_16 : decode cX4_isReached 16 = .ok (.baload, 1) := by decide +kernel
theorem dX4_isReached_17 : decode cX4_isReached 17 = .ok (.ifCond .eq 7, 3) := by decide +kernel
theorem dX4_isReached_20 : decode cX4_isReached 20 = .ok (.iconst 1, 1) := by decide +kernel
theorem dX4_isReached_21 : decode cX4_isReached 21 = .ok (.goto 4, 3) := by decide +kernel
theorem dX4_isReached_24 : decode cX4_isReached 24 = .ok (.iconst 0, 1) := by decide +kernel
theorem dX4_isReached_25 : decode cX4_isReached 25 = .ok (.ireturn, 1) := by decide +kernel
set_option maxRecDepth 20000 in
theorem ggX4_spread_X0_nameAt : GoodIn wsX4_spread wsX0_nameAt := goodIn_r _ [7, 8, 9, 10, 11, 6, 12, 13, 14, 15, 16, 41, 42, 43, 44, 45] (by decide +kernel) (by decide +kernel)
set_option maxRecDepth 20000 in
theorem gX4_spread_X0_nameAt : GoodIn wsX4_spread (wsV RX4 39 RX0 yX0_nameAt wsX0_nameAt) := goodIn_app (goodIn_of _ (by decide +kernel)) ggX4_spread_X0_nameAt
set_option maxRecDepth 20000 in
theorem ggX4_spread_X4_add : GoodIn wsX4_spread wsX4_add := goodIn_r _ [21, 1, 22, 2, 23, 24, 25, 6, 26, 27, 28, 29, 30, 31, 9, 10, 11, 12, 13, 32, 33, 34, 35, 20, 36, 37, 38, 39, 40, 41, 42, 43, 44, 45] (by decide +kernel) (by decide +kernel)
set_option maxRecDepth 20000 in
theorem gX4_spread_X4_add : GoodIn wsX4_spread (wsV RX4 43 RX4 yX4_add wsX4_add) := goodIn_app (goodIn_of _ (by decide +kernel)) ggX4_spread_X4_add
theorem dX4_spread_0 : decode cX4_spread 0 = .ok (.iconst 0, 1) := by decide +kernel
theorem dX4_spread_1 : decode cX4_spread 1 = .ok (.istore_n 2, 1) := by decide +kernel
theorem dX4_spread_2 : decode cX4_spread 2 = .ok (.iload_n 2, 1) := by decide +kernel
theorem dX4_spread_3 : decode cX4_spread 3 = .ok (.aload_n 0, 1) := by decide +kernel
theorem dX4_spread_4 : decode cX4_spread 4 = .ok (.getfield 22, 3) := by decide +kernel
theorem dX4_spread_7 : decode cX4_spread 7 = .ok (.if_icmp .ge 48, 3) := by decide +kernel
theorem dX4_spread_10 : decode cX4_spread 10 = .ok (.iload_n 2, 1) := by decide +kernel
theorem dX4_spread_11 : decode cX4_spread 11 = .ok (.sipush 260, 3) := by decide +kernel
theorem dX4_spread_14 : decode cX4_spread 14 = .ok (.if_icmp .ge 41, 3) := by decide +kernel
theorem dX4_spread_17 : decode cX4_spread 17 = .ok (.aload_n 0, 1) := by decide +kernel
theorem dX4_spread_18 : decode cX4_spread 18 = .ok (.aload_n 1, 1) := by decide +kernel
theorem dX4_spread_19 : decode cX4_spread 19 = .ok (.aload_n 1, 1) := by decide +kernel
theorem dX4_spread_20 : decode cX4_spread 20 = .ok (.aload_n 0, 1) := by decide +kernel
theorem dX4_spread_21 : decode cX4_spread 21 = .ok (.getfield 15, 3) := by decide +kernel
theorem dX4_spread_24 : decode cX4_spread 24 = .ok (.iload_n 2, 1) := by decide +kernel
theorem dX4_spread_25 : decode cX4_spread 25 = .ok (.iaload, 1) := by decide +kernel
theorem dX4_spread_26 : decode cX4_spread 26 = .ok (.iconst 0, 1) := by decide +kernel
theorem dX4_spread_27 : decode cX4_spread 27 = .ok (.invokevirtual 39, 3) := by decide +kernel
theorem dX4_spread_30 : decode cX4_spread 30 = .ok (.invokevirtual 43, 3) := by decide +kernel
theorem dX4_spread_33 : decode cX4_spread 33 = .ok (.aload_n 0, 1) := by decide +kernel
theorem dX4_spread_34 : decode cX4_spread 34 = .ok (.aload_n 1, 1) := by decide +kernel
theorem dX4_spread_35 : decode cX4_spread 35 = .ok (.aload_n 1, 1) := by decide +kernel
theorem dX4_spread_36 : decode cX4_spread 36 = .ok (.aload_n 0, 1) := by decide +kernel
theorem dX4_spread_37 : decode cX4_spread 37 = .ok (.getfield 15, 3) := by decide +kernel
theorem dX4_spread_40 : decode cX4_spread 40 = .ok (.iload_n 2, 1) := by decide +kernel
theorem dX4_spread_41 : decode cX4_spread 41 = .ok (.iaload, 1) := by decide +kernel
theorem dX4_spread_42 : decode cX4_spread 42 = .ok (.iconst 1, 1) := by decide +kernel
theorem dX4_spread_43 : decode cX4_spread 43 = .ok (.invokevirtual 39, 3) := by decide +kernel
theorem dX4_spread_46 : decode cX4_spread 46 = .ok (.invokevirtual 43, 3) := by decide +kernel
theorem dX4_spread_49 : decode cX4_spread 49 = .ok (.iinc 2 1, 3) := by decide +kernel
theorem dX4_spread_52 : decode cX4_spread 52 = .ok (.goto (-50), 3) := by decide +kernel
theorem dX4_spread_55 : decode cX4_spread 55 = .ok (.return_, 1) := by decide +kernel
set_option maxRecDepth 20000 in
theorem ggX4_differentThings_X0_thingAt : GoodIn wsX4_differentThings wsX0_thingAt := goodIn_r _ [8, 9, 10, 11, 12, 7, 13, 14, 19, 20, 21, 22, 23] (by decide +kernel) (by decide +kernel)
set_option maxRecDepth 20000 in
theorem gX4_differentThings_X0_thingAt : GoodIn wsX4_differentThings (wsV RX4 47 RX0 yX0_thingAt wsX0_thingAt) := goodIn_app (goodIn_of _ (by decide +kernel)) ggX4_differentThings_X0_thingAt
theorem dX4_differentThings_0 : decode cX4_differentThings 0 = .ok (.iconst 0, 1) := by decide +kernel
theorem dX4_differentThings_1 : decode cX4_differentThings 1 = .ok (.istore_n 2, 1) := by decide +kernel
theorem dX4_differentThings_2 : decode cX4_differentThings 2 = .ok (.iload_n 2, 1) := by decide +kernel
theorem dX4_differentThings_3 : decode cX4_differentThings 3 = .ok (.bipush 40, 2) := by decide +kernel
theorem dX4_differentThings_5 : decode cX4_differentThings 5 = .ok (.if_icmp .ge 16, 3) := by decide +kernel
theorem dX4_differentThings_8 : decode cX4_differentThings 8 = .ok (.aload_n 0, 1) := by decide +kernel
theorem dX4_differentThings_9 : decode cX4_differentThings 9 = .ok (.getfield 19, 3) := by decide +kernel
theorem dX4_differentThings_12 : decode cX4_differentThings 12 = .ok (.iload_n 2, 1) := by decide +kernel
theorem dX4_differentThings_13 : decode cX4_differentThings 13 = .ok (.iconst 0, 1) := by decide +kernel
theorem dX4_differentThings_14 : decode cX4_differentThings 14 = .ok (.bastore, 1) := by decide +kernel
theorem dX4_differentThings_15 : decode cX4_differentThings 15 = .ok (.iinc 2 1, 3) := by decide +kernel
theorem dX4_differentThings_18 : decode cX4_differentThings 18 = .ok (.goto (-16), 3) := by decide +kernel
theorem dX4_differentThings_21 : decode cX4_differentThings 21 = .ok (.iconst 0, 1) := by decide +kernel
theorem dX4_differentThings_22 : decode cX4_differentThings 22 = .ok (.istore_n 2, 1) := by decide +kernel
theorem dX4_differentThings_23 : decode cX4_differentThings 23 = .ok (.iconst 0, 1) := by decide +kernel
theorem dX4_differentThings_24 : decode cX4_differentThings 24 = .ok (.istore_n 3, 1) := by decide +kernel
theorem dX4_differentThings_25 : decode cX4_differentThings 25 = .ok (.iload_n 3, 1) := by decide +kernel
theorem dX4_differentThings_26 : decode cX4_differentThings 26 = .ok (.aload_n 0, 1) := by decide +kernel
theorem dX4_differentThings_27 : decode cX4_differentThings 27 = .ok (.getfield 22, 3) := by decide +kernel
theorem dX4_differentThings_30 : decode cX4_differentThings 30 = .ok (.if_icmp .ge 61, 3) := by decide +kernel
theorem dX4_differentThings_33 : decode cX4_differentThings 33 = .ok (.iload_n 3, 1) := by decide +kernel
theorem dX4_differentThings_34 : decode cX4_differentThings 34 = .ok (.sipush 260, 3) := by decide +kernel
theorem dX4_differentThings_37 : decode cX4_differentThings 37 = .ok (.if_icmp .ge 54, 3) := by decide +kernel
theorem dX4_differentThings_40 : decode cX4_differentThings 40 = .ok (.aload_n 1, 1) := by decide +kernel
theorem dX4_differentThings_41 : decode cX4_differentThings 41 = .ok (.aload_n 0, 1) := by decide +kernel
theorem dX4_differentThings_42 : decode cX4_differentThings 42 = .ok (.getfield 15, 3) := by decide +kernel
theorem dX4_differentThings_45 : decode cX4_differentThings 45 = .ok (.iload_n 3, 1) := by decide +kernel
theorem dX4_differentThings_46 : decode cX4_differentThings 46 = .ok (.iaload, 1) := by decide +kernel
theorem dX4_differentThings_47 : decode cX4_differentThings 47 = .ok (.invokevirtual 47, 3) := by decide +kernel
theorem dX4_differentThings_50 : decode cX4_differentThings 50 = .ok (.istore 4, 2) := by decide +kernel
theorem dX4_differentThings_52 : decode cX4_differentThings 52 = .ok (.iload 4, 2) := by decide +kernel
theorem dX4_differentThings_54 : decode cX4_differentThings 54 = .ok (.ifCond .lt 31, 3) := by decide +kernel
theorem dX4_differentThings_57 : decode cX4_differentThings 57 = .ok (.iload 4, 2) := by decide +kernel
theorem dX4_differentThings_59 : decode cX4_differentThings 59 = .ok (.bipush 40, 2) := by decide +kernel
theorem dX4_differentThings_61 : decode cX4_differentThings 61 = .ok (.if_icmp .ge 24, 3) := by decide +kernel
theorem dX4_differentThings_64 : decode cX4_differentThings 64 = .ok (.aload_n 0, 1) := by decide +kernel
theorem dX4_differentThings_65 : decode cX4_differentThings 65 = .ok (.getfield 19, 3) := by decide +kernel
theorem dX4_differentThings_68 : decode cX4_differentThings 68 = .ok (.iload 4, 2) := by decide +kernel
theorem dX4_differentThings_70 : decode cX4_differentThings 70 = .ok (.baload, 1) := by decide +kernel
theorem dX4_differentThings_71 : decode cX4_differentThings 71 = .ok (.ifCond .ne 14, 3) := by decide +kernel
theorem dX4_differentThings_74 : decode cX4_differentThings 74 = .ok (.aload_n 0, 1) := by decide +kernel
theorem dX4_differentThings_75 : decode cX4_differentThings 75 = .ok (.getfield 19, 3) := by decide +kernel
theorem dX4_differentThings_78 : decode cX4_differentThings 78 = .ok (.iload 4, 2) := by decide +kernel
theorem dX4_differentThings_80 : decode cX4_differentThings 80 = .ok (.iconst 1, 1) := by decide +kernel
theorem dX4_differentThings_81 : decode cX4_differentThings 81 = .ok (.bastore, 1) := by decide +kernel
theorem dX4_differentThings_82 : decode cX4_differentThings 82 = .ok (.iinc 2 1, 3) := by decide +kernel
theorem dX4_differentThings_85 : decode cX4_differentThings 85 = .ok (.iinc 3 1, 3) := by decide +kernel
theorem dX4_differentThings_88 : decode cX4_differentThings 88 = .ok (.goto (-63), 3) := by decide +kernel
theorem dX4_differentThings_91 : decode cX4_differentThings 91 = .ok (.iload_n 2, 1) := by decide +kernel
theorem dX4_differentThings_92 : decode cX4_differentThings 92 = .ok (.ireturn, 1) := by decide +kernel
set_option maxRecDepth 20000 in
theorem ggX4_placesOutside_X4_isReached : GoodIn wsX4_placesOutside wsX4_isReached := goodIn_r _ [5, 6, 22, 23, 24, 25] (by decide +kernel) (by decide +kernel)
set_option maxRecDepth 20000 in
theorem gX4_placesOutside_X4_isReached : GoodIn wsX4_placesOutside (wsV RX4 36 RX4 yX4_isReached wsX4_isReached) := goodIn_app (goodIn_of _ (by decide +kernel)) ggX4_placesOutside_X4_isReached
set_option maxRecDepth 20000 in
theorem ggX4_placesOutside_X0_noteAt : GoodIn wsX4_placesOutside wsX0_noteAt := goodIn_r _ [11, 12, 13, 14, 15, 10, 16, 17, 26, 27, 28, 29, 30] (by decide +kernel) (by decide +kernel)
set_option maxRecDepth 20000 in
theorem gX4_placesOutside_X0_noteAt : GoodIn wsX4_placesOutside (wsV RX4 50 RX0 yX0_noteAt wsX0_noteAt) := goodIn_app (goodIn_of _ (by decide +kernel)) ggX4_placesOutside_X0_noteAt
set_option maxRecDepth 20000 in
theorem ggX4_placesOutside_X0_sizeAt : GoodIn wsX4_placesOutside wsX0_sizeAt := goodIn_r _ [21, 17, 13, 14, 15, 10, 16, 26, 27, 28, 29, 30] (by decide +kernel) (by decide +kernel)
set_option maxRecDepth 20000 in
theorem gX4_placesOutside_X0_sizeAt : GoodIn wsX4_placesOutside (wsV RX4 53 RX0 yX0_sizeAt wsX0_sizeAt) := goodIn_app (goodIn_of _ (by decide +kernel)) ggX4_placesOutside_X0_sizeAt
theorem dX4_placesOutside_0 : decode cX4_placesOutside 0 = .ok (.iconst 0, 1) := by decide +kernel
theorem dX4_placesOutside_1 : decode cX4_placesOutside 1 = .ok (.istore_n 2, 1) := by decide +kernel
theorem dX4_placesOutside_2 : decode cX4_placesOutside 2 = .ok (.iconst 0, 1) := by decide +kernel
theorem dX4_placesOutside_3 : decode cX4_placesOutside 3 = .ok (.istore_n 3, 1) := by decide +kernel
theorem dX4_placesOutside_4 : decode cX4_placesOutside 4 = .ok (.iload_n 3, 1) := by decide +kernel
theorem dX4_placesOutside_5 : decode cX4_placesOutside 5 = .ok (.sipush 260, 3) := by decide +kernel
theorem dX4_placesOutside_8 : decode cX4_placesOutside 8 = .ok (.if_icmp .ge 36, 3) := by decide +kernel
theorem dX4_placesOutside_11 : decode cX4_placesOutside 11 = .ok (.aload_n 0, 1) := by decide +kernel
theorem dX4_placesOutside_12 : decode cX4_placesOutside 12 = .ok (.iload_n 3, 1) := by decide +kernel
theorem dX4_placesOutside_13 : decode cX4_placesOutside 13 = .ok (.invokevirtual 36, 3) := by decide +kernel
theorem dX4_placesOutside_16 : decode cX4_placesOutside 16 = .ok (.ifCond .ne 22, 3) := by decide +kernel
theorem dX4_placesOutside_19 : decode cX4_placesOutside 19 = .ok (.aload_n 1, 1) := by decide +kernel
theorem dX4_placesOutside_20 : decode cX4_placesOutside 20 = .ok (.iload_n 3, 1) := by decide +kernel
theorem dX4_placesOutside_21 : decode cX4_placesOutside 21 = .ok (.invokevirtual 50, 3) := by decide +kernel
theorem dX4_placesOutside_24 : decode cX4_placesOutside 24 = .ok (.sipush 300, 3) := by decide +kernel
theorem dX4_placesOutside_27 : decode cX4_placesOutside 27 = .ok (.if_icmp .ne 11, 3) := by decide +kernel
theorem dX4_placesOutside_30 : decode cX4_placesOutside 30 = .ok (.iload_n 2, 1) := by decide +kernel
theorem dX4_placesOutside_31 : decode cX4_placesOutside 31 = .ok (.aload_n 1, 1) := by decide +kernel
theorem dX4_placesOutside_32 : decode cX4_placesOutside 32 = .ok (.iload_n 3, 1) := by decide +kernel
theorem dX4_placesOutside_33 : decode cX4_placesOutside 33 = .ok (.invokevirtual 53, 3) := by decide +kernel
theorem dX4_placesOutside_36 : decode cX4_placesOutside 36 = .ok (.iadd, 1) := by decide +kernel
theorem dX4_placesOutside_37 : decode cX4_placesOutside 37 = .ok (.istore_n 2, 1) := by decide +kernel
theorem dX4_placesOutside_38 : decode cX4_placesOutside 38 = .ok (.iinc 3 1, 3) := by decide +kernel
theorem dX4_placesOutside_41 : decode cX4_placesOutside 41 = .ok (.goto (-37), 3) := by decide +kernel
theorem dX4_placesOutside_44 : decode cX4_placesOutside 44 = .ok (.iload_n 2, 1) := by decide +kernel
theorem dX4_placesOutside_45 : decode cX4_placesOutside 45 = .ok (.ireturn, 1) := by decide +kernel
set_option maxRecDepth 20000 in
theorem ggX5_init_X0_init : GoodIn wsX5_init wsX0_init := goodIn_r _ [17, 18, 2, 3, 4, 19, 20, 21, 22, 23, 24, 25, 26, 27, 43, 44, 45, 46, 47] (by decide +kernel) (by decide +kernel)
set_option maxRecDepth 20000 in
theorem gX5_init_X0_init : GoodIn wsX5_init (wsX0_init) := ggX5_init_X0_init
set_option maxRecDepth 20000 in
theorem ggX5_init_X3_init : GoodIn wsX5_init wsX3_init := goodIn_r _ [29, 30, 2, 3, 4, 31, 48, 49, 50] (by decide +kernel) (by decide +kernel)
set_option maxRecDepth 20000 in
theorem gX5_init_X3_init_n24 : GoodIn wsX5_init (wsX3_init) := ggX5_init_X3_init
set_option maxRecDepth 20000 in
theorem ggX5_init_J7_fill_53178 : GoodIn wsX5_init wsJ7_fill_53178 := goodIn_r _ [27] (by decide +kernel) (by decide +kernel)
set_option maxRecDepth 20000 in
theorem gX5_init_J7_fill_53178 : GoodIn wsX5_init (va_wsS RX5 33 yJ7_fill_53178 wsJ7_fill_53178) := goodIn_app (goodIn_of _ (by decide +kernel)) ggX5_init_J7_fill_53178
theorem dX5_init_0 : decode cX5_init 0 = .ok (.aload_n 0, 1) := by decide +kernel
theorem dX5_init_1 : decode cX5_init 1 = .ok (.invokespecial 3, 3) := by decide +kernel
theorem dX5_init_4 : decode cX5_init 4 = .ok (.aload_n 0, 1) := by decide +kernel
theorem dX5_init_5 : decode cX5_init 5 = .ok (.bipush 8, 2) := by decide +kernel
theorem dX5_init_7 : decode cX5_init 7 = .ok (.newarray .int, 2) := by decide +kernel
theorem dX5_init_9 : decode cX5_init 9 = .ok (.putfield 9, 3) := by decide +kernel
theorem dX5_init_12 : decode cX5_init 12 = .ok (.aload_n 0, 1) := by decide +kernel
theorem dX5_init_13 : decode cX5_init 13 = .ok (.new 15, 3) := by decide +kernel
theorem dX5_init_16 : decode cX5_init 16 = .ok (.dup, 1) := by decide +kernel
theorem dX5_init_17 : decode cX5_init 17 = .ok (.invokespecial 17, 3) := by decide +kernel
theorem dX5_init_20 : decode cX5_init 20 = .ok (.putfield 18, 3) := by decide +kernel
theorem dX5_init_23 : decode cX5_init 23 = .ok (.aload_n 0, 1) := by decide +kernel
theorem dX5_init_24 : decode cX5_init 24 = .ok (.new 22, 3) := by decide +kernel
theorem dX5_init_27 : decode cX5_init 27 = .ok (.dup, 1) := by decide +kernel
theorem dX5_init_28 : decode cX5_init 28 = .ok (.invokespecial 24, 3) := by decide +kernel
theorem dX5_init_31 : decode cX5_init 31 = .ok (.putfield 25, 3) := by decide +kernel
theorem dX5_init_34 : decode cX5_init 34 = .ok (.aload_n 0, 1) := by decide +kernel
theorem dX5_init_35 : decode cX5_init 35 = .ok (.bipush 6, 2) := by decide +kernel
theorem dX5_init_37 : decode cX5_init 37 = .ok (.putfield 29, 3) := by decide +kernel
theorem dX5_init_40 : decode cX5_init 40 = .ok (.aload_n 0, 1) := by decide +kernel
theorem dX5_init_41 : decode cX5_init 41 = .ok (.getfield 9, 3) := by decide +kernel
theorem dX5_init_44 : decode cX5_init 44 = .ok (.sipush 300, 3) := by decide +kernel
theorem dX5_init_47 : decode cX5_init 47 = .ok (.invokestatic 33, 3) := by decide +kernel
theorem dX5_init_50 : decode cX5_init 50 = .ok (.return_, 1) := by decide +kernel
set_option maxRecDepth 20000 in
theorem ggX5_become_X0_become : GoodIn wsX5_become wsX0_become := goodIn_r _ [19, 20, 21, 3, 4, 5, 22, 23, 24, 25, 45, 46, 47, 48, 49] (by decide +kernel) (by decide +kernel)
set_option maxRecDepth 20000 in
theorem gX5_become_X0_become : GoodIn wsX5_become (wsV RX5 45 RX0 yX0_become wsX0_become) := goodIn_app (goodIn_of _ (by decide +kernel)) ggX5_become_X0_become
set_option maxRecDepth 20000 in
theorem ggX5_become_X3_become : GoodIn wsX5_become wsX3_become := goodIn_r _ [30, 31, 32, 3, 4, 5, 33, 34, 50, 51, 52] (by decide +kernel) (by decide +kernel)
set_option maxRecDepth 20000 in
theorem gX5_become_X3_become : GoodIn wsX5_become (wsV RX5 49 RX3 yX3_become wsX3_become) := goodIn_app (goodIn_of _ (by decide +kernel)) ggX5_become_X3_become
theorem dX5_become_0 : decode cX5_become 0 = .ok (.aload_n 1, 1) := by decide +kernel
theorem dX5_become_1 : decode cX5_become 1 = .ok (.getfield 9, 3) := by decide +kernel
theorem dX5_become_4 : decode cX5_become 4 = .ok (.iconst 0, 1) := by decide +kernel
theorem dX5_become_5 : decode cX5_become 5 = .ok (.aload_n 0, 1) := by decide +kernel
theorem dX5_become_6 : decode cX5_become 6 = .ok (.getfield 9, 3) := by decide +kernel
theorem dX5_become_9 : decode cX5_become 9 = .ok (.iconst 0, 1) := by decide +kernel
theorem dX5_become_10 : decode cX5_become 10 = .ok (.bipush 8, 2) := by decide +kernel
theorem dX5_become_12 : decode cX5_become 12 = .ok (.invokestatic 39, 3) := by decide +kernel
theorem dX5_become_15 : decode cX5_become 15 = .ok (.aload_n 0, 1) := by decide +kernel
theorem dX5_become_16 : decode cX5_become 16 = .ok (.getfield 18, 3) := by decide +kernel
theorem dX5_become_19 : decode cX5_become 19 = .ok (.aload_n 1, 1) := by decide +kernel
theorem dX5_become_20 : decode cX5_become 20 = .ok (.getfield 18, 3) := by decide +kernel
theorem dX5_become_23 : decode cX5_become 23 = .ok (.invokevirtual 45, 3) := by decide +kernel
theorem dX5_become_26 : decode cX5_become 26 = .ok (.aload_n 0, 1) := by decide +kernel
theorem dX5_become_27 : decode cX5_become 27 = .ok (.getfield 25, 3) := by decide +kernel
theorem dX5_become_30 : decode cX5_become 30 = .ok (.aload_n 1, 1) := by decide +kernel
theorem dX5_become_31 : decode cX5_become 31 = .ok (.getfield 25, 3) := by decide +kernel
theorem dX5_become_34 : decode cX5_become 34 = .ok (.invokevirtual 49, 3) := by decide +kernel
theorem dX5_become_37 : decode cX5_become 37 = .ok (.aload_n 0, 1) := by decide +kernel
theorem dX5_become_38 : decode cX5_become 38 = .ok (.aload_n 1, 1) := by decide +kernel
theorem dX5_become_39 : decode cX5_become 39 = .ok (.getfield 29, 3) := by decide +kernel
theorem dX5_become_42 : decode cX5_become 42 = .ok (.putfield 29, 3) := by decide +kernel
theorem dX5_become_45 : decode cX5_become 45 = .ok (.aload_n 0, 1) := by decide +kernel
theorem dX5_become_46 : decode cX5_become 46 = .ok (.aload_n 1, 1) := by decide +kernel
theorem dX5_become_47 : decode cX5_become 47 = .ok (.getfield 52, 3) := by decide +kernel
theorem dX5_become_50 : decode cX5_become 50 = .ok (.putfield 52, 3) := by decide +kernel
theorem dX5_become_53 : decode cX5_become 53 = .ok (.aload_n 0, 1) := by decide +kernel
theorem dX5_become_54 : decode cX5_become 54 = .ok (.aload_n 1, 1) := by decide +kernel
theorem dX5_become_55 : decode cX5_become 55 = .ok (.getfield 55, 3) := by decide +kernel
theorem dX5_become_58 : decode cX5_become 58 = .ok (.putfield 55, 3) := by decide +kernel
theorem dX5_become_61 : decode cX5_become 61 = .ok (.aload_n 0, 1) := by decide +kernel
theorem dX5_become_62 : decode cX5_become 62 = .ok (.aload_n 1, 1) := by decide +kernel
theorem dX5_become_63 : decode cX5_become 63 = .ok (.getfield 59, 3) := by decide +kernel
theorem dX5_become_66 : decode cX5_become 66 = .ok (.putfield 59, 3) := by decide +kernel
theorem dX5_become_69 : decode cX5_become 69 = .ok (.aload_n 0, 1) := by decide +kernel
theorem dX5_become_70 : decode cX5_become 70 = .ok (.aload_n 1, 1) := by decide +kernel
theorem dX5_become_71 : decode cX5_become 71 = .ok (.getfield 62, 3) := by decide +kernel
theorem dX5_become_74 : decode cX5_become 74 = .ok (.putfield 62, 3) := by decide +kernel
theorem dX5_become_77 : decode cX5_become 77 = .ok (.aload_n 0, 1) := by decide +kernel
theorem dX5_become_78 : decode cX5_become 78 = .ok (.aload_n 1, 1) := by decide +kernel
theorem dX5_become_79 : decode cX5_become 79 = .ok (.getfield 65, 3) := by decide +kernel
theorem dX5_become_82 : decode cX5_become 82 = .ok (.putfield 65, 3) := by decide +kernel
theorem dX5_become_85 : decode cX5_become 85 = .ok (.aload_n 0, 1) := by decide +kernel
theorem dX5_become_86 : decode cX5_become 86 = .ok (.aload_n 1, 1) := by decide +kernel
theorem dX5_become_87 : decode cX5_become 87 = .ok (.getfield 68, 3) := by decide +kernel
theorem dX5_become_90 : decode cX5_become 90 = .ok (.putfield 68, 3) := by decide +kernel
theorem dX5_become_93 : decode cX5_become 93 = .ok (.return_, 1) := by decide +kernel
theorem dX5_isThing_0 : decode cX5_isThing 0 = .ok (.iload_n 1, 1) := by decide +kernel
theorem dX5_isThing_1 : decode cX5_isThing 1 = .ok (.ifCond .lt 15, 3) := by decide +kernel
theorem dX5_isThing_4 : decode cX5_isThing 4 = .ok (.iload_n 1, 1) := by decide +kernel
theorem dX5_isThing_5 : decode cX5_isThing 5 = .ok (.aload_n 0, 1) := by decide +kernel
theorem dX5_isThing_6 : decode cX5_isThing 6 = .ok (.getfield 52, 3) := by decide +kernel
theorem dX5_isThing_9 : decode cX5_isThing 9 = .ok (.if_icmp .ge 7, 3) := by decide +kernel
theorem dX5_isThing_12 : decode cX5_isThing 12 = .ok (.iconst 1, 1) := by decide +kernel
theorem dX5_isThing_13 : decode cX5_isThing 13 = .ok (.goto 4, 3) := by decide +kernel
theorem dX5_isThing_16 : decode cX5_isThing 16 = .ok (.iconst 0, 1) := by decide +kernel
theorem dX5_isThing_17 : decode cX5_isThing 17 = .ok (.ireturn, 1) := by decide +kernel
set_option maxRecDepth 20000 in
theorem ggX5_hungOn_X7_isHook : GoodIn wsX5_hungOn wsX7_isHook := goodIn_r _ [4] (by decide +kernel) (by decide +kernel)
set_option maxRecDepth 20000 in
theorem gX5_hungOn_X7_isHook_n71 : GoodIn wsX5_hungOn (wsX7_isHook) := ggX5_hungOn_X7_isHook
theorem dX5_hungOn_0 : decode cX5_hungOn 0 = .ok (.iload_n 1, 1) := by decide +kernel
theorem dX5_hungOn_1 : decode cX5_hungOn 1 = .ok (.invokestatic 71, 3) := by decide +kernel
theorem dX5_hungOn_4 : decode cX5_hungOn 4 = .ok (.ifCond .eq 12, 3) := by decide +kernel
theorem dX5_hungOn_7 : decode cX5_hungOn 7 = .ok (.aload_n 0, 1) := by decide +kernel
theorem dX5_hungOn_8 : decode cX5_hungOn 8 = .ok (.getfield 9, 3) := by decide +kernel
theorem dX5_hungOn_11 : decode cX5_hungOn 11 = .ok (.iload_n 1, 1) := by decide +kernel
theorem dX5_hungOn_12 : decode cX5_hungOn 12 = .ok (.iaload, 1) := by decide +kernel
theorem dX5_hungOn_13 : decode cX5_hungOn 13 = .ok (.goto 6, 3) := by decide +kernel
theorem dX5_hungOn_16 : decode cX5_hungOn 16 = .ok (.sipush 300, 3) := by decide +kernel
theorem dX5_hungOn_19 : decode cX5_hungOn 19 = .ok (.ireturn, 1) := by decide +kernel
theorem dX5_freeInHalf_0 : decode cX5_freeInHalf 0 = .ok (.bipush 64, 2) := by decide +kernel
theorem dX5_freeInHalf_2 : decode cX5_freeInHalf 2 = .ok (.aload_n 0, 1) := by decide +kernel
theorem dX5_freeInHalf_3 : decode cX5_freeInHalf 3 = .ok (.getfield 62, 3) := by decide +kernel
theorem dX5_freeInHalf_6 : decode cX5_freeInHalf 6 = .ok (.isub, 1) := by decide +kernel
theorem dX5_freeInHalf_7 : decode cX5_freeInHalf 7 = .ok (.ireturn, 1) := by decide +kernel
theorem dX5_addressOfHalf_0 : decode cX5_addressOfHalf 0 = .ok (.iload_n 1, 1) := by decide +kernel
theorem dX5_addressOfHalf_1 : decode cX5_addressOfHalf 1 = .ok (.bipush 100, 2) := by decide +kernel
theorem dX5_addressOfHalf_3 : decode cX5_addressOfHalf 3 = .ok (.imul, 1) := by decide +kernel
theorem dX5_addressOfHalf_4 : decode cX5_addressOfHalf 4 = .ok (.ireturn, 1) := by decide +kernel
set_option maxRecDepth 20000 in
theorem ggX5_isInOldHalf_X5_addressOfHalf : GoodIn wsX5_isInOldHalf wsX5_addressOfHalf := goodIn_r _ [7] (by decide +kernel) (by decide +kernel)
set_option maxRecDepth 20000 in
theorem gX5_isInOldHalf_X5_addressOfHalf : GoodIn wsX5_isInOldHalf (wsV RX5 75 RX5 yX5_addressOfHalf wsX5_addressOfHalf) := goodIn_app (goodIn_of _ (by decide +kernel)) ggX5_isInOldHalf_X5_addressOfHalf
theorem dX5_isInOldHalf_0 : decode cX5_isInOldHalf 0 = .ok (.iload_n 1, 1) := by decide +kernel
theorem dX5_isInOldHalf_1 : decode cX5_isInOldHalf 1 = .ok (.aload_n 0, 1) := by decide +kernel
theorem dX5_isInOldHalf_2 : decode cX5_isInOldHalf 2 = .ok (.iconst 1, 1) := by decide +kernel
theorem dX5_isInOldHalf_3 : decode cX5_isInOldHalf 3 = .ok (.aload_n 0, 1) := by decide +kernel
theorem dX5_isInOldHalf_4 : decode cX5_isInOldHalf 4 = .ok (.getfield 59, 3) := by decide +kernel
theorem dX5_isInOldHalf_7 : decode cX5_isInOldHalf 7 = .ok (.isub, 1) := by decide +kernel
theorem dX5_isInOldHalf_8 : decode cX5_isInOldHalf 8 = .ok (.invokevirtual 75, 3) := by decide +kernel
theorem dX5_isInOldHalf_11 : decode cX5_isInOldHalf 11 = .ok (.isub, 1) := by decide +kernel
theorem dX5_isInOldHalf_12 : decode cX5_isInOldHalf 12 = .ok (.istore_n 2, 1) := by decide +kernel
theorem dX5_isInOldHalf_13 : decode cX5_isInOldHalf 13 = .ok (.aload_n 0, 1) := by decide +kernel
theorem dX5_isInOldHalf_14 : decode cX5_isInOldHalf 14 = .ok (.getfield 55, 3) := by decide +kernel
theorem dX5_isInOldHalf_17 : decode cX5_isInOldHalf 17 = .ok (.ifCond .eq 17, 3) := by decide +kernel
theorem dX5_isInOldHalf_20 : decode cX5_isInOldHalf 20 = .ok (.iload_n 2, 1) := by decide +kernel
theorem dX5_isInOldHalf_21 : decode cX5_isInOldHalf 21 = .ok (.ifCond .lt 13, 3) := by decide +kernel
theorem dX5_isInOldHalf_24 : decode cX5_isInOldHalf 24 = .ok (.iload_n 2, 1) := by decide +kernel
end
section
theorem dX5_isInOldHalf_25 : decode cX5_isInOldHalf 25 = .ok (.bipush 64, 2) := by decide +kernel
theorem dX5_isInOldHalf_27 : decode cX5_isInOldHalf 27 = .ok (.if_icmp .ge 7, 3) := by decide +kernel
theorem dX5_isInOldHalf_30 : decode cX5_isInOldHalf 30 = .ok (.iconst 1, 1) := by decide +kernel
theorem dX5_isInOldHalf_31 : decode cX5_isInOldHalf 31 = .ok (.goto 4, 3) := by decide +kernel
theorem dX5_isInOldHalf_34 : decode cX5_isInOldHalf 34 = .ok (.iconst 0, 1) := by decide +kernel
theorem dX5_isInOldHalf_35 : decode cX5_isInOldHalf 35 = .ok (.ireturn, 1) := by decide +kernel
set_option maxRecDepth 20000 in
theorem ggX5_roomKept_X5_addressOfHalf : GoodIn wsX5_roomKept wsX5_addressOfHalf := goodIn_r _ [8] (by decide +kernel) (by decide +kernel)
set_option maxRecDepth 20000 in
theorem gX5_roomKept_X5_addressOfHalf : GoodIn wsX5_roomKept (wsV RX5 75 RX5 yX5_addressOfHalf wsX5_addressOfHalf) := goodIn_app (goodIn_of _ (by decide +kernel)) ggX5_roomKept_X5_addressOfHalf
set_option maxRecDepth 20000 in
theorem ggX5_roomKept_X0_noteAt : GoodIn wsX5_roomKept wsX0_noteAt := goodIn_r _ [13, 14, 15, 16, 17, 12, 18, 19, 34, 35, 36, 37, 38] (by decide +kernel) (by decide +kernel)
set_option maxRecDepth 20000 in
theorem gX5_roomKept_X0_noteAt : GoodIn wsX5_roomKept (wsV RX5 79 RX0 yX0_noteAt wsX0_noteAt) := goodIn_app (goodIn_of _ (by decide +kernel)) ggX5_roomKept_X0_noteAt
set_option maxRecDepth 20000 in
theorem ggX5_roomKept_X0_sizeAt : GoodIn wsX5_roomKept wsX0_sizeAt := goodIn_r _ [23, 19, 15, 16, 17, 12, 18, 34, 35, 36, 37, 38] (by decide +kernel) (by decide +kernel)
set_option maxRecDepth 20000 in
theorem gX5_roomKept_X0_sizeAt : GoodIn wsX5_roomKept (wsV RX5 82 RX0 yX0_sizeAt wsX0_sizeAt) := goodIn_app (goodIn_of _ (by decide +kernel)) ggX5_roomKept_X0_sizeAt
theorem dX5_roomKept_0 : decode cX5_roomKept 0 = .ok (.iconst 0, 1) := by decide +kernel
theorem dX5_roomKept_1 : decode cX5_roomKept 1 = .ok (.istore_n 1, 1) := by decide +kernel
theorem dX5_roomKept_2 : decode cX5_roomKept 2 = .ok (.aload_n 0, 1) := by decide +kernel
theorem dX5_roomKept_3 : decode cX5_roomKept 3 = .ok (.iconst 1, 1) := by decide +kernel
theorem dX5_roomKept_4 : decode cX5_roomKept 4 = .ok (.aload_n 0, 1) := by decide +kernel
theorem dX5_roomKept_5 : decode cX5_roomKept 5 = .ok (.getfield 59, 3) := by decide +kernel
theorem dX5_roomKept_8 : decode cX5_roomKept 8 = .ok (.isub, 1) := by decide +kernel
theorem dX5_roomKept_9 : decode cX5_roomKept 9 = .ok (.invokevirtual 75, 3) := by decide +kernel
theorem dX5_roomKept_12 : decode cX5_roomKept 12 = .ok (.istore_n 2, 1) := by decide +kernel
theorem dX5_roomKept_13 : decode cX5_roomKept 13 = .ok (.iconst 0, 1) := by decide +kernel
theorem dX5_roomKept_14 : decode cX5_roomKept 14 = .ok (.istore_n 3, 1) := by decide +kernel
theorem dX5_roomKept_15 : decode cX5_roomKept 15 = .ok (.aload_n 0, 1) := by decide +kernel
theorem dX5_roomKept_16 : decode cX5_roomKept 16 = .ok (.getfield 55, 3) := by decide +kernel
theorem dX5_roomKept_19 : decode cX5_roomKept 19 = .ok (.ifCond .eq 44, 3) := by decide +kernel
theorem dX5_roomKept_22 : decode cX5_roomKept 22 = .ok (.iload_n 3, 1) := by decide +kernel
theorem dX5_roomKept_23 : decode cX5_roomKept 23 = .ok (.bipush 64, 2) := by decide +kernel
theorem dX5_roomKept_25 : decode cX5_roomKept 25 = .ok (.if_icmp .ge 38, 3) := by decide +kernel
theorem dX5_roomKept_28 : decode cX5_roomKept 28 = .ok (.aload_n 0, 1) := by decide +kernel
theorem dX5_roomKept_29 : decode cX5_roomKept 29 = .ok (.getfield 18, 3) := by decide +kernel
theorem dX5_roomKept_32 : decode cX5_roomKept 32 = .ok (.iload_n 2, 1) := by decide +kernel
theorem dX5_roomKept_33 : decode cX5_roomKept 33 = .ok (.iload_n 3, 1) := by decide +kernel
theorem dX5_roomKept_34 : decode cX5_roomKept 34 = .ok (.iadd, 1) := by decide +kernel
theorem dX5_roomKept_35 : decode cX5_roomKept 35 = .ok (.invokevirtual 79, 3) := by decide +kernel
theorem dX5_roomKept_38 : decode cX5_roomKept 38 = .ok (.sipush 300, 3) := by decide +kernel
theorem dX5_roomKept_41 : decode cX5_roomKept 41 = .ok (.if_icmp .ne 16, 3) := by decide +kernel
theorem dX5_roomKept_44 : decode cX5_roomKept 44 = .ok (.iload_n 1, 1) := by decide +kernel
theorem dX5_roomKept_45 : decode cX5_roomKept 45 = .ok (.aload_n 0, 1) := by decide +kernel
theorem dX5_roomKept_46 : decode cX5_roomKept 46 = .ok (.getfield 18, 3) := by decide +kernel
theorem dX5_roomKept_49 : decode cX5_roomKept 49 = .ok (.iload_n 2, 1) := by decide +kernel
theorem dX5_roomKept_50 : decode cX5_roomKept 50 = .ok (.iload_n 3, 1) := by decide +kernel
theorem dX5_roomKept_51 : decode cX5_roomKept 51 = .ok (.iadd, 1) := by decide +kernel
theorem dX5_roomKept_52 : decode cX5_roomKept 52 = .ok (.invokevirtual 82, 3) := by decide +kernel
theorem dX5_roomKept_55 : decode cX5_roomKept 55 = .ok (.iadd, 1) := by decide +kernel
theorem dX5_roomKept_56 : decode cX5_roomKept 56 = .ok (.istore_n 1, 1) := by decide +kernel
theorem dX5_roomKept_57 : decode cX5_roomKept 57 = .ok (.iinc 3 1, 3) := by decide +kernel
theorem dX5_roomKept_60 : decode cX5_roomKept 60 = .ok (.goto (-45), 3) := by decide +kernel
theorem dX5_roomKept_63 : decode cX5_roomKept 63 = .ok (.iload_n 1, 1) := by decide +kernel
theorem dX5_roomKept_64 : decode cX5_roomKept 64 = .ok (.ireturn, 1) := by decide +kernel
set_option maxRecDepth 20000 in
theorem ggX5_hasTwins_X0_isOf : GoodIn wsX5_hasTwins wsX0_isOf := goodIn_r _ [6, 7, 8, 9, 10, 5, 11, 12, 34, 35, 36, 37, 38] (by decide +kernel) (by decide +kernel)
set_option maxRecDepth 20000 in
theorem gX5_hasTwins_X0_isOf : GoodIn wsX5_hasTwins (wsV RX5 85 RX0 yX0_isOf wsX0_isOf) := goodIn_app (goodIn_of _ (by decide +kernel)) ggX5_hasTwins_X0_isOf
set_option maxRecDepth 20000 in
theorem ggX5_hasTwins_X5_isInOldHalf : GoodIn wsX5_hasTwins wsX5_isInOldHalf := goodIn_r _ [17, 18, 19, 20, 21, 22, 16, 23, 24, 25, 26, 27, 28, 29, 30, 31, 32, 33] (by decide +kernel) (by decide +kernel)
set_option maxRecDepth 20000 in
theorem gX5_hasTwins_X5_isInOldHalf : GoodIn wsX5_hasTwins (wsV RX5 89 RX5 yX5_isInOldHalf wsX5_isInOldHalf) := goodIn_app (goodIn_of _ (by decide +kernel)) ggX5_hasTwins_X5_isInOldHalf
theorem dX5_hasTwins_0 : decode cX5_hasTwins 0 = .ok (.iconst 0, 1) := by decide +kernel
theorem dX5_hasTwins_1 : decode cX5_hasTwins 1 = .ok (.istore_n 2, 1) := by decide +kernel
theorem dX5_hasTwins_2 : decode cX5_hasTwins 2 = .ok (.iconst 0, 1) := by decide +kernel
theorem dX5_hasTwins_3 : decode cX5_hasTwins 3 = .ok (.istore_n 3, 1) := by decide +kernel
theorem dX5_hasTwins_4 : decode cX5_hasTwins 4 = .ok (.iload_n 3, 1) := by decide +kernel
theorem dX5_hasTwins_5 : decode cX5_hasTwins 5 = .ok (.sipush 260, 3) := by decide +kernel
theorem dX5_hasTwins_8 : decode cX5_hasTwins 8 = .ok (.if_icmp .ge 32, 3) := by decide +kernel
theorem dX5_hasTwins_11 : decode cX5_hasTwins 11 = .ok (.aload_n 0, 1) := by decide +kernel
theorem dX5_hasTwins_12 : decode cX5_hasTwins 12 = .ok (.getfield 18, 3) := by decide +kernel
theorem dX5_hasTwins_15 : decode cX5_hasTwins 15 = .ok (.iload_n 1, 1) := by decide +kernel
theorem dX5_hasTwins_16 : decode cX5_hasTwins 16 = .ok (.iload_n 3, 1) := by decide +kernel
theorem dX5_hasTwins_17 : decode cX5_hasTwins 17 = .ok (.invokevirtual 85, 3) := by decide +kernel
theorem dX5_hasTwins_20 : decode cX5_hasTwins 20 = .ok (.ifCond .eq 14, 3) := by decide +kernel
theorem dX5_hasTwins_23 : decode cX5_hasTwins 23 = .ok (.aload_n 0, 1) := by decide +kernel
theorem dX5_hasTwins_24 : decode cX5_hasTwins 24 = .ok (.iload_n 3, 1) := by decide +kernel
theorem dX5_hasTwins_25 : decode cX5_hasTwins 25 = .ok (.invokevirtual 89, 3) := by decide +kernel
theorem dX5_hasTwins_28 : decode cX5_hasTwins 28 = .ok (.ifCond .ne 6, 3) := by decide +kernel
theorem dX5_hasTwins_31 : decode cX5_hasTwins 31 = .ok (.iinc 2 1, 3) := by decide +kernel
theorem dX5_hasTwins_34 : decode cX5_hasTwins 34 = .ok (.iinc 3 1, 3) := by decide +kernel
theorem dX5_hasTwins_37 : decode cX5_hasTwins 37 = .ok (.goto (-33), 3) := by decide +kernel
theorem dX5_hasTwins_40 : decode cX5_hasTwins 40 = .ok (.iload_n 2, 1) := by decide +kernel
theorem dX5_hasTwins_41 : decode cX5_hasTwins 41 = .ok (.iconst 1, 1) := by decide +kernel
theorem dX5_hasTwins_42 : decode cX5_hasTwins 42 = .ok (.if_icmp .le 7, 3) := by decide +kernel
theorem dX5_hasTwins_45 : decode cX5_hasTwins 45 = .ok (.iconst 1, 1) := by decide +kernel
theorem dX5_hasTwins_46 : decode cX5_hasTwins 46 = .ok (.goto 4, 3) := by decide +kernel
theorem dX5_hasTwins_49 : decode cX5_hasTwins 49 = .ok (.iconst 0, 1) := by decide +kernel
theorem dX5_hasTwins_50 : decode cX5_hasTwins 50 = .ok (.ireturn, 1) := by decide +kernel
set_option maxRecDepth 20000 in
theorem ggX5_thingsWithTwins_X5_hasTwins : GoodIn wsX5_thingsWithTwins wsX5_hasTwins := goodIn_r _ [6, 7, 8, 9, 10, 11, 12, 13, 14, 15, 16, 17, 18, 19, 20, 21, 5, 22, 23, 24, 25, 26, 27, 28, 29, 30, 31, 32, 33, 34, 35, 36, 37, 38, 39, 40, 41, 42, 43] (by decide +kernel) (by decide +kernel)
set_option maxRecDepth 20000 in
theorem gX5_thingsWithTwins_X5_hasTwins : GoodIn wsX5_thingsWithTwins (wsV RX5 92 RX5 yX5_hasTwins wsX5_hasTwins) := goodIn_app (goodIn_of _ (by decide +kernel)) ggX5_thingsWithTwins_X5_hasTwins
theorem dX5_thingsWithTwins_0 : decode cX5_thingsWithTwins 0 = .ok (.iconst 0, 1) := by decide +kernel
theorem dX5_thingsWithTwins_1 : decode cX5_thingsWithTwins 1 = .ok (.istore_n 1, 1) := by decide +kernel
theorem dX5_thingsWithTwins_2 : decode cX5_thingsWithTwins 2 = .ok (.iconst 0, 1) := by decide +kernel
theorem dX5_thingsWithTwins_3 : decode cX5_thingsWithTwins 3 = .ok (.istore_n 2, 1) := by decide +kernel
theorem dX5_thingsWithTwins_4 : decode cX5_thingsWithTwins 4 = .ok (.iload_n 2, 1) := by decide +kernel
theorem dX5_thingsWithTwins_5 : decode cX5_thingsWithTwins 5 = .ok (.aload_n 0, 1) := by decide +kernel
theorem dX5_thingsWithTwins_6 : decode cX5_thingsWithTwins 6 = .ok (.getfield 52, 3) := by decide +kernel
theorem dX5_thingsWithTwins_9 : decode cX5_thingsWithTwins 9 = .ok (.if_icmp .ge 20, 3) := by decide +kernel
theorem dX5_thingsWithTwins_12 : decode cX5_thingsWithTwins 12 = .ok (.aload_n 0, 1) := by decide +kernel
theorem dX5_thingsWithTwins_13 : decode cX5_thingsWithTwins 13 = .ok (.iload_n 2, 1) := by decide +kernel
theorem dX5_thingsWithTwins_14 : decode cX5_thingsWithTwins 14 = .ok (.invokevirtual 92, 3) := by decide +kernel
theorem dX5_thingsWithTwins_17 : decode cX5_thingsWithTwins 17 = .ok (.ifCond .eq 6, 3) := by decide +kernel
theorem dX5_thingsWithTwins_20 : decode cX5_thingsWithTwins 20 = .ok (.iinc 1 1, 3) := by decide +kernel
theorem dX5_thingsWithTwins_23 : decode cX5_thingsWithTwins 23 = .ok (.iinc 2 1, 3) := by decide +kernel
theorem dX5_thingsWithTwins_26 : decode cX5_thingsWithTwins 26 = .ok (.goto (-22), 3) := by decide +kernel
theorem dX5_thingsWithTwins_29 : decode cX5_thingsWithTwins 29 = .ok (.iload_n 1, 1) := by decide +kernel
theorem dX5_thingsWithTwins_30 : decode cX5_thingsWithTwins 30 = .ok (.ireturn, 1) := by decide +kernel
set_option maxRecDepth 20000 in
theorem ggX5_numberOf_X0_number : GoodIn wsX5_numberOf wsX0_number := goodIn_r _ [13, 14, 15, 16, 12, 17, 18, 81, 82, 83, 84, 85] (by decide +kernel) (by decide +kernel)
set_option maxRecDepth 20000 in
theorem gX5_numberOf_X0_number : GoodIn wsX5_numberOf (wsV RX5 95 RX0 yX0_number wsX0_number) := goodIn_app (goodIn_of _ (by decide +kernel)) ggX5_numberOf_X0_number
set_option maxRecDepth 20000 in
theorem ggX5_numberOf_X5_freeInHalf : GoodIn wsX5_numberOf wsX5_freeInHalf := goodIn_r _ [23, 24, 71, 72, 73, 74, 75, 76, 77, 78, 79, 80] (by decide +kernel) (by decide +kernel)
set_option maxRecDepth 20000 in
theorem gX5_numberOf_X5_freeInHalf : GoodIn wsX5_numberOf (wsV RX5 99 RX5 yX5_freeInHalf wsX5_freeInHalf) := goodIn_app (goodIn_of _ (by decide +kernel)) ggX5_numberOf_X5_freeInHalf
set_option maxRecDepth 20000 in
theorem ggX5_numberOf_X0_floorTaken : GoodIn wsX5_numberOf wsX0_floorTaken := goodIn_r _ [28, 29, 30, 31, 12, 32, 18, 14, 15, 16, 17, 81, 82, 83, 84, 85] (by decide +kernel) (by decide +kernel)
set_option maxRecDepth 20000 in
theorem gX5_numberOf_X0_floorTaken : GoodIn wsX5_numberOf (wsV RX5 102 RX0 yX0_floorTaken wsX0_floorTaken) := goodIn_app (goodIn_of _ (by decide +kernel)) ggX5_numberOf_X0_floorTaken
set_option maxRecDepth 20000 in
theorem ggX5_numberOf_X3_size : GoodIn wsX5_numberOf wsX3_size := goodIn_r _ [37, 38, 39, 86, 87, 88] (by decide +kernel) (by decide +kernel)
set_option maxRecDepth 20000 in
theorem gX5_numberOf_X3_size : GoodIn wsX5_numberOf (wsV RX5 105 RX3 yX3_size wsX3_size) := goodIn_app (goodIn_of _ (by decide +kernel)) ggX5_numberOf_X3_size
set_option maxRecDepth 20000 in
theorem ggX5_numberOf_X5_roomKept : GoodIn wsX5_numberOf wsX5_roomKept := goodIn_r _ [43, 4, 3, 2, 44, 45, 46, 22, 47, 48, 49, 50, 12, 51, 52, 14, 15, 16, 17, 18, 53, 30, 31, 32, 71, 72, 73, 74, 75, 76, 77, 78, 79, 80, 81, 82, 83, 84, 85] (by decide +kernel) (by decide +kernel)
set_option maxRecDepth 20000 in
theorem gX5_numberOf_X5_roomKept : GoodIn wsX5_numberOf (wsV RX5 108 RX5 yX5_roomKept wsX5_roomKept) := goodIn_app (goodIn_of _ (by decide +kernel)) ggX5_numberOf_X5_roomKept
set_option maxRecDepth 20000 in
theorem ggX5_numberOf_X5_thingsWithTwins : GoodIn wsX5_numberOf wsX5_thingsWithTwins := goodIn_r _ [57, 1, 58, 59, 60, 22, 61, 2, 62, 63, 64, 12, 65, 66, 14, 15, 16, 17, 18, 67, 68, 69, 70, 4, 3, 44, 45, 46, 47, 71, 72, 73, 74, 75, 76, 77, 78, 79, 80, 81, 82, 83, 84, 85] (by decide +kernel) (by decide +kernel)
set_option maxRecDepth 20000 in
theorem gX5_numberOf_X5_thingsWithTwins : GoodIn wsX5_numberOf (wsV RX5 111 RX5 yX5_thingsWithTwins wsX5_thingsWithTwins) := goodIn_app (goodIn_of _ (by decide +kernel)) ggX5_numberOf_X5_thingsWithTwins
theorem dX5_numberOf_0 : decode cX5_numberOf 0 = .ok (.iload_n 1, 1) := by decide +kernel
theorem dX5_numberOf_1 : decode cX5_numberOf 1 = .ok (.tableswitch 143 0 11 #[63, 68, 76, 89, 94, 99, 110, 118, 123, 128, 133, 138], 63) := by decide +kernel
theorem dX5_numberOf_64 : decode cX5_numberOf 64 = .ok (.aload_n 0, 1) := by decide +kernel
theorem dX5_numberOf_65 : decode cX5_numberOf 65 = .ok (.getfield 52, 3) := by decide +kernel
theorem dX5_numberOf_68 : decode cX5_numberOf 68 = .ok (.ireturn, 1) := by decide +kernel
theorem dX5_numberOf_69 : decode cX5_numberOf 69 = .ok (.aload_n 0, 1) := by decide +kernel
theorem dX5_numberOf_70 : decode cX5_numberOf 70 = .ok (.getfield 18, 3) := by decide +kernel
theorem dX5_numberOf_73 : decode cX5_numberOf 73 = .ok (.invokevirtual 95, 3) := by decide +kernel
theorem dX5_numberOf_76 : decode cX5_numberOf 76 = .ok (.ireturn, 1) := by decide +kernel
theorem dX5_numberOf_77 : decode cX5_numberOf 77 = .ok (.aload_n 0, 1) := by decide +kernel
theorem dX5_numberOf_78 : decode cX5_numberOf 78 = .ok (.getfield 55, 3) := by decide +kernel
theorem dX5_numberOf_81 : decode cX5_numberOf 81 = .ok (.ifCond .eq 7, 3) := by decide +kernel
theorem dX5_numberOf_84 : decode cX5_numberOf 84 = .ok (.iconst 1, 1) := by decide +kernel
theorem dX5_numberOf_85 : decode cX5_numberOf 85 = .ok (.goto 4, 3) := by decide +kernel
theorem dX5_numberOf_88 : decode cX5_numberOf 88 = .ok (.iconst 0, 1) := by decide +kernel
theorem dX5_numberOf_89 : decode cX5_numberOf 89 = .ok (.ireturn, 1) := by decide +kernel
theorem dX5_numberOf_90 : decode cX5_numberOf 90 = .ok (.aload_n 0, 1) := by decide +kernel
theorem dX5_numberOf_91 : decode cX5_numberOf 91 = .ok (.getfield 59, 3) := by decide +kernel
theorem dX5_numberOf_94 : decode cX5_numberOf 94 = .ok (.ireturn, 1) := by decide +kernel
theorem dX5_numberOf_95 : decode cX5_numberOf 95 = .ok (.aload_n 0, 1) := by decide +kernel
theorem dX5_numberOf_96 : decode cX5_numberOf 96 = .ok (.invokevirtual 99, 3) := by decide +kernel
theorem dX5_numberOf_99 : decode cX5_numberOf 99 = .ok (.ireturn, 1) := by decide +kernel
theorem dX5_numberOf_100 : decode cX5_numberOf 100 = .ok (.bipush 60, 2) := by decide +kernel
theorem dX5_numberOf_102 : decode cX5_numberOf 102 = .ok (.aload_n 0, 1) := by decide +kernel
theorem dX5_numberOf_103 : decode cX5_numberOf 103 = .ok (.getfield 18, 3) := by decide +kernel
theorem dX5_numberOf_106 : decode cX5_numberOf 106 = .ok (.invokevirtual 102, 3) := by decide +kernel
theorem dX5_numberOf_109 : decode cX5_numberOf 109 = .ok (.isub, 1) := by decide +kernel
theorem dX5_numberOf_110 : decode cX5_numberOf 110 = .ok (.ireturn, 1) := by decide +kernel
theorem dX5_numberOf_111 : decode cX5_numberOf 111 = .ok (.aload_n 0, 1) := by decide +kernel
theorem dX5_numberOf_112 : decode cX5_numberOf 112 = .ok (.getfield 25, 3) := by decide +kernel
theorem dX5_numberOf_115 : decode cX5_numberOf 115 = .ok (.invokevirtual 105, 3) := by decide +kernel
theorem dX5_numberOf_118 : decode cX5_numberOf 118 = .ok (.ireturn, 1) := by decide +kernel
theorem dX5_numberOf_119 : decode cX5_numberOf 119 = .ok (.aload_n 0, 1) := by decide +kernel
theorem dX5_numberOf_120 : decode cX5_numberOf 120 = .ok (.invokevirtual 108, 3) := by decide +kernel
theorem dX5_numberOf_123 : decode cX5_numberOf 123 = .ok (.ireturn, 1) := by decide +kernel
theorem dX5_numberOf_124 : decode cX5_numberOf 124 = .ok (.aload_n 0, 1) := by decide +kernel
theorem dX5_numberOf_125 : decode cX5_numberOf 125 = .ok (.getfield 65, 3) := by decide +kernel
theorem dX5_numberOf_128 : decode cX5_numberOf 128 = .ok (.ireturn, 1) := by decide +kernel
theorem dX5_numberOf_129 : decode cX5_numberOf 129 = .ok (.aload_n 0, 1) := by decide +kernel
theorem dX5_numberOf_130 : decode cX5_numberOf 130 = .ok (.getfield 68, 3) := by decide +kernel
theorem dX5_numberOf_133 : decode cX5_numberOf 133 = .ok (.ireturn, 1) := by decide +kernel
theorem dX5_numberOf_134 : decode cX5_numberOf 134 = .ok (.aload_n 0, 1) := by decide +kernel
theorem dX5_numberOf_135 : decode cX5_numberOf 135 = .ok (.invokevirtual 111, 3) := by decide +kernel
theorem dX5_numberOf_138 : decode cX5_numberOf 138 = .ok (.ireturn, 1) := by decide +kernel
theorem dX5_numberOf_139 : decode cX5_numberOf 139 = .ok (.aload_n 0, 1) := by decide +kernel
theorem dX5_numberOf_140 : decode cX5_numberOf 140 = .ok (.getfield 29, 3) := by decide +kernel
theorem dX5_numberOf_143 : decode cX5_numberOf 143 = .ok (.ireturn, 1) := by decide +kernel
theorem dX5_numberOf_144 : decode cX5_numberOf 144 = .ok (.iconst (-1), 1) := by decide +kernel
theorem dX5_numberOf_145 : decode cX5_numberOf 145 = .ok (.ireturn, 1) := by decide +kernel
theorem dX5_changeBound_0 : decode cX5_changeBound 0 = .ok (.iload_n 1, 1) := by decide +kernel
theorem dX5_changeBound_1 : decode cX5_changeBound 1 = .ok (.iconst 2, 1) := by decide +kernel
theorem dX5_changeBound_2 : decode cX5_changeBound 2 = .ok (.if_icmp .lt 9, 3) := by decide +kernel
theorem dX5_changeBound_5 : decode cX5_changeBound 5 = .ok (.iload_n 1, 1) := by decide +kernel
theorem dX5_changeBound_6 : decode cX5_changeBound 6 = .ok (.bipush 13, 2) := by decide +kernel
theorem dX5_changeBound_8 : decode cX5_changeBound 8 = .ok (.if_icmp .le 5, 3) := by decide +kernel
theorem dX5_changeBound_11 : decode cX5_changeBound 11 = .ok (.iconst (-1), 1) := by decide +kernel
theorem dX5_changeBound_12 : decode cX5_changeBound 12 = .ok (.ireturn, 1) := by decide +kernel
theorem dX5_changeBound_13 : decode cX5_changeBound 13 = .ok (.aload_n 0, 1) := by decide +kernel
theorem dX5_changeBound_14 : decode cX5_changeBound 14 = .ok (.getfield 29, 3) := by decide +kernel
theorem dX5_changeBound_17 : decode cX5_changeBound 17 = .ok (.istore_n 2, 1) := by decide +kernel
theorem dX5_changeBound_18 : decode cX5_changeBound 18 = .ok (.aload_n 0, 1) := by decide +kernel
theorem dX5_changeBound_19 : decode cX5_changeBound 19 = .ok (.iload_n 1, 1) := by decide +kernel
theorem dX5_changeBound_20 : decode cX5_changeBound 20 = .ok (.putfield 29, 3) := by decide +kernel
theorem dX5_changeBound_23 : decode cX5_changeBound 23 = .ok (.iload_n 2, 1) := by decide +kernel
theorem dX5_changeBound_24 : decode cX5_changeBound 24 = .ok (.ireturn, 1) := by decide +kernel
set_option maxRecDepth 20000 in
theorem ggX5_makeThing_X7_isHook : GoodIn wsX5_makeThing wsX7_isHook := goodIn_r _ [9] (by decide +kernel) (by decide +kernel)
set_option maxRecDepth 20000 in
theorem gX5_makeThing_X7_isHook_n71 : GoodIn wsX5_makeThing (wsX7_isHook) := ggX5_makeThing_X7_isHook
set_option maxRecDepth 20000 in
theorem ggX5_makeThing_X0_floorAddressFor : GoodIn wsX5_makeThing wsX0_floorAddressFor := goodIn_r _ [14, 15, 16, 17, 13, 18, 19, 20, 21, 22, 23, 69, 70, 71, 72, 73] (by decide +kernel) (by decide +kernel)
set_option maxRecDepth 20000 in
theorem gX5_makeThing_X0_floorAddressFor : GoodIn wsX5_makeThing (wsV RX5 114 RX0 yX0_floorAddressFor wsX0_floorAddressFor) := goodIn_app (goodIn_of _ (by decide +kernel)) ggX5_makeThing_X0_floorAddressFor
set_option maxRecDepth 20000 in
theorem ggX5_makeThing_X5_halfAddressFor : GoodIn wsX5_makeThing wsX5_halfAddressFor := goodIn_r _ [28, 29, 4, 30, 31, 32, 27, 33, 34, 35, 36, 37, 5, 2, 38, 39, 40, 41, 42, 43, 44, 13, 45, 46, 20, 21, 22, 23, 19, 47, 16, 17, 18, 59, 60, 61, 62, 63, 64, 65, 66, 67, 68, 69, 70, 71, 72, 73] (by decide +kernel) (by decide +kernel)
set_option maxRecDepth 20000 in
theorem gX5_makeThing_X5_halfAddressFor : GoodIn wsX5_makeThing (wsV RX5 117 RX5 yX5_halfAddressFor wsX5_halfAddressFor) := goodIn_app (goodIn_of _ (by decide +kernel)) ggX5_makeThing_X5_halfAddressFor
set_option maxRecDepth 20000 in
theorem ggX5_makeThing_X0_lay : GoodIn wsX5_makeThing wsX0_lay := goodIn_r _ [51, 52, 19, 46, 53, 54, 69, 70, 71, 72, 73] (by decide +kernel) (by decide +kernel)
set_option maxRecDepth 20000 in
theorem gX5_makeThing_X0_lay : GoodIn wsX5_makeThing (wsV RX5 120 RX0 yX0_lay wsX0_lay) := goodIn_app (goodIn_of _ (by decide +kernel)) ggX5_makeThing_X0_lay
set_option maxRecDepth 20000 in
theorem ggX5_makeThing_X0_mark : GoodIn wsX5_makeThing wsX0_mark := goodIn_r _ [58, 53, 20, 21, 22, 13, 23, 19, 69, 70, 71, 72, 73] (by decide +kernel) (by decide +kernel)
set_option maxRecDepth 20000 in
theorem gX5_makeThing_X0_mark : GoodIn wsX5_makeThing (wsV RX5 124 RX0 yX0_mark wsX0_mark) := goodIn_app (goodIn_of _ (by decide +kernel)) ggX5_makeThing_X0_mark
theorem dX5_makeThing_0 : decode cX5_makeThing 0 = .ok (.iload_n 1, 1) := by decide +kernel
theorem dX5_makeThing_1 : decode cX5_makeThing 1 = .ok (.iconst 1, 1) := by decide +kernel
theorem dX5_makeThing_2 : decode cX5_makeThing 2 = .ok (.if_icmp .lt 16, 3) := by decide +kernel
theorem dX5_makeThing_5 : decode cX5_makeThing 5 = .ok (.iload_n 1, 1) := by decide +kernel
theorem dX5_makeThing_6 : decode cX5_makeThing 6 = .ok (.bipush 12, 2) := by decide +kernel
theorem dX5_makeThing_8 : decode cX5_makeThing 8 = .ok (.if_icmp .gt 10, 3) := by decide +kernel
theorem dX5_makeThing_11 : decode cX5_makeThing 11 = .ok (.iload_n 2, 1) := by decide +kernel
theorem dX5_makeThing_12 : decode cX5_makeThing 12 = .ok (.invokestatic 71, 3) := by decide +kernel
theorem dX5_makeThing_15 : decode cX5_makeThing 15 = .ok (.ifCond .ne 5, 3) := by decide +kernel
theorem dX5_makeThing_18 : decode cX5_makeThing 18 = .ok (.iconst (-1), 1) := by decide +kernel
theorem dX5_makeThing_19 : decode cX5_makeThing 19 = .ok (.ireturn, 1) := by decide +kernel
theorem dX5_makeThing_20 : decode cX5_makeThing 20 = .ok (.iload_n 1, 1) := by decide +kernel
theorem dX5_makeThing_21 : decode cX5_makeThing 21 = .ok (.aload_n 0, 1) := by decide +kernel
theorem dX5_makeThing_22 : decode cX5_makeThing 22 = .ok (.getfield 29, 3) := by decide +kernel
theorem dX5_makeThing_25 : decode cX5_makeThing 25 = .ok (.if_icmp .lt 7, 3) := by decide +kernel
theorem dX5_makeThing_28 : decode cX5_makeThing 28 = .ok (.iconst 1, 1) := by decide +kernel
theorem dX5_makeThing_29 : decode cX5_makeThing 29 = .ok (.goto 4, 3) := by decide +kernel
theorem dX5_makeThing_32 : decode cX5_makeThing 32 = .ok (.iconst 0, 1) := by decide +kernel
theorem dX5_makeThing_33 : decode cX5_makeThing 33 = .ok (.istore_n 3, 1) := by decide +kernel
theorem dX5_makeThing_34 : decode cX5_makeThing 34 = .ok (.iload_n 3, 1) := by decide +kernel
theorem dX5_makeThing_35 : decode cX5_makeThing 35 = .ok (.ifCond .eq 14, 3) := by decide +kernel
theorem dX5_makeThing_38 : decode cX5_makeThing 38 = .ok (.aload_n 0, 1) := by decide +kernel
theorem dX5_makeThing_39 : decode cX5_makeThing 39 = .ok (.getfield 18, 3) := by decide +kernel
theorem dX5_makeThing_42 : decode cX5_makeThing 42 = .ok (.iload_n 1, 1) := by decide +kernel
theorem dX5_makeThing_43 : decode cX5_makeThing 43 = .ok (.invokevirtual 114, 3) := by decide +kernel
theorem dX5_makeThing_46 : decode cX5_makeThing 46 = .ok (.goto 8, 3) := by decide +kernel
theorem dX5_makeThing_49 : decode cX5_makeThing 49 = .ok (.aload_n 0, 1) := by decide +kernel
theorem dX5_makeThing_50 : decode cX5_makeThing 50 = .ok (.iload_n 1, 1) := by decide +kernel
theorem dX5_makeThing_51 : decode cX5_makeThing 51 = .ok (.invokevirtual 117, 3) := by decide +kernel
theorem dX5_makeThing_54 : decode cX5_makeThing 54 = .ok (.istore 4, 2) := by decide +kernel
theorem dX5_makeThing_56 : decode cX5_makeThing 56 = .ok (.aload_n 0, 1) := by decide +kernel
theorem dX5_makeThing_57 : decode cX5_makeThing 57 = .ok (.getfield 52, 3) := by decide +kernel
theorem dX5_makeThing_60 : decode cX5_makeThing 60 = .ok (.bipush 40, 2) := by decide +kernel
theorem dX5_makeThing_62 : decode cX5_makeThing 62 = .ok (.if_icmp .ge 11, 3) := by decide +kernel
theorem dX5_makeThing_65 : decode cX5_makeThing 65 = .ok (.iload 4, 2) := by decide +kernel
theorem dX5_makeThing_67 : decode cX5_makeThing 67 = .ok (.sipush 300, 3) := by decide +kernel
theorem dX5_makeThing_70 : decode cX5_makeThing 70 = .ok (.if_icmp .ne 6, 3) := by decide +kernel
theorem dX5_makeThing_73 : decode cX5_makeThing 73 = .ok (.bipush (-3), 2) := by decide +kernel
theorem dX5_makeThing_75 : decode cX5_makeThing 75 = .ok (.ireturn, 1) := by decide +kernel
theorem dX5_makeThing_76 : decode cX5_makeThing 76 = .ok (.aload_n 0, 1) := by decide +kernel
theorem dX5_makeThing_77 : decode cX5_makeThing 77 = .ok (.getfield 18, 3) := by decide +kernel
theorem dX5_makeThing_80 : decode cX5_makeThing 80 = .ok (.iload 4, 2) := by decide +kernel
theorem dX5_makeThing_82 : decode cX5_makeThing 82 = .ok (.aload_n 0, 1) := by decide +kernel
theorem dX5_makeThing_83 : decode cX5_makeThing 83 = .ok (.getfield 52, 3) := by decide +kernel
theorem dX5_makeThing_86 : decode cX5_makeThing 86 = .ok (.iload_n 1, 1) := by decide +kernel
theorem dX5_makeThing_87 : decode cX5_makeThing 87 = .ok (.invokevirtual 120, 3) := by decide +kernel
theorem dX5_makeThing_90 : decode cX5_makeThing 90 = .ok (.iload_n 3, 1) := by decide +kernel
theorem dX5_makeThing_91 : decode cX5_makeThing 91 = .ok (.ifCond .ne 16, 3) := by decide +kernel
theorem dX5_makeThing_94 : decode cX5_makeThing 94 = .ok (.aload_n 0, 1) := by decide +kernel
theorem dX5_makeThing_95 : decode cX5_makeThing 95 = .ok (.dup, 1) := by decide +kernel
theorem dX5_makeThing_96 : decode cX5_makeThing 96 = .ok (.getfield 62, 3) := by decide +kernel
theorem dX5_makeThing_99 : decode cX5_makeThing 99 = .ok (.iload_n 1, 1) := by decide +kernel
theorem dX5_makeThing_100 : decode cX5_makeThing 100 = .ok (.iadd, 1) := by decide +kernel
theorem dX5_makeThing_101 : decode cX5_makeThing 101 = .ok (.putfield 62, 3) := by decide +kernel
theorem dX5_makeThing_104 : decode cX5_makeThing 104 = .ok (.goto 20, 3) := by decide +kernel
theorem dX5_makeThing_107 : decode cX5_makeThing 107 = .ok (.aload_n 0, 1) := by decide +kernel
theorem dX5_makeThing_108 : decode cX5_makeThing 108 = .ok (.getfield 55, 3) := by decide +kernel
theorem dX5_makeThing_111 : decode cX5_makeThing 111 = .ok (.ifCond .eq 13, 3) := by decide +kernel
theorem dX5_makeThing_114 : decode cX5_makeThing 114 = .ok (.aload_n 0, 1) := by decide +kernel
theorem dX5_makeThing_115 : decode cX5_makeThing 115 = .ok (.getfield 18, 3) := by decide +kernel
theorem dX5_makeThing_118 : decode cX5_makeThing 118 = .ok (.iload 4, 2) := by decide +kernel
theorem dX5_makeThing_120 : decode cX5_makeThing 120 = .ok (.invokevirtual 124, 3) := by decide +kernel
theorem dX5_makeThing_123 : decode cX5_makeThing 123 = .ok (.pop, 1) := by decide +kernel
theorem dX5_makeThing_124 : decode cX5_makeThing 124 = .ok (.aload_n 0, 1) := by decide +kernel
theorem dX5_makeThing_125 : decode cX5_makeThing 125 = .ok (.getfield 9, 3) := by decide +kernel
theorem dX5_makeThing_128 : decode cX5_makeThing 128 = .ok (.iload_n 2, 1) := by decide +kernel
theorem dX5_makeThing_129 : decode cX5_makeThing 129 = .ok (.iload 4, 2) := by decide +kernel
theorem dX5_makeThing_131 : decode cX5_makeThing 131 = .ok (.iastore, 1) := by decide +kernel
theorem dX5_makeThing_132 : decode cX5_makeThing 132 = .ok (.aload_n 0, 1) := by decide +kernel
theorem dX5_makeThing_133 : decode cX5_makeThing 133 = .ok (.dup, 1) := by decide +kernel
theorem dX5_makeThing_134 : decode cX5_makeThing 134 = .ok (.getfield 52, 3) := by decide +kernel
theorem dX5_makeThing_137 : decode cX5_makeThing 137 = .ok (.iconst 1, 1) := by decide +kernel
theorem dX5_makeThing_138 : decode cX5_makeThing 138 = .ok (.iadd, 1) := by decide +kernel
theorem dX5_makeThing_139 : decode cX5_makeThing 139 = .ok (.putfield 52, 3) := by decide +kernel
theorem dX5_makeThing_142 : decode cX5_makeThing 142 = .ok (.aload_n 0, 1) := by decide +kernel
theorem dX5_makeThing_143 : decode cX5_makeThing 143 = .ok (.getfield 52, 3) := by decide +kernel
theorem dX5_makeThing_146 : decode cX5_makeThing 146 = .ok (.iconst 1, 1) := by decide +kernel
theorem dX5_makeThing_147 : decode cX5_makeThing 147 = .ok (.isub, 1) := by decide +kernel
theorem dX5_makeThing_148 : decode cX5_makeThing 148 = .ok (.ireturn, 1) := by decide +kernel
set_option maxRecDepth 20000 in
theorem ggX5_halfAddressFor_X5_freeInHalf : GoodIn wsX5_halfAddressFor wsX5_freeInHalf := goodIn_r _ [7, 2, 33, 34, 35, 36, 37, 38, 39, 40, 41, 42] (by decide +kernel) (by decide +kernel)
set_option maxRecDepth 20000 in
theorem gX5_halfAddressFor_X5_freeInHalf : GoodIn wsX5_halfAddressFor (wsV RX5 99 RX5 yX5_freeInHalf wsX5_freeInHalf) := goodIn_app (goodIn_of _ (by decide +kernel)) ggX5_halfAddressFor_X5_freeInHalf
set_option maxRecDepth 20000 in
theorem ggX5_halfAddressFor_X5_roomKept : GoodIn wsX5_halfAddressFor wsX5_roomKept := goodIn_r _ [11, 1, 12, 13, 14, 15, 16, 6, 17, 18, 19, 20, 21, 22, 23, 24, 25, 26, 27, 28, 29, 30, 31, 32, 33, 34, 35, 36, 37, 38, 39, 40, 41, 42, 43, 44, 45, 46, 47] (by decide +kernel) (by decide +kernel)
set_option maxRecDepth 20000 in
theorem gX5_halfAddressFor_X5_roomKept : GoodIn wsX5_halfAddressFor (wsV RX5 108 RX5 yX5_roomKept wsX5_roomKept) := goodIn_app (goodIn_of _ (by decide +kernel)) ggX5_halfAddressFor_X5_roomKept
set_option maxRecDepth 20000 in
theorem ggX5_halfAddressFor_X5_addressOfHalf : GoodIn wsX5_halfAddressFor wsX5_addressOfHalf := goodIn_r _ [17] (by decide +kernel) (by decide +kernel)
set_option maxRecDepth 20000 in
theorem gX5_halfAddressFor_X5_addressOfHalf : GoodIn wsX5_halfAddressFor (wsV RX5 75 RX5 yX5_addressOfHalf wsX5_addressOfHalf) := goodIn_app (goodIn_of _ (by decide +kernel)) ggX5_halfAddressFor_X5_addressOfHalf
theorem dX5_halfAddressFor_0 : decode cX5_halfAddressFor 0 = .ok (.aload_n 0, 1) := by decide +kernel
theorem dX5_halfAddressFor_1 : decode cX5_halfAddressFor 1 = .ok (.invokevirtual 99, 3) := by decide +kernel
theorem dX5_halfAddressFor_4 : decode cX5_halfAddressFor 4 = .ok (.iload_n 1, 1) := by decide +kernel
theorem dX5_halfAddressFor_5 : decode cX5_halfAddressFor 5 = .ok (.isub, 1) := by decide +kernel
theorem dX5_halfAddressFor_6 : decode cX5_halfAddressFor 6 = .ok (.aload_n 0, 1) := by decide +kernel
theorem dX5_halfAddressFor_7 : decode cX5_halfAddressFor 7 = .ok (.invokevirtual 108, 3) := by decide +kernel
theorem dX5_halfAddressFor_10 : decode cX5_halfAddressFor 10 = .ok (.if_icmp .lt 19, 3) := by decide +kernel
theorem dX5_halfAddressFor_13 : decode cX5_halfAddressFor 13 = .ok (.aload_n 0, 1) := by decide +kernel
theorem dX5_halfAddressFor_14 : decode cX5_halfAddressFor 14 = .ok (.aload_n 0, 1) := by decide +kernel
theorem dX5_halfAddressFor_15 : decode cX5_halfAddressFor 15 = .ok (.getfield 59, 3) := by decide +kernel
theorem dX5_halfAddressFor_18 : decode cX5_halfAddressFor 18 = .ok (.invokevirtual 75, 3) := by decide +kernel
theorem dX5_halfAddressFor_21 : decode cX5_halfAddressFor 21 = .ok (.aload_n 0, 1) := by decide +kernel
theorem dX5_halfAddressFor_22 : decode cX5_halfAddressFor 22 = .ok (.getfield 62, 3) := by decide +kernel
theorem dX5_halfAddressFor_25 : decode cX5_halfAddressFor 25 = .ok (.iadd, 1) := by decide +kernel
theorem dX5_halfAddressFor_26 : decode cX5_halfAddressFor 26 = .ok (.goto 6, 3) := by decide +kernel
theorem dX5_halfAddressFor_29 : decode cX5_halfAddressFor 29 = .ok (.sipush 300, 3) := by decide +kernel
theorem dX5_halfAddressFor_32 : decode cX5_halfAddressFor 32 = .ok (.ireturn, 1) := by decide +kernel
set_option maxRecDepth 20000 in
theorem ggX5_linkHooks_X7_isHook : GoodIn wsX5_linkHooks wsX7_isHook := goodIn_r _ [5] (by decide +kernel) (by decide +kernel)
set_option maxRecDepth 20000 in
theorem gX5_linkHooks_X7_isHook_n71 : GoodIn wsX5_linkHooks (wsX7_isHook) := ggX5_linkHooks_X7_isHook
set_option maxRecDepth 20000 in
theorem ggX5_linkHooks_X7_isName : GoodIn wsX5_linkHooks wsX7_isName := goodIn_r _ [7] (by decide +kernel) (by decide +kernel)
set_option maxRecDepth 20000 in
theorem gX5_linkHooks_X7_isName_n127 : GoodIn wsX5_linkHooks (wsX7_isName) := ggX5_linkHooks_X7_isName
set_option maxRecDepth 20000 in
theorem ggX5_linkHooks_X5_readIn : GoodIn wsX5_linkHooks wsX5_readIn := goodIn_r _ [12, 2, 13, 14, 15, 16, 17, 11, 18, 19, 20, 21, 22, 23, 24, 25, 26, 27, 28, 29, 30, 31, 32, 33, 34, 35, 36, 37, 38, 39, 40, 41, 42, 43, 44, 45, 46, 47, 48, 49, 50, 51, 52, 53, 54, 55, 56, 57, 58, 59, 60, 61, 62, 63, 64, 65, 70, 71, 72, 73, 74, 75, 76, 77, 78, 79, 80, 81, 82, 83, 84, 85, 86, 87] (by decide +kernel) (by decide +kernel)
set_option maxRecDepth 20000 in
theorem gX5_linkHooks_X5_readIn : GoodIn wsX5_linkHooks (wsV RX5 130 RX5 yX5_readIn wsX5_readIn) := goodIn_app (goodIn_of _ (by decide +kernel)) ggX5_linkHooks_X5_readIn
set_option maxRecDepth 20000 in
theorem ggX5_linkHooks_X0_setName : GoodIn wsX5_linkHooks wsX0_setName := goodIn_r _ [69, 54, 30, 31, 32, 27, 33, 34, 6, 4, 7, 80, 81, 82, 83, 84] (by decide +kernel) (by decide +kernel)
set_option maxRecDepth 20000 in
theorem gX5_linkHooks_X0_setName : GoodIn wsX5_linkHooks (wsV RX5 134 RX0 yX0_setName wsX0_setName) := goodIn_app (goodIn_of _ (by decide +kernel)) ggX5_linkHooks_X0_setName
theorem dX5_linkHooks_0 : decode cX5_linkHooks 0 = .ok (.iload_n 1, 1) := by decide +kernel
theorem dX5_linkHooks_1 : decode cX5_linkHooks 1 = .ok (.invokestatic 71, 3) := by decide +kernel
theorem dX5_linkHooks_4 : decode cX5_linkHooks 4 = .ok (.ifCond .eq 17, 3) := by decide +kernel
theorem dX5_linkHooks_7 : decode cX5_linkHooks 7 = .ok (.iload_n 2, 1) := by decide +kernel
theorem dX5_linkHooks_8 : decode cX5_linkHooks 8 = .ok (.invokestatic 127, 3) := by decide +kernel
theorem dX5_linkHooks_11 : decode cX5_linkHooks 11 = .ok (.ifCond .eq 10, 3) := by decide +kernel
theorem dX5_linkHooks_14 : decode cX5_linkHooks 14 = .ok (.iload_n 3, 1) := by decide +kernel
theorem dX5_linkHooks_15 : decode cX5_linkHooks 15 = .ok (.invokestatic 71, 3) := by decide +kernel
theorem dX5_linkHooks_18 : decode cX5_linkHooks 18 = .ok (.ifCond .ne 5, 3) := by decide +kernel
theorem dX5_linkHooks_21 : decode cX5_linkHooks 21 = .ok (.iconst (-1), 1) := by decide +kernel
theorem dX5_linkHooks_22 : decode cX5_linkHooks 22 = .ok (.ireturn, 1) := by decide +kernel
theorem dX5_linkHooks_23 : decode cX5_linkHooks 23 = .ok (.aload_n 0, 1) := by decide +kernel
theorem dX5_linkHooks_24 : decode cX5_linkHooks 24 = .ok (.getfield 9, 3) := by decide +kernel
theorem dX5_linkHooks_27 : decode cX5_linkHooks 27 = .ok (.iload_n 1, 1) := by decide +kernel
theorem dX5_linkHooks_28 : decode cX5_linkHooks 28 = .ok (.iaload, 1) := by decide +kernel
theorem dX5_linkHooks_29 : decode cX5_linkHooks 29 = .ok (.sipush 300, 3) := by decide +kernel
theorem dX5_linkHooks_32 : decode cX5_linkHooks 32 = .ok (.if_icmp .ne 6, 3) := by decide +kernel
theorem dX5_linkHooks_35 : decode cX5_linkHooks 35 = .ok (.bipush (-2), 2) := by decide +kernel
theorem dX5_linkHooks_37 : decode cX5_linkHooks 37 = .ok (.ireturn, 1) := by decide +kernel
theorem dX5_linkHooks_38 : decode cX5_linkHooks 38 = .ok (.aload_n 0, 1) := by decide +kernel
theorem dX5_linkHooks_39 : decode cX5_linkHooks 39 = .ok (.aload_n 0, 1) := by decide +kernel
theorem dX5_linkHooks_40 : decode cX5_linkHooks 40 = .ok (.getfield 9, 3) := by decide +kernel
theorem dX5_linkHooks_43 : decode cX5_linkHooks 43 = .ok (.iload_n 1, 1) := by decide +kernel
theorem dX5_linkHooks_44 : decode cX5_linkHooks 44 = .ok (.invokevirtual 130, 3) := by decide +kernel
theorem dX5_linkHooks_47 : decode cX5_linkHooks 47 = .ok (.istore 4, 2) := by decide +kernel
theorem dX5_linkHooks_49 : decode cX5_linkHooks 49 = .ok (.aload_n 0, 1) := by decide +kernel
theorem dX5_linkHooks_50 : decode cX5_linkHooks 50 = .ok (.aload_n 0, 1) := by decide +kernel
theorem dX5_linkHooks_51 : decode cX5_linkHooks 51 = .ok (.getfield 9, 3) := by decide +kernel
theorem dX5_linkHooks_54 : decode cX5_linkHooks 54 = .ok (.iload_n 3, 1) := by decide +kernel
theorem dX5_linkHooks_55 : decode cX5_linkHooks 55 = .ok (.invokevirtual 130, 3) := by decide +kernel
theorem dX5_linkHooks_58 : decode cX5_linkHooks 58 = .ok (.istore 5, 2) := by decide +kernel
theorem dX5_linkHooks_60 : decode cX5_linkHooks 60 = .ok (.aload_n 0, 1) := by decide +kernel
theorem dX5_linkHooks_61 : decode cX5_linkHooks 61 = .ok (.getfield 18, 3) := by decide +kernel
theorem dX5_linkHooks_64 : decode cX5_linkHooks 64 = .ok (.iload 4, 2) := by decide +kernel
theorem dX5_linkHooks_66 : decode cX5_linkHooks 66 = .ok (.iload_n 2, 1) := by decide +kernel
theorem dX5_linkHooks_67 : decode cX5_linkHooks 67 = .ok (.iload 5, 2) := by decide +kernel
theorem dX5_linkHooks_69 : decode cX5_linkHooks 69 = .ok (.invokevirtual 134, 3) := by decide +kernel
theorem dX5_linkHooks_72 : decode cX5_linkHooks 72 = .ok (.iload 5, 2) := by decide +kernel
theorem dX5_linkHooks_74 : decode cX5_linkHooks 74 = .ok (.ireturn, 1) := by decide +kernel
set_option maxRecDepth 20000 in
theorem ggX5_followName_X7_isHook : GoodIn wsX5_followName wsX7_isHook := goodIn_r _ [5] (by decide +kernel) (by decide +kernel)
set_option maxRecDepth 20000 in
theorem gX5_followName_X7_isHook_n71 : GoodIn wsX5_followName (wsX7_isHook) := ggX5_followName_X7_isHook
set_option maxRecDepth 20000 in
theorem ggX5_followName_X7_isName : GoodIn wsX5_followName wsX7_isName := goodIn_r _ [7] (by decide +kernel) (by decide +kernel)
set_option maxRecDepth 20000 in
theorem gX5_followName_X7_isName_n127 : GoodIn wsX5_followName (wsX7_isName) := ggX5_followName_X7_isName
set_option maxRecDepth 20000 in
theorem ggX5_followName_X5_readIn : GoodIn wsX5_followName wsX5_readIn := goodIn_r _ [12, 2, 13, 14, 15, 16, 17, 11, 18, 19, 20, 21, 22, 23, 24, 25, 26, 27, 28, 29, 30, 31, 32, 33, 34, 35, 36, 37, 38, 39, 40, 41, 42, 43, 44, 45, 46, 47, 48, 49, 50, 51, 52, 53, 54, 55, 56, 57, 58, 59, 60, 61, 62, 63, 64, 65, 66, 67, 68, 69, 70, 71, 72, 73, 74, 75, 76, 77, 78, 79, 80, 81, 82, 83] (by decide +kernel) (by decide +kernel)
set_option maxRecDepth 20000 in
theorem gX5_followName_X5_readIn : GoodIn wsX5_followName (wsV RX5 130 RX5 yX5_readIn wsX5_readIn) := goodIn_app (goodIn_of _ (by decide +kernel)) ggX5_followName_X5_readIn
theorem dX5_followName_0 : decode cX5_followName 0 = .ok (.iload_n 1, 1) := by decide +kernel
theorem dX5_followName_1 : decode cX5_followName 1 = .ok (.invokestatic 71, 3) := by decide +kernel
theorem dX5_followName_4 : decode cX5_followName 4 = .ok (.ifCond .eq 17, 3) := by decide +kernel
theorem dX5_followName_7 : decode cX5_followName 7 = .ok (.iload_n 2, 1) := by decide +kernel
theorem dX5_followName_8 : decode cX5_followName 8 = .ok (.invokestatic 127, 3) := by decide +kernel
theorem dX5_followName_11 : decode cX5_followName 11 = .ok (.ifCond .eq 10, 3) := by decide +kernel
theorem dX5_followName_14 : decode cX5_followName 14 = .ok (.iload_n 3, 1) := by decide +kernel
theorem dX5_followName_15 : decode cX5_followName 15 = .ok (.invokestatic 71, 3) := by decide +kernel
theorem dX5_followName_18 : decode cX5_followName 18 = .ok (.ifCond .ne 5, 3) := by decide +kernel
theorem dX5_followName_21 : decode cX5_followName 21 = .ok (.iconst (-1), 1) := by decide +kernel
theorem dX5_followName_22 : decode cX5_followName 22 = .ok (.ireturn, 1) := by decide +kernel
theorem dX5_followName_23 : decode cX5_followName 23 = .ok (.aload_n 0, 1) := by decide +kernel
theorem dX5_followName_24 : decode cX5_followName 24 = .ok (.getfield 9, 3) := by decide +kernel
theorem dX5_followName_27 : decode cX5_followName 27 = .ok (.iload_n 1, 1) := by decide +kernel
theorem dX5_followName_28 : decode cX5_followName 28 = .ok (.iaload, 1) := by decide +kernel
theorem dX5_followName_29 : decode cX5_followName 29 = .ok (.sipush 300, 3) := by decide +kernel
theorem dX5_followName_32 : decode cX5_followName 32 = .ok (.if_icmp .ne 6, 3) := by decide +kernel
theorem dX5_followName_35 : decode cX5_followName 35 = .ok (.bipush (-2), 2) := by decide +kernel
theorem dX5_followName_37 : decode cX5_followName 37 = .ok (.ireturn, 1) := by decide +kernel
theorem dX5_followName_38 : decode cX5_followName 38 = .ok (.aload_n 0, 1) := by decide +kernel
theorem dX5_followName_39 : decode cX5_followName 39 = .ok (.aload_n 0, 1) := by decide +kernel
theorem dX5_followName_40 : decode cX5_followName 40 = .ok (.getfield 9, 3) := by decide +kernel
theorem dX5_followName_43 : decode cX5_followName 43 = .ok (.iload_n 1, 1) := by decide +kernel
theorem dX5_followName_44 : decode cX5_followName 44 = .ok (.invokevirtual 130, 3) := by decide +kernel
theorem dX5_followName_47 : decode cX5_followName 47 = .ok (.istore 4, 2) := by decide +kernel
theorem dX5_followName_49 : decode cX5_followName 49 = .ok (.aload_n 0, 1) := by decide +kernel
theorem dX5_followName_50 : decode cX5_followName 50 = .ok (.getfield 9, 3) := by decide +kernel
theorem dX5_followName_53 : decode cX5_followName 53 = .ok (.iload_n 3, 1) := by decide +kernel
theorem dX5_followName_54 : decode cX5_followName 54 = .ok (.aload_n 0, 1) := by decide +kernel
theorem dX5_followName_55 : decode cX5_followName 55 = .ok (.aload_n 0, 1) := by decide +kernel
theorem dX5_followName_56 : decode cX5_followName 56 = .ok (.getfield 18, 3) := by decide +kernel
theorem dX5_followName_59 : decode cX5_followName 59 = .ok (.getfield 137, 3) := by decide +kernel
theorem dX5_followName_62 : decode cX5_followName 62 = .ok (.iload 4, 2) := by decide +kernel
theorem dX5_followName_64 : decode cX5_followName 64 = .ok (.iconst 2, 1) := by decide +kernel
theorem dX5_followName_65 : decode cX5_followName 65 = .ok (.imul, 1) := by decide +kernel
theorem dX5_followName_66 : decode cX5_followName 66 = .ok (.iload_n 2, 1) := by decide +kernel
theorem dX5_followName_67 : decode cX5_followName 67 = .ok (.iadd, 1) := by decide +kernel
theorem dX5_followName_68 : decode cX5_followName 68 = .ok (.invokevirtual 130, 3) := by decide +kernel
theorem dX5_followName_71 : decode cX5_followName 71 = .ok (.iastore, 1) := by decide +kernel
theorem dX5_followName_72 : decode cX5_followName 72 = .ok (.aload_n 0, 1) := by decide +kernel
theorem dX5_followName_73 : decode cX5_followName 73 = .ok (.getfield 9, 3) := by decide +kernel
theorem dX5_followName_76 : decode cX5_followName 76 = .ok (.iload_n 3, 1) := by decide +kernel
theorem dX5_followName_77 : decode cX5_followName 77 = .ok (.iaload, 1) := by decide +kernel
theorem dX5_followName_78 : decode cX5_followName 78 = .ok (.ireturn, 1) := by decide +kernel
set_option maxRecDepth 20000 in
theorem ggX5_dropHook_X7_isHook : GoodIn wsX5_dropHook wsX7_isHook := goodIn_r _ [4] (by decide +kernel) (by decide +kernel)
set_option maxRecDepth 20000 in
theorem gX5_dropHook_X7_isHook_n71 : GoodIn wsX5_dropHook (wsX7_isHook) := ggX5_dropHook_X7_isHook
theorem dX5_dropHook_0 : decode cX5_dropHook 0 = .ok (.iload_n 1, 1) := by decide +kernel
theorem dX5_dropHook_1 : decode cX5_dropHook 1 = .ok (.invokestatic 71, 3) := by decide +kernel
theorem dX5_dropHook_4 : decode cX5_dropHook 4 = .ok (.ifCond .ne 5, 3) := by decide +kernel
theorem dX5_dropHook_7 : decode cX5_dropHook 7 = .ok (.iconst (-1), 1) := by decide +kernel
theorem dX5_dropHook_8 : decode cX5_dropHook 8 = .ok (.ireturn, 1) := by decide +kernel
theorem dX5_dropHook_9 : decode cX5_dropHook 9 = .ok (.aload_n 0, 1) := by decide +kernel
theorem dX5_dropHook_10 : decode cX5_dropHook 10 = .ok (.getfield 9, 3) := by decide +kernel
theorem dX5_dropHook_13 : decode cX5_dropHook 13 = .ok (.iload_n 1, 1) := by decide +kernel
theorem dX5_dropHook_14 : decode cX5_dropHook 14 = .ok (.iaload, 1) := by decide +kernel
theorem dX5_dropHook_15 : decode cX5_dropHook 15 = .ok (.istore_n 2, 1) := by decide +kernel
theorem dX5_dropHook_16 : decode cX5_dropHook 16 = .ok (.aload_n 0, 1) := by decide +kernel
theorem dX5_dropHook_17 : decode cX5_dropHook 17 = .ok (.getfield 9, 3) := by decide +kernel
theorem dX5_dropHook_20 : decode cX5_dropHook 20 = .ok (.iload_n 1, 1) := by decide +kernel
theorem dX5_dropHook_21 : decode cX5_dropHook 21 = .ok (.sipush 300, 3) := by decide +kernel
theorem dX5_dropHook_24 : decode cX5_dropHook 24 = .ok (.iastore, 1) := by decide +kernel
theorem dX5_dropHook_25 : decode cX5_dropHook 25 = .ok (.iload_n 2, 1) := by decide +kernel
theorem dX5_dropHook_26 : decode cX5_dropHook 26 = .ok (.ireturn, 1) := by decide +kernel
set_option maxRecDepth 20000 in
theorem ggX5_beginMove_X3_clear : GoodIn wsX5_beginMove wsX3_clear := goodIn_r _ [10, 11, 12, 97, 98, 99] (by decide +kernel) (by decide +kernel)
set_option maxRecDepth 20000 in
theorem gX5_beginMove_X3_clear : GoodIn wsX5_beginMove (wsV RX5 140 RX3 yX3_clear wsX3_clear) := goodIn_app (goodIn_of _ (by decide +kernel)) ggX5_beginMove_X3_clear
set_option maxRecDepth 20000 in
theorem ggX5_beginMove_X5_readIn : GoodIn wsX5_beginMove wsX5_readIn := goodIn_r _ [17, 18, 1, 4, 19, 20, 21, 16, 22, 2, 23, 24, 25, 26, 27, 28, 29, 30, 31, 32, 33, 34, 35, 36, 37, 38, 39, 40, 41, 42, 43, 44, 45, 3, 46, 47, 48, 49, 50, 51, 52, 53, 54, 55, 56, 57, 58, 59, 9, 60, 12, 61, 62, 63, 64, 65, 87, 88, 89, 90, 91, 92, 93, 94, 95, 96, 100, 101, 102, 103, 104, 97, 98, 99] (by decide +kernel) (by decide +kernel)
set_option maxRecDepth 20000 in
theorem gX5_beginMove_X5_readIn : GoodIn wsX5_beginMove (wsV RX5 130 RX5 yX5_readIn wsX5_readIn) := goodIn_app (goodIn_of _ (by decide +kernel)) ggX5_beginMove_X5_readIn
set_option maxRecDepth 20000 in
theorem ggX5_beginMove_X3_size : GoodIn wsX5_beginMove wsX3_size := goodIn_r _ [69, 12, 11, 97, 98, 99] (by decide +kernel) (by decide +kernel)
set_option maxRecDepth 20000 in
theorem gX5_beginMove_X3_size : GoodIn wsX5_beginMove (wsV RX5 105 RX3 yX3_size wsX3_size) := goodIn_app (goodIn_of _ (by decide +kernel)) ggX5_beginMove_X3_size
set_option maxRecDepth 20000 in
theorem ggX5_beginMove_X5_endMove : GoodIn wsX5_beginMove wsX5_endMove := goodIn_r _ [73, 18, 2, 1, 74, 75, 76, 77, 30, 78, 79, 80, 81, 82, 37, 83, 84, 85, 86, 55, 87, 88, 89, 90, 91, 92, 93, 94, 95, 96, 100, 101, 102, 103, 104] (by decide +kernel) (by decide +kernel)
set_option maxRecDepth 20000 in
theorem gX5_beginMove_X5_endMove : GoodIn wsX5_beginMove (wsV RX5 143 RX5 yX5_endMove wsX5_endMove) := goodIn_app (goodIn_of _ (by decide +kernel)) ggX5_beginMove_X5_endMove
theorem dX5_beginMove_0 : decode cX5_beginMove 0 = .ok (.aload_n 0, 1) := by decide +kernel
theorem dX5_beginMove_1 : decode cX5_beginMove 1 = .ok (.getfield 55, 3) := by decide +kernel
theorem dX5_beginMove_4 : decode cX5_beginMove 4 = .ok (.ifCond .eq 6, 3) := by decide +kernel
theorem dX5_beginMove_7 : decode cX5_beginMove 7 = .ok (.bipush (-2), 2) := by decide +kernel
theorem dX5_beginMove_9 : decode cX5_beginMove 9 = .ok (.ireturn, 1) := by decide +kernel
theorem dX5_beginMove_10 : decode cX5_beginMove 10 = .ok (.aload_n 0, 1) := by decide +kernel
theorem dX5_beginMove_11 : decode cX5_beginMove 11 = .ok (.iconst 1, 1) := by decide +kernel
theorem dX5_beginMove_12 : decode cX5_beginMove 12 = .ok (.putfield 55, 3) := by decide +kernel
theorem dX5_beginMove_15 : decode cX5_beginMove 15 = .ok (.aload_n 0, 1) := by decide +kernel
theorem dX5_beginMove_16 : decode cX5_beginMove 16 = .ok (.iconst 1, 1) := by decide +kernel
theorem dX5_beginMove_17 : decode cX5_beginMove 17 = .ok (.aload_n 0, 1) := by decide +kernel
theorem dX5_beginMove_18 : decode cX5_beginMove 18 = .ok (.getfield 59, 3) := by decide +kernel
theorem dX5_beginMove_21 : decode cX5_beginMove 21 = .ok (.isub, 1) := by decide +kernel
theorem dX5_beginMove_22 : decode cX5_beginMove 22 = .ok (.putfield 59, 3) := by decide +kernel
theorem dX5_beginMove_25 : decode cX5_beginMove 25 = .ok (.aload_n 0, 1) := by decide +kernel
theorem dX5_beginMove_26 : decode cX5_beginMove 26 = .ok (.iconst 0, 1) := by decide +kernel
theorem dX5_beginMove_27 : decode cX5_beginMove 27 = .ok (.putfield 62, 3) := by decide +kernel
theorem dX5_beginMove_30 : decode cX5_beginMove 30 = .ok (.aload_n 0, 1) := by decide +kernel
theorem dX5_beginMove_31 : decode cX5_beginMove 31 = .ok (.getfield 25, 3) := by decide +kernel
theorem dX5_beginMove_34 : decode cX5_beginMove 34 = .ok (.invokevirtual 140, 3) := by decide +kernel
theorem dX5_beginMove_37 : decode cX5_beginMove 37 = .ok (.iconst 0, 1) := by decide +kernel
theorem dX5_beginMove_38 : decode cX5_beginMove 38 = .ok (.istore_n 1, 1) := by decide +kernel
theorem dX5_beginMove_39 : decode cX5_beginMove 39 = .ok (.iload_n 1, 1) := by decide +kernel
theorem dX5_beginMove_40 : decode cX5_beginMove 40 = .ok (.bipush 8, 2) := by decide +kernel
theorem dX5_beginMove_42 : decode cX5_beginMove 42 = .ok (.if_icmp .ge 19, 3) := by decide +kernel
theorem dX5_beginMove_45 : decode cX5_beginMove 45 = .ok (.aload_n 0, 1) := by decide +kernel
theorem dX5_beginMove_46 : decode cX5_beginMove 46 = .ok (.aload_n 0, 1) := by decide +kernel
theorem dX5_beginMove_47 : decode cX5_beginMove 47 = .ok (.getfield 9, 3) := by decide +kernel
theorem dX5_beginMove_50 : decode cX5_beginMove 50 = .ok (.iload_n 1, 1) := by decide +kernel
theorem dX5_beginMove_51 : decode cX5_beginMove 51 = .ok (.invokevirtual 130, 3) := by decide +kernel
theorem dX5_beginMove_54 : decode cX5_beginMove 54 = .ok (.pop, 1) := by decide +kernel
theorem dX5_beginMove_55 : decode cX5_beginMove 55 = .ok (.iinc 1 1, 3) := by decide +kernel
theorem dX5_beginMove_58 : decode cX5_beginMove 58 = .ok (.goto (-19), 3) := by decide +kernel
theorem dX5_beginMove_61 : decode cX5_beginMove 61 = .ok (.aload_n 0, 1) := by decide +kernel
theorem dX5_beginMove_62 : decode cX5_beginMove 62 = .ok (.getfield 25, 3) := by decide +kernel
theorem dX5_beginMove_65 : decode cX5_beginMove 65 = .ok (.invokevirtual 105, 3) := by decide +kernel
theorem dX5_beginMove_68 : decode cX5_beginMove 68 = .ok (.istore_n 1, 1) := by decide +kernel
theorem dX5_beginMove_69 : decode cX5_beginMove 69 = .ok (.iload_n 1, 1) := by decide +kernel
theorem dX5_beginMove_70 : decode cX5_beginMove 70 = .ok (.ifCond .ne 7, 3) := by decide +kernel
theorem dX5_beginMove_73 : decode cX5_beginMove 73 = .ok (.aload_n 0, 1) := by decide +kernel
theorem dX5_beginMove_74 : decode cX5_beginMove 74 = .ok (.invokevirtual 143, 3) := by decide +kernel
theorem dX5_beginMove_77 : decode cX5_beginMove 77 = .ok (.iload_n 1, 1) := by decide +kernel
theorem dX5_beginMove_78 : decode cX5_beginMove 78 = .ok (.ireturn, 1) := by decide +kernel
set_option maxRecDepth 20000 in
theorem ggX5_carrySteps_X5_stepsUpTo : GoodIn wsX5_carrySteps wsX5_stepsUpTo := goodIn_r _ [6, 1, 7, 8, 9, 10, 11, 12, 13, 14, 15, 16, 17, 18, 19, 5, 20, 21, 22, 23, 24, 25, 26, 27, 28, 29, 30, 31, 32, 33, 34, 35, 36, 37, 38, 39, 40, 41, 42, 43, 44, 45, 46, 47, 48, 49, 50, 51, 52, 53, 54, 55, 56, 57, 58, 59, 60, 61, 62, 63, 64, 65, 66, 67, 68, 69, 70, 71, 72, 73, 74, 75, 76, 77, 78, 79, 80, 81, 82, 83, 84, 85, 86, 87, 88, 89, 90, 91, 92, 93, 94, 95, 96, 97, 98, 99, 100, 101, 102, 103, 104, 105, 106, 107] (by decide +kernel) (by decide +kernel)
set_option maxRecDepth 20000 in
theorem gX5_carrySteps_X5_stepsUpTo : GoodIn wsX5_carrySteps (wsV RX5 146 RX5 yX5_stepsUpTo wsX5_stepsUpTo) := goodIn_app (goodIn_of _ (by decide +kernel)) ggX5_carrySteps_X5_stepsUpTo
theorem dX5_carrySteps_0 : decode cX5_carrySteps 0 = .ok (.iload_n 1, 1) := by decide +kernel
theorem dX5_carrySteps_1 : decode cX5_carrySteps 1 = .ok (.iconst 1, 1) := by decide +kernel
theorem dX5_carrySteps_2 : decode cX5_carrySteps 2 = .ok (.if_icmp .lt 9, 3) := by decide +kernel
theorem dX5_carrySteps_5 : decode cX5_carrySteps 5 = .ok (.iload_n 1, 1) := by decide +kernel
theorem dX5_carrySteps_6 : decode cX5_carrySteps 6 = .ok (.bipush 99, 2) := by decide +kernel
theorem dX5_carrySteps_8 : decode cX5_carrySteps 8 = .ok (.if_icmp .le 5, 3) := by decide +kernel
theorem dX5_carrySteps_11 : decode cX5_carrySteps 11 = .ok (.iconst (-1), 1) := by decide +kernel
theorem dX5_carrySteps_12 : decode cX5_carrySteps 12 = .ok (.ireturn, 1) := by decide +kernel
theorem dX5_carrySteps_13 : decode cX5_carrySteps 13 = .ok (.aload_n 0, 1) := by decide +kernel
theorem dX5_carrySteps_14 : decode cX5_carrySteps 14 = .ok (.getfield 55, 3) := by decide +kernel
theorem dX5_carrySteps_17 : decode cX5_carrySteps 17 = .ok (.ifCond .eq 11, 3) := by decide +kernel
theorem dX5_carrySteps_20 : decode cX5_carrySteps 20 = .ok (.aload_n 0, 1) := by decide +kernel
theorem dX5_carrySteps_21 : decode cX5_carrySteps 21 = .ok (.iload_n 1, 1) := by decide +kernel
theorem dX5_carrySteps_22 : decode cX5_carrySteps 22 = .ok (.invokevirtual 146, 3) := by decide +kernel
theorem dX5_carrySteps_25 : decode cX5_carrySteps 25 = .ok (.goto 5, 3) := by decide +kernel
theorem dX5_carrySteps_28 : decode cX5_carrySteps 28 = .ok (.bipush (-2), 2) := by decide +kernel
theorem dX5_carrySteps_30 : decode cX5_carrySteps 30 = .ok (.ireturn, 1) := by decide +kernel
set_option maxRecDepth 20000 in
theorem ggX5_stepsUpTo_X3_takeFirst : GoodIn wsX5_stepsUpTo wsX3_takeFirst := goodIn_r _ [8, 9, 10, 11, 101, 102, 103] (by decide +kernel) (by decide +kernel)
set_option maxRecDepth 20000 in
theorem gX5_stepsUpTo_X3_takeFirst : GoodIn wsX5_stepsUpTo (wsV RX5 149 RX3 yX3_takeFirst wsX3_takeFirst) := goodIn_app (goodIn_of _ (by decide +kernel)) ggX5_stepsUpTo_X3_takeFirst
set_option maxRecDepth 20000 in
theorem ggX5_stepsUpTo_X5_readIn : GoodIn wsX5_stepsUpTo wsX5_readIn := goodIn_r _ [16, 3, 1, 2, 17, 18, 19, 15, 20, 21, 22, 23, 24, 25, 26, 27, 28, 29, 30, 31, 32, 33, 34, 35, 36, 37, 38, 39, 40, 41, 42, 43, 44, 45, 46, 47, 48, 49, 50, 51, 52, 53, 54, 55, 56, 57, 58, 59, 7, 60, 10, 11, 61, 62, 63, 64, 86, 87, 88, 89, 90, 91, 92, 93, 94, 95, 96, 97, 98, 99, 100, 101, 102, 103] (by decide +kernel) (by decide +kernel)
set_option maxRecDepth 20000 in
theorem gX5_stepsUpTo_X5_readIn : GoodIn wsX5_stepsUpTo (wsV RX5 130 RX5 yX5_readIn wsX5_readIn) := goodIn_app (goodIn_of _ (by decide +kernel)) ggX5_stepsUpTo_X5_readIn
set_option maxRecDepth 20000 in
theorem ggX5_stepsUpTo_X3_size : GoodIn wsX5_stepsUpTo wsX3_size := goodIn_r _ [68, 10, 9, 101, 102, 103] (by decide +kernel) (by decide +kernel)
set_option maxRecDepth 20000 in
theorem gX5_stepsUpTo_X3_size : GoodIn wsX5_stepsUpTo (wsV RX5 105 RX3 yX3_size wsX3_size) := goodIn_app (goodIn_of _ (by decide +kernel)) ggX5_stepsUpTo_X3_size
set_option maxRecDepth 20000 in
theorem ggX5_stepsUpTo_X5_endMove : GoodIn wsX5_stepsUpTo wsX5_endMove := goodIn_r _ [72, 3, 21, 1, 73, 74, 75, 76, 29, 77, 78, 79, 80, 81, 36, 82, 83, 84, 85, 55, 86, 87, 88, 89, 90, 91, 92, 93, 94, 95, 96, 97, 98, 99, 100] (by decide +kernel) (by decide +kernel)
set_option maxRecDepth 20000 in
theorem gX5_stepsUpTo_X5_endMove : GoodIn wsX5_stepsUpTo (wsV RX5 143 RX5 yX5_endMove wsX5_endMove) := goodIn_app (goodIn_of _ (by decide +kernel)) ggX5_stepsUpTo_X5_endMove
theorem dX5_stepsUpTo_0 : decode cX5_stepsUpTo 0 = .ok (.iconst 0, 1) := by decide +kernel
theorem dX5_stepsUpTo_1 : decode cX5_stepsUpTo 1 = .ok (.istore_n 2, 1) := by decide +kernel
theorem dX5_stepsUpTo_2 : decode cX5_stepsUpTo 2 = .ok (.aload_n 0, 1) := by decide +kernel
theorem dX5_stepsUpTo_3 : decode cX5_stepsUpTo 3 = .ok (.getfield 55, 3) := by decide +kernel
theorem dX5_stepsUpTo_6 : decode cX5_stepsUpTo 6 = .ok (.ifCond .eq 68, 3) := by decide +kernel
theorem dX5_stepsUpTo_9 : decode cX5_stepsUpTo 9 = .ok (.iload_n 2, 1) := by decide +kernel
theorem dX5_stepsUpTo_10 : decode cX5_stepsUpTo 10 = .ok (.iload_n 1, 1) := by decide +kernel
theorem dX5_stepsUpTo_11 : decode cX5_stepsUpTo 11 = .ok (.if_icmp .ge 63, 3) := by decide +kernel
theorem dX5_stepsUpTo_14 : decode cX5_stepsUpTo 14 = .ok (.aload_n 0, 1) := by decide +kernel
theorem dX5_stepsUpTo_15 : decode cX5_stepsUpTo 15 = .ok (.getfield 25, 3) := by decide +kernel
theorem dX5_stepsUpTo_18 : decode cX5_stepsUpTo 18 = .ok (.invokevirtual 149, 3) := by decide +kernel
theorem dX5_stepsUpTo_21 : decode cX5_stepsUpTo 21 = .ok (.istore_n 3, 1) := by decide +kernel
theorem dX5_stepsUpTo_22 : decode cX5_stepsUpTo 22 = .ok (.aload_n 0, 1) := by decide +kernel
theorem dX5_stepsUpTo_23 : decode cX5_stepsUpTo 23 = .ok (.aload_n 0, 1) := by decide +kernel
theorem dX5_stepsUpTo_24 : decode cX5_stepsUpTo 24 = .ok (.getfield 18, 3) := by decide +kernel
theorem dX5_stepsUpTo_27 : decode cX5_stepsUpTo 27 = .ok (.getfield 137, 3) := by decide +kernel
theorem dX5_stepsUpTo_30 : decode cX5_stepsUpTo 30 = .ok (.iload_n 3, 1) := by decide +kernel
theorem dX5_stepsUpTo_31 : decode cX5_stepsUpTo 31 = .ok (.iconst 2, 1) := by decide +kernel
theorem dX5_stepsUpTo_32 : decode cX5_stepsUpTo 32 = .ok (.imul, 1) := by decide +kernel
theorem dX5_stepsUpTo_33 : decode cX5_stepsUpTo 33 = .ok (.invokevirtual 130, 3) := by decide +kernel
theorem dX5_stepsUpTo_36 : decode cX5_stepsUpTo 36 = .ok (.pop, 1) := by decide +kernel
theorem dX5_stepsUpTo_37 : decode cX5_stepsUpTo 37 = .ok (.aload_n 0, 1) := by decide +kernel
theorem dX5_stepsUpTo_38 : decode cX5_stepsUpTo 38 = .ok (.aload_n 0, 1) := by decide +kernel
theorem dX5_stepsUpTo_39 : decode cX5_stepsUpTo 39 = .ok (.getfield 18, 3) := by decide +kernel
theorem dX5_stepsUpTo_42 : decode cX5_stepsUpTo 42 = .ok (.getfield 137, 3) := by decide +kernel
theorem dX5_stepsUpTo_45 : decode cX5_stepsUpTo 45 = .ok (.iload_n 3, 1) := by decide +kernel
theorem dX5_stepsUpTo_46 : decode cX5_stepsUpTo 46 = .ok (.iconst 2, 1) := by decide +kernel
theorem dX5_stepsUpTo_47 : decode cX5_stepsUpTo 47 = .ok (.imul, 1) := by decide +kernel
theorem dX5_stepsUpTo_48 : decode cX5_stepsUpTo 48 = .ok (.iconst 1, 1) := by decide +kernel
theorem dX5_stepsUpTo_49 : decode cX5_stepsUpTo 49 = .ok (.iadd, 1) := by decide +kernel
theorem dX5_stepsUpTo_50 : decode cX5_stepsUpTo 50 = .ok (.invokevirtual 130, 3) := by decide +kernel
theorem dX5_stepsUpTo_53 : decode cX5_stepsUpTo 53 = .ok (.pop, 1) := by decide +kernel
theorem dX5_stepsUpTo_54 : decode cX5_stepsUpTo 54 = .ok (.aload_n 0, 1) := by decide +kernel
theorem dX5_stepsUpTo_55 : decode cX5_stepsUpTo 55 = .ok (.getfield 25, 3) := by decide +kernel
theorem dX5_stepsUpTo_58 : decode cX5_stepsUpTo 58 = .ok (.invokevirtual 105, 3) := by decide +kernel
theorem dX5_stepsUpTo_61 : decode cX5_stepsUpTo 61 = .ok (.ifCond .ne 7, 3) := by decide +kernel
theorem dX5_stepsUpTo_64 : decode cX5_stepsUpTo 64 = .ok (.aload_n 0, 1) := by decide +kernel
theorem dX5_stepsUpTo_65 : decode cX5_stepsUpTo 65 = .ok (.invokevirtual 143, 3) := by decide +kernel
theorem dX5_stepsUpTo_68 : decode cX5_stepsUpTo 68 = .ok (.iinc 2 1, 3) := by decide +kernel
theorem dX5_stepsUpTo_71 : decode cX5_stepsUpTo 71 = .ok (.goto (-69), 3) := by decide +kernel
theorem dX5_stepsUpTo_74 : decode cX5_stepsUpTo 74 = .ok (.iload_n 2, 1) := by decide +kernel
theorem dX5_stepsUpTo_75 : decode cX5_stepsUpTo 75 = .ok (.ireturn, 1) := by decide +kernel
set_option maxRecDepth 20000 in
theorem ggX5_endMove_X0_emptyHalf : GoodIn wsX5_endMove wsX0_emptyHalf := goodIn_r _ [9, 10, 11, 12, 8, 13, 14, 30, 31, 32, 33, 34] (by decide +kernel) (by decide +kernel)
set_option maxRecDepth 20000 in
theorem gX5_endMove_X0_emptyHalf : GoodIn wsX5_endMove (wsV RX5 152 RX0 yX0_emptyHalf wsX0_emptyHalf) := goodIn_app (goodIn_of _ (by decide +kernel)) ggX5_endMove_X0_emptyHalf
set_option maxRecDepth 20000 in
theorem ggX5_endMove_X0_sweepFloor : GoodIn wsX5_endMove wsX0_sweepFloor := goodIn_r _ [18, 19, 10, 11, 12, 8, 13, 14, 30, 31, 32, 33, 34] (by decide +kernel) (by decide +kernel)
set_option maxRecDepth 20000 in
theorem gX5_endMove_X0_sweepFloor : GoodIn wsX5_endMove (wsV RX5 156 RX0 yX0_sweepFloor wsX0_sweepFloor) := goodIn_app (goodIn_of _ (by decide +kernel)) ggX5_endMove_X0_sweepFloor
theorem dX5_endMove_0 : decode cX5_endMove 0 = .ok (.aload_n 0, 1) := by decide +kernel
theorem dX5_endMove_1 : decode cX5_endMove 1 = .ok (.getfield 18, 3) := by decide +kernel
theorem dX5_endMove_4 : decode cX5_endMove 4 = .ok (.iconst 1, 1) := by decide +kernel
theorem dX5_endMove_5 : decode cX5_endMove 5 = .ok (.aload_n 0, 1) := by decide +kernel
theorem dX5_endMove_6 : decode cX5_endMove 6 = .ok (.getfield 59, 3) := by decide +kernel
theorem dX5_endMove_9 : decode cX5_endMove 9 = .ok (.isub, 1) := by decide +kernel
theorem dX5_endMove_10 : decode cX5_endMove 10 = .ok (.invokevirtual 152, 3) := by decide +kernel
theorem dX5_endMove_13 : decode cX5_endMove 13 = .ok (.aload_n 0, 1) := by decide +kernel
theorem dX5_endMove_14 : decode cX5_endMove 14 = .ok (.getfield 18, 3) := by decide +kernel
theorem dX5_endMove_17 : decode cX5_endMove 17 = .ok (.invokevirtual 156, 3) := by decide +kernel
theorem dX5_endMove_20 : decode cX5_endMove 20 = .ok (.aload_n 0, 1) := by decide +kernel
theorem dX5_endMove_21 : decode cX5_endMove 21 = .ok (.iconst 0, 1) := by decide +kernel
theorem dX5_endMove_22 : decode cX5_endMove 22 = .ok (.putfield 55, 3) := by decide +kernel
theorem dX5_endMove_25 : decode cX5_endMove 25 = .ok (.aload_n 0, 1) := by decide +kernel
theorem dX5_endMove_26 : decode cX5_endMove 26 = .ok (.dup, 1) := by decide +kernel
theorem dX5_endMove_27 : decode cX5_endMove 27 = .ok (.getfield 68, 3) := by decide +kernel
theorem dX5_endMove_30 : decode cX5_endMove 30 = .ok (.iconst 1, 1) := by decide +kernel
theorem dX5_endMove_31 : decode cX5_endMove 31 = .ok (.iadd, 1) := by decide +kernel
theorem dX5_endMove_32 : decode cX5_endMove 32 = .ok (.putfield 68, 3) := by decide +kernel
theorem dX5_endMove_35 : decode cX5_endMove 35 = .ok (.return_, 1) := by decide +kernel
set_option maxRecDepth 20000 in
theorem ggX5_loseNote_X5_isThing : GoodIn wsX5_loseNote wsX5_isThing := goodIn_r _ [7, 8, 52, 53, 54, 55, 56, 57, 58, 59, 60, 61] (by decide +kernel) (by decide +kernel)
set_option maxRecDepth 20000 in
theorem gX5_loseNote_X5_isThing : GoodIn wsX5_loseNote (wsV RX5 159 RX5 yX5_isThing wsX5_isThing) := goodIn_app (goodIn_of _ (by decide +kernel)) ggX5_loseNote_X5_isThing
set_option maxRecDepth 20000 in
theorem ggX5_loseNote_X5_firstWithNote : GoodIn wsX5_loseNote wsX5_firstWithNote := goodIn_r _ [12, 1, 13, 14, 15, 16, 17, 18, 19, 20, 21, 22, 23, 24, 25, 26, 27, 28, 52, 53, 54, 55, 56, 57, 58, 59, 60, 61, 62, 63, 64, 65, 66] (by decide +kernel) (by decide +kernel)
set_option maxRecDepth 20000 in
theorem gX5_loseNote_X5_firstWithNote : GoodIn wsX5_loseNote (wsV RX5 162 RX5 yX5_firstWithNote wsX5_firstWithNote) := goodIn_app (goodIn_of _ (by decide +kernel)) ggX5_loseNote_X5_firstWithNote
set_option maxRecDepth 20000 in
theorem ggX5_loseNote_X5_freeInHalf : GoodIn wsX5_loseNote wsX5_freeInHalf := goodIn_r _ [32, 33, 52, 53, 54, 55, 56, 57, 58, 59, 60, 61] (by decide +kernel) (by decide +kernel)
set_option maxRecDepth 20000 in
theorem gX5_loseNote_X5_freeInHalf : GoodIn wsX5_loseNote (wsV RX5 99 RX5 yX5_freeInHalf wsX5_freeInHalf) := goodIn_app (goodIn_of _ (by decide +kernel)) ggX5_loseNote_X5_freeInHalf
set_option maxRecDepth 20000 in
theorem ggX5_loseNote_X5_roomKept : GoodIn wsX5_loseNote wsX5_roomKept := goodIn_r _ [37, 38, 39, 1, 40, 41, 42, 6, 43, 24, 25, 26, 16, 27, 28, 19, 20, 21, 22, 23, 44, 45, 46, 47, 52, 53, 54, 55, 56, 57, 58, 59, 60, 61, 62, 63, 64, 65, 66] (by decide +kernel) (by decide +kernel)
set_option maxRecDepth 20000 in
theorem gX5_loseNote_X5_roomKept : GoodIn wsX5_loseNote (wsV RX5 108 RX5 yX5_roomKept wsX5_roomKept) := goodIn_app (goodIn_of _ (by decide +kernel)) ggX5_loseNote_X5_roomKept
set_option maxRecDepth 20000 in
theorem ggX5_loseNote_X0_sizeAt : GoodIn wsX5_loseNote wsX0_sizeAt := goodIn_r _ [47, 23, 19, 20, 21, 16, 22, 62, 63, 64, 65, 66] (by decide +kernel) (by decide +kernel)
set_option maxRecDepth 20000 in
theorem gX5_loseNote_X0_sizeAt : GoodIn wsX5_loseNote (wsV RX5 82 RX0 yX0_sizeAt wsX0_sizeAt) := goodIn_app (goodIn_of _ (by decide +kernel)) ggX5_loseNote_X0_sizeAt
set_option maxRecDepth 20000 in
theorem ggX5_loseNote_X0_loseNoteAt : GoodIn wsX5_loseNote wsX0_loseNoteAt := goodIn_r _ [51, 28, 19, 20, 21, 16, 22, 23, 62, 63, 64, 65, 66] (by decide +kernel) (by decide +kernel)
set_option maxRecDepth 20000 in
theorem gX5_loseNote_X0_loseNoteAt : GoodIn wsX5_loseNote (wsV RX5 165 RX0 yX0_loseNoteAt wsX0_loseNoteAt) := goodIn_app (goodIn_of _ (by decide +kernel)) ggX5_loseNote_X0_loseNoteAt
theorem dX5_loseNote_0 : decode cX5_loseNote 0 = .ok (.aload_n 0, 1) := by decide +kernel
theorem dX5_loseNote_1 : decode cX5_loseNote 1 = .ok (.iload_n 1, 1) := by decide +kernel
theorem dX5_loseNote_2 : decode cX5_loseNote 2 = .ok (.invokevirtual 159, 3) := by decide +kernel
theorem dX5_loseNote_5 : decode cX5_loseNote 5 = .ok (.ifCond .ne 5, 3) := by decide +kernel
theorem dX5_loseNote_8 : decode cX5_loseNote 8 = .ok (.iconst (-1), 1) := by decide +kernel
theorem dX5_loseNote_9 : decode cX5_loseNote 9 = .ok (.ireturn, 1) := by decide +kernel
theorem dX5_loseNote_10 : decode cX5_loseNote 10 = .ok (.aload_n 0, 1) := by decide +kernel
theorem dX5_loseNote_11 : decode cX5_loseNote 11 = .ok (.iload_n 1, 1) := by decide +kernel
theorem dX5_loseNote_12 : decode cX5_loseNote 12 = .ok (.invokevirtual 162, 3) := by decide +kernel
theorem dX5_loseNote_15 : decode cX5_loseNote 15 = .ok (.istore_n 2, 1) := by decide +kernel
theorem dX5_loseNote_16 : decode cX5_loseNote 16 = .ok (.iload_n 2, 1) := by decide +kernel
theorem dX5_loseNote_17 : decode cX5_loseNote 17 = .ok (.sipush 300, 3) := by decide +kernel
theorem dX5_loseNote_20 : decode cX5_loseNote 20 = .ok (.if_icmp .ne 6, 3) := by decide +kernel
theorem dX5_loseNote_23 : decode cX5_loseNote 23 = .ok (.bipush (-2), 2) := by decide +kernel
theorem dX5_loseNote_25 : decode cX5_loseNote 25 = .ok (.ireturn, 1) := by decide +kernel
theorem dX5_loseNote_26 : decode cX5_loseNote 26 = .ok (.aload_n 0, 1) := by decide +kernel
theorem dX5_loseNote_27 : decode cX5_loseNote 27 = .ok (.invokevirtual 99, 3) := by decide +kernel
theorem dX5_loseNote_30 : decode cX5_loseNote 30 = .ok (.aload_n 0, 1) := by decide +kernel
theorem dX5_loseNote_31 : decode cX5_loseNote 31 = .ok (.invokevirtual 108, 3) := by decide +kernel
theorem dX5_loseNote_34 : decode cX5_loseNote 34 = .ok (.aload_n 0, 1) := by decide +kernel
theorem dX5_loseNote_35 : decode cX5_loseNote 35 = .ok (.getfield 18, 3) := by decide +kernel
theorem dX5_loseNote_38 : decode cX5_loseNote 38 = .ok (.iload_n 2, 1) := by decide +kernel
theorem dX5_loseNote_39 : decode cX5_loseNote 39 = .ok (.invokevirtual 82, 3) := by decide +kernel
theorem dX5_loseNote_42 : decode cX5_loseNote 42 = .ok (.iadd, 1) := by decide +kernel
theorem dX5_loseNote_43 : decode cX5_loseNote 43 = .ok (.if_icmp .ge 6, 3) := by decide +kernel
theorem dX5_loseNote_46 : decode cX5_loseNote 46 = .ok (.bipush (-3), 2) := by decide +kernel
theorem dX5_loseNote_48 : decode cX5_loseNote 48 = .ok (.ireturn, 1) := by decide +kernel
theorem dX5_loseNote_49 : decode cX5_loseNote 49 = .ok (.aload_n 0, 1) := by decide +kernel
theorem dX5_loseNote_50 : decode cX5_loseNote 50 = .ok (.getfield 18, 3) := by decide +kernel
theorem dX5_loseNote_53 : decode cX5_loseNote 53 = .ok (.iload_n 2, 1) := by decide +kernel
theorem dX5_loseNote_54 : decode cX5_loseNote 54 = .ok (.invokevirtual 165, 3) := by decide +kernel
theorem dX5_loseNote_57 : decode cX5_loseNote 57 = .ok (.aload_n 0, 1) := by decide +kernel
theorem dX5_loseNote_58 : decode cX5_loseNote 58 = .ok (.dup, 1) := by decide +kernel
theorem dX5_loseNote_59 : decode cX5_loseNote 59 = .ok (.getfield 65, 3) := by decide +kernel
theorem dX5_loseNote_62 : decode cX5_loseNote 62 = .ok (.iconst 1, 1) := by decide +kernel
theorem dX5_loseNote_63 : decode cX5_loseNote 63 = .ok (.iadd, 1) := by decide +kernel
theorem dX5_loseNote_64 : decode cX5_loseNote 64 = .ok (.putfield 65, 3) := by decide +kernel
theorem dX5_loseNote_67 : decode cX5_loseNote 67 = .ok (.iload_n 2, 1) := by decide +kernel
theorem dX5_loseNote_68 : decode cX5_loseNote 68 = .ok (.ireturn, 1) := by decide +kernel
set_option maxRecDepth 20000 in
theorem ggX5_firstWithNote_X0_isOf : GoodIn wsX5_firstWithNote wsX0_isOf := goodIn_r _ [6, 7, 8, 9, 10, 5, 11, 12, 28, 29, 30, 31, 32] (by decide +kernel) (by decide +kernel)
set_option maxRecDepth 20000 in
theorem gX5_firstWithNote_X0_isOf : GoodIn wsX5_firstWithNote (wsV RX5 85 RX0 yX0_isOf wsX0_isOf) := goodIn_app (goodIn_of _ (by decide +kernel)) ggX5_firstWithNote_X0_isOf
set_option maxRecDepth 20000 in
theorem ggX5_firstWithNote_X0_noteAt : GoodIn wsX5_firstWithNote wsX0_noteAt := goodIn_r _ [16, 17, 8, 9, 10, 5, 11, 12, 28, 29, 30, 31, 32] (by decide +kernel) (by decide +kernel)
set_option maxRecDepth 20000 in
theorem gX5_firstWithNote_X0_noteAt : GoodIn wsX5_firstWithNote (wsV RX5 79 RX0 yX0_noteAt wsX0_noteAt) := goodIn_app (goodIn_of _ (by decide +kernel)) ggX5_firstWithNote_X0_noteAt
theorem dX5_firstWithNote_0 : decode cX5_firstWithNote 0 = .ok (.iconst 0, 1) := by decide +kernel
theorem dX5_firstWithNote_1 : decode cX5_firstWithNote 1 = .ok (.istore_n 2, 1) := by decide +kernel
end
section
theorem dX5_firstWithNote_2 : decode cX5_firstWithNote 2 = .ok (.iload_n 2, 1) := by decide +kernel
theorem dX5_firstWithNote_3 : decode cX5_firstWithNote 3 = .ok (.sipush 260, 3) := by decide +kernel
theorem dX5_firstWithNote_6 : decode cX5_firstWithNote 6 = .ok (.if_icmp .ge 37, 3) := by decide +kernel
theorem dX5_firstWithNote_9 : decode cX5_firstWithNote 9 = .ok (.aload_n 0, 1) := by decide +kernel
theorem dX5_firstWithNote_10 : decode cX5_firstWithNote 10 = .ok (.getfield 18, 3) := by decide +kernel
theorem dX5_firstWithNote_13 : decode cX5_firstWithNote 13 = .ok (.iload_n 1, 1) := by decide +kernel
theorem dX5_firstWithNote_14 : decode cX5_firstWithNote 14 = .ok (.iload_n 2, 1) := by decide +kernel
theorem dX5_firstWithNote_15 : decode cX5_firstWithNote 15 = .ok (.invokevirtual 85, 3) := by decide +kernel
theorem dX5_firstWithNote_18 : decode cX5_firstWithNote 18 = .ok (.ifCond .eq 19, 3) := by decide +kernel
theorem dX5_firstWithNote_21 : decode cX5_firstWithNote 21 = .ok (.aload_n 0, 1) := by decide +kernel
theorem dX5_firstWithNote_22 : decode cX5_firstWithNote 22 = .ok (.getfield 18, 3) := by decide +kernel
theorem dX5_firstWithNote_25 : decode cX5_firstWithNote 25 = .ok (.iload_n 2, 1) := by decide +kernel
theorem dX5_firstWithNote_26 : decode cX5_firstWithNote 26 = .ok (.invokevirtual 79, 3) := by decide +kernel
theorem dX5_firstWithNote_29 : decode cX5_firstWithNote 29 = .ok (.sipush 300, 3) := by decide +kernel
theorem dX5_firstWithNote_32 : decode cX5_firstWithNote 32 = .ok (.if_icmp .eq 5, 3) := by decide +kernel
theorem dX5_firstWithNote_35 : decode cX5_firstWithNote 35 = .ok (.iload_n 2, 1) := by decide +kernel
theorem dX5_firstWithNote_36 : decode cX5_firstWithNote 36 = .ok (.ireturn, 1) := by decide +kernel
theorem dX5_firstWithNote_37 : decode cX5_firstWithNote 37 = .ok (.iinc 2 1, 3) := by decide +kernel
theorem dX5_firstWithNote_40 : decode cX5_firstWithNote 40 = .ok (.goto (-38), 3) := by decide +kernel
theorem dX5_firstWithNote_43 : decode cX5_firstWithNote 43 = .ok (.sipush 300, 3) := by decide +kernel
theorem dX5_firstWithNote_46 : decode cX5_firstWithNote 46 = .ok (.ireturn, 1) := by decide +kernel
set_option maxRecDepth 20000 in
theorem ggX5_mendTwins_X5_isThing : GoodIn wsX5_mendTwins wsX5_isThing := goodIn_r _ [7, 8, 52, 53, 54, 55, 56, 57, 58, 59, 60, 61] (by decide +kernel) (by decide +kernel)
set_option maxRecDepth 20000 in
theorem gX5_mendTwins_X5_isThing : GoodIn wsX5_mendTwins (wsV RX5 159 RX5 yX5_isThing wsX5_isThing) := goodIn_app (goodIn_of _ (by decide +kernel)) ggX5_mendTwins_X5_isThing
set_option maxRecDepth 20000 in
theorem ggX5_mendTwins_X5_hasTwins : GoodIn wsX5_mendTwins wsX5_hasTwins := goodIn_r _ [12, 2, 13, 14, 15, 16, 17, 18, 19, 20, 21, 22, 23, 24, 25, 26, 6, 27, 28, 1, 29, 30, 31, 32, 52, 53, 54, 55, 56, 57, 58, 59, 60, 61, 62, 63, 64, 65, 66] (by decide +kernel) (by decide +kernel)
set_option maxRecDepth 20000 in
theorem gX5_mendTwins_X5_hasTwins : GoodIn wsX5_mendTwins (wsV RX5 92 RX5 yX5_hasTwins wsX5_hasTwins) := goodIn_app (goodIn_of _ (by decide +kernel)) ggX5_mendTwins_X5_hasTwins
set_option maxRecDepth 20000 in
theorem ggX5_mendTwins_X0_addressOf : GoodIn wsX5_mendTwins wsX0_addressOf := goodIn_r _ [36, 37, 14, 15, 16, 17, 18, 19, 20, 21, 22, 23, 62, 63, 64, 65, 66] (by decide +kernel) (by decide +kernel)
set_option maxRecDepth 20000 in
theorem gX5_mendTwins_X0_addressOf : GoodIn wsX5_mendTwins (wsV RX5 168 RX0 yX0_addressOf wsX0_addressOf) := goodIn_app (goodIn_of _ (by decide +kernel)) ggX5_mendTwins_X0_addressOf
set_option maxRecDepth 20000 in
theorem ggX5_mendTwins_X0_isOf : GoodIn wsX5_mendTwins wsX0_isOf := goodIn_r _ [17, 18, 19, 20, 21, 16, 22, 23, 62, 63, 64, 65, 66] (by decide +kernel) (by decide +kernel)
set_option maxRecDepth 20000 in
theorem gX5_mendTwins_X0_isOf : GoodIn wsX5_mendTwins (wsV RX5 85 RX0 yX0_isOf wsX0_isOf) := goodIn_app (goodIn_of _ (by decide +kernel)) ggX5_mendTwins_X0_isOf
set_option maxRecDepth 20000 in
theorem ggX5_mendTwins_X0_remove : GoodIn wsX5_mendTwins wsX0_remove := goodIn_r _ [41, 23, 62, 63, 64, 65, 66] (by decide +kernel) (by decide +kernel)
set_option maxRecDepth 20000 in
theorem gX5_mendTwins_X0_remove : GoodIn wsX5_mendTwins (wsV RX5 172 RX0 yX0_remove wsX0_remove) := goodIn_app (goodIn_of _ (by decide +kernel)) ggX5_mendTwins_X0_remove
set_option maxRecDepth 20000 in
theorem ggX5_mendTwins_X0_replaceNames : GoodIn wsX5_mendTwins wsX0_replaceNames := goodIn_r _ [45, 46, 62, 63, 64, 65, 66] (by decide +kernel) (by decide +kernel)
set_option maxRecDepth 20000 in
theorem gX5_mendTwins_X0_replaceNames : GoodIn wsX5_mendTwins (wsV RX5 175 RX0 yX0_replaceNames wsX0_replaceNames) := goodIn_app (goodIn_of _ (by decide +kernel)) ggX5_mendTwins_X0_replaceNames
set_option maxRecDepth 20000 in
theorem ggX5_mendTwins_X5_replaceHooks : GoodIn wsX5_mendTwins wsX5_replaceHooks := goodIn_r _ [50, 51, 52, 53, 54, 55, 56, 57, 58, 59, 60, 61] (by decide +kernel) (by decide +kernel)
set_option maxRecDepth 20000 in
theorem gX5_mendTwins_X5_replaceHooks : GoodIn wsX5_mendTwins (wsV RX5 179 RX5 yX5_replaceHooks wsX5_replaceHooks) := goodIn_app (goodIn_of _ (by decide +kernel)) ggX5_mendTwins_X5_replaceHooks
theorem dX5_mendTwins_0 : decode cX5_mendTwins 0 = .ok (.aload_n 0, 1) := by decide +kernel
theorem dX5_mendTwins_1 : decode cX5_mendTwins 1 = .ok (.iload_n 1, 1) := by decide +kernel
theorem dX5_mendTwins_2 : decode cX5_mendTwins 2 = .ok (.invokevirtual 159, 3) := by decide +kernel
theorem dX5_mendTwins_5 : decode cX5_mendTwins 5 = .ok (.ifCond .ne 5, 3) := by decide +kernel
theorem dX5_mendTwins_8 : decode cX5_mendTwins 8 = .ok (.iconst (-1), 1) := by decide +kernel
theorem dX5_mendTwins_9 : decode cX5_mendTwins 9 = .ok (.ireturn, 1) := by decide +kernel
theorem dX5_mendTwins_10 : decode cX5_mendTwins 10 = .ok (.aload_n 0, 1) := by decide +kernel
theorem dX5_mendTwins_11 : decode cX5_mendTwins 11 = .ok (.getfield 55, 3) := by decide +kernel
theorem dX5_mendTwins_14 : decode cX5_mendTwins 14 = .ok (.ifCond .ne 11, 3) := by decide +kernel
theorem dX5_mendTwins_17 : decode cX5_mendTwins 17 = .ok (.aload_n 0, 1) := by decide +kernel
theorem dX5_mendTwins_18 : decode cX5_mendTwins 18 = .ok (.iload_n 1, 1) := by decide +kernel
theorem dX5_mendTwins_19 : decode cX5_mendTwins 19 = .ok (.invokevirtual 92, 3) := by decide +kernel
theorem dX5_mendTwins_22 : decode cX5_mendTwins 22 = .ok (.ifCond .ne 6, 3) := by decide +kernel
theorem dX5_mendTwins_25 : decode cX5_mendTwins 25 = .ok (.bipush (-2), 2) := by decide +kernel
theorem dX5_mendTwins_27 : decode cX5_mendTwins 27 = .ok (.ireturn, 1) := by decide +kernel
theorem dX5_mendTwins_28 : decode cX5_mendTwins 28 = .ok (.aload_n 0, 1) := by decide +kernel
theorem dX5_mendTwins_29 : decode cX5_mendTwins 29 = .ok (.getfield 18, 3) := by decide +kernel
theorem dX5_mendTwins_32 : decode cX5_mendTwins 32 = .ok (.iload_n 1, 1) := by decide +kernel
theorem dX5_mendTwins_33 : decode cX5_mendTwins 33 = .ok (.iconst 0, 1) := by decide +kernel
theorem dX5_mendTwins_34 : decode cX5_mendTwins 34 = .ok (.invokevirtual 168, 3) := by decide +kernel
theorem dX5_mendTwins_37 : decode cX5_mendTwins 37 = .ok (.istore_n 2, 1) := by decide +kernel
theorem dX5_mendTwins_38 : decode cX5_mendTwins 38 = .ok (.iconst 0, 1) := by decide +kernel
theorem dX5_mendTwins_39 : decode cX5_mendTwins 39 = .ok (.istore_n 3, 1) := by decide +kernel
theorem dX5_mendTwins_40 : decode cX5_mendTwins 40 = .ok (.iload_n 2, 1) := by decide +kernel
theorem dX5_mendTwins_41 : decode cX5_mendTwins 41 = .ok (.iconst 1, 1) := by decide +kernel
theorem dX5_mendTwins_42 : decode cX5_mendTwins 42 = .ok (.iadd, 1) := by decide +kernel
theorem dX5_mendTwins_43 : decode cX5_mendTwins 43 = .ok (.istore 4, 2) := by decide +kernel
theorem dX5_mendTwins_45 : decode cX5_mendTwins 45 = .ok (.iload 4, 2) := by decide +kernel
theorem dX5_mendTwins_47 : decode cX5_mendTwins 47 = .ok (.sipush 260, 3) := by decide +kernel
theorem dX5_mendTwins_50 : decode cX5_mendTwins 50 = .ok (.if_icmp .ge 51, 3) := by decide +kernel
theorem dX5_mendTwins_53 : decode cX5_mendTwins 53 = .ok (.aload_n 0, 1) := by decide +kernel
theorem dX5_mendTwins_54 : decode cX5_mendTwins 54 = .ok (.getfield 18, 3) := by decide +kernel
theorem dX5_mendTwins_57 : decode cX5_mendTwins 57 = .ok (.iload_n 1, 1) := by decide +kernel
theorem dX5_mendTwins_58 : decode cX5_mendTwins 58 = .ok (.iload 4, 2) := by decide +kernel
theorem dX5_mendTwins_60 : decode cX5_mendTwins 60 = .ok (.invokevirtual 85, 3) := by decide +kernel
theorem dX5_mendTwins_63 : decode cX5_mendTwins 63 = .ok (.ifCond .eq 32, 3) := by decide +kernel
theorem dX5_mendTwins_66 : decode cX5_mendTwins 66 = .ok (.aload_n 0, 1) := by decide +kernel
theorem dX5_mendTwins_67 : decode cX5_mendTwins 67 = .ok (.getfield 18, 3) := by decide +kernel
theorem dX5_mendTwins_70 : decode cX5_mendTwins 70 = .ok (.iload 4, 2) := by decide +kernel
theorem dX5_mendTwins_72 : decode cX5_mendTwins 72 = .ok (.invokevirtual 172, 3) := by decide +kernel
theorem dX5_mendTwins_75 : decode cX5_mendTwins 75 = .ok (.aload_n 0, 1) := by decide +kernel
theorem dX5_mendTwins_76 : decode cX5_mendTwins 76 = .ok (.getfield 18, 3) := by decide +kernel
theorem dX5_mendTwins_79 : decode cX5_mendTwins 79 = .ok (.iload 4, 2) := by decide +kernel
theorem dX5_mendTwins_81 : decode cX5_mendTwins 81 = .ok (.iload_n 2, 1) := by decide +kernel
theorem dX5_mendTwins_82 : decode cX5_mendTwins 82 = .ok (.invokevirtual 175, 3) := by decide +kernel
theorem dX5_mendTwins_85 : decode cX5_mendTwins 85 = .ok (.aload_n 0, 1) := by decide +kernel
theorem dX5_mendTwins_86 : decode cX5_mendTwins 86 = .ok (.iload 4, 2) := by decide +kernel
theorem dX5_mendTwins_88 : decode cX5_mendTwins 88 = .ok (.iload_n 2, 1) := by decide +kernel
theorem dX5_mendTwins_89 : decode cX5_mendTwins 89 = .ok (.invokevirtual 179, 3) := by decide +kernel
theorem dX5_mendTwins_92 : decode cX5_mendTwins 92 = .ok (.iinc 3 1, 3) := by decide +kernel
theorem dX5_mendTwins_95 : decode cX5_mendTwins 95 = .ok (.iinc 4 1, 3) := by decide +kernel
theorem dX5_mendTwins_98 : decode cX5_mendTwins 98 = .ok (.goto (-53), 3) := by decide +kernel
theorem dX5_mendTwins_101 : decode cX5_mendTwins 101 = .ok (.iload_n 3, 1) := by decide +kernel
theorem dX5_mendTwins_102 : decode cX5_mendTwins 102 = .ok (.ireturn, 1) := by decide +kernel
theorem dX5_replaceHooks_0 : decode cX5_replaceHooks 0 = .ok (.iconst 0, 1) := by decide +kernel
theorem dX5_replaceHooks_1 : decode cX5_replaceHooks 1 = .ok (.istore_n 3, 1) := by decide +kernel
theorem dX5_replaceHooks_2 : decode cX5_replaceHooks 2 = .ok (.iload_n 3, 1) := by decide +kernel
theorem dX5_replaceHooks_3 : decode cX5_replaceHooks 3 = .ok (.bipush 8, 2) := by decide +kernel
theorem dX5_replaceHooks_5 : decode cX5_replaceHooks 5 = .ok (.if_icmp .ge 26, 3) := by decide +kernel
theorem dX5_replaceHooks_8 : decode cX5_replaceHooks 8 = .ok (.aload_n 0, 1) := by decide +kernel
theorem dX5_replaceHooks_9 : decode cX5_replaceHooks 9 = .ok (.getfield 9, 3) := by decide +kernel
theorem dX5_replaceHooks_12 : decode cX5_replaceHooks 12 = .ok (.iload_n 3, 1) := by decide +kernel
theorem dX5_replaceHooks_13 : decode cX5_replaceHooks 13 = .ok (.iaload, 1) := by decide +kernel
theorem dX5_replaceHooks_14 : decode cX5_replaceHooks 14 = .ok (.iload_n 1, 1) := by decide +kernel
theorem dX5_replaceHooks_15 : decode cX5_replaceHooks 15 = .ok (.if_icmp .ne 10, 3) := by decide +kernel
theorem dX5_replaceHooks_18 : decode cX5_replaceHooks 18 = .ok (.aload_n 0, 1) := by decide +kernel
theorem dX5_replaceHooks_19 : decode cX5_replaceHooks 19 = .ok (.getfield 9, 3) := by decide +kernel
theorem dX5_replaceHooks_22 : decode cX5_replaceHooks 22 = .ok (.iload_n 3, 1) := by decide +kernel
theorem dX5_replaceHooks_23 : decode cX5_replaceHooks 23 = .ok (.iload_n 2, 1) := by decide +kernel
theorem dX5_replaceHooks_24 : decode cX5_replaceHooks 24 = .ok (.iastore, 1) := by decide +kernel
theorem dX5_replaceHooks_25 : decode cX5_replaceHooks 25 = .ok (.iinc 3 1, 3) := by decide +kernel
theorem dX5_replaceHooks_28 : decode cX5_replaceHooks 28 = .ok (.goto (-26), 3) := by decide +kernel
theorem dX5_replaceHooks_31 : decode cX5_replaceHooks 31 = .ok (.return_, 1) := by decide +kernel
set_option maxRecDepth 20000 in
theorem ggX5_readIn_X5_isInOldHalf : GoodIn wsX5_readIn wsX5_isInOldHalf := goodIn_r _ [8, 9, 2, 10, 11, 12, 7, 13, 56, 57, 58, 59, 60, 61, 62, 63, 64, 65] (by decide +kernel) (by decide +kernel)
set_option maxRecDepth 20000 in
theorem gX5_readIn_X5_isInOldHalf : GoodIn wsX5_readIn (wsV RX5 89 RX5 yX5_isInOldHalf wsX5_isInOldHalf) := goodIn_app (goodIn_of _ (by decide +kernel)) ggX5_readIn_X5_isInOldHalf
set_option maxRecDepth 20000 in
theorem ggX5_readIn_X0_noteAt : GoodIn wsX5_readIn wsX0_noteAt := goodIn_r _ [18, 19, 20, 21, 22, 17, 23, 24, 66, 67, 68, 69, 70] (by decide +kernel) (by decide +kernel)
set_option maxRecDepth 20000 in
theorem gX5_readIn_X0_noteAt : GoodIn wsX5_readIn (wsV RX5 79 RX0 yX0_noteAt wsX0_noteAt) := goodIn_app (goodIn_of _ (by decide +kernel)) ggX5_readIn_X0_noteAt
set_option maxRecDepth 20000 in
theorem ggX5_readIn_X0_sizeAt : GoodIn wsX5_readIn wsX0_sizeAt := goodIn_r _ [28, 24, 20, 21, 22, 17, 23, 66, 67, 68, 69, 70] (by decide +kernel) (by decide +kernel)
set_option maxRecDepth 20000 in
theorem gX5_readIn_X0_sizeAt : GoodIn wsX5_readIn (wsV RX5 82 RX0 yX0_sizeAt wsX0_sizeAt) := goodIn_app (goodIn_of _ (by decide +kernel)) ggX5_readIn_X0_sizeAt
set_option maxRecDepth 20000 in
theorem ggX5_readIn_X5_carryOver : GoodIn wsX5_readIn wsX5_carryOver := goodIn_r _ [32, 9, 33, 1, 3, 34, 35, 36, 7, 37, 10, 11, 12, 13, 38, 39, 40, 17, 41, 42, 24, 19, 43, 44, 45, 46, 47, 48, 49, 50, 51, 56, 57, 58, 59, 60, 61, 62, 63, 64, 65, 66, 67, 68, 69, 70, 71, 72, 73] (by decide +kernel) (by decide +kernel)
set_option maxRecDepth 20000 in
theorem gX5_readIn_X5_carryOver : GoodIn wsX5_readIn (wsV RX5 182 RX5 yX5_carryOver wsX5_carryOver) := goodIn_app (goodIn_of _ (by decide +kernel)) ggX5_readIn_X5_carryOver
set_option maxRecDepth 20000 in
theorem ggX5_readIn_X0_mark : GoodIn wsX5_readIn wsX0_mark := goodIn_r _ [55, 43, 20, 21, 22, 17, 23, 24, 66, 67, 68, 69, 70] (by decide +kernel) (by decide +kernel)
set_option maxRecDepth 20000 in
theorem gX5_readIn_X0_mark : GoodIn wsX5_readIn (wsV RX5 124 RX0 yX0_mark wsX0_mark) := goodIn_app (goodIn_of _ (by decide +kernel)) ggX5_readIn_X0_mark
set_option maxRecDepth 20000 in
theorem ggX5_readIn_X3_join : GoodIn wsX5_readIn wsX3_join := goodIn_r _ [49, 50, 51, 71, 72, 73] (by decide +kernel) (by decide +kernel)
set_option maxRecDepth 20000 in
theorem gX5_readIn_X3_join : GoodIn wsX5_readIn (wsV RX5 185 RX3 yX3_join wsX3_join) := goodIn_app (goodIn_of _ (by decide +kernel)) ggX5_readIn_X3_join
theorem dX5_readIn_0 : decode cX5_readIn 0 = .ok (.aload_n 1, 1) := by decide +kernel
theorem dX5_readIn_1 : decode cX5_readIn 1 = .ok (.ifnull 13, 3) := by decide +kernel
theorem dX5_readIn_4 : decode cX5_readIn 4 = .ok (.iload_n 2, 1) := by decide +kernel
theorem dX5_readIn_5 : decode cX5_readIn 5 = .ok (.ifCond .lt 9, 3) := by decide +kernel
theorem dX5_readIn_8 : decode cX5_readIn 8 = .ok (.iload_n 2, 1) := by decide +kernel
theorem dX5_readIn_9 : decode cX5_readIn 9 = .ok (.aload_n 1, 1) := by decide +kernel
theorem dX5_readIn_10 : decode cX5_readIn 10 = .ok (.arraylength, 1) := by decide +kernel
theorem dX5_readIn_11 : decode cX5_readIn 11 = .ok (.if_icmp .lt 7, 3) := by decide +kernel
theorem dX5_readIn_14 : decode cX5_readIn 14 = .ok (.sipush 300, 3) := by decide +kernel
theorem dX5_readIn_17 : decode cX5_readIn 17 = .ok (.ireturn, 1) := by decide +kernel
theorem dX5_readIn_18 : decode cX5_readIn 18 = .ok (.aload_n 1, 1) := by decide +kernel
theorem dX5_readIn_19 : decode cX5_readIn 19 = .ok (.iload_n 2, 1) := by decide +kernel
theorem dX5_readIn_20 : decode cX5_readIn 20 = .ok (.iaload, 1) := by decide +kernel
theorem dX5_readIn_21 : decode cX5_readIn 21 = .ok (.istore_n 3, 1) := by decide +kernel
theorem dX5_readIn_22 : decode cX5_readIn 22 = .ok (.aload_n 0, 1) := by decide +kernel
theorem dX5_readIn_23 : decode cX5_readIn 23 = .ok (.iload_n 3, 1) := by decide +kernel
theorem dX5_readIn_24 : decode cX5_readIn 24 = .ok (.invokevirtual 89, 3) := by decide +kernel
theorem dX5_readIn_27 : decode cX5_readIn 27 = .ok (.ifCond .eq 45, 3) := by decide +kernel
theorem dX5_readIn_30 : decode cX5_readIn 30 = .ok (.aload_n 0, 1) := by decide +kernel
theorem dX5_readIn_31 : decode cX5_readIn 31 = .ok (.getfield 18, 3) := by decide +kernel
theorem dX5_readIn_34 : decode cX5_readIn 34 = .ok (.iload_n 3, 1) := by decide +kernel
theorem dX5_readIn_35 : decode cX5_readIn 35 = .ok (.invokevirtual 79, 3) := by decide +kernel
theorem dX5_readIn_38 : decode cX5_readIn 38 = .ok (.istore 4, 2) := by decide +kernel
theorem dX5_readIn_40 : decode cX5_readIn 40 = .ok (.aload_n 1, 1) := by decide +kernel
theorem dX5_readIn_41 : decode cX5_readIn 41 = .ok (.iload_n 2, 1) := by decide +kernel
theorem dX5_readIn_42 : decode cX5_readIn 42 = .ok (.iload 4, 2) := by decide +kernel
theorem dX5_readIn_44 : decode cX5_readIn 44 = .ok (.sipush 300, 3) := by decide +kernel
theorem dX5_readIn_47 : decode cX5_readIn 47 = .ok (.if_icmp .eq 8, 3) := by decide +kernel
theorem dX5_readIn_50 : decode cX5_readIn 50 = .ok (.iload 4, 2) := by decide +kernel
theorem dX5_readIn_52 : decode cX5_readIn 52 = .ok (.goto 16, 3) := by decide +kernel
theorem dX5_readIn_55 : decode cX5_readIn 55 = .ok (.aload_n 0, 1) := by decide +kernel
theorem dX5_readIn_56 : decode cX5_readIn 56 = .ok (.iload_n 3, 1) := by decide +kernel
theorem dX5_readIn_57 : decode cX5_readIn 57 = .ok (.aload_n 0, 1) := by decide +kernel
theorem dX5_readIn_58 : decode cX5_readIn 58 = .ok (.getfield 18, 3) := by decide +kernel
theorem dX5_readIn_61 : decode cX5_readIn 61 = .ok (.iload_n 3, 1) := by decide +kernel
theorem dX5_readIn_62 : decode cX5_readIn 62 = .ok (.invokevirtual 82, 3) := by decide +kernel
theorem dX5_readIn_65 : decode cX5_readIn 65 = .ok (.invokevirtual 182, 3) := by decide +kernel
theorem dX5_readIn_68 : decode cX5_readIn 68 = .ok (.iastore, 1) := by decide +kernel
theorem dX5_readIn_69 : decode cX5_readIn 69 = .ok (.goto 36, 3) := by decide +kernel
theorem dX5_readIn_72 : decode cX5_readIn 72 = .ok (.aload_n 0, 1) := by decide +kernel
theorem dX5_readIn_73 : decode cX5_readIn 73 = .ok (.getfield 55, 3) := by decide +kernel
theorem dX5_readIn_76 : decode cX5_readIn 76 = .ok (.ifCond .eq 29, 3) := by decide +kernel
theorem dX5_readIn_79 : decode cX5_readIn 79 = .ok (.iload_n 3, 1) := by decide +kernel
theorem dX5_readIn_80 : decode cX5_readIn 80 = .ok (.sipush 200, 3) := by decide +kernel
theorem dX5_readIn_83 : decode cX5_readIn 83 = .ok (.if_icmp .lt 22, 3) := by decide +kernel
theorem dX5_readIn_86 : decode cX5_readIn 86 = .ok (.aload_n 0, 1) := by decide +kernel
theorem dX5_readIn_87 : decode cX5_readIn 87 = .ok (.getfield 18, 3) := by decide +kernel
theorem dX5_readIn_90 : decode cX5_readIn 90 = .ok (.iload_n 3, 1) := by decide +kernel
theorem dX5_readIn_91 : decode cX5_readIn 91 = .ok (.invokevirtual 124, 3) := by decide +kernel
theorem dX5_readIn_94 : decode cX5_readIn 94 = .ok (.ifCond .eq 11, 3) := by decide +kernel
theorem dX5_readIn_97 : decode cX5_readIn 97 = .ok (.aload_n 0, 1) := by decide +kernel
theorem dX5_readIn_98 : decode cX5_readIn 98 = .ok (.getfield 25, 3) := by decide +kernel
theorem dX5_readIn_101 : decode cX5_readIn 101 = .ok (.iload_n 3, 1) := by decide +kernel
theorem dX5_readIn_102 : decode cX5_readIn 102 = .ok (.invokevirtual 185, 3) := by decide +kernel
theorem dX5_readIn_105 : decode cX5_readIn 105 = .ok (.aload_n 1, 1) := by decide +kernel
theorem dX5_readIn_106 : decode cX5_readIn 106 = .ok (.iload_n 2, 1) := by decide +kernel
theorem dX5_readIn_107 : decode cX5_readIn 107 = .ok (.iaload, 1) := by decide +kernel
theorem dX5_readIn_108 : decode cX5_readIn 108 = .ok (.ireturn, 1) := by decide +kernel
set_option maxRecDepth 20000 in
theorem ggX5_carryOver_X5_freeInHalf : GoodIn wsX5_carryOver wsX5_freeInHalf := goodIn_r _ [9, 2, 31, 32, 33, 34, 35, 36, 37, 38, 39, 40] (by decide +kernel) (by decide +kernel)
set_option maxRecDepth 20000 in
theorem gX5_carryOver_X5_freeInHalf : GoodIn wsX5_carryOver (wsV RX5 99 RX5 yX5_freeInHalf wsX5_freeInHalf) := goodIn_app (goodIn_of _ (by decide +kernel)) ggX5_carryOver_X5_freeInHalf
set_option maxRecDepth 20000 in
theorem ggX5_carryOver_X5_addressOfHalf : GoodIn wsX5_carryOver wsX5_addressOfHalf := goodIn_r _ [13] (by decide +kernel) (by decide +kernel)
set_option maxRecDepth 20000 in
theorem gX5_carryOver_X5_addressOfHalf : GoodIn wsX5_carryOver (wsV RX5 75 RX5 yX5_addressOfHalf wsX5_addressOfHalf) := goodIn_app (goodIn_of _ (by decide +kernel)) ggX5_carryOver_X5_addressOfHalf
set_option maxRecDepth 20000 in
theorem ggX5_carryOver_X0_layAgain : GoodIn wsX5_carryOver wsX0_layAgain := goodIn_r _ [18, 19, 20, 21, 22, 23, 41, 42, 43, 44, 45] (by decide +kernel) (by decide +kernel)
set_option maxRecDepth 20000 in
theorem gX5_carryOver_X0_layAgain : GoodIn wsX5_carryOver (wsV RX5 188 RX0 yX0_layAgain wsX0_layAgain) := goodIn_app (goodIn_of _ (by decide +kernel)) ggX5_carryOver_X0_layAgain
set_option maxRecDepth 20000 in
theorem ggX5_carryOver_X3_join : GoodIn wsX5_carryOver wsX3_join := goodIn_r _ [28, 29, 30, 46, 47, 48] (by decide +kernel) (by decide +kernel)
set_option maxRecDepth 20000 in
theorem gX5_carryOver_X3_join : GoodIn wsX5_carryOver (wsV RX5 185 RX3 yX3_join wsX3_join) := goodIn_app (goodIn_of _ (by decide +kernel)) ggX5_carryOver_X3_join
theorem dX5_carryOver_0 : decode cX5_carryOver 0 = .ok (.iload_n 2, 1) := by decide +kernel
theorem dX5_carryOver_1 : decode cX5_carryOver 1 = .ok (.ifCond .eq 11, 3) := by decide +kernel
theorem dX5_carryOver_4 : decode cX5_carryOver 4 = .ok (.iload_n 2, 1) := by decide +kernel
theorem dX5_carryOver_5 : decode cX5_carryOver 5 = .ok (.aload_n 0, 1) := by decide +kernel
theorem dX5_carryOver_6 : decode cX5_carryOver 6 = .ok (.invokevirtual 99, 3) := by decide +kernel
theorem dX5_carryOver_9 : decode cX5_carryOver 9 = .ok (.if_icmp .le 5, 3) := by decide +kernel
theorem dX5_carryOver_12 : decode cX5_carryOver 12 = .ok (.iload_n 1, 1) := by decide +kernel
theorem dX5_carryOver_13 : decode cX5_carryOver 13 = .ok (.ireturn, 1) := by decide +kernel
theorem dX5_carryOver_14 : decode cX5_carryOver 14 = .ok (.aload_n 0, 1) := by decide +kernel
theorem dX5_carryOver_15 : decode cX5_carryOver 15 = .ok (.aload_n 0, 1) := by decide +kernel
theorem dX5_carryOver_16 : decode cX5_carryOver 16 = .ok (.getfield 59, 3) := by decide +kernel
theorem dX5_carryOver_19 : decode cX5_carryOver 19 = .ok (.invokevirtual 75, 3) := by decide +kernel
theorem dX5_carryOver_22 : decode cX5_carryOver 22 = .ok (.aload_n 0, 1) := by decide +kernel
theorem dX5_carryOver_23 : decode cX5_carryOver 23 = .ok (.getfield 62, 3) := by decide +kernel
theorem dX5_carryOver_26 : decode cX5_carryOver 26 = .ok (.iadd, 1) := by decide +kernel
theorem dX5_carryOver_27 : decode cX5_carryOver 27 = .ok (.istore_n 3, 1) := by decide +kernel
theorem dX5_carryOver_28 : decode cX5_carryOver 28 = .ok (.aload_n 0, 1) := by decide +kernel
theorem dX5_carryOver_29 : decode cX5_carryOver 29 = .ok (.getfield 18, 3) := by decide +kernel
theorem dX5_carryOver_32 : decode cX5_carryOver 32 = .ok (.iload_n 1, 1) := by decide +kernel
theorem dX5_carryOver_33 : decode cX5_carryOver 33 = .ok (.iload_n 3, 1) := by decide +kernel
theorem dX5_carryOver_34 : decode cX5_carryOver 34 = .ok (.invokevirtual 188, 3) := by decide +kernel
theorem dX5_carryOver_37 : decode cX5_carryOver 37 = .ok (.aload_n 0, 1) := by decide +kernel
theorem dX5_carryOver_38 : decode cX5_carryOver 38 = .ok (.dup, 1) := by decide +kernel
theorem dX5_carryOver_39 : decode cX5_carryOver 39 = .ok (.getfield 62, 3) := by decide +kernel
theorem dX5_carryOver_42 : decode cX5_carryOver 42 = .ok (.iload_n 2, 1) := by decide +kernel
theorem dX5_carryOver_43 : decode cX5_carryOver 43 = .ok (.iadd, 1) := by decide +kernel
theorem dX5_carryOver_44 : decode cX5_carryOver 44 = .ok (.putfield 62, 3) := by decide +kernel
theorem dX5_carryOver_47 : decode cX5_carryOver 47 = .ok (.aload_n 0, 1) := by decide +kernel
theorem dX5_carryOver_48 : decode cX5_carryOver 48 = .ok (.getfield 25, 3) := by decide +kernel
theorem dX5_carryOver_51 : decode cX5_carryOver 51 = .ok (.iload_n 3, 1) := by decide +kernel
theorem dX5_carryOver_52 : decode cX5_carryOver 52 = .ok (.invokevirtual 185, 3) := by decide +kernel
theorem dX5_carryOver_55 : decode cX5_carryOver 55 = .ok (.iload_n 3, 1) := by decide +kernel
theorem dX5_carryOver_56 : decode cX5_carryOver 56 = .ok (.ireturn, 1) := by decide +kernel
theorem dX6_init_0 : decode cX6_init 0 = .ok (.aload_n 0, 1) := by decide +kernel
theorem dX6_init_1 : decode cX6_init 1 = .ok (.invokespecial 3, 3) := by decide +kernel
theorem dX6_init_4 : decode cX6_init 4 = .ok (.aload_n 0, 1) := by decide +kernel
theorem dX6_init_5 : decode cX6_init 5 = .ok (.bipush 80, 2) := by decide +kernel
theorem dX6_init_7 : decode cX6_init 7 = .ok (.newarray .int, 2) := by decide +kernel
theorem dX6_init_9 : decode cX6_init 9 = .ok (.putfield 9, 3) := by decide +kernel
theorem dX6_init_12 : decode cX6_init 12 = .ok (.return_, 1) := by decide +kernel
theorem dX6_size_0 : decode cX6_size 0 = .ok (.aload_n 0, 1) := by decide +kernel
theorem dX6_size_1 : decode cX6_size 1 = .ok (.getfield 15, 3) := by decide +kernel
theorem dX6_size_4 : decode cX6_size 4 = .ok (.ireturn, 1) := by decide +kernel
theorem dX6_empty_0 : decode cX6_empty 0 = .ok (.aload_n 0, 1) := by decide +kernel
theorem dX6_empty_1 : decode cX6_empty 1 = .ok (.iconst 0, 1) := by decide +kernel
theorem dX6_empty_2 : decode cX6_empty 2 = .ok (.putfield 15, 3) := by decide +kernel
theorem dX6_empty_5 : decode cX6_empty 5 = .ok (.return_, 1) := by decide +kernel
theorem dX6_addCharacter_0 : decode cX6_addCharacter 0 = .ok (.iload_n 1, 1) := by decide +kernel
theorem dX6_addCharacter_1 : decode cX6_addCharacter 1 = .ok (.iconst 1, 1) := by decide +kernel
theorem dX6_addCharacter_2 : decode cX6_addCharacter 2 = .ok (.if_icmp .lt 10, 3) := by decide +kernel
theorem dX6_addCharacter_5 : decode cX6_addCharacter 5 = .ok (.iload_n 1, 1) := by decide +kernel
theorem dX6_addCharacter_6 : decode cX6_addCharacter 6 = .ok (.sipush 255, 3) := by decide +kernel
theorem dX6_addCharacter_9 : decode cX6_addCharacter 9 = .ok (.if_icmp .le 5, 3) := by decide +kernel
theorem dX6_addCharacter_12 : decode cX6_addCharacter 12 = .ok (.iconst (-1), 1) := by decide +kernel
theorem dX6_addCharacter_13 : decode cX6_addCharacter 13 = .ok (.ireturn, 1) := by decide +kernel
theorem dX6_addCharacter_14 : decode cX6_addCharacter 14 = .ok (.aload_n 0, 1) := by decide +kernel
theorem dX6_addCharacter_15 : decode cX6_addCharacter 15 = .ok (.getfield 15, 3) := by decide +kernel
theorem dX6_addCharacter_18 : decode cX6_addCharacter 18 = .ok (.ifCond .lt 12, 3) := by decide +kernel
theorem dX6_addCharacter_21 : decode cX6_addCharacter 21 = .ok (.aload_n 0, 1) := by decide +kernel
theorem dX6_addCharacter_22 : decode cX6_addCharacter 22 = .ok (.getfield 15, 3) := by decide +kernel
theorem dX6_addCharacter_25 : decode cX6_addCharacter 25 = .ok (.bipush 80, 2) := by decide +kernel
theorem dX6_addCharacter_27 : decode cX6_addCharacter 27 = .ok (.if_icmp .lt 6, 3) := by decide +kernel
theorem dX6_addCharacter_30 : decode cX6_addCharacter 30 = .ok (.bipush (-3), 2) := by decide +kernel
theorem dX6_addCharacter_32 : decode cX6_addCharacter 32 = .ok (.ireturn, 1) := by decide +kernel
theorem dX6_addCharacter_33 : decode cX6_addCharacter 33 = .ok (.aload_n 0, 1) := by decide +kernel
theorem dX6_addCharacter_34 : decode cX6_addCharacter 34 = .ok (.getfield 9, 3) := by decide +kernel
theorem dX6_addCharacter_37 : decode cX6_addCharacter 37 = .ok (.aload_n 0, 1) := by decide +kernel
theorem dX6_addCharacter_38 : decode cX6_addCharacter 38 = .ok (.getfield 15, 3) := by decide +kernel
theorem dX6_addCharacter_41 : decode cX6_addCharacter 41 = .ok (.iload_n 1, 1) := by decide +kernel
theorem dX6_addCharacter_42 : decode cX6_addCharacter 42 = .ok (.iastore, 1) := by decide +kernel
theorem dX6_addCharacter_43 : decode cX6_addCharacter 43 = .ok (.aload_n 0, 1) := by decide +kernel
theorem dX6_addCharacter_44 : decode cX6_addCharacter 44 = .ok (.dup, 1) := by decide +kernel
theorem dX6_addCharacter_45 : decode cX6_addCharacter 45 = .ok (.getfield 15, 3) := by decide +kernel
theorem dX6_addCharacter_48 : decode cX6_addCharacter 48 = .ok (.iconst 1, 1) := by decide +kernel
theorem dX6_addCharacter_49 : decode cX6_addCharacter 49 = .ok (.iadd, 1) := by decide +kernel
theorem dX6_addCharacter_50 : decode cX6_addCharacter 50 = .ok (.putfield 15, 3) := by decide +kernel
theorem dX6_addCharacter_53 : decode cX6_addCharacter 53 = .ok (.aload_n 0, 1) := by decide +kernel
theorem dX6_addCharacter_54 : decode cX6_addCharacter 54 = .ok (.getfield 15, 3) := by decide +kernel
theorem dX6_addCharacter_57 : decode cX6_addCharacter 57 = .ok (.ireturn, 1) := by decide +kernel
theorem dX6_at_0 : decode cX6_at 0 = .ok (.iload_n 1, 1) := by decide +kernel
theorem dX6_at_1 : decode cX6_at 1 = .ok (.ifCond .lt 21, 3) := by decide +kernel
theorem dX6_at_4 : decode cX6_at 4 = .ok (.iload_n 1, 1) := by decide +kernel
theorem dX6_at_5 : decode cX6_at 5 = .ok (.aload_n 0, 1) := by decide +kernel
theorem dX6_at_6 : decode cX6_at 6 = .ok (.getfield 15, 3) := by decide +kernel
theorem dX6_at_9 : decode cX6_at 9 = .ok (.if_icmp .ge 13, 3) := by decide +kernel
theorem dX6_at_12 : decode cX6_at 12 = .ok (.iload_n 1, 1) := by decide +kernel
theorem dX6_at_13 : decode cX6_at 13 = .ok (.bipush 80, 2) := by decide +kernel
theorem dX6_at_15 : decode cX6_at 15 = .ok (.if_icmp .ge 7, 3) := by decide +kernel
theorem dX6_at_18 : decode cX6_at 18 = .ok (.iconst 1, 1) := by decide +kernel
theorem dX6_at_19 : decode cX6_at 19 = .ok (.goto 4, 3) := by decide +kernel
theorem dX6_at_22 : decode cX6_at 22 = .ok (.iconst 0, 1) := by decide +kernel
theorem dX6_at_23 : decode cX6_at 23 = .ok (.istore_n 2, 1) := by decide +kernel
theorem dX6_at_24 : decode cX6_at 24 = .ok (.iload_n 2, 1) := by decide +kernel
theorem dX6_at_25 : decode cX6_at 25 = .ok (.ifCond .eq 12, 3) := by decide +kernel
theorem dX6_at_28 : decode cX6_at 28 = .ok (.aload_n 0, 1) := by decide +kernel
theorem dX6_at_29 : decode cX6_at 29 = .ok (.getfield 9, 3) := by decide +kernel
theorem dX6_at_32 : decode cX6_at 32 = .ok (.iload_n 1, 1) := by decide +kernel
theorem dX6_at_33 : decode cX6_at 33 = .ok (.iaload, 1) := by decide +kernel
theorem dX6_at_34 : decode cX6_at 34 = .ok (.goto 4, 3) := by decide +kernel
theorem dX6_at_37 : decode cX6_at 37 = .ok (.iconst 0, 1) := by decide +kernel
theorem dX6_at_38 : decode cX6_at 38 = .ok (.ireturn, 1) := by decide +kernel
set_option maxRecDepth 20000 in
theorem ggX6_hasDigitAt_X6_at : GoodIn wsX6_hasDigitAt wsX6_at := goodIn_r _ [5, 6, 7, 8, 9] (by decide +kernel) (by decide +kernel)
set_option maxRecDepth 20000 in
theorem gX6_hasDigitAt_X6_at : GoodIn wsX6_hasDigitAt (wsV RX6 19 RX6 yX6_at wsX6_at) := goodIn_app (goodIn_of _ (by decide +kernel)) ggX6_hasDigitAt_X6_at
theorem dX6_hasDigitAt_0 : decode cX6_hasDigitAt 0 = .ok (.aload_n 0, 1) := by decide +kernel
theorem dX6_hasDigitAt_1 : decode cX6_hasDigitAt 1 = .ok (.iload_n 1, 1) := by decide +kernel
theorem dX6_hasDigitAt_2 : decode cX6_hasDigitAt 2 = .ok (.invokevirtual 19, 3) := by decide +kernel
theorem dX6_hasDigitAt_5 : decode cX6_hasDigitAt 5 = .ok (.bipush 48, 2) := by decide +kernel
theorem dX6_hasDigitAt_7 : decode cX6_hasDigitAt 7 = .ok (.if_icmp .lt 17, 3) := by decide +kernel
theorem dX6_hasDigitAt_10 : decode cX6_hasDigitAt 10 = .ok (.aload_n 0, 1) := by decide +kernel
theorem dX6_hasDigitAt_11 : decode cX6_hasDigitAt 11 = .ok (.iload_n 1, 1) := by decide +kernel
theorem dX6_hasDigitAt_12 : decode cX6_hasDigitAt 12 = .ok (.invokevirtual 19, 3) := by decide +kernel
theorem dX6_hasDigitAt_15 : decode cX6_hasDigitAt 15 = .ok (.bipush 57, 2) := by decide +kernel
theorem dX6_hasDigitAt_17 : decode cX6_hasDigitAt 17 = .ok (.if_icmp .gt 7, 3) := by decide +kernel
theorem dX6_hasDigitAt_20 : decode cX6_hasDigitAt 20 = .ok (.iconst 1, 1) := by decide +kernel
theorem dX6_hasDigitAt_21 : decode cX6_hasDigitAt 21 = .ok (.goto 4, 3) := by decide +kernel
theorem dX6_hasDigitAt_24 : decode cX6_hasDigitAt 24 = .ok (.iconst 0, 1) := by decide +kernel
theorem dX6_hasDigitAt_25 : decode cX6_hasDigitAt 25 = .ok (.ireturn, 1) := by decide +kernel
set_option maxRecDepth 20000 in
theorem ggX7_init_X5_init : GoodIn wsX7_init wsX5_init := goodIn_r _ [27, 28, 2, 3, 29, 30, 31, 32, 33, 34, 35, 36, 37, 38, 39, 40, 41, 42, 43, 44, 45, 46, 47, 48, 49, 50, 51, 52, 53, 54, 55, 56, 57, 80, 81, 82, 83, 84, 85, 86, 87, 88, 89, 108, 109, 110, 111, 112, 113, 114, 115] (by decide +kernel) (by decide +kernel)
set_option maxRecDepth 20000 in
theorem gX7_init_X5_init : GoodIn wsX7_init (wsX5_init) := ggX7_init_X5_init
set_option maxRecDepth 20000 in
theorem ggX7_init_X2_init : GoodIn wsX7_init wsX2_init := goodIn_r _ [60, 61, 2, 3, 62, 63, 5, 6, 64, 26, 27, 28, 29, 30, 31, 32, 33, 34, 35, 36, 37, 38, 39, 40, 41, 42, 43, 44, 45, 46, 47, 48, 49, 50, 51, 52, 53, 54, 55, 56, 57, 96, 97, 98, 80, 81, 82, 83, 84, 85, 86, 87, 88, 89, 108, 109, 110, 111, 112, 113, 114, 115] (by decide +kernel) (by decide +kernel)
set_option maxRecDepth 20000 in
theorem gX7_init_X2_init : GoodIn wsX7_init (wsX2_init) := ggX7_init_X2_init
set_option maxRecDepth 20000 in
theorem ggX7_init_X4_init : GoodIn wsX7_init wsX4_init := goodIn_r _ [66, 67, 2, 3, 68, 69, 29, 70, 71, 99, 100, 101, 102] (by decide +kernel) (by decide +kernel)
set_option maxRecDepth 20000 in
theorem gX7_init_X4_init_n28 : GoodIn wsX7_init (wsX4_init) := ggX7_init_X4_init
set_option maxRecDepth 20000 in
theorem ggX7_init_X6_init : GoodIn wsX7_init wsX6_init := goodIn_r _ [73, 74, 2, 3, 29, 75, 103, 104] (by decide +kernel) (by decide +kernel)
set_option maxRecDepth 20000 in
theorem gX7_init_X6_init_n35 : GoodIn wsX7_init (wsX6_init) := ggX7_init_X6_init
set_option maxRecDepth 20000 in
theorem ggX7_init_X1_init : GoodIn wsX7_init wsX1_init := goodIn_r _ [77, 78, 2, 3, 29, 79, 105, 106, 107] (by decide +kernel) (by decide +kernel)
set_option maxRecDepth 20000 in
theorem gX7_init_X1_init_n42 : GoodIn wsX7_init (wsX1_init) := ggX7_init_X1_init
theorem dX7_init_0 : decode cX7_init 0 = .ok (.aload_n 0, 1) := by decide +kernel
theorem dX7_init_1 : decode cX7_init 1 = .ok (.invokespecial 3, 3) := by decide +kernel
theorem dX7_init_4 : decode cX7_init 4 = .ok (.aload_n 0, 1) := by decide +kernel
theorem dX7_init_5 : decode cX7_init 5 = .ok (.new 9, 3) := by decide +kernel
theorem dX7_init_8 : decode cX7_init 8 = .ok (.dup, 1) := by decide +kernel
theorem dX7_init_9 : decode cX7_init 9 = .ok (.invokespecial 11, 3) := by decide +kernel
theorem dX7_init_12 : decode cX7_init 12 = .ok (.putfield 12, 3) := by decide +kernel
theorem dX7_init_15 : decode cX7_init 15 = .ok (.aload_n 0, 1) := by decide +kernel
theorem dX7_init_16 : decode cX7_init 16 = .ok (.new 9, 3) := by decide +kernel
theorem dX7_init_19 : decode cX7_init 19 = .ok (.dup, 1) := by decide +kernel
theorem dX7_init_20 : decode cX7_init 20 = .ok (.invokespecial 11, 3) := by decide +kernel
theorem dX7_init_23 : decode cX7_init 23 = .ok (.putfield 16, 3) := by decide +kernel
theorem dX7_init_26 : decode cX7_init 26 = .ok (.aload_n 0, 1) := by decide +kernel
theorem dX7_init_27 : decode cX7_init 27 = .ok (.new 19, 3) := by decide +kernel
theorem dX7_init_30 : decode cX7_init 30 = .ok (.dup, 1) := by decide +kernel
theorem dX7_init_31 : decode cX7_init 31 = .ok (.invokespecial 21, 3) := by decide +kernel
theorem dX7_init_34 : decode cX7_init 34 = .ok (.putfield 22, 3) := by decide +kernel
theorem dX7_init_37 : decode cX7_init 37 = .ok (.aload_n 0, 1) := by decide +kernel
theorem dX7_init_38 : decode cX7_init 38 = .ok (.new 26, 3) := by decide +kernel
theorem dX7_init_41 : decode cX7_init 41 = .ok (.dup, 1) := by decide +kernel
theorem dX7_init_42 : decode cX7_init 42 = .ok (.invokespecial 28, 3) := by decide +kernel
theorem dX7_init_45 : decode cX7_init 45 = .ok (.putfield 29, 3) := by decide +kernel
theorem dX7_init_48 : decode cX7_init 48 = .ok (.aload_n 0, 1) := by decide +kernel
theorem dX7_init_49 : decode cX7_init 49 = .ok (.new 33, 3) := by decide +kernel
theorem dX7_init_52 : decode cX7_init 52 = .ok (.dup, 1) := by decide +kernel
theorem dX7_init_53 : decode cX7_init 53 = .ok (.invokespecial 35, 3) := by decide +kernel
theorem dX7_init_56 : decode cX7_init 56 = .ok (.putfield 36, 3) := by decide +kernel
theorem dX7_init_59 : decode cX7_init 59 = .ok (.aload_n 0, 1) := by decide +kernel
theorem dX7_init_60 : decode cX7_init 60 = .ok (.new 40, 3) := by decide +kernel
theorem dX7_init_63 : decode cX7_init 63 = .ok (.dup, 1) := by decide +kernel
theorem dX7_init_64 : decode cX7_init 64 = .ok (.invokespecial 42, 3) := by decide +kernel
theorem dX7_init_67 : decode cX7_init 67 = .ok (.putfield 43, 3) := by decide +kernel
theorem dX7_init_70 : decode cX7_init 70 = .ok (.return_, 1) := by decide +kernel
set_option maxRecDepth 20000 in
theorem ggX7_setHeavy_X2_draft : GoodIn wsX7_setHeavy wsX2_draft := goodIn_r _ [7, 8, 9, 10, 11, 6, 12, 13, 14, 15, 16, 17, 18, 19, 20, 21, 22, 23, 24, 25, 26, 27, 28, 29, 30, 31, 32, 33, 34, 35, 36, 37, 38, 39, 40, 41, 42, 43, 44, 45, 46, 47, 48, 49, 50, 51, 52, 53, 54, 55, 56, 57, 77, 78, 79, 80, 81, 82, 83, 84, 85, 86, 87, 88, 89, 90, 91, 92, 93, 94, 95, 96, 97] (by decide +kernel) (by decide +kernel)
set_option maxRecDepth 20000 in
theorem gX7_setHeavy_X2_draft : GoodIn wsX7_setHeavy (wsV RX7 47 RX2 yX2_draft wsX2_draft) := goodIn_app (goodIn_of _ (by decide +kernel)) ggX7_setHeavy_X2_draft
set_option maxRecDepth 20000 in
theorem ggX7_setHeavy_X5_changeBound : GoodIn wsX7_setHeavy wsX5_changeBound := goodIn_r _ [61, 31, 80, 81, 82, 83, 84, 85, 86, 87, 88, 89] (by decide +kernel) (by decide +kernel)
set_option maxRecDepth 20000 in
theorem gX7_setHeavy_X5_changeBound : GoodIn wsX7_setHeavy (wsV RX7 51 RX5 yX5_changeBound wsX5_changeBound) := goodIn_app (goodIn_of _ (by decide +kernel)) ggX7_setHeavy_X5_changeBound
set_option maxRecDepth 20000 in
theorem ggX7_setHeavy_X7_recorded : GoodIn wsX7_setHeavy wsX7_recorded := goodIn_r _ [66, 1, 67, 68, 69, 6, 70, 14, 13, 15, 16, 17, 18, 71, 72, 73, 74, 75, 76, 77, 78, 79] (by decide +kernel) (by decide +kernel)
set_option maxRecDepth 20000 in
theorem gX7_setHeavy_X7_recorded : GoodIn wsX7_setHeavy (wsV RX7 55 RX7 yX7_recorded wsX7_recorded) := goodIn_app (goodIn_of _ (by decide +kernel)) ggX7_setHeavy_X7_recorded
theorem dX7_setHeavy_0 : decode cX7_setHeavy 0 = .ok (.aload_n 0, 1) := by decide +kernel
theorem dX7_setHeavy_1 : decode cX7_setHeavy 1 = .ok (.getfield 22, 3) := by decide +kernel
theorem dX7_setHeavy_4 : decode cX7_setHeavy 4 = .ok (.aload_n 0, 1) := by decide +kernel
theorem dX7_setHeavy_5 : decode cX7_setHeavy 5 = .ok (.getfield 12, 3) := by decide +kernel
theorem dX7_setHeavy_8 : decode cX7_setHeavy 8 = .ok (.invokevirtual 47, 3) := by decide +kernel
theorem dX7_setHeavy_11 : decode cX7_setHeavy 11 = .ok (.aload_n 0, 1) := by decide +kernel
theorem dX7_setHeavy_12 : decode cX7_setHeavy 12 = .ok (.aload_n 0, 1) := by decide +kernel
theorem dX7_setHeavy_13 : decode cX7_setHeavy 13 = .ok (.getfield 12, 3) := by decide +kernel
theorem dX7_setHeavy_16 : decode cX7_setHeavy 16 = .ok (.iload_n 1, 1) := by decide +kernel
theorem dX7_setHeavy_17 : decode cX7_setHeavy 17 = .ok (.invokevirtual 51, 3) := by decide +kernel
theorem dX7_setHeavy_20 : decode cX7_setHeavy 20 = .ok (.invokevirtual 55, 3) := by decide +kernel
theorem dX7_setHeavy_23 : decode cX7_setHeavy 23 = .ok (.ireturn, 1) := by decide +kernel
set_option maxRecDepth 20000 in
theorem ggX7_make_X2_draft : GoodIn wsX7_make wsX2_draft := goodIn_r _ [7, 8, 9, 10, 11, 6, 12, 13, 14, 15, 16, 17, 18, 19, 20, 21, 22, 23, 24, 25, 26, 27, 28, 29, 30, 31, 32, 33, 34, 35, 36, 37, 38, 39, 40, 41, 42, 43, 44, 45, 46, 47, 48, 49, 50, 51, 52, 53, 54, 55, 56, 57, 120, 121, 122, 123, 124, 125, 126, 127, 128, 129, 130, 131, 132, 133, 134, 135, 136, 137, 138, 139, 140] (by decide +kernel) (by decide +kernel)
set_option maxRecDepth 20000 in
theorem gX7_make_X2_draft : GoodIn wsX7_make (wsV RX7 47 RX2 yX2_draft wsX2_draft) := goodIn_app (goodIn_of _ (by decide +kernel)) ggX7_make_X2_draft
set_option maxRecDepth 20000 in
theorem ggX7_make_X5_makeThing : GoodIn wsX7_make wsX5_makeThing := goodIn_r _ [61, 31, 29, 32, 35, 33, 24, 62, 63, 64, 65, 66, 67, 41, 68, 69, 70, 71, 72, 45, 73, 74, 75, 76, 77, 78, 79, 22, 80, 34, 81, 82, 83, 84, 85, 86, 87, 88, 89, 90, 91, 92, 93, 94, 95, 96, 46, 97, 98, 99, 100, 101, 43, 47, 48, 102, 103, 104, 105, 123, 124, 125, 126, 127, 128, 129, 130, 131, 132, 133, 134, 135, 136, 137] (by decide +kernel) (by decide +kernel)
set_option maxRecDepth 20000 in
theorem gX7_make_X5_makeThing : GoodIn wsX7_make (wsV RX7 58 RX5 yX5_makeThing wsX5_makeThing) := goodIn_app (goodIn_of _ (by decide +kernel)) ggX7_make_X5_makeThing
set_option maxRecDepth 20000 in
theorem ggX7_make_X7_recorded : GoodIn wsX7_make wsX7_recorded := goodIn_r _ [109, 1, 110, 111, 112, 6, 113, 14, 13, 15, 16, 17, 18, 114, 115, 116, 117, 118, 119, 120, 121, 122] (by decide +kernel) (by decide +kernel)
set_option maxRecDepth 20000 in
theorem gX7_make_X7_recorded : GoodIn wsX7_make (wsV RX7 55 RX7 yX7_recorded wsX7_recorded) := goodIn_app (goodIn_of _ (by decide +kernel)) ggX7_make_X7_recorded
theorem dX7_make_0 : decode cX7_make 0 = .ok (.aload_n 0, 1) := by decide +kernel
theorem dX7_make_1 : decode cX7_make 1 = .ok (.getfield 22, 3) := by decide +kernel
theorem dX7_make_4 : decode cX7_make 4 = .ok (.aload_n 0, 1) := by decide +kernel
theorem dX7_make_5 : decode cX7_make 5 = .ok (.getfield 12, 3) := by decide +kernel
theorem dX7_make_8 : decode cX7_make 8 = .ok (.invokevirtual 47, 3) := by decide +kernel
theorem dX7_make_11 : decode cX7_make 11 = .ok (.aload_n 0, 1) := by decide +kernel
theorem dX7_make_12 : decode cX7_make 12 = .ok (.aload_n 0, 1) := by decide +kernel
theorem dX7_make_13 : decode cX7_make 13 = .ok (.getfield 12, 3) := by decide +kernel
theorem dX7_make_16 : decode cX7_make 16 = .ok (.iload_n 1, 1) := by decide +kernel
theorem dX7_make_17 : decode cX7_make 17 = .ok (.iload_n 2, 1) := by decide +kernel
theorem dX7_make_18 : decode cX7_make 18 = .ok (.invokevirtual 58, 3) := by decide +kernel
theorem dX7_make_21 : decode cX7_make 21 = .ok (.invokevirtual 55, 3) := by decide +kernel
theorem dX7_make_24 : decode cX7_make 24 = .ok (.ireturn, 1) := by decide +kernel
set_option maxRecDepth 20000 in
theorem ggX7_link_X2_draft : GoodIn wsX7_link wsX2_draft := goodIn_r _ [7, 8, 9, 10, 11, 6, 12, 13, 14, 15, 16, 17, 18, 19, 20, 21, 22, 23, 24, 25, 26, 27, 28, 29, 30, 31, 32, 33, 34, 35, 36, 37, 38, 39, 40, 41, 42, 43, 44, 45, 46, 47, 48, 49, 50, 51, 52, 53, 54, 55, 56, 57, 129, 130, 131, 132, 133, 134, 135, 136, 137, 138, 139, 140, 141, 142, 143, 144, 145, 146, 147, 148, 149] (by decide +kernel) (by decide +kernel)
set_option maxRecDepth 20000 in
theorem gX7_link_X2_draft : GoodIn wsX7_link (wsV RX7 47 RX2 yX2_draft wsX2_draft) := goodIn_app (goodIn_of _ (by decide +kernel)) ggX7_link_X2_draft
set_option maxRecDepth 20000 in
theorem ggX7_link_X5_linkHooks : GoodIn wsX7_link wsX5_linkHooks := goodIn_r _ [61, 24, 29, 62, 63, 64, 65, 66, 67, 68, 69, 22, 70, 33, 30, 71, 72, 73, 74, 34, 75, 76, 77, 78, 79, 80, 81, 41, 82, 46, 83, 84, 85, 86, 45, 87, 88, 89, 90, 91, 92, 93, 94, 35, 95, 96, 97, 98, 99, 100, 101, 102, 43, 47, 48, 103, 104, 105, 52, 106, 57, 54, 107, 108, 109, 110, 111, 112, 113, 114, 132, 133, 134, 135, 136, 137, 138, 139, 140, 141, 142, 143, 144, 145, 146, 147, 148, 149] (by decide +kernel) (by decide +kernel)
set_option maxRecDepth 20000 in
theorem gX7_link_X5_linkHooks : GoodIn wsX7_link (wsV RX7 62 RX5 yX5_linkHooks wsX5_linkHooks) := goodIn_app (goodIn_of _ (by decide +kernel)) ggX7_link_X5_linkHooks
set_option maxRecDepth 20000 in
theorem ggX7_link_X7_recorded : GoodIn wsX7_link wsX7_recorded := goodIn_r _ [118, 1, 119, 120, 121, 6, 122, 14, 13, 15, 16, 17, 18, 123, 124, 125, 126, 127, 128, 129, 130, 131] (by decide +kernel) (by decide +kernel)
set_option maxRecDepth 20000 in
theorem gX7_link_X7_recorded : GoodIn wsX7_link (wsV RX7 55 RX7 yX7_recorded wsX7_recorded) := goodIn_app (goodIn_of _ (by decide +kernel)) ggX7_link_X7_recorded
theorem dX7_link_0 : decode cX7_link 0 = .ok (.aload_n 0, 1) := by decide +kernel
theorem dX7_link_1 : decode cX7_link 1 = .ok (.getfield 22, 3) := by decide +kernel
theorem dX7_link_4 : decode cX7_link 4 = .ok (.aload_n 0, 1) := by decide +kernel
theorem dX7_link_5 : decode cX7_link 5 = .ok (.getfield 12, 3) := by decide +kernel
theorem dX7_link_8 : decode cX7_link 8 = .ok (.invokevirtual 47, 3) := by decide +kernel
theorem dX7_link_11 : decode cX7_link 11 = .ok (.aload_n 0, 1) := by decide +kernel
theorem dX7_link_12 : decode cX7_link 12 = .ok (.aload_n 0, 1) := by decide +kernel
theorem dX7_link_13 : decode cX7_link 13 = .ok (.getfield 12, 3) := by decide +kernel
theorem dX7_link_16 : decode cX7_link 16 = .ok (.iload_n 1, 1) := by decide +kernel
theorem dX7_link_17 : decode cX7_link 17 = .ok (.iload_n 2, 1) := by decide +kernel
theorem dX7_link_18 : decode cX7_link 18 = .ok (.iload_n 3, 1) := by decide +kernel
theorem dX7_link_19 : decode cX7_link 19 = .ok (.invokevirtual 62, 3) := by decide +kernel
theorem dX7_link_22 : decode cX7_link 22 = .ok (.invokevirtual 55, 3) := by decide +kernel
theorem dX7_link_25 : decode cX7_link 25 = .ok (.ireturn, 1) := by decide +kernel
set_option maxRecDepth 20000 in
theorem ggX7_follow_X2_draft : GoodIn wsX7_follow wsX2_draft := goodIn_r _ [7, 8, 9, 10, 11, 6, 12, 13, 14, 15, 16, 17, 18, 19, 20, 21, 22, 23, 24, 25, 26, 27, 28, 29, 30, 31, 32, 33, 34, 35, 36, 37, 38, 39, 40, 41, 42, 43, 44, 45, 46, 47, 48, 49, 50, 51, 52, 53, 54, 55, 56, 57, 125, 126, 127, 128, 129, 130, 131, 132, 133, 134, 135, 136, 137, 138, 139, 140, 141, 142, 143, 144, 145] (by decide +kernel) (by decide +kernel)
set_option maxRecDepth 20000 in
theorem gX7_follow_X2_draft : GoodIn wsX7_follow (wsV RX7 47 RX2 yX2_draft wsX2_draft) := goodIn_app (goodIn_of _ (by decide +kernel)) ggX7_follow_X2_draft
set_option maxRecDepth 20000 in
theorem ggX7_follow_X5_followName : GoodIn wsX7_follow wsX5_followName := goodIn_r _ [61, 24, 29, 62, 63, 64, 65, 66, 67, 68, 69, 22, 70, 33, 30, 71, 72, 73, 74, 34, 75, 76, 77, 78, 79, 80, 81, 41, 82, 46, 83, 84, 85, 86, 45, 87, 88, 89, 90, 91, 92, 93, 94, 35, 95, 96, 97, 98, 99, 100, 101, 102, 43, 47, 48, 103, 104, 105, 52, 106, 57, 54, 107, 108, 109, 110, 128, 129, 130, 131, 132, 133, 134, 135, 136, 137, 138, 139, 140, 141, 142, 143, 144, 145] (by decide +kernel) (by decide +kernel)
set_option maxRecDepth 20000 in
theorem gX7_follow_X5_followName : GoodIn wsX7_follow (wsV RX7 66 RX5 yX5_followName wsX5_followName) := goodIn_app (goodIn_of _ (by decide +kernel)) ggX7_follow_X5_followName
set_option maxRecDepth 20000 in
theorem ggX7_follow_X7_recorded : GoodIn wsX7_follow wsX7_recorded := goodIn_r _ [114, 1, 115, 116, 117, 6, 118, 14, 13, 15, 16, 17, 18, 119, 120, 121, 122, 123, 124, 125, 126, 127] (by decide +kernel) (by decide +kernel)
set_option maxRecDepth 20000 in
theorem gX7_follow_X7_recorded : GoodIn wsX7_follow (wsV RX7 55 RX7 yX7_recorded wsX7_recorded) := goodIn_app (goodIn_of _ (by decide +kernel)) ggX7_follow_X7_recorded
theorem dX7_follow_0 : decode cX7_follow 0 = .ok (.aload_n 0, 1) := by decide +kernel
theorem dX7_follow_1 : decode cX7_follow 1 = .ok (.getfield 22, 3) := by decide +kernel
theorem dX7_follow_4 : decode cX7_follow 4 = .ok (.aload_n 0, 1) := by decide +kernel
theorem dX7_follow_5 : decode cX7_follow 5 = .ok (.getfield 12, 3) := by decide +kernel
theorem dX7_follow_8 : decode cX7_follow 8 = .ok (.invokevirtual 47, 3) := by decide +kernel
theorem dX7_follow_11 : decode cX7_follow 11 = .ok (.aload_n 0, 1) := by decide +kernel
theorem dX7_follow_12 : decode cX7_follow 12 = .ok (.aload_n 0, 1) := by decide +kernel
theorem dX7_follow_13 : decode cX7_follow 13 = .ok (.getfield 12, 3) := by decide +kernel
theorem dX7_follow_16 : decode cX7_follow 16 = .ok (.iload_n 1, 1) := by decide +kernel
theorem dX7_follow_17 : decode cX7_follow 17 = .ok (.iload_n 2, 1) := by decide +kernel
theorem dX7_follow_18 : decode cX7_follow 18 = .ok (.iload_n 3, 1) := by decide +kernel
theorem dX7_follow_19 : decode cX7_follow 19 = .ok (.invokevirtual 66, 3) := by decide +kernel
theorem dX7_follow_22 : decode cX7_follow 22 = .ok (.invokevirtual 55, 3) := by decide +kernel
theorem dX7_follow_25 : decode cX7_follow 25 = .ok (.ireturn, 1) := by decide +kernel
set_option maxRecDepth 20000 in
theorem ggX7_drop_X2_draft : GoodIn wsX7_drop wsX2_draft := goodIn_r _ [7, 8, 9, 10, 11, 6, 12, 13, 14, 15, 16, 17, 18, 19, 20, 21, 22, 23, 24, 25, 26, 27, 28, 29, 30, 31, 32, 33, 34, 35, 36, 37, 38, 39, 40, 41, 42, 43, 44, 45, 46, 47, 48, 49, 50, 51, 52, 53, 54, 55, 56, 57, 79, 80, 81, 82, 83, 84, 85, 86, 87, 88, 89, 90, 91, 92, 93, 94, 95, 96, 97, 98, 99] (by decide +kernel) (by decide +kernel)
set_option maxRecDepth 20000 in
theorem gX7_drop_X2_draft : GoodIn wsX7_drop (wsV RX7 47 RX2 yX2_draft wsX2_draft) := goodIn_app (goodIn_of _ (by decide +kernel)) ggX7_drop_X2_draft
set_option maxRecDepth 20000 in
theorem ggX7_drop_X5_dropHook : GoodIn wsX7_drop wsX5_dropHook := goodIn_r _ [61, 24, 62, 63, 64, 82, 83, 84, 85, 86, 87, 88, 89, 90, 91] (by decide +kernel) (by decide +kernel)
set_option maxRecDepth 20000 in
theorem gX7_drop_X5_dropHook : GoodIn wsX7_drop (wsV RX7 69 RX5 yX5_dropHook wsX5_dropHook) := goodIn_app (goodIn_of _ (by decide +kernel)) ggX7_drop_X5_dropHook
set_option maxRecDepth 20000 in
theorem ggX7_drop_X7_recorded : GoodIn wsX7_drop wsX7_recorded := goodIn_r _ [68, 1, 69, 70, 71, 6, 72, 14, 13, 15, 16, 17, 18, 73, 74, 75, 76, 77, 78, 79, 80, 81] (by decide +kernel) (by decide +kernel)
set_option maxRecDepth 20000 in
theorem gX7_drop_X7_recorded : GoodIn wsX7_drop (wsV RX7 55 RX7 yX7_recorded wsX7_recorded) := goodIn_app (goodIn_of _ (by decide +kernel)) ggX7_drop_X7_recorded
theorem dX7_drop_0 : decode cX7_drop 0 = .ok (.aload_n 0, 1) := by decide +kernel
theorem dX7_drop_1 : decode cX7_drop 1 = .ok (.getfield 22, 3) := by decide +kernel
theorem dX7_drop_4 : decode cX7_drop 4 = .ok (.aload_n 0, 1) := by decide +kernel
theorem dX7_drop_5 : decode cX7_drop 5 = .ok (.getfield 12, 3) := by decide +kernel
theorem dX7_drop_8 : decode cX7_drop 8 = .ok (.invokevirtual 47, 3) := by decide +kernel
theorem dX7_drop_11 : decode cX7_drop 11 = .ok (.aload_n 0, 1) := by decide +kernel
theorem dX7_drop_12 : decode cX7_drop 12 = .ok (.aload_n 0, 1) := by decide +kernel
theorem dX7_drop_13 : decode cX7_drop 13 = .ok (.getfield 12, 3) := by decide +kernel
theorem dX7_drop_16 : decode cX7_drop 16 = .ok (.iload_n 1, 1) := by decide +kernel
theorem dX7_drop_17 : decode cX7_drop 17 = .ok (.invokevirtual 69, 3) := by decide +kernel
theorem dX7_drop_20 : decode cX7_drop 20 = .ok (.invokevirtual 55, 3) := by decide +kernel
theorem dX7_drop_23 : decode cX7_drop 23 = .ok (.ireturn, 1) := by decide +kernel
set_option maxRecDepth 20000 in
theorem ggX7_begin_X2_draft : GoodIn wsX7_begin wsX2_draft := goodIn_r _ [7, 8, 9, 10, 11, 6, 12, 13, 14, 15, 16, 17, 18, 19, 20, 21, 22, 23, 24, 25, 26, 27, 28, 29, 30, 31, 32, 33, 34, 35, 36, 37, 38, 39, 40, 41, 42, 43, 44, 45, 46, 47, 48, 49, 50, 51, 52, 53, 54, 55, 56, 57, 145, 146, 147, 148, 149, 150, 151, 152, 153, 154, 155, 156, 157, 158, 159, 160, 161, 162, 163, 164, 165] (by decide +kernel) (by decide +kernel)
set_option maxRecDepth 20000 in
theorem gX7_begin_X2_draft : GoodIn wsX7_begin (wsV RX7 47 RX2 yX2_draft wsX2_draft) := goodIn_app (goodIn_of _ (by decide +kernel)) ggX7_begin_X2_draft
set_option maxRecDepth 20000 in
theorem ggX7_begin_X5_beginMove : GoodIn wsX7_begin wsX5_beginMove := goodIn_r _ [61, 33, 34, 35, 30, 24, 62, 63, 64, 52, 65, 56, 57, 66, 67, 68, 22, 69, 29, 70, 71, 72, 73, 74, 75, 76, 77, 78, 79, 80, 41, 81, 46, 82, 83, 84, 85, 45, 86, 87, 88, 89, 90, 91, 92, 93, 94, 95, 96, 97, 98, 99, 100, 101, 43, 47, 48, 102, 103, 104, 105, 54, 106, 107, 108, 109, 110, 111, 112, 113, 114, 115, 116, 117, 37, 118, 119, 120, 121, 122, 123, 124, 125, 126, 127, 128, 129, 148, 149, 150, 151, 152, 153, 154, 155, 156, 157, 163, 164, 165, 158, 159, 160, 161, 162] (by decide +kernel) (by decide +kernel)
set_option maxRecDepth 20000 in
theorem gX7_begin_X5_beginMove : GoodIn wsX7_begin (wsV RX7 72 RX5 yX5_beginMove wsX5_beginMove) := goodIn_app (goodIn_of _ (by decide +kernel)) ggX7_begin_X5_beginMove
set_option maxRecDepth 20000 in
theorem ggX7_begin_X7_recorded : GoodIn wsX7_begin wsX7_recorded := goodIn_r _ [134, 1, 135, 136, 137, 6, 138, 14, 13, 15, 16, 17, 18, 139, 140, 141, 142, 143, 144, 145, 146, 147] (by decide +kernel) (by decide +kernel)
set_option maxRecDepth 20000 in
theorem gX7_begin_X7_recorded : GoodIn wsX7_begin (wsV RX7 55 RX7 yX7_recorded wsX7_recorded) := goodIn_app (goodIn_of _ (by decide +kernel)) ggX7_begin_X7_recorded
theorem dX7_begin_0 : decode cX7_begin 0 = .ok (.aload_n 0, 1) := by decide +kernel
theorem dX7_begin_1 : decode cX7_begin 1 = .ok (.getfield 22, 3) := by decide +kernel
theorem dX7_begin_4 : decode cX7_begin 4 = .ok (.aload_n 0, 1) := by decide +kernel
theorem dX7_begin_5 : decode cX7_begin 5 = .ok (.getfield 12, 3) := by decide +kernel
theorem dX7_begin_8 : decode cX7_begin 8 = .ok (.invokevirtual 47, 3) := by decide +kernel
theorem dX7_begin_11 : decode cX7_begin 11 = .ok (.aload_n 0, 1) := by decide +kernel
theorem dX7_begin_12 : decode cX7_begin 12 = .ok (.aload_n 0, 1) := by decide +kernel
theorem dX7_begin_13 : decode cX7_begin 13 = .ok (.getfield 12, 3) := by decide +kernel
theorem dX7_begin_16 : decode cX7_begin 16 = .ok (.invokevirtual 72, 3) := by decide +kernel
theorem dX7_begin_19 : decode cX7_begin 19 = .ok (.invokevirtual 55, 3) := by decide +kernel
theorem dX7_begin_22 : decode cX7_begin 22 = .ok (.ireturn, 1) := by decide +kernel
set_option maxRecDepth 20000 in
theorem ggX7_carry_X2_draft : GoodIn wsX7_carry wsX2_draft := goodIn_r _ [7, 8, 9, 10, 11, 6, 12, 13, 14, 15, 16, 17, 18, 19, 20, 21, 22, 23, 24, 25, 26, 27, 28, 29, 30, 31, 32, 33, 34, 35, 36, 37, 38, 39, 40, 41, 42, 43, 44, 45, 46, 47, 48, 49, 50, 51, 52, 53, 54, 55, 56, 57, 149, 150, 151, 152, 153, 154, 155, 156, 157, 158, 159, 160, 161, 162, 163, 164, 165, 166, 167, 168, 169] (by decide +kernel) (by decide +kernel)
set_option maxRecDepth 20000 in
theorem gX7_carry_X2_draft : GoodIn wsX7_carry (wsV RX7 47 RX2 yX2_draft wsX2_draft) := goodIn_app (goodIn_of _ (by decide +kernel)) ggX7_carry_X2_draft
set_option maxRecDepth 20000 in
theorem ggX7_carry_X5_carrySteps : GoodIn wsX7_carry wsX5_carrySteps := goodIn_r _ [61, 33, 62, 63, 64, 22, 65, 30, 29, 66, 67, 68, 52, 69, 56, 57, 54, 70, 71, 72, 73, 74, 75, 76, 77, 34, 78, 79, 80, 81, 82, 83, 84, 41, 85, 46, 86, 87, 88, 89, 45, 90, 91, 92, 93, 94, 95, 96, 97, 35, 98, 99, 100, 101, 102, 103, 104, 105, 43, 47, 48, 106, 107, 108, 109, 110, 111, 112, 113, 114, 115, 116, 117, 118, 119, 120, 121, 37, 122, 123, 124, 125, 126, 127, 128, 129, 130, 131, 132, 133, 152, 153, 154, 155, 156, 157, 158, 159, 160, 161, 162, 163, 164, 165, 166, 167, 168, 169] (by decide +kernel) (by decide +kernel)
set_option maxRecDepth 20000 in
theorem gX7_carry_X5_carrySteps : GoodIn wsX7_carry (wsV RX7 76 RX5 yX5_carrySteps wsX5_carrySteps) := goodIn_app (goodIn_of _ (by decide +kernel)) ggX7_carry_X5_carrySteps
set_option maxRecDepth 20000 in
theorem ggX7_carry_X7_recorded : GoodIn wsX7_carry wsX7_recorded := goodIn_r _ [138, 1, 139, 140, 141, 6, 142, 14, 13, 15, 16, 17, 18, 143, 144, 145, 146, 147, 148, 149, 150, 151] (by decide +kernel) (by decide +kernel)
set_option maxRecDepth 20000 in
theorem gX7_carry_X7_recorded : GoodIn wsX7_carry (wsV RX7 55 RX7 yX7_recorded wsX7_recorded) := goodIn_app (goodIn_of _ (by decide +kernel)) ggX7_carry_X7_recorded
theorem dX7_carry_0 : decode cX7_carry 0 = .ok (.aload_n 0, 1) := by decide +kernel
theorem dX7_carry_1 : decode cX7_carry 1 = .ok (.getfield 22, 3) := by decide +kernel
theorem dX7_carry_4 : decode cX7_carry 4 = .ok (.aload_n 0, 1) := by decide +kernel
theorem dX7_carry_5 : decode cX7_carry 5 = .ok (.getfield 12, 3) := by decide +kernel
theorem dX7_carry_8 : decode cX7_carry 8 = .ok (.invokevirtual 47, 3) := by decide +kernel
theorem dX7_carry_11 : decode cX7_carry 11 = .ok (.aload_n 0, 1) := by decide +kernel
theorem dX7_carry_12 : decode cX7_carry 12 = .ok (.aload_n 0, 1) := by decide +kernel
theorem dX7_carry_13 : decode cX7_carry 13 = .ok (.getfield 12, 3) := by decide +kernel
theorem dX7_carry_16 : decode cX7_carry 16 = .ok (.iload_n 1, 1) := by decide +kernel
theorem dX7_carry_17 : decode cX7_carry 17 = .ok (.invokevirtual 76, 3) := by decide +kernel
theorem dX7_carry_20 : decode cX7_carry 20 = .ok (.invokevirtual 55, 3) := by decide +kernel
theorem dX7_carry_23 : decode cX7_carry 23 = .ok (.ireturn, 1) := by decide +kernel
set_option maxRecDepth 20000 in
theorem ggX7_lose_X2_draft : GoodIn wsX7_lose wsX2_draft := goodIn_r _ [7, 8, 9, 10, 11, 6, 12, 13, 14, 15, 16, 17, 18, 19, 20, 21, 22, 23, 24, 25, 26, 27, 28, 29, 30, 31, 32, 33, 34, 35, 36, 37, 38, 39, 40, 41, 42, 43, 44, 45, 46, 47, 48, 49, 50, 51, 52, 53, 54, 55, 56, 57, 117, 118, 119, 120, 121, 122, 123, 124, 125, 126, 127, 128, 129, 130, 131, 132, 133, 134, 135, 136, 137] (by decide +kernel) (by decide +kernel)
set_option maxRecDepth 20000 in
theorem gX7_lose_X2_draft : GoodIn wsX7_lose (wsV RX7 47 RX2 yX2_draft wsX2_draft) := goodIn_app (goodIn_of _ (by decide +kernel)) ggX7_lose_X2_draft
set_option maxRecDepth 20000 in
theorem ggX7_lose_X5_loseNote : GoodIn wsX7_lose wsX5_loseNote := goodIn_r _ [61, 29, 36, 62, 63, 64, 22, 65, 32, 66, 67, 68, 69, 70, 71, 72, 41, 73, 43, 74, 75, 76, 77, 45, 78, 79, 80, 81, 46, 82, 83, 84, 85, 35, 86, 87, 88, 89, 34, 33, 90, 91, 92, 93, 94, 95, 96, 97, 98, 99, 100, 101, 120, 121, 122, 123, 124, 125, 126, 127, 128, 129, 130, 131, 132, 133, 134] (by decide +kernel) (by decide +kernel)
set_option maxRecDepth 20000 in
theorem gX7_lose_X5_loseNote : GoodIn wsX7_lose (wsV RX7 79 RX5 yX5_loseNote wsX5_loseNote) := goodIn_app (goodIn_of _ (by decide +kernel)) ggX7_lose_X5_loseNote
set_option maxRecDepth 20000 in
theorem ggX7_lose_X7_recorded : GoodIn wsX7_lose wsX7_recorded := goodIn_r _ [106, 1, 107, 108, 109, 6, 110, 14, 13, 15, 16, 17, 18, 111, 112, 113, 114, 115, 116, 117, 118, 119] (by decide +kernel) (by decide +kernel)
set_option maxRecDepth 20000 in
theorem gX7_lose_X7_recorded : GoodIn wsX7_lose (wsV RX7 55 RX7 yX7_recorded wsX7_recorded) := goodIn_app (goodIn_of _ (by decide +kernel)) ggX7_lose_X7_recorded
theorem dX7_lose_0 : decode cX7_lose 0 = .ok (.aload_n 0, 1) := by decide +kernel
theorem dX7_lose_1 : decode cX7_lose 1 = .ok (.getfield 22, 3) := by decide +kernel
theorem dX7_lose_4 : decode cX7_lose 4 = .ok (.aload_n 0, 1) := by decide +kernel
theorem dX7_lose_5 : decode cX7_lose 5 = .ok (.getfield 12, 3) := by decide +kernel
theorem dX7_lose_8 : decode cX7_lose 8 = .ok (.invokevirtual 47, 3) := by decide +kernel
theorem dX7_lose_11 : decode cX7_lose 11 = .ok (.aload_n 0, 1) := by decide +kernel
theorem dX7_lose_12 : decode cX7_lose 12 = .ok (.aload_n 0, 1) := by decide +kernel
theorem dX7_lose_13 : decode cX7_lose 13 = .ok (.getfield 12, 3) := by decide +kernel
theorem dX7_lose_16 : decode cX7_lose 16 = .ok (.iload_n 1, 1) := by decide +kernel
theorem dX7_lose_17 : decode cX7_lose 17 = .ok (.invokevirtual 79, 3) := by decide +kernel
theorem dX7_lose_20 : decode cX7_lose 20 = .ok (.invokevirtual 55, 3) := by decide +kernel
theorem dX7_lose_23 : decode cX7_lose 23 = .ok (.ireturn, 1) := by decide +kernel
set_option maxRecDepth 20000 in
theorem ggX7_mend_X2_draft : GoodIn wsX7_mend wsX2_draft := goodIn_r _ [7, 8, 9, 10, 11, 6, 12, 13, 14, 15, 16, 17, 18, 19, 20, 21, 22, 23, 24, 25, 26, 27, 28, 29, 30, 31, 32, 33, 34, 35, 36, 37, 38, 39, 40, 41, 42, 43, 44, 45, 46, 47, 48, 49, 50, 51, 52, 53, 54, 55, 56, 57, 118, 119, 120, 121, 122, 123, 124, 125, 126, 127, 128, 129, 130, 131, 132, 133, 134, 135, 136, 137, 138] (by decide +kernel) (by decide +kernel)
set_option maxRecDepth 20000 in
theorem gX7_mend_X2_draft : GoodIn wsX7_mend (wsV RX7 47 RX2 yX2_draft wsX2_draft) := goodIn_app (goodIn_of _ (by decide +kernel)) ggX7_mend_X2_draft
set_option maxRecDepth 20000 in
theorem ggX7_mend_X5_mendTwins : GoodIn wsX7_mend wsX5_mendTwins := goodIn_r _ [61, 33, 29, 62, 63, 64, 22, 65, 32, 66, 67, 68, 69, 70, 71, 72, 41, 73, 43, 74, 75, 76, 77, 45, 78, 79, 80, 81, 34, 82, 83, 84, 85, 86, 87, 88, 89, 90, 91, 92, 93, 94, 95, 96, 97, 98, 48, 99, 100, 101, 102, 24, 121, 122, 123, 124, 125, 126, 127, 128, 129, 130, 131, 132, 133, 134, 135] (by decide +kernel) (by decide +kernel)
set_option maxRecDepth 20000 in
theorem gX7_mend_X5_mendTwins : GoodIn wsX7_mend (wsV RX7 82 RX5 yX5_mendTwins wsX5_mendTwins) := goodIn_app (goodIn_of _ (by decide +kernel)) ggX7_mend_X5_mendTwins
set_option maxRecDepth 20000 in
theorem ggX7_mend_X7_recorded : GoodIn wsX7_mend wsX7_recorded := goodIn_r _ [107, 1, 108, 109, 110, 6, 111, 14, 13, 15, 16, 17, 18, 112, 113, 114, 115, 116, 117, 118, 119, 120] (by decide +kernel) (by decide +kernel)
set_option maxRecDepth 20000 in
theorem gX7_mend_X7_recorded : GoodIn wsX7_mend (wsV RX7 55 RX7 yX7_recorded wsX7_recorded) := goodIn_app (goodIn_of _ (by decide +kernel)) ggX7_mend_X7_recorded
theorem dX7_mend_0 : decode cX7_mend 0 = .ok (.aload_n 0, 1) := by decide +kernel
theorem dX7_mend_1 : decode cX7_mend 1 = .ok (.getfield 22, 3) := by decide +kernel
theorem dX7_mend_4 : decode cX7_mend 4 = .ok (.aload_n 0, 1) := by decide +kernel
theorem dX7_mend_5 : decode cX7_mend 5 = .ok (.getfield 12, 3) := by decide +kernel
theorem dX7_mend_8 : decode cX7_mend 8 = .ok (.invokevirtual 47, 3) := by decide +kernel
theorem dX7_mend_11 : decode cX7_mend 11 = .ok (.aload_n 0, 1) := by decide +kernel
theorem dX7_mend_12 : decode cX7_mend 12 = .ok (.aload_n 0, 1) := by decide +kernel
theorem dX7_mend_13 : decode cX7_mend 13 = .ok (.getfield 12, 3) := by decide +kernel
theorem dX7_mend_16 : decode cX7_mend 16 = .ok (.iload_n 1, 1) := by decide +kernel
theorem dX7_mend_17 : decode cX7_mend 17 = .ok (.invokevirtual 82, 3) := by decide +kernel
theorem dX7_mend_20 : decode cX7_mend 20 = .ok (.invokevirtual 55, 3) := by decide +kernel
theorem dX7_mend_23 : decode cX7_mend 23 = .ok (.ireturn, 1) := by decide +kernel
set_option maxRecDepth 20000 in
theorem ggX7_undo_X2_size : GoodIn wsX7_undo wsX2_size := goodIn_r _ [7, 8, 72, 73, 74] (by decide +kernel) (by decide +kernel)
set_option maxRecDepth 20000 in
theorem gX7_undo_X2_size : GoodIn wsX7_undo (wsV RX7 85 RX2 yX2_size wsX2_size) := goodIn_app (goodIn_of _ (by decide +kernel)) ggX7_undo_X2_size
set_option maxRecDepth 20000 in
theorem ggX7_undo_X2_restoreLatest : GoodIn wsX7_undo wsX2_restoreLatest := goodIn_r _ [12, 8, 13, 14, 15, 6, 16, 17, 18, 19, 20, 21, 22, 23, 24, 25, 26, 27, 28, 29, 30, 31, 32, 33, 34, 35, 36, 37, 38, 39, 40, 41, 42, 43, 44, 45, 46, 47, 48, 49, 50, 51, 52, 53, 54, 55, 56, 57, 58, 59, 60, 61, 62, 63, 64, 65, 72, 73, 74, 75, 76, 77, 78, 79, 80, 81, 82, 83, 84, 85, 86, 87, 88, 89, 90, 91, 92] (by decide +kernel) (by decide +kernel)
set_option maxRecDepth 20000 in
theorem gX7_undo_X2_restoreLatest : GoodIn wsX7_undo (wsV RX7 88 RX2 yX2_restoreLatest wsX2_restoreLatest) := goodIn_app (goodIn_of _ (by decide +kernel)) ggX7_undo_X2_restoreLatest
theorem dX7_undo_0 : decode cX7_undo 0 = .ok (.aload_n 0, 1) := by decide +kernel
theorem dX7_undo_1 : decode cX7_undo 1 = .ok (.getfield 22, 3) := by decide +kernel
theorem dX7_undo_4 : decode cX7_undo 4 = .ok (.invokevirtual 85, 3) := by decide +kernel
theorem dX7_undo_7 : decode cX7_undo 7 = .ok (.ifCond .ne 6, 3) := by decide +kernel
theorem dX7_undo_10 : decode cX7_undo 10 = .ok (.bipush (-2), 2) := by decide +kernel
theorem dX7_undo_12 : decode cX7_undo 12 = .ok (.ireturn, 1) := by decide +kernel
theorem dX7_undo_13 : decode cX7_undo 13 = .ok (.aload_n 0, 1) := by decide +kernel
theorem dX7_undo_14 : decode cX7_undo 14 = .ok (.getfield 22, 3) := by decide +kernel
theorem dX7_undo_17 : decode cX7_undo 17 = .ok (.aload_n 0, 1) := by decide +kernel
theorem dX7_undo_18 : decode cX7_undo 18 = .ok (.getfield 12, 3) := by decide +kernel
theorem dX7_undo_21 : decode cX7_undo 21 = .ok (.invokevirtual 88, 3) := by decide +kernel
theorem dX7_undo_24 : decode cX7_undo 24 = .ok (.aload_n 0, 1) := by decide +kernel
theorem dX7_undo_25 : decode cX7_undo 25 = .ok (.getfield 22, 3) := by decide +kernel
theorem dX7_undo_28 : decode cX7_undo 28 = .ok (.invokevirtual 85, 3) := by decide +kernel
theorem dX7_undo_31 : decode cX7_undo 31 = .ok (.ireturn, 1) := by decide +kernel
set_option maxRecDepth 20000 in
theorem ggX7_append_X6_addCharacter : GoodIn wsX7_append wsX6_addCharacter := goodIn_r _ [6, 7, 8, 15, 16] (by decide +kernel) (by decide +kernel)
set_option maxRecDepth 20000 in
theorem gX7_append_X6_addCharacter : GoodIn wsX7_append (wsV RX7 91 RX6 yX6_addCharacter wsX6_addCharacter) := goodIn_app (goodIn_of _ (by decide +kernel)) ggX7_append_X6_addCharacter
theorem dX7_append_0 : decode cX7_append 0 = .ok (.aload_n 0, 1) := by decide +kernel
theorem dX7_append_1 : decode cX7_append 1 = .ok (.getfield 36, 3) := by decide +kernel
theorem dX7_append_4 : decode cX7_append 4 = .ok (.iload_n 1, 1) := by decide +kernel
theorem dX7_append_5 : decode cX7_append 5 = .ok (.invokevirtual 91, 3) := by decide +kernel
theorem dX7_append_8 : decode cX7_append 8 = .ok (.ireturn, 1) := by decide +kernel
set_option maxRecDepth 20000 in
theorem ggX7_clearText_X6_size : GoodIn wsX7_clearText wsX6_size := goodIn_r _ [6, 7, 18, 19] (by decide +kernel) (by decide +kernel)
set_option maxRecDepth 20000 in
theorem gX7_clearText_X6_size : GoodIn wsX7_clearText (wsV RX7 94 RX6 yX6_size wsX6_size) := goodIn_app (goodIn_of _ (by decide +kernel)) ggX7_clearText_X6_size
set_option maxRecDepth 20000 in
theorem ggX7_clearText_X6_empty : GoodIn wsX7_clearText wsX6_empty := goodIn_r _ [11, 7, 18, 19] (by decide +kernel) (by decide +kernel)
set_option maxRecDepth 20000 in
theorem gX7_clearText_X6_empty : GoodIn wsX7_clearText (wsV RX7 95 RX6 yX6_empty wsX6_empty) := goodIn_app (goodIn_of _ (by decide +kernel)) ggX7_clearText_X6_empty
theorem dX7_clearText_0 : decode cX7_clearText 0 = .ok (.aload_n 0, 1) := by decide +kernel
theorem dX7_clearText_1 : decode cX7_clearText 1 = .ok (.getfield 36, 3) := by decide +kernel
theorem dX7_clearText_4 : decode cX7_clearText 4 = .ok (.invokevirtual 94, 3) := by decide +kernel
theorem dX7_clearText_7 : decode cX7_clearText 7 = .ok (.istore_n 1, 1) := by decide +kernel
theorem dX7_clearText_8 : decode cX7_clearText 8 = .ok (.aload_n 0, 1) := by decide +kernel
theorem dX7_clearText_9 : decode cX7_clearText 9 = .ok (.getfield 36, 3) := by decide +kernel
theorem dX7_clearText_12 : decode cX7_clearText 12 = .ok (.invokevirtual 95, 3) := by decide +kernel
theorem dX7_clearText_15 : decode cX7_clearText 15 = .ok (.iload_n 1, 1) := by decide +kernel
theorem dX7_clearText_16 : decode cX7_clearText 16 = .ok (.ireturn, 1) := by decide +kernel
set_option maxRecDepth 20000 in
theorem ggX7_run_X2_draft : GoodIn wsX7_run wsX2_draft := goodIn_r _ [9, 10, 11, 12, 13, 8, 14, 15, 16, 17, 18, 19, 20, 21, 22, 23, 24, 25, 26, 27, 28, 29, 30, 31, 32, 33, 34, 35, 36, 37, 38, 39, 40, 41, 42, 43, 44, 45, 46, 47, 48, 49, 50, 51, 52, 53, 54, 55, 56, 57, 58, 59, 256, 257, 258, 259, 260, 261, 262, 263, 264, 265, 266, 267, 268, 269, 270, 271, 272, 273, 274, 275, 276] (by decide +kernel) (by decide +kernel)
set_option maxRecDepth 20000 in
theorem gX7_run_X2_draft : GoodIn wsX7_run (wsV RX7 47 RX2 yX2_draft wsX2_draft) := goodIn_app (goodIn_of _ (by decide +kernel)) ggX7_run_X2_draft
set_option maxRecDepth 20000 in
theorem ggX7_run_X6_size : GoodIn wsX7_run wsX6_size := goodIn_r _ [64, 65, 277, 278] (by decide +kernel) (by decide +kernel)
set_option maxRecDepth 20000 in
theorem gX7_run_X6_size : GoodIn wsX7_run (wsV RX7 94 RX6 yX6_size wsX6_size) := goodIn_app (goodIn_of _ (by decide +kernel)) ggX7_run_X6_size
set_option maxRecDepth 20000 in
theorem ggX7_run_X1_readFrom : GoodIn wsX7_run wsX1_readFrom := goodIn_r _ [70, 71, 72, 73, 74, 75, 76, 63, 77, 65, 78, 79, 80, 81, 69, 82, 83, 84, 85, 86, 87, 88, 89, 90, 91, 92, 93, 94, 95, 279, 280, 281, 277, 278] (by decide +kernel) (by decide +kernel)
set_option maxRecDepth 20000 in
theorem gX7_run_X1_readFrom : GoodIn wsX7_run (wsV RX7 98 RX1 yX1_readFrom wsX1_readFrom) := goodIn_app (goodIn_of _ (by decide +kernel)) ggX7_run_X1_readFrom
set_option maxRecDepth 20000 in
theorem ggX7_run_X1_end : GoodIn wsX7_run wsX1_end := goodIn_r _ [99, 71, 279, 280, 281] (by decide +kernel) (by decide +kernel)
set_option maxRecDepth 20000 in
theorem gX7_run_X1_end : GoodIn wsX7_run (wsV RX7 102 RX1 yX1_end wsX1_end) := goodIn_app (goodIn_of _ (by decide +kernel)) ggX7_run_X1_end
set_option maxRecDepth 20000 in
theorem ggX7_run_X7_textFailed : GoodIn wsX7_run wsX7_textFailed := goodIn_r _ [104, 1, 2, 105, 106, 107, 8, 108, 10, 11, 12, 13, 14, 15, 16, 17, 18, 19, 20, 21, 22, 23, 24, 25, 26, 27, 28, 29, 30, 31, 32, 33, 34, 35, 36, 37, 38, 39, 40, 41, 42, 43, 44, 45, 46, 47, 48, 49, 50, 51, 52, 53, 54, 55, 56, 57, 58, 59, 250, 251, 252, 253, 254, 255, 256, 257, 258, 259, 260, 261, 262, 263, 264, 265, 266, 267, 268, 269, 270, 271, 272, 273, 274, 275, 276] (by decide +kernel) (by decide +kernel)
set_option maxRecDepth 20000 in
theorem gX7_run_X7_textFailed : GoodIn wsX7_run (wsV RX7 105 RX7 yX7_textFailed wsX7_textFailed) := goodIn_app (goodIn_of _ (by decide +kernel)) ggX7_run_X7_textFailed
set_option maxRecDepth 20000 in
theorem ggX7_run_X1_callOn : GoodIn wsX7_run wsX1_callOn := goodIn_r _ [112, 72, 73, 113, 114, 115, 24, 116, 33, 31, 34, 37, 35, 26, 117, 103, 118, 119, 120, 121, 43, 122, 123, 124, 125, 126, 47, 127, 128, 129, 130, 131, 132, 133, 134, 36, 135, 136, 137, 138, 139, 140, 141, 142, 143, 144, 145, 146, 147, 148, 149, 150, 48, 151, 152, 153, 154, 155, 45, 49, 50, 156, 157, 158, 159, 160, 161, 162, 163, 164, 165, 166, 167, 168, 169, 32, 170, 171, 172, 173, 174, 175, 176, 177, 178, 179, 180, 181, 182, 183, 184, 54, 185, 59, 56, 186, 187, 188, 189, 190, 191, 192, 193, 194, 195, 196, 197, 198, 199, 200, 201, 202, 203, 204, 205, 58, 206, 207, 208, 209, 210, 211, 212, 213, 39, 214, 215, 216, 217, 218, 219, 220, 221, 222, 223, 224, 225, 226, 227, 228, 229, 230, 231, 232, 233, 234, 235, 236, 237, 279, 280, 281, 259, 260, 261, 262, 263, 264, 265, 266, 267, 268, 269, 270, 271, 272, 273, 274, 275, 276] (by decide +kernel) (by decide +kernel)
set_option maxRecDepth 20000 in
theorem gX7_run_X1_callOn : GoodIn wsX7_run (wsV RX7 108 RX1 yX1_callOn wsX1_callOn) := goodIn_app (goodIn_of _ (by decide +kernel)) ggX7_run_X1_callOn
set_option maxRecDepth 20000 in
theorem ggX7_run_X6_empty : GoodIn wsX7_run wsX6_empty := goodIn_r _ [241, 65, 277, 278] (by decide +kernel) (by decide +kernel)
set_option maxRecDepth 20000 in
theorem gX7_run_X6_empty : GoodIn wsX7_run (wsV RX7 95 RX6 yX6_empty wsX6_empty) := goodIn_app (goodIn_of _ (by decide +kernel)) ggX7_run_X6_empty
set_option maxRecDepth 20000 in
theorem ggX7_run_X7_recorded : GoodIn wsX7_run wsX7_recorded := goodIn_r _ [245, 1, 246, 247, 248, 8, 249, 16, 15, 17, 18, 19, 20, 250, 251, 252, 253, 254, 255, 256, 257, 258] (by decide +kernel) (by decide +kernel)
set_option maxRecDepth 20000 in
theorem gX7_run_X7_recorded : GoodIn wsX7_run (wsV RX7 55 RX7 yX7_recorded wsX7_recorded) := goodIn_app (goodIn_of _ (by decide +kernel)) ggX7_run_X7_recorded
theorem dX7_run_0 : decode cX7_run 0 = .ok (.aload_n 0, 1) := by decide +kernel
theorem dX7_run_1 : decode cX7_run 1 = .ok (.getfield 22, 3) := by decide +kernel
theorem dX7_run_4 : decode cX7_run 4 = .ok (.aload_n 0, 1) := by decide +kernel
theorem dX7_run_5 : decode cX7_run 5 = .ok (.getfield 12, 3) := by decide +kernel
theorem dX7_run_8 : decode cX7_run 8 = .ok (.invokevirtual 47, 3) := by decide +kernel
theorem dX7_run_11 : decode cX7_run 11 = .ok (.iconst 0, 1) := by decide +kernel
theorem dX7_run_12 : decode cX7_run 12 = .ok (.istore_n 1, 1) := by decide +kernel
end
section
theorem dX7_run_13 : decode cX7_run 13 = .ok (.iconst 0, 1) := by decide +kernel
theorem dX7_run_14 : decode cX7_run 14 = .ok (.istore_n 2, 1) := by decide +kernel
theorem dX7_run_15 : decode cX7_run 15 = .ok (.iload_n 2, 1) := by decide +kernel
theorem dX7_run_16 : decode cX7_run 16 = .ok (.aload_n 0, 1) := by decide +kernel
theorem dX7_run_17 : decode cX7_run 17 = .ok (.getfield 36, 3) := by decide +kernel
theorem dX7_run_20 : decode cX7_run 20 = .ok (.invokevirtual 94, 3) := by decide +kernel
theorem dX7_run_23 : decode cX7_run 23 = .ok (.if_icmp .ge 70, 3) := by decide +kernel
theorem dX7_run_26 : decode cX7_run 26 = .ok (.iload_n 1, 1) := by decide +kernel
theorem dX7_run_27 : decode cX7_run 27 = .ok (.bipush 80, 2) := by decide +kernel
theorem dX7_run_29 : decode cX7_run 29 = .ok (.if_icmp .ge 64, 3) := by decide +kernel
theorem dX7_run_32 : decode cX7_run 32 = .ok (.aload_n 0, 1) := by decide +kernel
theorem dX7_run_33 : decode cX7_run 33 = .ok (.getfield 43, 3) := by decide +kernel
theorem dX7_run_36 : decode cX7_run 36 = .ok (.aload_n 0, 1) := by decide +kernel
theorem dX7_run_37 : decode cX7_run 37 = .ok (.getfield 36, 3) := by decide +kernel
theorem dX7_run_40 : decode cX7_run 40 = .ok (.iload_n 2, 1) := by decide +kernel
theorem dX7_run_41 : decode cX7_run 41 = .ok (.invokevirtual 98, 3) := by decide +kernel
theorem dX7_run_44 : decode cX7_run 44 = .ok (.ifCond .ne 15, 3) := by decide +kernel
theorem dX7_run_47 : decode cX7_run 47 = .ok (.aload_n 0, 1) := by decide +kernel
theorem dX7_run_48 : decode cX7_run 48 = .ok (.aload_n 0, 1) := by decide +kernel
theorem dX7_run_49 : decode cX7_run 49 = .ok (.getfield 43, 3) := by decide +kernel
theorem dX7_run_52 : decode cX7_run 52 = .ok (.invokevirtual 102, 3) := by decide +kernel
theorem dX7_run_55 : decode cX7_run 55 = .ok (.invokevirtual 105, 3) := by decide +kernel
theorem dX7_run_58 : decode cX7_run 58 = .ok (.ireturn, 1) := by decide +kernel
theorem dX7_run_59 : decode cX7_run 59 = .ok (.aload_n 0, 1) := by decide +kernel
theorem dX7_run_60 : decode cX7_run 60 = .ok (.getfield 43, 3) := by decide +kernel
theorem dX7_run_63 : decode cX7_run 63 = .ok (.aload_n 0, 1) := by decide +kernel
theorem dX7_run_64 : decode cX7_run 64 = .ok (.getfield 12, 3) := by decide +kernel
theorem dX7_run_67 : decode cX7_run 67 = .ok (.invokevirtual 108, 3) := by decide +kernel
theorem dX7_run_70 : decode cX7_run 70 = .ok (.ifCond .ge 9, 3) := by decide +kernel
theorem dX7_run_73 : decode cX7_run 73 = .ok (.aload_n 0, 1) := by decide +kernel
theorem dX7_run_74 : decode cX7_run 74 = .ok (.iload_n 2, 1) := by decide +kernel
theorem dX7_run_75 : decode cX7_run 75 = .ok (.invokevirtual 105, 3) := by decide +kernel
theorem dX7_run_78 : decode cX7_run 78 = .ok (.ireturn, 1) := by decide +kernel
theorem dX7_run_79 : decode cX7_run 79 = .ok (.aload_n 0, 1) := by decide +kernel
theorem dX7_run_80 : decode cX7_run 80 = .ok (.getfield 43, 3) := by decide +kernel
theorem dX7_run_83 : decode cX7_run 83 = .ok (.invokevirtual 102, 3) := by decide +kernel
theorem dX7_run_86 : decode cX7_run 86 = .ok (.istore_n 2, 1) := by decide +kernel
theorem dX7_run_87 : decode cX7_run 87 = .ok (.iinc 1 1, 3) := by decide +kernel
theorem dX7_run_90 : decode cX7_run 90 = .ok (.goto (-75), 3) := by decide +kernel
theorem dX7_run_93 : decode cX7_run 93 = .ok (.aload_n 0, 1) := by decide +kernel
theorem dX7_run_94 : decode cX7_run 94 = .ok (.getfield 36, 3) := by decide +kernel
theorem dX7_run_97 : decode cX7_run 97 = .ok (.invokevirtual 95, 3) := by decide +kernel
theorem dX7_run_100 : decode cX7_run 100 = .ok (.aload_n 0, 1) := by decide +kernel
theorem dX7_run_101 : decode cX7_run 101 = .ok (.iload_n 1, 1) := by decide +kernel
theorem dX7_run_102 : decode cX7_run 102 = .ok (.invokevirtual 55, 3) := by decide +kernel
theorem dX7_run_105 : decode cX7_run 105 = .ok (.ireturn, 1) := by decide +kernel
set_option maxRecDepth 20000 in
theorem ggX7_count_X2_size : GoodIn wsX7_count wsX2_size := goodIn_r _ [8, 9, 96, 97, 98] (by decide +kernel) (by decide +kernel)
set_option maxRecDepth 20000 in
theorem gX7_count_X2_size : GoodIn wsX7_count (wsV RX7 85 RX2 yX2_size wsX2_size) := goodIn_app (goodIn_of _ (by decide +kernel)) ggX7_count_X2_size
set_option maxRecDepth 20000 in
theorem ggX7_count_X6_size : GoodIn wsX7_count wsX6_size := goodIn_r _ [14, 15, 99, 100] (by decide +kernel) (by decide +kernel)
set_option maxRecDepth 20000 in
theorem gX7_count_X6_size : GoodIn wsX7_count (wsV RX7 94 RX6 yX6_size wsX6_size) := goodIn_app (goodIn_of _ (by decide +kernel)) ggX7_count_X6_size
set_option maxRecDepth 20000 in
theorem ggX7_count_X5_numberOf : GoodIn wsX7_count wsX5_numberOf := goodIn_r _ [20, 21, 22, 23, 24, 25, 26, 27, 28, 29, 30, 31, 32, 33, 34, 35, 36, 37, 38, 39, 40, 41, 19, 42, 43, 44, 45, 46, 47, 48, 49, 50, 51, 52, 53, 54, 55, 56, 57, 58, 59, 60, 61, 62, 63, 64, 65, 66, 67, 68, 69, 70, 71, 72, 73, 74, 75, 76, 77, 78, 79, 80, 81, 82, 83, 84, 85, 86, 87, 88, 89, 101, 102, 103, 104, 105, 106, 107, 108, 109, 110, 111, 112, 113, 114, 115, 116, 117, 118] (by decide +kernel) (by decide +kernel)
set_option maxRecDepth 20000 in
theorem gX7_count_X5_numberOf : GoodIn wsX7_count (wsV RX7 112 RX5 yX5_numberOf wsX5_numberOf) := goodIn_app (goodIn_of _ (by decide +kernel)) ggX7_count_X5_numberOf
theorem dX7_count_0 : decode cX7_count 0 = .ok (.iload_n 1, 1) := by decide +kernel
theorem dX7_count_1 : decode cX7_count 1 = .ok (.lookupswitch 43 #[(12, 27), (13, 35)], 27) := by decide +kernel
theorem dX7_count_28 : decode cX7_count 28 = .ok (.aload_n 0, 1) := by decide +kernel
theorem dX7_count_29 : decode cX7_count 29 = .ok (.getfield 22, 3) := by decide +kernel
theorem dX7_count_32 : decode cX7_count 32 = .ok (.invokevirtual 85, 3) := by decide +kernel
theorem dX7_count_35 : decode cX7_count 35 = .ok (.ireturn, 1) := by decide +kernel
theorem dX7_count_36 : decode cX7_count 36 = .ok (.aload_n 0, 1) := by decide +kernel
theorem dX7_count_37 : decode cX7_count 37 = .ok (.getfield 36, 3) := by decide +kernel
theorem dX7_count_40 : decode cX7_count 40 = .ok (.invokevirtual 94, 3) := by decide +kernel
theorem dX7_count_43 : decode cX7_count 43 = .ok (.ireturn, 1) := by decide +kernel
theorem dX7_count_44 : decode cX7_count 44 = .ok (.aload_n 0, 1) := by decide +kernel
theorem dX7_count_45 : decode cX7_count 45 = .ok (.getfield 12, 3) := by decide +kernel
theorem dX7_count_48 : decode cX7_count 48 = .ok (.iload_n 1, 1) := by decide +kernel
theorem dX7_count_49 : decode cX7_count 49 = .ok (.invokevirtual 112, 3) := by decide +kernel
theorem dX7_count_52 : decode cX7_count 52 = .ok (.ireturn, 1) := by decide +kernel
set_option maxRecDepth 20000 in
theorem ggX7_hook_X7_isHook : GoodIn wsX7_hook wsX7_isHook := goodIn_r _ [5] (by decide +kernel) (by decide +kernel)
set_option maxRecDepth 20000 in
theorem gX7_hook_X7_isHook : GoodIn wsX7_hook (va_wsS RX7 115 yX7_isHook wsX7_isHook) := goodIn_app (goodIn_of _ (by decide +kernel)) ggX7_hook_X7_isHook
set_option maxRecDepth 20000 in
theorem ggX7_hook_X5_hungOn : GoodIn wsX7_hook wsX5_hungOn := goodIn_r _ [10, 11, 3, 4, 5, 21, 22, 23, 24, 25, 26, 27, 28, 29, 30] (by decide +kernel) (by decide +kernel)
set_option maxRecDepth 20000 in
theorem gX7_hook_X5_hungOn : GoodIn wsX7_hook (wsV RX7 119 RX5 yX5_hungOn wsX5_hungOn) := goodIn_app (goodIn_of _ (by decide +kernel)) ggX7_hook_X5_hungOn
set_option maxRecDepth 20000 in
theorem ggX7_hook_X7_orNone : GoodIn wsX7_hook wsX7_orNone := goodIn_r _ [14] (by decide +kernel) (by decide +kernel)
set_option maxRecDepth 20000 in
theorem gX7_hook_X7_orNone : GoodIn wsX7_hook (va_wsS RX7 122 yX7_orNone wsX7_orNone) := goodIn_app (goodIn_of _ (by decide +kernel)) ggX7_hook_X7_orNone
theorem dX7_hook_0 : decode cX7_hook 0 = .ok (.iload_n 1, 1) := by decide +kernel
theorem dX7_hook_1 : decode cX7_hook 1 = .ok (.invokestatic 115, 3) := by decide +kernel
theorem dX7_hook_4 : decode cX7_hook 4 = .ok (.ifCond .ne 5, 3) := by decide +kernel
theorem dX7_hook_7 : decode cX7_hook 7 = .ok (.iconst (-1), 1) := by decide +kernel
theorem dX7_hook_8 : decode cX7_hook 8 = .ok (.ireturn, 1) := by decide +kernel
theorem dX7_hook_9 : decode cX7_hook 9 = .ok (.aload_n 0, 1) := by decide +kernel
theorem dX7_hook_10 : decode cX7_hook 10 = .ok (.getfield 12, 3) := by decide +kernel
theorem dX7_hook_13 : decode cX7_hook 13 = .ok (.iload_n 1, 1) := by decide +kernel
theorem dX7_hook_14 : decode cX7_hook 14 = .ok (.invokevirtual 119, 3) := by decide +kernel
theorem dX7_hook_17 : decode cX7_hook 17 = .ok (.invokestatic 122, 3) := by decide +kernel
theorem dX7_hook_20 : decode cX7_hook 20 = .ok (.ireturn, 1) := by decide +kernel
set_option maxRecDepth 20000 in
theorem ggX7_copy_X0_isAt : GoodIn wsX7_copy wsX0_isAt := goodIn_r _ [6, 7, 55, 56, 57, 58, 59] (by decide +kernel) (by decide +kernel)
set_option maxRecDepth 20000 in
theorem gX7_copy_X0_isAt : GoodIn wsX7_copy (wsV RX7 129 RX0 yX0_isAt wsX0_isAt) := goodIn_app (goodIn_of _ (by decide +kernel)) ggX7_copy_X0_isAt
set_option maxRecDepth 20000 in
theorem ggX7_copy_X0_thingAt : GoodIn wsX7_copy wsX0_thingAt := goodIn_r _ [11, 12, 13, 3, 4, 5, 6, 7, 55, 56, 57, 58, 59] (by decide +kernel) (by decide +kernel)
set_option maxRecDepth 20000 in
theorem gX7_copy_X0_thingAt : GoodIn wsX7_copy (wsV RX7 134 RX0 yX0_thingAt wsX0_thingAt) := goodIn_app (goodIn_of _ (by decide +kernel)) ggX7_copy_X0_thingAt
set_option maxRecDepth 20000 in
theorem ggX7_copy_X0_sizeAt : GoodIn wsX7_copy wsX0_sizeAt := goodIn_r _ [17, 7, 13, 3, 4, 5, 6, 55, 56, 57, 58, 59] (by decide +kernel) (by decide +kernel)
set_option maxRecDepth 20000 in
theorem gX7_copy_X0_sizeAt : GoodIn wsX7_copy (wsV RX7 137 RX0 yX0_sizeAt wsX0_sizeAt) := goodIn_app (goodIn_of _ (by decide +kernel)) ggX7_copy_X0_sizeAt
set_option maxRecDepth 20000 in
theorem ggX7_copy_X0_noteAt : GoodIn wsX7_copy wsX0_noteAt := goodIn_r _ [21, 22, 13, 3, 4, 5, 6, 7, 55, 56, 57, 58, 59] (by decide +kernel) (by decide +kernel)
set_option maxRecDepth 20000 in
theorem gX7_copy_X0_noteAt : GoodIn wsX7_copy (wsV RX7 140 RX0 yX0_noteAt wsX0_noteAt) := goodIn_app (goodIn_of _ (by decide +kernel)) ggX7_copy_X0_noteAt
set_option maxRecDepth 20000 in
theorem ggX7_copy_X7_orNone : GoodIn wsX7_copy wsX7_orNone := goodIn_r _ [26] (by decide +kernel) (by decide +kernel)
set_option maxRecDepth 20000 in
theorem gX7_copy_X7_orNone : GoodIn wsX7_copy (va_wsS RX7 122 yX7_orNone wsX7_orNone) := goodIn_app (goodIn_of _ (by decide +kernel)) ggX7_copy_X7_orNone
set_option maxRecDepth 20000 in
theorem ggX7_copy_X0_isMarked : GoodIn wsX7_copy wsX0_isMarked := goodIn_r _ [30, 31, 13, 3, 4, 5, 6, 7, 55, 56, 57, 58, 59] (by decide +kernel) (by decide +kernel)
set_option maxRecDepth 20000 in
theorem gX7_copy_X0_isMarked : GoodIn wsX7_copy (wsV RX7 143 RX0 yX0_isMarked wsX0_isMarked) := goodIn_app (goodIn_of _ (by decide +kernel)) ggX7_copy_X0_isMarked
set_option maxRecDepth 20000 in
theorem ggX7_copy_X0_nameAt : GoodIn wsX7_copy wsX0_nameAt := goodIn_r _ [35, 36, 13, 3, 4, 5, 6, 7, 37, 25, 38, 55, 56, 57, 58, 59] (by decide +kernel) (by decide +kernel)
set_option maxRecDepth 20000 in
theorem gX7_copy_X0_nameAt : GoodIn wsX7_copy (wsV RX7 146 RX0 yX0_nameAt wsX0_nameAt) := goodIn_app (goodIn_of _ (by decide +kernel)) ggX7_copy_X0_nameAt
theorem dX7_copy_0 : decode cX7_copy 0 = .ok (.aload_n 0, 1) := by decide +kernel
theorem dX7_copy_1 : decode cX7_copy 1 = .ok (.getfield 12, 3) := by decide +kernel
theorem dX7_copy_4 : decode cX7_copy 4 = .ok (.getfield 125, 3) := by decide +kernel
theorem dX7_copy_7 : decode cX7_copy 7 = .ok (.astore_n 3, 1) := by decide +kernel
theorem dX7_copy_8 : decode cX7_copy 8 = .ok (.aload_n 3, 1) := by decide +kernel
theorem dX7_copy_9 : decode cX7_copy 9 = .ok (.iload_n 1, 1) := by decide +kernel
theorem dX7_copy_10 : decode cX7_copy 10 = .ok (.invokevirtual 129, 3) := by decide +kernel
theorem dX7_copy_13 : decode cX7_copy 13 = .ok (.ifCond .ne 5, 3) := by decide +kernel
theorem dX7_copy_16 : decode cX7_copy 16 = .ok (.iconst (-1), 1) := by decide +kernel
theorem dX7_copy_17 : decode cX7_copy 17 = .ok (.ireturn, 1) := by decide +kernel
theorem dX7_copy_18 : decode cX7_copy 18 = .ok (.iload_n 2, 1) := by decide +kernel
theorem dX7_copy_19 : decode cX7_copy 19 = .ok (.tableswitch 92 0 5 #[37, 43, 49, 58, 72, 82], 37) := by decide +kernel
theorem dX7_copy_56 : decode cX7_copy 56 = .ok (.aload_n 3, 1) := by decide +kernel
theorem dX7_copy_57 : decode cX7_copy 57 = .ok (.iload_n 1, 1) := by decide +kernel
theorem dX7_copy_58 : decode cX7_copy 58 = .ok (.invokevirtual 134, 3) := by decide +kernel
theorem dX7_copy_61 : decode cX7_copy 61 = .ok (.ireturn, 1) := by decide +kernel
theorem dX7_copy_62 : decode cX7_copy 62 = .ok (.aload_n 3, 1) := by decide +kernel
theorem dX7_copy_63 : decode cX7_copy 63 = .ok (.iload_n 1, 1) := by decide +kernel
theorem dX7_copy_64 : decode cX7_copy 64 = .ok (.invokevirtual 137, 3) := by decide +kernel
theorem dX7_copy_67 : decode cX7_copy 67 = .ok (.ireturn, 1) := by decide +kernel
theorem dX7_copy_68 : decode cX7_copy 68 = .ok (.aload_n 3, 1) := by decide +kernel
theorem dX7_copy_69 : decode cX7_copy 69 = .ok (.iload_n 1, 1) := by decide +kernel
theorem dX7_copy_70 : decode cX7_copy 70 = .ok (.invokevirtual 140, 3) := by decide +kernel
theorem dX7_copy_73 : decode cX7_copy 73 = .ok (.invokestatic 122, 3) := by decide +kernel
theorem dX7_copy_76 : decode cX7_copy 76 = .ok (.ireturn, 1) := by decide +kernel
theorem dX7_copy_77 : decode cX7_copy 77 = .ok (.aload_n 3, 1) := by decide +kernel
theorem dX7_copy_78 : decode cX7_copy 78 = .ok (.iload_n 1, 1) := by decide +kernel
theorem dX7_copy_79 : decode cX7_copy 79 = .ok (.invokevirtual 143, 3) := by decide +kernel
theorem dX7_copy_82 : decode cX7_copy 82 = .ok (.ifCond .eq 7, 3) := by decide +kernel
theorem dX7_copy_85 : decode cX7_copy 85 = .ok (.iconst 1, 1) := by decide +kernel
theorem dX7_copy_86 : decode cX7_copy 86 = .ok (.goto 4, 3) := by decide +kernel
theorem dX7_copy_89 : decode cX7_copy 89 = .ok (.iconst 0, 1) := by decide +kernel
theorem dX7_copy_90 : decode cX7_copy 90 = .ok (.ireturn, 1) := by decide +kernel
theorem dX7_copy_91 : decode cX7_copy 91 = .ok (.aload_n 3, 1) := by decide +kernel
theorem dX7_copy_92 : decode cX7_copy 92 = .ok (.iload_n 1, 1) := by decide +kernel
theorem dX7_copy_93 : decode cX7_copy 93 = .ok (.iconst 0, 1) := by decide +kernel
theorem dX7_copy_94 : decode cX7_copy 94 = .ok (.invokevirtual 146, 3) := by decide +kernel
theorem dX7_copy_97 : decode cX7_copy 97 = .ok (.invokestatic 122, 3) := by decide +kernel
theorem dX7_copy_100 : decode cX7_copy 100 = .ok (.ireturn, 1) := by decide +kernel
theorem dX7_copy_101 : decode cX7_copy 101 = .ok (.aload_n 3, 1) := by decide +kernel
theorem dX7_copy_102 : decode cX7_copy 102 = .ok (.iload_n 1, 1) := by decide +kernel
theorem dX7_copy_103 : decode cX7_copy 103 = .ok (.iconst 1, 1) := by decide +kernel
theorem dX7_copy_104 : decode cX7_copy 104 = .ok (.invokevirtual 146, 3) := by decide +kernel
theorem dX7_copy_107 : decode cX7_copy 107 = .ok (.invokestatic 122, 3) := by decide +kernel
theorem dX7_copy_110 : decode cX7_copy 110 = .ok (.ireturn, 1) := by decide +kernel
theorem dX7_copy_111 : decode cX7_copy 111 = .ok (.iconst (-1), 1) := by decide +kernel
theorem dX7_copy_112 : decode cX7_copy 112 = .ok (.ireturn, 1) := by decide +kernel
set_option maxRecDepth 20000 in
theorem ggX7_where_X5_isThing : GoodIn wsX7_where wsX5_isThing := goodIn_r _ [6, 7, 33, 34, 35, 36, 37, 38, 39, 40, 41, 42] (by decide +kernel) (by decide +kernel)
set_option maxRecDepth 20000 in
theorem gX7_where_X5_isThing : GoodIn wsX7_where (wsV RX7 149 RX5 yX5_isThing wsX5_isThing) := goodIn_app (goodIn_of _ (by decide +kernel)) ggX7_where_X5_isThing
set_option maxRecDepth 20000 in
theorem ggX7_where_X0_addressOf : GoodIn wsX7_where wsX0_addressOf := goodIn_r _ [12, 13, 14, 15, 11, 16, 17, 18, 19, 20, 21, 22, 43, 44, 45, 46, 47] (by decide +kernel) (by decide +kernel)
set_option maxRecDepth 20000 in
theorem gX7_where_X0_addressOf : GoodIn wsX7_where (wsV RX7 152 RX0 yX0_addressOf wsX0_addressOf) := goodIn_app (goodIn_of _ (by decide +kernel)) ggX7_where_X0_addressOf
set_option maxRecDepth 20000 in
theorem ggX7_where_X7_orNone : GoodIn wsX7_where wsX7_orNone := goodIn_r _ [26] (by decide +kernel) (by decide +kernel)
set_option maxRecDepth 20000 in
theorem gX7_where_X7_orNone : GoodIn wsX7_where (va_wsS RX7 122 yX7_orNone wsX7_orNone) := goodIn_app (goodIn_of _ (by decide +kernel)) ggX7_where_X7_orNone
theorem dX7_where_0 : decode cX7_where 0 = .ok (.aload_n 0, 1) := by decide +kernel
theorem dX7_where_1 : decode cX7_where 1 = .ok (.getfield 12, 3) := by decide +kernel
theorem dX7_where_4 : decode cX7_where 4 = .ok (.iload_n 1, 1) := by decide +kernel
theorem dX7_where_5 : decode cX7_where 5 = .ok (.invokevirtual 149, 3) := by decide +kernel
theorem dX7_where_8 : decode cX7_where 8 = .ok (.ifCond .eq 7, 3) := by decide +kernel
theorem dX7_where_11 : decode cX7_where 11 = .ok (.iload_n 2, 1) := by decide +kernel
theorem dX7_where_12 : decode cX7_where 12 = .ok (.ifCond .ge 5, 3) := by decide +kernel
theorem dX7_where_15 : decode cX7_where 15 = .ok (.iconst (-1), 1) := by decide +kernel
theorem dX7_where_16 : decode cX7_where 16 = .ok (.ireturn, 1) := by decide +kernel
theorem dX7_where_17 : decode cX7_where 17 = .ok (.aload_n 0, 1) := by decide +kernel
theorem dX7_where_18 : decode cX7_where 18 = .ok (.getfield 12, 3) := by decide +kernel
theorem dX7_where_21 : decode cX7_where 21 = .ok (.getfield 125, 3) := by decide +kernel
theorem dX7_where_24 : decode cX7_where 24 = .ok (.iload_n 1, 1) := by decide +kernel
theorem dX7_where_25 : decode cX7_where 25 = .ok (.iload_n 2, 1) := by decide +kernel
theorem dX7_where_26 : decode cX7_where 26 = .ok (.invokevirtual 152, 3) := by decide +kernel
theorem dX7_where_29 : decode cX7_where 29 = .ok (.invokestatic 122, 3) := by decide +kernel
theorem dX7_where_32 : decode cX7_where 32 = .ok (.ireturn, 1) := by decide +kernel
set_option maxRecDepth 20000 in
theorem ggX7_named_X7_isHook : GoodIn wsX7_named wsX7_isHook := goodIn_r _ [6] (by decide +kernel) (by decide +kernel)
set_option maxRecDepth 20000 in
theorem gX7_named_X7_isHook : GoodIn wsX7_named (va_wsS RX7 115 yX7_isHook wsX7_isHook) := goodIn_app (goodIn_of _ (by decide +kernel)) ggX7_named_X7_isHook
set_option maxRecDepth 20000 in
theorem ggX7_named_X4_clear : GoodIn wsX7_named wsX4_clear := goodIn_r _ [11, 12, 13, 83, 84, 85, 86] (by decide +kernel) (by decide +kernel)
set_option maxRecDepth 20000 in
theorem gX7_named_X4_clear : GoodIn wsX7_named (wsV RX7 155 RX4 yX4_clear wsX4_clear) := goodIn_app (goodIn_of _ (by decide +kernel)) ggX7_named_X4_clear
set_option maxRecDepth 20000 in
theorem ggX7_named_X5_hungOn : GoodIn wsX7_named wsX5_hungOn := goodIn_r _ [18, 19, 4, 5, 6, 73, 74, 75, 76, 77, 78, 79, 80, 81, 82] (by decide +kernel) (by decide +kernel)
set_option maxRecDepth 20000 in
theorem gX7_named_X5_hungOn : GoodIn wsX7_named (wsV RX7 119 RX5 yX5_hungOn wsX5_hungOn) := goodIn_app (goodIn_of _ (by decide +kernel)) ggX7_named_X5_hungOn
set_option maxRecDepth 20000 in
theorem ggX7_named_X4_add : GoodIn wsX7_named wsX4_add := goodIn_r _ [23, 13, 12, 24, 25, 26, 27, 28, 29, 30, 31, 32, 33, 34, 35, 36, 37, 38, 39, 40, 41, 42, 43, 10, 44, 83, 84, 85, 86, 87, 88, 89, 90, 91] (by decide +kernel) (by decide +kernel)
set_option maxRecDepth 20000 in
theorem gX7_named_X4_add : GoodIn wsX7_named (wsV RX7 158 RX4 yX4_add wsX4_add) := goodIn_app (goodIn_of _ (by decide +kernel)) ggX7_named_X4_add
set_option maxRecDepth 20000 in
theorem ggX7_named_X4_spread : GoodIn wsX7_named wsX4_spread := goodIn_r _ [48, 13, 24, 49, 50, 51, 28, 52, 53, 35, 36, 37, 38, 39, 54, 5, 55, 56, 21, 22, 10, 23, 12, 25, 26, 27, 29, 30, 31, 32, 33, 34, 40, 41, 42, 43, 44, 83, 84, 85, 86, 87, 88, 89, 90, 91] (by decide +kernel) (by decide +kernel)
set_option maxRecDepth 20000 in
theorem gX7_named_X4_spread : GoodIn wsX7_named (wsV RX7 162 RX4 yX4_spread wsX4_spread) := goodIn_app (goodIn_of _ (by decide +kernel)) ggX7_named_X4_spread
set_option maxRecDepth 20000 in
theorem ggX7_named_X4_differentThings : GoodIn wsX7_named wsX4_differentThings := goodIn_r _ [60, 61, 13, 24, 62, 63, 64, 28, 65, 66, 35, 36, 37, 38, 39, 83, 84, 85, 86, 87, 88, 89, 90, 91] (by decide +kernel) (by decide +kernel)
set_option maxRecDepth 20000 in
theorem gX7_named_X4_differentThings : GoodIn wsX7_named (wsV RX7 166 RX4 yX4_differentThings wsX4_differentThings) := goodIn_app (goodIn_of _ (by decide +kernel)) ggX7_named_X4_differentThings
theorem dX7_named_0 : decode cX7_named 0 = .ok (.iload_n 1, 1) := by decide +kernel
theorem dX7_named_1 : decode cX7_named 1 = .ok (.invokestatic 115, 3) := by decide +kernel
theorem dX7_named_4 : decode cX7_named 4 = .ok (.ifCond .ne 5, 3) := by decide +kernel
theorem dX7_named_7 : decode cX7_named 7 = .ok (.iconst (-1), 1) := by decide +kernel
theorem dX7_named_8 : decode cX7_named 8 = .ok (.ireturn, 1) := by decide +kernel
theorem dX7_named_9 : decode cX7_named 9 = .ok (.aload_n 0, 1) := by decide +kernel
theorem dX7_named_10 : decode cX7_named 10 = .ok (.getfield 29, 3) := by decide +kernel
theorem dX7_named_13 : decode cX7_named 13 = .ok (.invokevirtual 155, 3) := by decide +kernel
theorem dX7_named_16 : decode cX7_named 16 = .ok (.aload_n 0, 1) := by decide +kernel
theorem dX7_named_17 : decode cX7_named 17 = .ok (.getfield 29, 3) := by decide +kernel
theorem dX7_named_20 : decode cX7_named 20 = .ok (.aload_n 0, 1) := by decide +kernel
theorem dX7_named_21 : decode cX7_named 21 = .ok (.getfield 12, 3) := by decide +kernel
theorem dX7_named_24 : decode cX7_named 24 = .ok (.getfield 125, 3) := by decide +kernel
theorem dX7_named_27 : decode cX7_named 27 = .ok (.aload_n 0, 1) := by decide +kernel
theorem dX7_named_28 : decode cX7_named 28 = .ok (.getfield 12, 3) := by decide +kernel
theorem dX7_named_31 : decode cX7_named 31 = .ok (.iload_n 1, 1) := by decide +kernel
theorem dX7_named_32 : decode cX7_named 32 = .ok (.invokevirtual 119, 3) := by decide +kernel
theorem dX7_named_35 : decode cX7_named 35 = .ok (.invokevirtual 158, 3) := by decide +kernel
theorem dX7_named_38 : decode cX7_named 38 = .ok (.aload_n 0, 1) := by decide +kernel
theorem dX7_named_39 : decode cX7_named 39 = .ok (.getfield 29, 3) := by decide +kernel
theorem dX7_named_42 : decode cX7_named 42 = .ok (.aload_n 0, 1) := by decide +kernel
theorem dX7_named_43 : decode cX7_named 43 = .ok (.getfield 12, 3) := by decide +kernel
theorem dX7_named_46 : decode cX7_named 46 = .ok (.getfield 125, 3) := by decide +kernel
theorem dX7_named_49 : decode cX7_named 49 = .ok (.invokevirtual 162, 3) := by decide +kernel
theorem dX7_named_52 : decode cX7_named 52 = .ok (.aload_n 0, 1) := by decide +kernel
theorem dX7_named_53 : decode cX7_named 53 = .ok (.getfield 29, 3) := by decide +kernel
theorem dX7_named_56 : decode cX7_named 56 = .ok (.aload_n 0, 1) := by decide +kernel
theorem dX7_named_57 : decode cX7_named 57 = .ok (.getfield 12, 3) := by decide +kernel
theorem dX7_named_60 : decode cX7_named 60 = .ok (.getfield 125, 3) := by decide +kernel
theorem dX7_named_63 : decode cX7_named 63 = .ok (.invokevirtual 166, 3) := by decide +kernel
theorem dX7_named_66 : decode cX7_named 66 = .ok (.ireturn, 1) := by decide +kernel
set_option maxRecDepth 20000 in
theorem ggX7_garbage_X4_clear : GoodIn wsX7_garbage wsX4_clear := goodIn_r _ [7, 8, 9, 81, 82, 83, 84] (by decide +kernel) (by decide +kernel)
set_option maxRecDepth 20000 in
theorem gX7_garbage_X4_clear : GoodIn wsX7_garbage (wsV RX7 155 RX4 yX4_clear wsX4_clear) := goodIn_app (goodIn_of _ (by decide +kernel)) ggX7_garbage_X4_clear
set_option maxRecDepth 20000 in
theorem ggX7_garbage_X5_hungOn : GoodIn wsX7_garbage wsX5_hungOn := goodIn_r _ [14, 15, 16, 17, 18, 71, 72, 73, 74, 75, 76, 77, 78, 79, 80] (by decide +kernel) (by decide +kernel)
set_option maxRecDepth 20000 in
theorem gX7_garbage_X5_hungOn : GoodIn wsX7_garbage (wsV RX7 119 RX5 yX5_hungOn wsX5_hungOn) := goodIn_app (goodIn_of _ (by decide +kernel)) ggX7_garbage_X5_hungOn
set_option maxRecDepth 20000 in
theorem ggX7_garbage_X4_add : GoodIn wsX7_garbage wsX4_add := goodIn_r _ [22, 9, 8, 23, 24, 25, 26, 27, 28, 29, 30, 31, 32, 33, 34, 35, 36, 37, 38, 39, 40, 41, 42, 6, 43, 81, 82, 83, 84, 85, 86, 87, 88, 89] (by decide +kernel) (by decide +kernel)
set_option maxRecDepth 20000 in
theorem gX7_garbage_X4_add : GoodIn wsX7_garbage (wsV RX7 158 RX4 yX4_add wsX4_add) := goodIn_app (goodIn_of _ (by decide +kernel)) ggX7_garbage_X4_add
set_option maxRecDepth 20000 in
theorem ggX7_garbage_X4_spread : GoodIn wsX7_garbage wsX4_spread := goodIn_r _ [47, 9, 23, 48, 49, 50, 27, 51, 52, 34, 35, 36, 37, 38, 53, 17, 54, 55, 20, 21, 6, 22, 8, 24, 25, 26, 28, 29, 30, 31, 32, 33, 39, 40, 41, 42, 43, 81, 82, 83, 84, 85, 86, 87, 88, 89] (by decide +kernel) (by decide +kernel)
set_option maxRecDepth 20000 in
theorem gX7_garbage_X4_spread : GoodIn wsX7_garbage (wsV RX7 162 RX4 yX4_spread wsX4_spread) := goodIn_app (goodIn_of _ (by decide +kernel)) ggX7_garbage_X4_spread
set_option maxRecDepth 20000 in
theorem ggX7_garbage_X4_placesOutside : GoodIn wsX7_garbage wsX4_placesOutside := goodIn_r _ [59, 40, 41, 42, 6, 43, 8, 60, 30, 31, 27, 32, 33, 34, 35, 36, 37, 38, 61, 62, 63, 64, 81, 82, 83, 84, 85, 86, 87, 88, 89] (by decide +kernel) (by decide +kernel)
set_option maxRecDepth 20000 in
theorem gX7_garbage_X4_placesOutside : GoodIn wsX7_garbage (wsV RX7 170 RX4 yX4_placesOutside wsX4_placesOutside) := goodIn_app (goodIn_of _ (by decide +kernel)) ggX7_garbage_X4_placesOutside
theorem dX7_garbage_0 : decode cX7_garbage 0 = .ok (.aload_n 0, 1) := by decide +kernel
theorem dX7_garbage_1 : decode cX7_garbage 1 = .ok (.getfield 29, 3) := by decide +kernel
theorem dX7_garbage_4 : decode cX7_garbage 4 = .ok (.invokevirtual 155, 3) := by decide +kernel
theorem dX7_garbage_7 : decode cX7_garbage 7 = .ok (.iconst 0, 1) := by decide +kernel
theorem dX7_garbage_8 : decode cX7_garbage 8 = .ok (.istore_n 1, 1) := by decide +kernel
theorem dX7_garbage_9 : decode cX7_garbage 9 = .ok (.iload_n 1, 1) := by decide +kernel
theorem dX7_garbage_10 : decode cX7_garbage 10 = .ok (.bipush 8, 2) := by decide +kernel
theorem dX7_garbage_12 : decode cX7_garbage 12 = .ok (.if_icmp .ge 31, 3) := by decide +kernel
theorem dX7_garbage_15 : decode cX7_garbage 15 = .ok (.aload_n 0, 1) := by decide +kernel
theorem dX7_garbage_16 : decode cX7_garbage 16 = .ok (.getfield 29, 3) := by decide +kernel
theorem dX7_garbage_19 : decode cX7_garbage 19 = .ok (.aload_n 0, 1) := by decide +kernel
theorem dX7_garbage_20 : decode cX7_garbage 20 = .ok (.getfield 12, 3) := by decide +kernel
theorem dX7_garbage_23 : decode cX7_garbage 23 = .ok (.getfield 125, 3) := by decide +kernel
theorem dX7_garbage_26 : decode cX7_garbage 26 = .ok (.aload_n 0, 1) := by decide +kernel
theorem dX7_garbage_27 : decode cX7_garbage 27 = .ok (.getfield 12, 3) := by decide +kernel
theorem dX7_garbage_30 : decode cX7_garbage 30 = .ok (.iload_n 1, 1) := by decide +kernel
theorem dX7_garbage_31 : decode cX7_garbage 31 = .ok (.invokevirtual 119, 3) := by decide +kernel
theorem dX7_garbage_34 : decode cX7_garbage 34 = .ok (.invokevirtual 158, 3) := by decide +kernel
theorem dX7_garbage_37 : decode cX7_garbage 37 = .ok (.iinc 1 1, 3) := by decide +kernel
theorem dX7_garbage_40 : decode cX7_garbage 40 = .ok (.goto (-31), 3) := by decide +kernel
theorem dX7_garbage_43 : decode cX7_garbage 43 = .ok (.aload_n 0, 1) := by decide +kernel
theorem dX7_garbage_44 : decode cX7_garbage 44 = .ok (.getfield 29, 3) := by decide +kernel
theorem dX7_garbage_47 : decode cX7_garbage 47 = .ok (.aload_n 0, 1) := by decide +kernel
theorem dX7_garbage_48 : decode cX7_garbage 48 = .ok (.getfield 12, 3) := by decide +kernel
theorem dX7_garbage_51 : decode cX7_garbage 51 = .ok (.getfield 125, 3) := by decide +kernel
theorem dX7_garbage_54 : decode cX7_garbage 54 = .ok (.invokevirtual 162, 3) := by decide +kernel
theorem dX7_garbage_57 : decode cX7_garbage 57 = .ok (.aload_n 0, 1) := by decide +kernel
theorem dX7_garbage_58 : decode cX7_garbage 58 = .ok (.getfield 29, 3) := by decide +kernel
theorem dX7_garbage_61 : decode cX7_garbage 61 = .ok (.aload_n 0, 1) := by decide +kernel
theorem dX7_garbage_62 : decode cX7_garbage 62 = .ok (.getfield 12, 3) := by decide +kernel
theorem dX7_garbage_65 : decode cX7_garbage 65 = .ok (.getfield 125, 3) := by decide +kernel
theorem dX7_garbage_68 : decode cX7_garbage 68 = .ok (.invokevirtual 170, 3) := by decide +kernel
theorem dX7_garbage_71 : decode cX7_garbage 71 = .ok (.ireturn, 1) := by decide +kernel
set_option maxRecDepth 20000 in
theorem ggX7_stepsLeft_X5_become : GoodIn wsX7_stepsLeft wsX5_become := goodIn_r _ [7, 8, 9, 10, 11, 12, 13, 14, 15, 16, 17, 18, 19, 20, 21, 22, 23, 24, 25, 26, 27, 28, 29, 30, 31, 32, 33, 34, 35, 36, 37, 38, 39, 40, 41, 120, 121, 122, 123, 124, 125, 126, 127, 128, 129, 130, 131, 132, 133, 134, 135, 136, 137] (by decide +kernel) (by decide +kernel)
set_option maxRecDepth 20000 in
theorem gX7_stepsLeft_X5_become : GoodIn wsX7_stepsLeft (wsV RX7 177 RX5 yX5_become wsX5_become) := goodIn_app (goodIn_of _ (by decide +kernel)) ggX7_stepsLeft_X5_become
set_option maxRecDepth 20000 in
theorem ggX7_stepsLeft_X5_stepsUpTo : GoodIn wsX7_stepsLeft wsX5_stepsUpTo := goodIn_r _ [45, 17, 14, 13, 46, 47, 48, 36, 49, 40, 41, 38, 50, 51, 52, 6, 53, 54, 55, 56, 57, 18, 58, 59, 60, 61, 62, 63, 64, 25, 65, 30, 66, 67, 68, 69, 29, 70, 71, 72, 73, 74, 75, 76, 77, 19, 78, 79, 80, 81, 82, 83, 84, 85, 27, 31, 32, 86, 87, 88, 89, 90, 91, 92, 93, 94, 95, 96, 97, 98, 99, 100, 101, 21, 102, 103, 104, 105, 106, 107, 108, 109, 110, 111, 112, 113, 120, 121, 122, 123, 124, 125, 126, 127, 128, 129, 130, 131, 132, 133, 134, 135, 136, 137] (by decide +kernel) (by decide +kernel)
set_option maxRecDepth 20000 in
theorem gX7_stepsLeft_X5_stepsUpTo : GoodIn wsX7_stepsLeft (wsV RX7 180 RX5 yX5_stepsUpTo wsX5_stepsUpTo) := goodIn_app (goodIn_of _ (by decide +kernel)) ggX7_stepsLeft_X5_stepsUpTo
theorem dX7_stepsLeft_0 : decode cX7_stepsLeft 0 = .ok (.aload_n 0, 1) := by decide +kernel
theorem dX7_stepsLeft_1 : decode cX7_stepsLeft 1 = .ok (.getfield 12, 3) := by decide +kernel
theorem dX7_stepsLeft_4 : decode cX7_stepsLeft 4 = .ok (.getfield 173, 3) := by decide +kernel
theorem dX7_stepsLeft_7 : decode cX7_stepsLeft 7 = .ok (.ifCond .ne 6, 3) := by decide +kernel
theorem dX7_stepsLeft_10 : decode cX7_stepsLeft 10 = .ok (.bipush (-2), 2) := by decide +kernel
theorem dX7_stepsLeft_12 : decode cX7_stepsLeft 12 = .ok (.ireturn, 1) := by decide +kernel
theorem dX7_stepsLeft_13 : decode cX7_stepsLeft 13 = .ok (.aload_n 0, 1) := by decide +kernel
theorem dX7_stepsLeft_14 : decode cX7_stepsLeft 14 = .ok (.getfield 16, 3) := by decide +kernel
theorem dX7_stepsLeft_17 : decode cX7_stepsLeft 17 = .ok (.aload_n 0, 1) := by decide +kernel
theorem dX7_stepsLeft_18 : decode cX7_stepsLeft 18 = .ok (.getfield 12, 3) := by decide +kernel
theorem dX7_stepsLeft_21 : decode cX7_stepsLeft 21 = .ok (.invokevirtual 177, 3) := by decide +kernel
theorem dX7_stepsLeft_24 : decode cX7_stepsLeft 24 = .ok (.aload_n 0, 1) := by decide +kernel
theorem dX7_stepsLeft_25 : decode cX7_stepsLeft 25 = .ok (.getfield 16, 3) := by decide +kernel
theorem dX7_stepsLeft_28 : decode cX7_stepsLeft 28 = .ok (.bipush 124, 2) := by decide +kernel
theorem dX7_stepsLeft_30 : decode cX7_stepsLeft 30 = .ok (.invokevirtual 180, 3) := by decide +kernel
theorem dX7_stepsLeft_33 : decode cX7_stepsLeft 33 = .ok (.ireturn, 1) := by decide +kernel
set_option maxRecDepth 20000 in
theorem ggX7_freeThen_X5_become : GoodIn wsX7_freeThen wsX5_become := goodIn_r _ [7, 8, 9, 10, 11, 12, 13, 14, 15, 16, 17, 18, 19, 20, 21, 22, 23, 24, 25, 26, 27, 28, 29, 30, 31, 32, 33, 34, 35, 36, 37, 38, 39, 40, 41, 129, 130, 131, 132, 133, 134, 135, 136, 137, 138, 139, 140, 141, 142, 143, 144, 145, 146] (by decide +kernel) (by decide +kernel)
set_option maxRecDepth 20000 in
theorem gX7_freeThen_X5_become : GoodIn wsX7_freeThen (wsV RX7 177 RX5 yX5_become wsX5_become) := goodIn_app (goodIn_of _ (by decide +kernel)) ggX7_freeThen_X5_become
set_option maxRecDepth 20000 in
theorem ggX7_freeThen_X5_stepsUpTo : GoodIn wsX7_freeThen wsX5_stepsUpTo := goodIn_r _ [45, 17, 14, 13, 46, 47, 48, 36, 49, 40, 41, 38, 50, 51, 52, 6, 53, 54, 55, 56, 57, 18, 58, 59, 60, 61, 62, 63, 64, 25, 65, 30, 66, 67, 68, 69, 29, 70, 71, 72, 73, 74, 75, 76, 77, 19, 78, 79, 80, 81, 82, 83, 84, 85, 27, 31, 32, 86, 87, 88, 89, 90, 91, 92, 93, 94, 95, 96, 97, 98, 99, 100, 101, 21, 102, 103, 104, 105, 106, 107, 108, 109, 110, 111, 112, 113, 129, 130, 131, 132, 133, 134, 135, 136, 137, 138, 139, 140, 141, 142, 143, 144, 145, 146] (by decide +kernel) (by decide +kernel)
set_option maxRecDepth 20000 in
theorem gX7_freeThen_X5_stepsUpTo : GoodIn wsX7_freeThen (wsV RX7 180 RX5 yX5_stepsUpTo wsX5_stepsUpTo) := goodIn_app (goodIn_of _ (by decide +kernel)) ggX7_freeThen_X5_stepsUpTo
set_option maxRecDepth 20000 in
theorem ggX7_freeThen_X5_beginMove : GoodIn wsX7_freeThen wsX5_beginMove := goodIn_r _ [117, 17, 18, 19, 14, 8, 118, 119, 120, 36, 121, 40, 41, 50, 51, 52, 6, 53, 13, 54, 55, 56, 57, 58, 59, 60, 61, 62, 63, 64, 25, 65, 30, 66, 67, 68, 69, 29, 70, 71, 72, 73, 74, 75, 76, 77, 78, 79, 80, 81, 82, 83, 84, 85, 27, 31, 32, 86, 87, 88, 89, 38, 90, 91, 92, 93, 94, 95, 96, 97, 98, 99, 100, 101, 21, 102, 103, 104, 105, 106, 107, 108, 109, 110, 111, 112, 113, 129, 130, 131, 132, 133, 134, 135, 136, 137, 138, 144, 145, 146, 139, 140, 141, 142, 143] (by decide +kernel) (by decide +kernel)
set_option maxRecDepth 20000 in
theorem gX7_freeThen_X5_beginMove : GoodIn wsX7_freeThen (wsV RX7 72 RX5 yX5_beginMove wsX5_beginMove) := goodIn_app (goodIn_of _ (by decide +kernel)) ggX7_freeThen_X5_beginMove
set_option maxRecDepth 20000 in
theorem ggX7_freeThen_X5_freeInHalf : GoodIn wsX7_freeThen wsX5_freeInHalf := goodIn_r _ [81, 19, 129, 130, 131, 132, 133, 134, 135, 136, 137, 138] (by decide +kernel) (by decide +kernel)
set_option maxRecDepth 20000 in
theorem gX7_freeThen_X5_freeInHalf : GoodIn wsX7_freeThen (wsV RX7 183 RX5 yX5_freeInHalf wsX5_freeInHalf) := goodIn_app (goodIn_of _ (by decide +kernel)) ggX7_freeThen_X5_freeInHalf
theorem dX7_freeThen_0 : decode cX7_freeThen 0 = .ok (.aload_n 0, 1) := by decide +kernel
theorem dX7_freeThen_1 : decode cX7_freeThen 1 = .ok (.getfield 16, 3) := by decide +kernel
theorem dX7_freeThen_4 : decode cX7_freeThen 4 = .ok (.aload_n 0, 1) := by decide +kernel
theorem dX7_freeThen_5 : decode cX7_freeThen 5 = .ok (.getfield 12, 3) := by decide +kernel
theorem dX7_freeThen_8 : decode cX7_freeThen 8 = .ok (.invokevirtual 177, 3) := by decide +kernel
theorem dX7_freeThen_11 : decode cX7_freeThen 11 = .ok (.aload_n 0, 1) := by decide +kernel
theorem dX7_freeThen_12 : decode cX7_freeThen 12 = .ok (.getfield 16, 3) := by decide +kernel
theorem dX7_freeThen_15 : decode cX7_freeThen 15 = .ok (.bipush 124, 2) := by decide +kernel
theorem dX7_freeThen_17 : decode cX7_freeThen 17 = .ok (.invokevirtual 180, 3) := by decide +kernel
theorem dX7_freeThen_20 : decode cX7_freeThen 20 = .ok (.pop, 1) := by decide +kernel
theorem dX7_freeThen_21 : decode cX7_freeThen 21 = .ok (.aload_n 0, 1) := by decide +kernel
theorem dX7_freeThen_22 : decode cX7_freeThen 22 = .ok (.getfield 16, 3) := by decide +kernel
theorem dX7_freeThen_25 : decode cX7_freeThen 25 = .ok (.invokevirtual 72, 3) := by decide +kernel
theorem dX7_freeThen_28 : decode cX7_freeThen 28 = .ok (.pop, 1) := by decide +kernel
theorem dX7_freeThen_29 : decode cX7_freeThen 29 = .ok (.aload_n 0, 1) := by decide +kernel
theorem dX7_freeThen_30 : decode cX7_freeThen 30 = .ok (.getfield 16, 3) := by decide +kernel
theorem dX7_freeThen_33 : decode cX7_freeThen 33 = .ok (.bipush 124, 2) := by decide +kernel
theorem dX7_freeThen_35 : decode cX7_freeThen 35 = .ok (.invokevirtual 180, 3) := by decide +kernel
theorem dX7_freeThen_38 : decode cX7_freeThen 38 = .ok (.pop, 1) := by decide +kernel
theorem dX7_freeThen_39 : decode cX7_freeThen 39 = .ok (.aload_n 0, 1) := by decide +kernel
theorem dX7_freeThen_40 : decode cX7_freeThen 40 = .ok (.getfield 16, 3) := by decide +kernel
theorem dX7_freeThen_43 : decode cX7_freeThen 43 = .ok (.invokevirtual 183, 3) := by decide +kernel
theorem dX7_freeThen_46 : decode cX7_freeThen 46 = .ok (.ireturn, 1) := by decide +kernel
theorem dX7_isHook_0 : decode cX7_isHook 0 = .ok (.iload_n 0, 1) := by decide +kernel
theorem dX7_isHook_1 : decode cX7_isHook 1 = .ok (.ifCond .lt 13, 3) := by decide +kernel
theorem dX7_isHook_4 : decode cX7_isHook 4 = .ok (.iload_n 0, 1) := by decide +kernel
theorem dX7_isHook_5 : decode cX7_isHook 5 = .ok (.bipush 8, 2) := by decide +kernel
theorem dX7_isHook_7 : decode cX7_isHook 7 = .ok (.if_icmp .ge 7, 3) := by decide +kernel
theorem dX7_isHook_10 : decode cX7_isHook 10 = .ok (.iconst 1, 1) := by decide +kernel
theorem dX7_isHook_11 : decode cX7_isHook 11 = .ok (.goto 4, 3) := by decide +kernel
theorem dX7_isHook_14 : decode cX7_isHook 14 = .ok (.iconst 0, 1) := by decide +kernel
theorem dX7_isHook_15 : decode cX7_isHook 15 = .ok (.ireturn, 1) := by decide +kernel
theorem dX7_isName_0 : decode cX7_isName 0 = .ok (.iload_n 0, 1) := by decide +kernel
theorem dX7_isName_1 : decode cX7_isName 1 = .ok (.ifCond .lt 12, 3) := by decide +kernel
theorem dX7_isName_4 : decode cX7_isName 4 = .ok (.iload_n 0, 1) := by decide +kernel
theorem dX7_isName_5 : decode cX7_isName 5 = .ok (.iconst 2, 1) := by decide +kernel
theorem dX7_isName_6 : decode cX7_isName 6 = .ok (.if_icmp .ge 7, 3) := by decide +kernel
theorem dX7_isName_9 : decode cX7_isName 9 = .ok (.iconst 1, 1) := by decide +kernel
theorem dX7_isName_10 : decode cX7_isName 10 = .ok (.goto 4, 3) := by decide +kernel
theorem dX7_isName_13 : decode cX7_isName 13 = .ok (.iconst 0, 1) := by decide +kernel
theorem dX7_isName_14 : decode cX7_isName 14 = .ok (.ireturn, 1) := by decide +kernel
theorem dX7_orNone_0 : decode cX7_orNone 0 = .ok (.iload_n 0, 1) := by decide +kernel
theorem dX7_orNone_1 : decode cX7_orNone 1 = .ok (.sipush 300, 3) := by decide +kernel
theorem dX7_orNone_4 : decode cX7_orNone 4 = .ok (.if_icmp .ne 8, 3) := by decide +kernel
theorem dX7_orNone_7 : decode cX7_orNone 7 = .ok (.bipush (-9), 2) := by decide +kernel
theorem dX7_orNone_9 : decode cX7_orNone 9 = .ok (.goto 4, 3) := by decide +kernel
theorem dX7_orNone_12 : decode cX7_orNone 12 = .ok (.iload_n 0, 1) := by decide +kernel
theorem dX7_orNone_13 : decode cX7_orNone 13 = .ok (.ireturn, 1) := by decide +kernel
set_option maxRecDepth 20000 in
theorem ggX7_recorded_X2_keepDraft : GoodIn wsX7_recorded wsX2_keepDraft := goodIn_r _ [6, 7, 8, 9, 10, 11, 12, 19, 20, 21] (by decide +kernel) (by decide +kernel)
set_option maxRecDepth 20000 in
theorem gX7_recorded_X2_keepDraft : GoodIn wsX7_recorded (wsV RX7 186 RX2 yX2_keepDraft wsX2_keepDraft) := goodIn_app (goodIn_of _ (by decide +kernel)) ggX7_recorded_X2_keepDraft
theorem dX7_recorded_0 : decode cX7_recorded 0 = .ok (.iload_n 1, 1) := by decide +kernel
theorem dX7_recorded_1 : decode cX7_recorded 1 = .ok (.ifCond .lt 10, 3) := by decide +kernel
theorem dX7_recorded_4 : decode cX7_recorded 4 = .ok (.aload_n 0, 1) := by decide +kernel
theorem dX7_recorded_5 : decode cX7_recorded 5 = .ok (.getfield 22, 3) := by decide +kernel
theorem dX7_recorded_8 : decode cX7_recorded 8 = .ok (.invokevirtual 186, 3) := by decide +kernel
theorem dX7_recorded_11 : decode cX7_recorded 11 = .ok (.iload_n 1, 1) := by decide +kernel
theorem dX7_recorded_12 : decode cX7_recorded 12 = .ok (.ireturn, 1) := by decide +kernel
set_option maxRecDepth 20000 in
theorem ggX7_textFailed_X2_restoreDraft : GoodIn wsX7_textFailed wsX2_restoreDraft := goodIn_r _ [7, 8, 9, 10, 11, 6, 12, 13, 14, 15, 16, 17, 18, 19, 20, 21, 22, 23, 24, 25, 26, 27, 28, 29, 30, 31, 32, 33, 34, 35, 36, 37, 38, 39, 40, 41, 42, 43, 44, 45, 46, 47, 48, 49, 50, 51, 52, 53, 54, 55, 56, 57, 64, 65, 66, 67, 68, 69, 70, 71, 72, 73, 74, 75, 76, 77, 78, 79, 80, 81, 82, 83, 84] (by decide +kernel) (by decide +kernel)
set_option maxRecDepth 20000 in
theorem gX7_textFailed_X2_restoreDraft : GoodIn wsX7_textFailed (wsV RX7 189 RX2 yX2_restoreDraft wsX2_restoreDraft) := goodIn_app (goodIn_of _ (by decide +kernel)) ggX7_textFailed_X2_restoreDraft
theorem dX7_textFailed_0 : decode cX7_textFailed 0 = .ok (.aload_n 0, 1) := by decide +kernel
theorem dX7_textFailed_1 : decode cX7_textFailed 1 = .ok (.getfield 22, 3) := by decide +kernel
theorem dX7_textFailed_4 : decode cX7_textFailed 4 = .ok (.aload_n 0, 1) := by decide +kernel
theorem dX7_textFailed_5 : decode cX7_textFailed 5 = .ok (.getfield 12, 3) := by decide +kernel
theorem dX7_textFailed_8 : decode cX7_textFailed 8 = .ok (.invokevirtual 189, 3) := by decide +kernel
theorem dX7_textFailed_11 : decode cX7_textFailed 11 = .ok (.sipush (-1000), 3) := by decide +kernel
theorem dX7_textFailed_14 : decode cX7_textFailed 14 = .ok (.iload_n 1, 1) := by decide +kernel
theorem dX7_textFailed_15 : decode cX7_textFailed 15 = .ok (.isub, 1) := by decide +kernel
theorem dX7_textFailed_16 : decode cX7_textFailed 16 = .ok (.ireturn, 1) := by decide +kernel
theorem dX8_init_0 : decode cX8_init 0 = .ok (.aload_n 0, 1) := by decide +kernel
theorem dX8_init_1 : decode cX8_init 1 = .ok (.invokespecial 1, 3) := by decide +kernel
theorem dX8_init_4 : decode cX8_init 4 = .ok (.aload_n 0, 1) := by decide +kernel
theorem dX8_init_5 : decode cX8_init 5 = .ok (.sipush 1125, 3) := by decide +kernel
theorem dX8_init_8 : decode cX8_init 8 = .ok (.newarray .int, 2) := by decide +kernel
theorem dX8_init_10 : decode cX8_init 10 = .ok (.putfield 7, 3) := by decide +kernel
theorem dX8_init_13 : decode cX8_init 13 = .ok (.aload_n 0, 1) := by decide +kernel
theorem dX8_init_14 : decode cX8_init 14 = .ok (.sipush 5625, 3) := by decide +kernel
theorem dX8_init_17 : decode cX8_init 17 = .ok (.newarray .int, 2) := by decide +kernel
theorem dX8_init_19 : decode cX8_init 19 = .ok (.putfield 13, 3) := by decide +kernel
theorem dX8_init_22 : decode cX8_init 22 = .ok (.aload_n 0, 1) := by decide +kernel
theorem dX8_init_23 : decode cX8_init 23 = .ok (.sipush 1125, 3) := by decide +kernel
theorem dX8_init_26 : decode cX8_init 26 = .ok (.newarray .int, 2) := by decide +kernel
theorem dX8_init_28 : decode cX8_init 28 = .ok (.putfield 16, 3) := by decide +kernel
theorem dX8_init_31 : decode cX8_init 31 = .ok (.aload_n 0, 1) := by decide +kernel
theorem dX8_init_32 : decode cX8_init 32 = .ok (.bipush 80, 2) := by decide +kernel
theorem dX8_init_34 : decode cX8_init 34 = .ok (.newarray .int, 2) := by decide +kernel
theorem dX8_init_36 : decode cX8_init 36 = .ok (.putfield 19, 3) := by decide +kernel
theorem dX8_init_39 : decode cX8_init 39 = .ok (.aload_n 0, 1) := by decide +kernel
theorem dX8_init_40 : decode cX8_init 40 = .ok (.iconst 3, 1) := by decide +kernel
theorem dX8_init_41 : decode cX8_init 41 = .ok (.newarray .int, 2) := by decide +kernel
theorem dX8_init_43 : decode cX8_init 43 = .ok (.putfield 22, 3) := by decide +kernel
theorem dX8_init_46 : decode cX8_init 46 = .ok (.aload_n 0, 1) := by decide +kernel
theorem dX8_init_47 : decode cX8_init 47 = .ok (.sipush 188, 3) := by decide +kernel
theorem dX8_init_50 : decode cX8_init 50 = .ok (.newarray .boolean, 2) := by decide +kernel
theorem dX8_init_52 : decode cX8_init 52 = .ok (.putfield 25, 3) := by decide +kernel
theorem dX8_init_55 : decode cX8_init 55 = .ok (.aload_n 0, 1) := by decide +kernel
theorem dX8_init_56 : decode cX8_init 56 = .ok (.sipush 188, 3) := by decide +kernel
theorem dX8_init_59 : decode cX8_init 59 = .ok (.newarray .int, 2) := by decide +kernel
theorem dX8_init_61 : decode cX8_init 61 = .ok (.putfield 29, 3) := by decide +kernel
theorem dX8_init_64 : decode cX8_init 64 = .ok (.aload_n 0, 1) := by decide +kernel
theorem dX8_init_65 : decode cX8_init 65 = .ok (.getfield 7, 3) := by decide +kernel
theorem dX8_init_68 : decode cX8_init 68 = .ok (.iconst 1, 1) := by decide +kernel
theorem dX8_init_69 : decode cX8_init 69 = .ok (.bipush 6, 2) := by decide +kernel
theorem dX8_init_71 : decode cX8_init 71 = .ok (.iastore, 1) := by decide +kernel
theorem dX8_init_72 : decode cX8_init 72 = .ok (.iconst 0, 1) := by decide +kernel
theorem dX8_init_73 : decode cX8_init 73 = .ok (.istore_n 1, 1) := by decide +kernel
theorem dX8_init_74 : decode cX8_init 74 = .ok (.iload_n 1, 1) := by decide +kernel
theorem dX8_init_75 : decode cX8_init 75 = .ok (.bipush 8, 2) := by decide +kernel
theorem dX8_init_77 : decode cX8_init 77 = .ok (.if_icmp .ge 20, 3) := by decide +kernel
theorem dX8_init_80 : decode cX8_init 80 = .ok (.aload_n 0, 1) := by decide +kernel
theorem dX8_init_81 : decode cX8_init 81 = .ok (.getfield 7, 3) := by decide +kernel
theorem dX8_init_84 : decode cX8_init 84 = .ok (.bipush 9, 2) := by decide +kernel
theorem dX8_init_86 : decode cX8_init 86 = .ok (.iload_n 1, 1) := by decide +kernel
theorem dX8_init_87 : decode cX8_init 87 = .ok (.iadd, 1) := by decide +kernel
theorem dX8_init_88 : decode cX8_init 88 = .ok (.bipush (-9), 2) := by decide +kernel
theorem dX8_init_90 : decode cX8_init 90 = .ok (.iastore, 1) := by decide +kernel
theorem dX8_init_91 : decode cX8_init 91 = .ok (.iinc 1 1, 3) := by decide +kernel
theorem dX8_init_94 : decode cX8_init 94 = .ok (.goto (-20), 3) := by decide +kernel
theorem dX8_init_97 : decode cX8_init 97 = .ok (.return_, 1) := by decide +kernel
theorem dX8_in_0 : decode cX8_in 0 = .ok (.iload_n 0, 1) := by decide +kernel
theorem dX8_in_1 : decode cX8_in 1 = .ok (.iload_n 1, 1) := by decide +kernel
theorem dX8_in_2 : decode cX8_in 2 = .ok (.if_icmp .lt 12, 3) := by decide +kernel
theorem dX8_in_5 : decode cX8_in 5 = .ok (.iload_n 0, 1) := by decide +kernel
theorem dX8_in_6 : decode cX8_in 6 = .ok (.iload_n 2, 1) := by decide +kernel
theorem dX8_in_7 : decode cX8_in 7 = .ok (.if_icmp .gt 7, 3) := by decide +kernel
theorem dX8_in_10 : decode cX8_in 10 = .ok (.iconst 1, 1) := by decide +kernel
theorem dX8_in_11 : decode cX8_in 11 = .ok (.goto 4, 3) := by decide +kernel
theorem dX8_in_14 : decode cX8_in 14 = .ok (.iconst 0, 1) := by decide +kernel
theorem dX8_in_15 : decode cX8_in 15 = .ok (.ireturn, 1) := by decide +kernel
theorem dX8_acts_0 : decode cX8_acts 0 = .ok (.aload_n 0, 1) := by decide +kernel
theorem dX8_acts_1 : decode cX8_acts 1 = .ok (.getfield 32, 3) := by decide +kernel
theorem dX8_acts_4 : decode cX8_acts 4 = .ok (.ifCond .eq 4, 3) := by decide +kernel
theorem dX8_acts_7 : decode cX8_acts 7 = .ok (.return_, 1) := by decide +kernel
theorem dX8_acts_8 : decode cX8_acts 8 = .ok (.aload_n 0, 1) := by decide +kernel
theorem dX8_acts_9 : decode cX8_acts 9 = .ok (.getfield 36, 3) := by decide +kernel
theorem dX8_acts_12 : decode cX8_acts 12 = .ok (.iconst 5, 1) := by decide +kernel
theorem dX8_acts_13 : decode cX8_acts 13 = .ok (.if_icmp .ne 44, 3) := by decide +kernel
theorem dX8_acts_16 : decode cX8_acts 16 = .ok (.iconst 0, 1) := by decide +kernel
theorem dX8_acts_17 : decode cX8_acts 17 = .ok (.istore_n 1, 1) := by decide +kernel
theorem dX8_acts_18 : decode cX8_acts 18 = .ok (.iload_n 1, 1) := by decide +kernel
theorem dX8_acts_19 : decode cX8_acts 19 = .ok (.sipush 4500, 3) := by decide +kernel
theorem dX8_acts_22 : decode cX8_acts 22 = .ok (.if_icmp .ge 25, 3) := by decide +kernel
theorem dX8_acts_25 : decode cX8_acts 25 = .ok (.aload_n 0, 1) := by decide +kernel
theorem dX8_acts_26 : decode cX8_acts 26 = .ok (.getfield 13, 3) := by decide +kernel
theorem dX8_acts_29 : decode cX8_acts 29 = .ok (.iload_n 1, 1) := by decide +kernel
theorem dX8_acts_30 : decode cX8_acts 30 = .ok (.aload_n 0, 1) := by decide +kernel
theorem dX8_acts_31 : decode cX8_acts 31 = .ok (.getfield 13, 3) := by decide +kernel
theorem dX8_acts_34 : decode cX8_acts 34 = .ok (.iload_n 1, 1) := by decide +kernel
theorem dX8_acts_35 : decode cX8_acts 35 = .ok (.sipush 1125, 3) := by decide +kernel
theorem dX8_acts_38 : decode cX8_acts 38 = .ok (.iadd, 1) := by decide +kernel
theorem dX8_acts_39 : decode cX8_acts 39 = .ok (.iaload, 1) := by decide +kernel
theorem dX8_acts_40 : decode cX8_acts 40 = .ok (.iastore, 1) := by decide +kernel
theorem dX8_acts_41 : decode cX8_acts 41 = .ok (.iinc 1 1, 3) := by decide +kernel
theorem dX8_acts_44 : decode cX8_acts 44 = .ok (.goto (-26), 3) := by decide +kernel
theorem dX8_acts_47 : decode cX8_acts 47 = .ok (.aload_n 0, 1) := by decide +kernel
theorem dX8_acts_48 : decode cX8_acts 48 = .ok (.dup, 1) := by decide +kernel
theorem dX8_acts_49 : decode cX8_acts 49 = .ok (.getfield 36, 3) := by decide +kernel
theorem dX8_acts_52 : decode cX8_acts 52 = .ok (.iconst 1, 1) := by decide +kernel
theorem dX8_acts_53 : decode cX8_acts 53 = .ok (.isub, 1) := by decide +kernel
theorem dX8_acts_54 : decode cX8_acts 54 = .ok (.putfield 36, 3) := by decide +kernel
theorem dX8_acts_57 : decode cX8_acts 57 = .ok (.iconst 0, 1) := by decide +kernel
theorem dX8_acts_58 : decode cX8_acts 58 = .ok (.istore_n 1, 1) := by decide +kernel
theorem dX8_acts_59 : decode cX8_acts 59 = .ok (.iload_n 1, 1) := by decide +kernel
theorem dX8_acts_60 : decode cX8_acts 60 = .ok (.sipush 1125, 3) := by decide +kernel
theorem dX8_acts_63 : decode cX8_acts 63 = .ok (.if_icmp .ge 30, 3) := by decide +kernel
theorem dX8_acts_66 : decode cX8_acts 66 = .ok (.aload_n 0, 1) := by decide +kernel
theorem dX8_acts_67 : decode cX8_acts 67 = .ok (.getfield 13, 3) := by decide +kernel
theorem dX8_acts_70 : decode cX8_acts 70 = .ok (.sipush 1125, 3) := by decide +kernel
theorem dX8_acts_73 : decode cX8_acts 73 = .ok (.aload_n 0, 1) := by decide +kernel
theorem dX8_acts_74 : decode cX8_acts 74 = .ok (.getfield 36, 3) := by decide +kernel
theorem dX8_acts_77 : decode cX8_acts 77 = .ok (.imul, 1) := by decide +kernel
theorem dX8_acts_78 : decode cX8_acts 78 = .ok (.iload_n 1, 1) := by decide +kernel
theorem dX8_acts_79 : decode cX8_acts 79 = .ok (.iadd, 1) := by decide +kernel
theorem dX8_acts_80 : decode cX8_acts 80 = .ok (.aload_n 0, 1) := by decide +kernel
theorem dX8_acts_81 : decode cX8_acts 81 = .ok (.getfield 7, 3) := by decide +kernel
theorem dX8_acts_84 : decode cX8_acts 84 = .ok (.iload_n 1, 1) := by decide +kernel
theorem dX8_acts_85 : decode cX8_acts 85 = .ok (.iaload, 1) := by decide +kernel
theorem dX8_acts_86 : decode cX8_acts 86 = .ok (.iastore, 1) := by decide +kernel
theorem dX8_acts_87 : decode cX8_acts 87 = .ok (.iinc 1 1, 3) := by decide +kernel
theorem dX8_acts_90 : decode cX8_acts 90 = .ok (.goto (-31), 3) := by decide +kernel
theorem dX8_acts_93 : decode cX8_acts 93 = .ok (.aload_n 0, 1) := by decide +kernel
theorem dX8_acts_94 : decode cX8_acts 94 = .ok (.dup, 1) := by decide +kernel
theorem dX8_acts_95 : decode cX8_acts 95 = .ok (.getfield 36, 3) := by decide +kernel
theorem dX8_acts_98 : decode cX8_acts 98 = .ok (.iconst 1, 1) := by decide +kernel
theorem dX8_acts_99 : decode cX8_acts 99 = .ok (.iadd, 1) := by decide +kernel
theorem dX8_acts_100 : decode cX8_acts 100 = .ok (.putfield 36, 3) := by decide +kernel
theorem dX8_acts_103 : decode cX8_acts 103 = .ok (.return_, 1) := by decide +kernel
set_option maxRecDepth 20000 in
theorem ggX8_isHook_X8_in : GoodIn wsX8_isHook wsX8_in := goodIn_r _ [4] (by decide +kernel) (by decide +kernel)
set_option maxRecDepth 20000 in
theorem gX8_isHook_X8_in : GoodIn wsX8_isHook (va_wsS RX8 40 yX8_in wsX8_in) := goodIn_app (goodIn_of _ (by decide +kernel)) ggX8_isHook_X8_in
theorem dX8_isHook_0 : decode cX8_isHook 0 = .ok (.iload_n 0, 1) := by decide +kernel
theorem dX8_isHook_1 : decode cX8_isHook 1 = .ok (.iconst 0, 1) := by decide +kernel
theorem dX8_isHook_2 : decode cX8_isHook 2 = .ok (.bipush 7, 2) := by decide +kernel
theorem dX8_isHook_4 : decode cX8_isHook 4 = .ok (.invokestatic 40, 3) := by decide +kernel
theorem dX8_isHook_7 : decode cX8_isHook 7 = .ok (.ireturn, 1) := by decide +kernel
theorem dX8_isThing_0 : decode cX8_isThing 0 = .ok (.iload_n 1, 1) := by decide +kernel
theorem dX8_isThing_1 : decode cX8_isThing 1 = .ok (.ifCond .lt 17, 3) := by decide +kernel
theorem dX8_isThing_4 : decode cX8_isThing 4 = .ok (.iload_n 1, 1) := by decide +kernel
theorem dX8_isThing_5 : decode cX8_isThing 5 = .ok (.aload_n 0, 1) := by decide +kernel
theorem dX8_isThing_6 : decode cX8_isThing 6 = .ok (.getfield 7, 3) := by decide +kernel
theorem dX8_isThing_9 : decode cX8_isThing 9 = .ok (.iconst 0, 1) := by decide +kernel
theorem dX8_isThing_10 : decode cX8_isThing 10 = .ok (.iaload, 1) := by decide +kernel
theorem dX8_isThing_11 : decode cX8_isThing 11 = .ok (.if_icmp .ge 7, 3) := by decide +kernel
theorem dX8_isThing_14 : decode cX8_isThing 14 = .ok (.iconst 1, 1) := by decide +kernel
theorem dX8_isThing_15 : decode cX8_isThing 15 = .ok (.goto 4, 3) := by decide +kernel
theorem dX8_isThing_18 : decode cX8_isThing 18 = .ok (.iconst 0, 1) := by decide +kernel
theorem dX8_isThing_19 : decode cX8_isThing 19 = .ok (.ireturn, 1) := by decide +kernel
theorem dX8_isAddress_0 : decode cX8_isAddress 0 = .ok (.iload_n 0, 1) := by decide +kernel
theorem dX8_isAddress_1 : decode cX8_isAddress 1 = .ok (.ifCond .lt 41, 3) := by decide +kernel
theorem dX8_isAddress_4 : decode cX8_isAddress 4 = .ok (.iload_n 0, 1) := by decide +kernel
theorem dX8_isAddress_5 : decode cX8_isAddress 5 = .ok (.bipush 100, 2) := by decide +kernel
theorem dX8_isAddress_7 : decode cX8_isAddress 7 = .ok (.idiv, 1) := by decide +kernel
theorem dX8_isAddress_8 : decode cX8_isAddress 8 = .ok (.iconst 2, 1) := by decide +kernel
theorem dX8_isAddress_9 : decode cX8_isAddress 9 = .ok (.if_icmp .ge 12, 3) := by decide +kernel
theorem dX8_isAddress_12 : decode cX8_isAddress 12 = .ok (.iload_n 0, 1) := by decide +kernel
theorem dX8_isAddress_13 : decode cX8_isAddress 13 = .ok (.bipush 100, 2) := by decide +kernel
theorem dX8_isAddress_15 : decode cX8_isAddress 15 = .ok (.irem, 1) := by decide +kernel
theorem dX8_isAddress_16 : decode cX8_isAddress 16 = .ok (.bipush 64, 2) := by decide +kernel
theorem dX8_isAddress_18 : decode cX8_isAddress 18 = .ok (.if_icmp .lt 20, 3) := by decide +kernel
theorem dX8_isAddress_21 : decode cX8_isAddress 21 = .ok (.iload_n 0, 1) := by decide +kernel
theorem dX8_isAddress_22 : decode cX8_isAddress 22 = .ok (.bipush 100, 2) := by decide +kernel
theorem dX8_isAddress_24 : decode cX8_isAddress 24 = .ok (.idiv, 1) := by decide +kernel
theorem dX8_isAddress_25 : decode cX8_isAddress 25 = .ok (.iconst 2, 1) := by decide +kernel
theorem dX8_isAddress_26 : decode cX8_isAddress 26 = .ok (.if_icmp .ne 16, 3) := by decide +kernel
theorem dX8_isAddress_29 : decode cX8_isAddress 29 = .ok (.iload_n 0, 1) := by decide +kernel
theorem dX8_isAddress_30 : decode cX8_isAddress 30 = .ok (.bipush 100, 2) := by decide +kernel
theorem dX8_isAddress_32 : decode cX8_isAddress 32 = .ok (.irem, 1) := by decide +kernel
theorem dX8_isAddress_33 : decode cX8_isAddress 33 = .ok (.bipush 60, 2) := by decide +kernel
theorem dX8_isAddress_35 : decode cX8_isAddress 35 = .ok (.if_icmp .ge 7, 3) := by decide +kernel
theorem dX8_isAddress_38 : decode cX8_isAddress 38 = .ok (.iconst 1, 1) := by decide +kernel
theorem dX8_isAddress_39 : decode cX8_isAddress 39 = .ok (.goto 4, 3) := by decide +kernel
theorem dX8_isAddress_42 : decode cX8_isAddress 42 = .ok (.iconst 0, 1) := by decide +kernel
theorem dX8_isAddress_43 : decode cX8_isAddress 43 = .ok (.ireturn, 1) := by decide +kernel
theorem dX8_cell_0 : decode cX8_cell 0 = .ok (.bipush 64, 2) := by decide +kernel
theorem dX8_cell_2 : decode cX8_cell 2 = .ok (.iload_n 0, 1) := by decide +kernel
theorem dX8_cell_3 : decode cX8_cell 3 = .ok (.bipush 100, 2) := by decide +kernel
theorem dX8_cell_5 : decode cX8_cell 5 = .ok (.idiv, 1) := by decide +kernel
theorem dX8_cell_6 : decode cX8_cell 6 = .ok (.imul, 1) := by decide +kernel
theorem dX8_cell_7 : decode cX8_cell 7 = .ok (.iload_n 0, 1) := by decide +kernel
theorem dX8_cell_8 : decode cX8_cell 8 = .ok (.bipush 100, 2) := by decide +kernel
theorem dX8_cell_10 : decode cX8_cell 10 = .ok (.irem, 1) := by decide +kernel
theorem dX8_cell_11 : decode cX8_cell 11 = .ok (.iadd, 1) := by decide +kernel
theorem dX8_cell_12 : decode cX8_cell 12 = .ok (.ireturn, 1) := by decide +kernel
theorem dX8_address_0 : decode cX8_address 0 = .ok (.bipush 100, 2) := by decide +kernel
theorem dX8_address_2 : decode cX8_address 2 = .ok (.iload_n 0, 1) := by decide +kernel
theorem dX8_address_3 : decode cX8_address 3 = .ok (.bipush 64, 2) := by decide +kernel
theorem dX8_address_5 : decode cX8_address 5 = .ok (.idiv, 1) := by decide +kernel
theorem dX8_address_6 : decode cX8_address 6 = .ok (.imul, 1) := by decide +kernel
theorem dX8_address_7 : decode cX8_address 7 = .ok (.iload_n 0, 1) := by decide +kernel
theorem dX8_address_8 : decode cX8_address 8 = .ok (.bipush 64, 2) := by decide +kernel
theorem dX8_address_10 : decode cX8_address 10 = .ok (.irem, 1) := by decide +kernel
theorem dX8_address_11 : decode cX8_address 11 = .ok (.iadd, 1) := by decide +kernel
theorem dX8_address_12 : decode cX8_address 12 = .ok (.ireturn, 1) := by decide +kernel
theorem dX8_ofCopy_0 : decode cX8_ofCopy 0 = .ok (.aload_n 0, 1) := by decide +kernel
theorem dX8_ofCopy_1 : decode cX8_ofCopy 1 = .ok (.getfield 7, 3) := by decide +kernel
theorem dX8_ofCopy_4 : decode cX8_ofCopy 4 = .ok (.sipush 185, 3) := by decide +kernel
theorem dX8_ofCopy_7 : decode cX8_ofCopy 7 = .ok (.iconst 5, 1) := by decide +kernel
theorem dX8_ofCopy_8 : decode cX8_ofCopy 8 = .ok (.iload_n 1, 1) := by decide +kernel
theorem dX8_ofCopy_9 : decode cX8_ofCopy 9 = .ok (.imul, 1) := by decide +kernel
theorem dX8_ofCopy_10 : decode cX8_ofCopy 10 = .ok (.iadd, 1) := by decide +kernel
theorem dX8_ofCopy_11 : decode cX8_ofCopy 11 = .ok (.iload_n 2, 1) := by decide +kernel
theorem dX8_ofCopy_12 : decode cX8_ofCopy 12 = .ok (.iadd, 1) := by decide +kernel
theorem dX8_ofCopy_13 : decode cX8_ofCopy 13 = .ok (.iaload, 1) := by decide +kernel
theorem dX8_ofCopy_14 : decode cX8_ofCopy 14 = .ok (.ireturn, 1) := by decide +kernel
set_option maxRecDepth 20000 in
theorem ggX8_isCopy_X8_ofCopy : GoodIn wsX8_isCopy wsX8_ofCopy := goodIn_r _ [5, 6, 7, 8, 9, 10, 11, 12, 13, 14, 15, 16, 17, 18] (by decide +kernel) (by decide +kernel)
set_option maxRecDepth 20000 in
theorem gX8_isCopy_X8_ofCopy : GoodIn wsX8_isCopy (wsV RX8 44 RX8 yX8_ofCopy wsX8_ofCopy) := goodIn_app (goodIn_of _ (by decide +kernel)) ggX8_isCopy_X8_ofCopy
theorem dX8_isCopy_0 : decode cX8_isCopy 0 = .ok (.aload_n 0, 1) := by decide +kernel
theorem dX8_isCopy_1 : decode cX8_isCopy 1 = .ok (.iload_n 1, 1) := by decide +kernel
theorem dX8_isCopy_2 : decode cX8_isCopy 2 = .ok (.iconst 0, 1) := by decide +kernel
theorem dX8_isCopy_3 : decode cX8_isCopy 3 = .ok (.invokevirtual 44, 3) := by decide +kernel
theorem dX8_isCopy_6 : decode cX8_isCopy 6 = .ok (.ifCond .le 7, 3) := by decide +kernel
theorem dX8_isCopy_9 : decode cX8_isCopy 9 = .ok (.iconst 1, 1) := by decide +kernel
theorem dX8_isCopy_10 : decode cX8_isCopy 10 = .ok (.goto 4, 3) := by decide +kernel
theorem dX8_isCopy_13 : decode cX8_isCopy 13 = .ok (.iconst 0, 1) := by decide +kernel
theorem dX8_isCopy_14 : decode cX8_isCopy 14 = .ok (.ireturn, 1) := by decide +kernel
set_option maxRecDepth 20000 in
theorem ggX8_sizeAt_X8_isCopy : GoodIn wsX8_sizeAt wsX8_isCopy := goodIn_r _ [6, 7, 8, 9, 5, 10, 1, 11, 12, 13, 14, 15, 16, 17, 18, 19, 20, 21, 22] (by decide +kernel) (by decide +kernel)
set_option maxRecDepth 20000 in
theorem gX8_sizeAt_X8_isCopy : GoodIn wsX8_sizeAt (wsV RX8 48 RX8 yX8_isCopy wsX8_isCopy) := goodIn_app (goodIn_of _ (by decide +kernel)) ggX8_sizeAt_X8_isCopy
set_option maxRecDepth 20000 in
theorem ggX8_sizeAt_X8_ofCopy : GoodIn wsX8_sizeAt wsX8_ofCopy := goodIn_r _ [10, 1, 11, 12, 13, 14, 15, 16, 17, 18, 19, 20, 21, 22] (by decide +kernel) (by decide +kernel)
set_option maxRecDepth 20000 in
theorem gX8_sizeAt_X8_ofCopy : GoodIn wsX8_sizeAt (wsV RX8 44 RX8 yX8_ofCopy wsX8_ofCopy) := goodIn_app (goodIn_of _ (by decide +kernel)) ggX8_sizeAt_X8_ofCopy
theorem dX8_sizeAt_0 : decode cX8_sizeAt 0 = .ok (.aload_n 0, 1) := by decide +kernel
theorem dX8_sizeAt_1 : decode cX8_sizeAt 1 = .ok (.iload_n 1, 1) := by decide +kernel
theorem dX8_sizeAt_2 : decode cX8_sizeAt 2 = .ok (.invokevirtual 48, 3) := by decide +kernel
theorem dX8_sizeAt_5 : decode cX8_sizeAt 5 = .ok (.ifCond .eq 22, 3) := by decide +kernel
theorem dX8_sizeAt_8 : decode cX8_sizeAt 8 = .ok (.aload_n 0, 1) := by decide +kernel
theorem dX8_sizeAt_9 : decode cX8_sizeAt 9 = .ok (.getfield 7, 3) := by decide +kernel
theorem dX8_sizeAt_12 : decode cX8_sizeAt 12 = .ok (.bipush 17, 2) := by decide +kernel
theorem dX8_sizeAt_14 : decode cX8_sizeAt 14 = .ok (.aload_n 0, 1) := by decide +kernel
theorem dX8_sizeAt_15 : decode cX8_sizeAt 15 = .ok (.iload_n 1, 1) := by decide +kernel
theorem dX8_sizeAt_16 : decode cX8_sizeAt 16 = .ok (.iconst 0, 1) := by decide +kernel
theorem dX8_sizeAt_17 : decode cX8_sizeAt 17 = .ok (.invokevirtual 44, 3) := by decide +kernel
theorem dX8_sizeAt_20 : decode cX8_sizeAt 20 = .ok (.iadd, 1) := by decide +kernel
theorem dX8_sizeAt_21 : decode cX8_sizeAt 21 = .ok (.iconst 1, 1) := by decide +kernel
theorem dX8_sizeAt_22 : decode cX8_sizeAt 22 = .ok (.isub, 1) := by decide +kernel
theorem dX8_sizeAt_23 : decode cX8_sizeAt 23 = .ok (.iaload, 1) := by decide +kernel
theorem dX8_sizeAt_24 : decode cX8_sizeAt 24 = .ok (.goto 4, 3) := by decide +kernel
theorem dX8_sizeAt_27 : decode cX8_sizeAt 27 = .ok (.iconst 0, 1) := by decide +kernel
theorem dX8_sizeAt_28 : decode cX8_sizeAt 28 = .ok (.ireturn, 1) := by decide +kernel
theorem dX8_isMoving_0 : decode cX8_isMoving 0 = .ok (.aload_n 0, 1) := by decide +kernel
theorem dX8_isMoving_1 : decode cX8_isMoving 1 = .ok (.getfield 7, 3) := by decide +kernel
theorem dX8_isMoving_4 : decode cX8_isMoving 4 = .ok (.iconst 2, 1) := by decide +kernel
theorem dX8_isMoving_5 : decode cX8_isMoving 5 = .ok (.iaload, 1) := by decide +kernel
theorem dX8_isMoving_6 : decode cX8_isMoving 6 = .ok (.iconst 1, 1) := by decide +kernel
theorem dX8_isMoving_7 : decode cX8_isMoving 7 = .ok (.if_icmp .ne 7, 3) := by decide +kernel
theorem dX8_isMoving_10 : decode cX8_isMoving 10 = .ok (.iconst 1, 1) := by decide +kernel
theorem dX8_isMoving_11 : decode cX8_isMoving 11 = .ok (.goto 4, 3) := by decide +kernel
theorem dX8_isMoving_14 : decode cX8_isMoving 14 = .ok (.iconst 0, 1) := by decide +kernel
theorem dX8_isMoving_15 : decode cX8_isMoving 15 = .ok (.ireturn, 1) := by decide +kernel
theorem dX8_old_0 : decode cX8_old 0 = .ok (.iconst 1, 1) := by decide +kernel
theorem dX8_old_1 : decode cX8_old 1 = .ok (.aload_n 0, 1) := by decide +kernel
theorem dX8_old_2 : decode cX8_old 2 = .ok (.getfield 7, 3) := by decide +kernel
theorem dX8_old_5 : decode cX8_old 5 = .ok (.iconst 3, 1) := by decide +kernel
theorem dX8_old_6 : decode cX8_old 6 = .ok (.iaload, 1) := by decide +kernel
theorem dX8_old_7 : decode cX8_old 7 = .ok (.isub, 1) := by decide +kernel
theorem dX8_old_8 : decode cX8_old 8 = .ok (.ireturn, 1) := by decide +kernel
theorem dX8_free_0 : decode cX8_free 0 = .ok (.bipush 64, 2) := by decide +kernel
theorem dX8_free_2 : decode cX8_free 2 = .ok (.aload_n 0, 1) := by decide +kernel
theorem dX8_free_3 : decode cX8_free 3 = .ok (.getfield 7, 3) := by decide +kernel
theorem dX8_free_6 : decode cX8_free 6 = .ok (.iconst 4, 1) := by decide +kernel
theorem dX8_free_7 : decode cX8_free 7 = .ok (.iload_n 1, 1) := by decide +kernel
theorem dX8_free_8 : decode cX8_free 8 = .ok (.iadd, 1) := by decide +kernel
theorem dX8_free_9 : decode cX8_free 9 = .ok (.iaload, 1) := by decide +kernel
theorem dX8_free_10 : decode cX8_free 10 = .ok (.isub, 1) := by decide +kernel
theorem dX8_free_11 : decode cX8_free 11 = .ok (.ireturn, 1) := by decide +kernel
set_option maxRecDepth 20000 in
theorem ggX8_kept_X8_old : GoodIn wsX8_kept wsX8_old := goodIn_r _ [5, 6, 23, 24, 25, 26, 27, 28, 29, 30, 31, 32, 33, 34] (by decide +kernel) (by decide +kernel)
set_option maxRecDepth 20000 in
theorem gX8_kept_X8_old : GoodIn wsX8_kept (wsV RX8 52 RX8 yX8_old wsX8_old) := goodIn_app (goodIn_of _ (by decide +kernel)) ggX8_kept_X8_old
set_option maxRecDepth 20000 in
theorem ggX8_kept_X8_isMoving : GoodIn wsX8_kept wsX8_isMoving := goodIn_r _ [10, 6, 23, 24, 25, 26, 27, 28, 29, 30, 31, 32, 33, 34] (by decide +kernel) (by decide +kernel)
set_option maxRecDepth 20000 in
theorem gX8_kept_X8_isMoving : GoodIn wsX8_kept (wsV RX8 56 RX8 yX8_isMoving wsX8_isMoving) := goodIn_app (goodIn_of _ (by decide +kernel)) ggX8_kept_X8_isMoving
set_option maxRecDepth 20000 in
theorem ggX8_kept_X8_isCopy : GoodIn wsX8_kept wsX8_isCopy := goodIn_r _ [14, 15, 16, 17, 4, 18, 6, 23, 24, 25, 26, 27, 28, 29, 30, 31, 32, 33, 34] (by decide +kernel) (by decide +kernel)
set_option maxRecDepth 20000 in
theorem gX8_kept_X8_isCopy : GoodIn wsX8_kept (wsV RX8 48 RX8 yX8_isCopy wsX8_isCopy) := goodIn_app (goodIn_of _ (by decide +kernel)) ggX8_kept_X8_isCopy
set_option maxRecDepth 20000 in
theorem ggX8_kept_X8_ofCopy : GoodIn wsX8_kept wsX8_ofCopy := goodIn_r _ [18, 6, 23, 24, 25, 26, 27, 28, 29, 30, 31, 32, 33, 34] (by decide +kernel) (by decide +kernel)
set_option maxRecDepth 20000 in
theorem gX8_kept_X8_ofCopy : GoodIn wsX8_kept (wsV RX8 44 RX8 yX8_ofCopy wsX8_ofCopy) := goodIn_app (goodIn_of _ (by decide +kernel)) ggX8_kept_X8_ofCopy
set_option maxRecDepth 20000 in
theorem ggX8_kept_X8_sizeAt : GoodIn wsX8_kept wsX8_sizeAt := goodIn_r _ [22, 6, 11, 12, 13, 4, 14, 15, 16, 17, 18, 23, 24, 25, 26, 27, 28, 29, 30, 31, 32, 33, 34] (by decide +kernel) (by decide +kernel)
set_option maxRecDepth 20000 in
theorem gX8_kept_X8_sizeAt : GoodIn wsX8_kept (wsV RX8 60 RX8 yX8_sizeAt wsX8_sizeAt) := goodIn_app (goodIn_of _ (by decide +kernel)) ggX8_kept_X8_sizeAt
end
section
theorem dX8_kept_0 : decode cX8_kept 0 = .ok (.iconst 0, 1) := by decide +kernel
theorem dX8_kept_1 : decode cX8_kept 1 = .ok (.istore_n 1, 1) := by decide +kernel
theorem dX8_kept_2 : decode cX8_kept 2 = .ok (.bipush 64, 2) := by decide +kernel
theorem dX8_kept_4 : decode cX8_kept 4 = .ok (.aload_n 0, 1) := by decide +kernel
theorem dX8_kept_5 : decode cX8_kept 5 = .ok (.invokevirtual 52, 3) := by decide +kernel
theorem dX8_kept_8 : decode cX8_kept 8 = .ok (.imul, 1) := by decide +kernel
theorem dX8_kept_9 : decode cX8_kept 9 = .ok (.istore_n 2, 1) := by decide +kernel
theorem dX8_kept_10 : decode cX8_kept 10 = .ok (.iload_n 2, 1) := by decide +kernel
theorem dX8_kept_11 : decode cX8_kept 11 = .ok (.bipush 64, 2) := by decide +kernel
theorem dX8_kept_13 : decode cX8_kept 13 = .ok (.aload_n 0, 1) := by decide +kernel
theorem dX8_kept_14 : decode cX8_kept 14 = .ok (.invokevirtual 52, 3) := by decide +kernel
theorem dX8_kept_17 : decode cX8_kept 17 = .ok (.imul, 1) := by decide +kernel
theorem dX8_kept_18 : decode cX8_kept 18 = .ok (.bipush 64, 2) := by decide +kernel
theorem dX8_kept_20 : decode cX8_kept 20 = .ok (.iadd, 1) := by decide +kernel
theorem dX8_kept_21 : decode cX8_kept 21 = .ok (.if_icmp .ge 47, 3) := by decide +kernel
theorem dX8_kept_24 : decode cX8_kept 24 = .ok (.aload_n 0, 1) := by decide +kernel
theorem dX8_kept_25 : decode cX8_kept 25 = .ok (.invokevirtual 56, 3) := by decide +kernel
theorem dX8_kept_28 : decode cX8_kept 28 = .ok (.ifCond .eq 40, 3) := by decide +kernel
theorem dX8_kept_31 : decode cX8_kept 31 = .ok (.iload_n 1, 1) := by decide +kernel
theorem dX8_kept_32 : decode cX8_kept 32 = .ok (.aload_n 0, 1) := by decide +kernel
theorem dX8_kept_33 : decode cX8_kept 33 = .ok (.iload_n 2, 1) := by decide +kernel
theorem dX8_kept_34 : decode cX8_kept 34 = .ok (.invokevirtual 48, 3) := by decide +kernel
theorem dX8_kept_37 : decode cX8_kept 37 = .ok (.ifCond .eq 22, 3) := by decide +kernel
theorem dX8_kept_40 : decode cX8_kept 40 = .ok (.aload_n 0, 1) := by decide +kernel
theorem dX8_kept_41 : decode cX8_kept 41 = .ok (.iload_n 2, 1) := by decide +kernel
theorem dX8_kept_42 : decode cX8_kept 42 = .ok (.iconst 3, 1) := by decide +kernel
theorem dX8_kept_43 : decode cX8_kept 43 = .ok (.invokevirtual 44, 3) := by decide +kernel
theorem dX8_kept_46 : decode cX8_kept 46 = .ok (.bipush (-9), 2) := by decide +kernel
theorem dX8_kept_48 : decode cX8_kept 48 = .ok (.if_icmp .ne 11, 3) := by decide +kernel
theorem dX8_kept_51 : decode cX8_kept 51 = .ok (.aload_n 0, 1) := by decide +kernel
theorem dX8_kept_52 : decode cX8_kept 52 = .ok (.iload_n 2, 1) := by decide +kernel
theorem dX8_kept_53 : decode cX8_kept 53 = .ok (.invokevirtual 60, 3) := by decide +kernel
theorem dX8_kept_56 : decode cX8_kept 56 = .ok (.goto 4, 3) := by decide +kernel
theorem dX8_kept_59 : decode cX8_kept 59 = .ok (.iconst 0, 1) := by decide +kernel
theorem dX8_kept_60 : decode cX8_kept 60 = .ok (.iadd, 1) := by decide +kernel
theorem dX8_kept_61 : decode cX8_kept 61 = .ok (.istore_n 1, 1) := by decide +kernel
theorem dX8_kept_62 : decode cX8_kept 62 = .ok (.iinc 2 1, 3) := by decide +kernel
theorem dX8_kept_65 : decode cX8_kept 65 = .ok (.goto (-55), 3) := by decide +kernel
theorem dX8_kept_68 : decode cX8_kept 68 = .ok (.iload_n 1, 1) := by decide +kernel
theorem dX8_kept_69 : decode cX8_kept 69 = .ok (.ireturn, 1) := by decide +kernel
theorem dX8_lays_0 : decode cX8_lays 0 = .ok (.sipush 185, 3) := by decide +kernel
theorem dX8_lays_3 : decode cX8_lays 3 = .ok (.iconst 5, 1) := by decide +kernel
theorem dX8_lays_4 : decode cX8_lays 4 = .ok (.iload_n 1, 1) := by decide +kernel
theorem dX8_lays_5 : decode cX8_lays 5 = .ok (.imul, 1) := by decide +kernel
theorem dX8_lays_6 : decode cX8_lays 6 = .ok (.iadd, 1) := by decide +kernel
theorem dX8_lays_7 : decode cX8_lays 7 = .ok (.istore 6, 2) := by decide +kernel
theorem dX8_lays_9 : decode cX8_lays 9 = .ok (.aload_n 0, 1) := by decide +kernel
theorem dX8_lays_10 : decode cX8_lays 10 = .ok (.getfield 7, 3) := by decide +kernel
theorem dX8_lays_13 : decode cX8_lays 13 = .ok (.iload 6, 2) := by decide +kernel
theorem dX8_lays_15 : decode cX8_lays 15 = .ok (.iconst 0, 1) := by decide +kernel
theorem dX8_lays_16 : decode cX8_lays 16 = .ok (.iadd, 1) := by decide +kernel
theorem dX8_lays_17 : decode cX8_lays 17 = .ok (.iload_n 2, 1) := by decide +kernel
theorem dX8_lays_18 : decode cX8_lays 18 = .ok (.iconst 1, 1) := by decide +kernel
theorem dX8_lays_19 : decode cX8_lays 19 = .ok (.iadd, 1) := by decide +kernel
theorem dX8_lays_20 : decode cX8_lays 20 = .ok (.iastore, 1) := by decide +kernel
theorem dX8_lays_21 : decode cX8_lays 21 = .ok (.aload_n 0, 1) := by decide +kernel
theorem dX8_lays_22 : decode cX8_lays 22 = .ok (.getfield 7, 3) := by decide +kernel
theorem dX8_lays_25 : decode cX8_lays 25 = .ok (.iload 6, 2) := by decide +kernel
theorem dX8_lays_27 : decode cX8_lays 27 = .ok (.iconst 1, 1) := by decide +kernel
theorem dX8_lays_28 : decode cX8_lays 28 = .ok (.iadd, 1) := by decide +kernel
theorem dX8_lays_29 : decode cX8_lays 29 = .ok (.iload_n 3, 1) := by decide +kernel
theorem dX8_lays_30 : decode cX8_lays 30 = .ok (.iastore, 1) := by decide +kernel
theorem dX8_lays_31 : decode cX8_lays 31 = .ok (.aload_n 0, 1) := by decide +kernel
theorem dX8_lays_32 : decode cX8_lays 32 = .ok (.getfield 7, 3) := by decide +kernel
theorem dX8_lays_35 : decode cX8_lays 35 = .ok (.iload 6, 2) := by decide +kernel
theorem dX8_lays_37 : decode cX8_lays 37 = .ok (.iconst 1, 1) := by decide +kernel
theorem dX8_lays_38 : decode cX8_lays 38 = .ok (.iadd, 1) := by decide +kernel
theorem dX8_lays_39 : decode cX8_lays 39 = .ok (.iconst 1, 1) := by decide +kernel
theorem dX8_lays_40 : decode cX8_lays 40 = .ok (.iadd, 1) := by decide +kernel
theorem dX8_lays_41 : decode cX8_lays 41 = .ok (.iload 4, 2) := by decide +kernel
theorem dX8_lays_43 : decode cX8_lays 43 = .ok (.iastore, 1) := by decide +kernel
theorem dX8_lays_44 : decode cX8_lays 44 = .ok (.aload_n 0, 1) := by decide +kernel
theorem dX8_lays_45 : decode cX8_lays 45 = .ok (.getfield 7, 3) := by decide +kernel
theorem dX8_lays_48 : decode cX8_lays 48 = .ok (.iload 6, 2) := by decide +kernel
theorem dX8_lays_50 : decode cX8_lays 50 = .ok (.iconst 3, 1) := by decide +kernel
theorem dX8_lays_51 : decode cX8_lays 51 = .ok (.iadd, 1) := by decide +kernel
theorem dX8_lays_52 : decode cX8_lays 52 = .ok (.bipush (-9), 2) := by decide +kernel
theorem dX8_lays_54 : decode cX8_lays 54 = .ok (.iastore, 1) := by decide +kernel
theorem dX8_lays_55 : decode cX8_lays 55 = .ok (.aload_n 0, 1) := by decide +kernel
theorem dX8_lays_56 : decode cX8_lays 56 = .ok (.getfield 7, 3) := by decide +kernel
theorem dX8_lays_59 : decode cX8_lays 59 = .ok (.iload 6, 2) := by decide +kernel
theorem dX8_lays_61 : decode cX8_lays 61 = .ok (.iconst 4, 1) := by decide +kernel
theorem dX8_lays_62 : decode cX8_lays 62 = .ok (.iadd, 1) := by decide +kernel
theorem dX8_lays_63 : decode cX8_lays 63 = .ok (.iload 5, 2) := by decide +kernel
theorem dX8_lays_65 : decode cX8_lays 65 = .ok (.iastore, 1) := by decide +kernel
theorem dX8_lays_66 : decode cX8_lays 66 = .ok (.return_, 1) := by decide +kernel
theorem dX8_joins_0 : decode cX8_joins 0 = .ok (.aload_n 0, 1) := by decide +kernel
theorem dX8_joins_1 : decode cX8_joins 1 = .ok (.getfield 7, 3) := by decide +kernel
theorem dX8_joins_4 : decode cX8_joins 4 = .ok (.bipush 57, 2) := by decide +kernel
theorem dX8_joins_6 : decode cX8_joins 6 = .ok (.aload_n 0, 1) := by decide +kernel
theorem dX8_joins_7 : decode cX8_joins 7 = .ok (.getfield 7, 3) := by decide +kernel
theorem dX8_joins_10 : decode cX8_joins 10 = .ok (.bipush 8, 2) := by decide +kernel
theorem dX8_joins_12 : decode cX8_joins 12 = .ok (.iaload, 1) := by decide +kernel
theorem dX8_joins_13 : decode cX8_joins 13 = .ok (.iadd, 1) := by decide +kernel
theorem dX8_joins_14 : decode cX8_joins 14 = .ok (.iload_n 1, 1) := by decide +kernel
theorem dX8_joins_15 : decode cX8_joins 15 = .ok (.iastore, 1) := by decide +kernel
theorem dX8_joins_16 : decode cX8_joins 16 = .ok (.aload_n 0, 1) := by decide +kernel
theorem dX8_joins_17 : decode cX8_joins 17 = .ok (.getfield 7, 3) := by decide +kernel
theorem dX8_joins_20 : decode cX8_joins 20 = .ok (.bipush 8, 2) := by decide +kernel
theorem dX8_joins_22 : decode cX8_joins 22 = .ok (.dup2, 1) := by decide +kernel
theorem dX8_joins_23 : decode cX8_joins 23 = .ok (.iaload, 1) := by decide +kernel
theorem dX8_joins_24 : decode cX8_joins 24 = .ok (.iconst 1, 1) := by decide +kernel
theorem dX8_joins_25 : decode cX8_joins 25 = .ok (.iadd, 1) := by decide +kernel
theorem dX8_joins_26 : decode cX8_joins 26 = .ok (.iastore, 1) := by decide +kernel
theorem dX8_joins_27 : decode cX8_joins 27 = .ok (.return_, 1) := by decide +kernel
set_option maxRecDepth 20000 in
theorem ggX8_laysInHalf_X8_lays : GoodIn wsX8_laysInHalf wsX8_lays := goodIn_r _ [6, 1, 7, 8, 9, 10, 11, 12, 13, 14, 15, 16, 17, 18] (by decide +kernel) (by decide +kernel)
set_option maxRecDepth 20000 in
theorem gX8_laysInHalf_X8_lays : GoodIn wsX8_laysInHalf (wsV RX8 64 RX8 yX8_lays wsX8_lays) := goodIn_app (goodIn_of _ (by decide +kernel)) ggX8_laysInHalf_X8_lays
theorem dX8_laysInHalf_0 : decode cX8_laysInHalf 0 = .ok (.bipush 64, 2) := by decide +kernel
theorem dX8_laysInHalf_2 : decode cX8_laysInHalf 2 = .ok (.aload_n 0, 1) := by decide +kernel
theorem dX8_laysInHalf_3 : decode cX8_laysInHalf 3 = .ok (.getfield 7, 3) := by decide +kernel
theorem dX8_laysInHalf_6 : decode cX8_laysInHalf 6 = .ok (.iconst 3, 1) := by decide +kernel
theorem dX8_laysInHalf_7 : decode cX8_laysInHalf 7 = .ok (.iaload, 1) := by decide +kernel
theorem dX8_laysInHalf_8 : decode cX8_laysInHalf 8 = .ok (.imul, 1) := by decide +kernel
theorem dX8_laysInHalf_9 : decode cX8_laysInHalf 9 = .ok (.aload_n 0, 1) := by decide +kernel
theorem dX8_laysInHalf_10 : decode cX8_laysInHalf 10 = .ok (.getfield 7, 3) := by decide +kernel
theorem dX8_laysInHalf_13 : decode cX8_laysInHalf 13 = .ok (.iconst 4, 1) := by decide +kernel
theorem dX8_laysInHalf_14 : decode cX8_laysInHalf 14 = .ok (.aload_n 0, 1) := by decide +kernel
theorem dX8_laysInHalf_15 : decode cX8_laysInHalf 15 = .ok (.getfield 7, 3) := by decide +kernel
theorem dX8_laysInHalf_18 : decode cX8_laysInHalf 18 = .ok (.iconst 3, 1) := by decide +kernel
theorem dX8_laysInHalf_19 : decode cX8_laysInHalf 19 = .ok (.iaload, 1) := by decide +kernel
theorem dX8_laysInHalf_20 : decode cX8_laysInHalf 20 = .ok (.iadd, 1) := by decide +kernel
theorem dX8_laysInHalf_21 : decode cX8_laysInHalf 21 = .ok (.iaload, 1) := by decide +kernel
theorem dX8_laysInHalf_22 : decode cX8_laysInHalf 22 = .ok (.iadd, 1) := by decide +kernel
theorem dX8_laysInHalf_23 : decode cX8_laysInHalf 23 = .ok (.istore 4, 2) := by decide +kernel
theorem dX8_laysInHalf_25 : decode cX8_laysInHalf 25 = .ok (.aload_n 0, 1) := by decide +kernel
theorem dX8_laysInHalf_26 : decode cX8_laysInHalf 26 = .ok (.iload 4, 2) := by decide +kernel
theorem dX8_laysInHalf_28 : decode cX8_laysInHalf 28 = .ok (.iload_n 1, 1) := by decide +kernel
theorem dX8_laysInHalf_29 : decode cX8_laysInHalf 29 = .ok (.iload_n 2, 1) := by decide +kernel
theorem dX8_laysInHalf_30 : decode cX8_laysInHalf 30 = .ok (.iload_n 3, 1) := by decide +kernel
theorem dX8_laysInHalf_31 : decode cX8_laysInHalf 31 = .ok (.iconst 0, 1) := by decide +kernel
theorem dX8_laysInHalf_32 : decode cX8_laysInHalf 32 = .ok (.invokevirtual 64, 3) := by decide +kernel
theorem dX8_laysInHalf_35 : decode cX8_laysInHalf 35 = .ok (.aload_n 0, 1) := by decide +kernel
theorem dX8_laysInHalf_36 : decode cX8_laysInHalf 36 = .ok (.getfield 7, 3) := by decide +kernel
theorem dX8_laysInHalf_39 : decode cX8_laysInHalf 39 = .ok (.iconst 4, 1) := by decide +kernel
theorem dX8_laysInHalf_40 : decode cX8_laysInHalf 40 = .ok (.aload_n 0, 1) := by decide +kernel
theorem dX8_laysInHalf_41 : decode cX8_laysInHalf 41 = .ok (.getfield 7, 3) := by decide +kernel
theorem dX8_laysInHalf_44 : decode cX8_laysInHalf 44 = .ok (.iconst 3, 1) := by decide +kernel
theorem dX8_laysInHalf_45 : decode cX8_laysInHalf 45 = .ok (.iaload, 1) := by decide +kernel
theorem dX8_laysInHalf_46 : decode cX8_laysInHalf 46 = .ok (.iadd, 1) := by decide +kernel
theorem dX8_laysInHalf_47 : decode cX8_laysInHalf 47 = .ok (.dup2, 1) := by decide +kernel
theorem dX8_laysInHalf_48 : decode cX8_laysInHalf 48 = .ok (.iaload, 1) := by decide +kernel
theorem dX8_laysInHalf_49 : decode cX8_laysInHalf 49 = .ok (.aload_n 0, 1) := by decide +kernel
theorem dX8_laysInHalf_50 : decode cX8_laysInHalf 50 = .ok (.getfield 7, 3) := by decide +kernel
theorem dX8_laysInHalf_53 : decode cX8_laysInHalf 53 = .ok (.bipush 17, 2) := by decide +kernel
theorem dX8_laysInHalf_55 : decode cX8_laysInHalf 55 = .ok (.iload_n 1, 1) := by decide +kernel
theorem dX8_laysInHalf_56 : decode cX8_laysInHalf 56 = .ok (.iadd, 1) := by decide +kernel
theorem dX8_laysInHalf_57 : decode cX8_laysInHalf 57 = .ok (.iaload, 1) := by decide +kernel
theorem dX8_laysInHalf_58 : decode cX8_laysInHalf 58 = .ok (.iadd, 1) := by decide +kernel
theorem dX8_laysInHalf_59 : decode cX8_laysInHalf 59 = .ok (.iastore, 1) := by decide +kernel
theorem dX8_laysInHalf_60 : decode cX8_laysInHalf 60 = .ok (.iload 4, 2) := by decide +kernel
theorem dX8_laysInHalf_62 : decode cX8_laysInHalf 62 = .ok (.ireturn, 1) := by decide +kernel
set_option maxRecDepth 20000 in
theorem ggX8_carries_X8_ofCopy : GoodIn wsX8_carries wsX8_ofCopy := goodIn_r _ [6, 1, 22, 23, 24, 25, 26, 27, 28, 29, 30, 31, 32, 33] (by decide +kernel) (by decide +kernel)
set_option maxRecDepth 20000 in
theorem gX8_carries_X8_ofCopy : GoodIn wsX8_carries (wsV RX8 44 RX8 yX8_ofCopy wsX8_ofCopy) := goodIn_app (goodIn_of _ (by decide +kernel)) ggX8_carries_X8_ofCopy
set_option maxRecDepth 20000 in
theorem ggX8_carries_X8_laysInHalf : GoodIn wsX8_carries wsX8_laysInHalf := goodIn_r _ [10, 1, 11, 12, 13, 5, 14, 22, 23, 24, 25, 26, 27, 28, 29, 30, 31, 32, 33] (by decide +kernel) (by decide +kernel)
set_option maxRecDepth 20000 in
theorem gX8_carries_X8_laysInHalf : GoodIn wsX8_carries (wsV RX8 68 RX8 yX8_laysInHalf wsX8_laysInHalf) := goodIn_app (goodIn_of _ (by decide +kernel)) ggX8_carries_X8_laysInHalf
set_option maxRecDepth 20000 in
theorem ggX8_carries_X8_joins : GoodIn wsX8_carries wsX8_joins := goodIn_r _ [18, 1, 22, 23, 24, 25, 26, 27, 28, 29, 30, 31, 32, 33] (by decide +kernel) (by decide +kernel)
set_option maxRecDepth 20000 in
theorem gX8_carries_X8_joins : GoodIn wsX8_carries (wsV RX8 72 RX8 yX8_joins wsX8_joins) := goodIn_app (goodIn_of _ (by decide +kernel)) ggX8_carries_X8_joins
set_option maxRecDepth 20000 in
theorem ggX8_carries_X8_address : GoodIn wsX8_carries wsX8_address := goodIn_r _ [21] (by decide +kernel) (by decide +kernel)
set_option maxRecDepth 20000 in
theorem gX8_carries_X8_address : GoodIn wsX8_carries (va_wsS RX8 76 yX8_address wsX8_address) := goodIn_app (goodIn_of _ (by decide +kernel)) ggX8_carries_X8_address
theorem dX8_carries_0 : decode cX8_carries 0 = .ok (.aload_n 0, 1) := by decide +kernel
theorem dX8_carries_1 : decode cX8_carries 1 = .ok (.aload_n 0, 1) := by decide +kernel
theorem dX8_carries_2 : decode cX8_carries 2 = .ok (.iload_n 1, 1) := by decide +kernel
theorem dX8_carries_3 : decode cX8_carries 3 = .ok (.iconst 0, 1) := by decide +kernel
theorem dX8_carries_4 : decode cX8_carries 4 = .ok (.invokevirtual 44, 3) := by decide +kernel
theorem dX8_carries_7 : decode cX8_carries 7 = .ok (.iconst 1, 1) := by decide +kernel
theorem dX8_carries_8 : decode cX8_carries 8 = .ok (.isub, 1) := by decide +kernel
theorem dX8_carries_9 : decode cX8_carries 9 = .ok (.aload_n 0, 1) := by decide +kernel
theorem dX8_carries_10 : decode cX8_carries 10 = .ok (.iload_n 1, 1) := by decide +kernel
theorem dX8_carries_11 : decode cX8_carries 11 = .ok (.iconst 1, 1) := by decide +kernel
theorem dX8_carries_12 : decode cX8_carries 12 = .ok (.invokevirtual 44, 3) := by decide +kernel
theorem dX8_carries_15 : decode cX8_carries 15 = .ok (.aload_n 0, 1) := by decide +kernel
theorem dX8_carries_16 : decode cX8_carries 16 = .ok (.iload_n 1, 1) := by decide +kernel
theorem dX8_carries_17 : decode cX8_carries 17 = .ok (.iconst 2, 1) := by decide +kernel
theorem dX8_carries_18 : decode cX8_carries 18 = .ok (.invokevirtual 44, 3) := by decide +kernel
theorem dX8_carries_21 : decode cX8_carries 21 = .ok (.invokevirtual 68, 3) := by decide +kernel
theorem dX8_carries_24 : decode cX8_carries 24 = .ok (.istore_n 2, 1) := by decide +kernel
theorem dX8_carries_25 : decode cX8_carries 25 = .ok (.aload_n 0, 1) := by decide +kernel
theorem dX8_carries_26 : decode cX8_carries 26 = .ok (.iload_n 2, 1) := by decide +kernel
theorem dX8_carries_27 : decode cX8_carries 27 = .ok (.invokevirtual 72, 3) := by decide +kernel
theorem dX8_carries_30 : decode cX8_carries 30 = .ok (.aload_n 0, 1) := by decide +kernel
theorem dX8_carries_31 : decode cX8_carries 31 = .ok (.getfield 7, 3) := by decide +kernel
theorem dX8_carries_34 : decode cX8_carries 34 = .ok (.sipush 185, 3) := by decide +kernel
theorem dX8_carries_37 : decode cX8_carries 37 = .ok (.iconst 5, 1) := by decide +kernel
theorem dX8_carries_38 : decode cX8_carries 38 = .ok (.iload_n 1, 1) := by decide +kernel
theorem dX8_carries_39 : decode cX8_carries 39 = .ok (.imul, 1) := by decide +kernel
theorem dX8_carries_40 : decode cX8_carries 40 = .ok (.iadd, 1) := by decide +kernel
theorem dX8_carries_41 : decode cX8_carries 41 = .ok (.iconst 3, 1) := by decide +kernel
theorem dX8_carries_42 : decode cX8_carries 42 = .ok (.iadd, 1) := by decide +kernel
theorem dX8_carries_43 : decode cX8_carries 43 = .ok (.iload_n 2, 1) := by decide +kernel
theorem dX8_carries_44 : decode cX8_carries 44 = .ok (.invokestatic 76, 3) := by decide +kernel
theorem dX8_carries_47 : decode cX8_carries 47 = .ok (.iastore, 1) := by decide +kernel
theorem dX8_carries_48 : decode cX8_carries 48 = .ok (.iload_n 2, 1) := by decide +kernel
theorem dX8_carries_49 : decode cX8_carries 49 = .ok (.invokestatic 76, 3) := by decide +kernel
theorem dX8_carries_52 : decode cX8_carries 52 = .ok (.ireturn, 1) := by decide +kernel
set_option maxRecDepth 20000 in
theorem ggX8_reads_X8_isMoving : GoodIn wsX8_reads wsX8_isMoving := goodIn_r _ [6, 1, 37, 38, 39, 40, 41, 42, 43, 44, 45, 46, 47, 48] (by decide +kernel) (by decide +kernel)
set_option maxRecDepth 20000 in
theorem gX8_reads_X8_isMoving : GoodIn wsX8_reads (wsV RX8 56 RX8 yX8_isMoving wsX8_isMoving) := goodIn_app (goodIn_of _ (by decide +kernel)) ggX8_reads_X8_isMoving
set_option maxRecDepth 20000 in
theorem ggX8_reads_X8_cell : GoodIn wsX8_reads wsX8_cell := goodIn_r _ [9] (by decide +kernel) (by decide +kernel)
set_option maxRecDepth 20000 in
theorem gX8_reads_X8_cell : GoodIn wsX8_reads (va_wsS RX8 79 yX8_cell wsX8_cell) := goodIn_app (goodIn_of _ (by decide +kernel)) ggX8_reads_X8_cell
set_option maxRecDepth 20000 in
theorem ggX8_reads_X8_old : GoodIn wsX8_reads wsX8_old := goodIn_r _ [13, 1, 37, 38, 39, 40, 41, 42, 43, 44, 45, 46, 47, 48] (by decide +kernel) (by decide +kernel)
set_option maxRecDepth 20000 in
theorem gX8_reads_X8_old : GoodIn wsX8_reads (wsV RX8 52 RX8 yX8_old wsX8_old) := goodIn_app (goodIn_of _ (by decide +kernel)) ggX8_reads_X8_old
set_option maxRecDepth 20000 in
theorem ggX8_reads_X8_ofCopy : GoodIn wsX8_reads wsX8_ofCopy := goodIn_r _ [17, 1, 37, 38, 39, 40, 41, 42, 43, 44, 45, 46, 47, 48] (by decide +kernel) (by decide +kernel)
set_option maxRecDepth 20000 in
theorem gX8_reads_X8_ofCopy : GoodIn wsX8_reads (wsV RX8 44 RX8 yX8_ofCopy wsX8_ofCopy) := goodIn_app (goodIn_of _ (by decide +kernel)) ggX8_reads_X8_ofCopy
set_option maxRecDepth 20000 in
theorem ggX8_reads_X8_carries : GoodIn wsX8_reads wsX8_carries := goodIn_r _ [21, 1, 14, 15, 16, 5, 17, 22, 23, 24, 25, 26, 27, 28, 29, 30, 31, 32, 33, 34, 35, 36, 37, 38, 39, 40, 41, 42, 43, 44, 45, 46, 47, 48] (by decide +kernel) (by decide +kernel)
set_option maxRecDepth 20000 in
theorem gX8_reads_X8_carries : GoodIn wsX8_reads (wsV RX8 82 RX8 yX8_carries wsX8_carries) := goodIn_app (goodIn_of _ (by decide +kernel)) ggX8_reads_X8_carries
set_option maxRecDepth 20000 in
theorem ggX8_reads_X8_joins : GoodIn wsX8_reads wsX8_joins := goodIn_r _ [33, 1, 37, 38, 39, 40, 41, 42, 43, 44, 45, 46, 47, 48] (by decide +kernel) (by decide +kernel)
set_option maxRecDepth 20000 in
theorem gX8_reads_X8_joins : GoodIn wsX8_reads (wsV RX8 72 RX8 yX8_joins wsX8_joins) := goodIn_app (goodIn_of _ (by decide +kernel)) ggX8_reads_X8_joins
theorem dX8_reads_0 : decode cX8_reads 0 = .ok (.aload_n 0, 1) := by decide +kernel
theorem dX8_reads_1 : decode cX8_reads 1 = .ok (.getfield 7, 3) := by decide +kernel
theorem dX8_reads_4 : decode cX8_reads 4 = .ok (.iload_n 1, 1) := by decide +kernel
theorem dX8_reads_5 : decode cX8_reads 5 = .ok (.iaload, 1) := by decide +kernel
theorem dX8_reads_6 : decode cX8_reads 6 = .ok (.istore_n 2, 1) := by decide +kernel
theorem dX8_reads_7 : decode cX8_reads 7 = .ok (.iload_n 2, 1) := by decide +kernel
theorem dX8_reads_8 : decode cX8_reads 8 = .ok (.bipush (-9), 2) := by decide +kernel
theorem dX8_reads_10 : decode cX8_reads 10 = .ok (.if_icmp .eq 10, 3) := by decide +kernel
theorem dX8_reads_13 : decode cX8_reads 13 = .ok (.aload_n 0, 1) := by decide +kernel
theorem dX8_reads_14 : decode cX8_reads 14 = .ok (.invokevirtual 56, 3) := by decide +kernel
theorem dX8_reads_17 : decode cX8_reads 17 = .ok (.ifCond .ne 4, 3) := by decide +kernel
theorem dX8_reads_20 : decode cX8_reads 20 = .ok (.return_, 1) := by decide +kernel
theorem dX8_reads_21 : decode cX8_reads 21 = .ok (.iload_n 2, 1) := by decide +kernel
theorem dX8_reads_22 : decode cX8_reads 22 = .ok (.invokestatic 79, 3) := by decide +kernel
theorem dX8_reads_25 : decode cX8_reads 25 = .ok (.istore_n 3, 1) := by decide +kernel
theorem dX8_reads_26 : decode cX8_reads 26 = .ok (.iload_n 2, 1) := by decide +kernel
theorem dX8_reads_27 : decode cX8_reads 27 = .ok (.bipush 100, 2) := by decide +kernel
theorem dX8_reads_29 : decode cX8_reads 29 = .ok (.idiv, 1) := by decide +kernel
theorem dX8_reads_30 : decode cX8_reads 30 = .ok (.aload_n 0, 1) := by decide +kernel
theorem dX8_reads_31 : decode cX8_reads 31 = .ok (.invokevirtual 52, 3) := by decide +kernel
theorem dX8_reads_34 : decode cX8_reads 34 = .ok (.if_icmp .ne 37, 3) := by decide +kernel
theorem dX8_reads_37 : decode cX8_reads 37 = .ok (.aload_n 0, 1) := by decide +kernel
theorem dX8_reads_38 : decode cX8_reads 38 = .ok (.getfield 7, 3) := by decide +kernel
theorem dX8_reads_41 : decode cX8_reads 41 = .ok (.iload_n 1, 1) := by decide +kernel
theorem dX8_reads_42 : decode cX8_reads 42 = .ok (.aload_n 0, 1) := by decide +kernel
theorem dX8_reads_43 : decode cX8_reads 43 = .ok (.iload_n 3, 1) := by decide +kernel
theorem dX8_reads_44 : decode cX8_reads 44 = .ok (.iconst 3, 1) := by decide +kernel
theorem dX8_reads_45 : decode cX8_reads 45 = .ok (.invokevirtual 44, 3) := by decide +kernel
theorem dX8_reads_48 : decode cX8_reads 48 = .ok (.bipush (-9), 2) := by decide +kernel
theorem dX8_reads_50 : decode cX8_reads 50 = .ok (.if_icmp .eq 12, 3) := by decide +kernel
theorem dX8_reads_53 : decode cX8_reads 53 = .ok (.aload_n 0, 1) := by decide +kernel
theorem dX8_reads_54 : decode cX8_reads 54 = .ok (.iload_n 3, 1) := by decide +kernel
theorem dX8_reads_55 : decode cX8_reads 55 = .ok (.iconst 3, 1) := by decide +kernel
theorem dX8_reads_56 : decode cX8_reads 56 = .ok (.invokevirtual 44, 3) := by decide +kernel
theorem dX8_reads_59 : decode cX8_reads 59 = .ok (.goto 8, 3) := by decide +kernel
theorem dX8_reads_62 : decode cX8_reads 62 = .ok (.aload_n 0, 1) := by decide +kernel
theorem dX8_reads_63 : decode cX8_reads 63 = .ok (.iload_n 3, 1) := by decide +kernel
theorem dX8_reads_64 : decode cX8_reads 64 = .ok (.invokevirtual 82, 3) := by decide +kernel
theorem dX8_reads_67 : decode cX8_reads 67 = .ok (.iastore, 1) := by decide +kernel
theorem dX8_reads_68 : decode cX8_reads 68 = .ok (.goto 40, 3) := by decide +kernel
theorem dX8_reads_71 : decode cX8_reads 71 = .ok (.iload_n 2, 1) := by decide +kernel
theorem dX8_reads_72 : decode cX8_reads 72 = .ok (.bipush 100, 2) := by decide +kernel
theorem dX8_reads_74 : decode cX8_reads 74 = .ok (.idiv, 1) := by decide +kernel
theorem dX8_reads_75 : decode cX8_reads 75 = .ok (.iconst 2, 1) := by decide +kernel
theorem dX8_reads_76 : decode cX8_reads 76 = .ok (.if_icmp .ne 32, 3) := by decide +kernel
theorem dX8_reads_79 : decode cX8_reads 79 = .ok (.aload_n 0, 1) := by decide +kernel
theorem dX8_reads_80 : decode cX8_reads 80 = .ok (.iload_n 3, 1) := by decide +kernel
theorem dX8_reads_81 : decode cX8_reads 81 = .ok (.iconst 4, 1) := by decide +kernel
theorem dX8_reads_82 : decode cX8_reads 82 = .ok (.invokevirtual 44, 3) := by decide +kernel
theorem dX8_reads_85 : decode cX8_reads 85 = .ok (.ifCond .ne 23, 3) := by decide +kernel
theorem dX8_reads_88 : decode cX8_reads 88 = .ok (.aload_n 0, 1) := by decide +kernel
theorem dX8_reads_89 : decode cX8_reads 89 = .ok (.getfield 7, 3) := by decide +kernel
theorem dX8_reads_92 : decode cX8_reads 92 = .ok (.sipush 185, 3) := by decide +kernel
theorem dX8_reads_95 : decode cX8_reads 95 = .ok (.iconst 5, 1) := by decide +kernel
theorem dX8_reads_96 : decode cX8_reads 96 = .ok (.iload_n 3, 1) := by decide +kernel
theorem dX8_reads_97 : decode cX8_reads 97 = .ok (.imul, 1) := by decide +kernel
theorem dX8_reads_98 : decode cX8_reads 98 = .ok (.iadd, 1) := by decide +kernel
theorem dX8_reads_99 : decode cX8_reads 99 = .ok (.iconst 4, 1) := by decide +kernel
theorem dX8_reads_100 : decode cX8_reads 100 = .ok (.iadd, 1) := by decide +kernel
theorem dX8_reads_101 : decode cX8_reads 101 = .ok (.iconst 1, 1) := by decide +kernel
theorem dX8_reads_102 : decode cX8_reads 102 = .ok (.iastore, 1) := by decide +kernel
theorem dX8_reads_103 : decode cX8_reads 103 = .ok (.aload_n 0, 1) := by decide +kernel
theorem dX8_reads_104 : decode cX8_reads 104 = .ok (.iload_n 3, 1) := by decide +kernel
theorem dX8_reads_105 : decode cX8_reads 105 = .ok (.invokevirtual 72, 3) := by decide +kernel
theorem dX8_reads_108 : decode cX8_reads 108 = .ok (.return_, 1) := by decide +kernel
set_option maxRecDepth 20000 in
theorem ggX8_ends_X8_old : GoodIn wsX8_ends wsX8_old := goodIn_r _ [6, 1, 11, 12, 13, 14, 15, 16, 17, 18, 19, 20, 21, 22] (by decide +kernel) (by decide +kernel)
set_option maxRecDepth 20000 in
theorem gX8_ends_X8_old : GoodIn wsX8_ends (wsV RX8 52 RX8 yX8_old wsX8_old) := goodIn_app (goodIn_of _ (by decide +kernel)) ggX8_ends_X8_old
set_option maxRecDepth 20000 in
theorem ggX8_ends_X8_ofCopy : GoodIn wsX8_ends wsX8_ofCopy := goodIn_r _ [10, 1, 11, 12, 13, 14, 15, 16, 17, 18, 19, 20, 21, 22] (by decide +kernel) (by decide +kernel)
set_option maxRecDepth 20000 in
theorem gX8_ends_X8_ofCopy : GoodIn wsX8_ends (wsV RX8 44 RX8 yX8_ofCopy wsX8_ofCopy) := goodIn_app (goodIn_of _ (by decide +kernel)) ggX8_ends_X8_ofCopy
theorem dX8_ends_0 : decode cX8_ends 0 = .ok (.aload_n 0, 1) := by decide +kernel
theorem dX8_ends_1 : decode cX8_ends 1 = .ok (.getfield 7, 3) := by decide +kernel
theorem dX8_ends_4 : decode cX8_ends 4 = .ok (.bipush 8, 2) := by decide +kernel
theorem dX8_ends_6 : decode cX8_ends 6 = .ok (.iaload, 1) := by decide +kernel
theorem dX8_ends_7 : decode cX8_ends 7 = .ok (.ifCond .le 4, 3) := by decide +kernel
theorem dX8_ends_10 : decode cX8_ends 10 = .ok (.return_, 1) := by decide +kernel
theorem dX8_ends_11 : decode cX8_ends 11 = .ok (.iconst 0, 1) := by decide +kernel
theorem dX8_ends_12 : decode cX8_ends 12 = .ok (.istore_n 1, 1) := by decide +kernel
theorem dX8_ends_13 : decode cX8_ends 13 = .ok (.iload_n 1, 1) := by decide +kernel
theorem dX8_ends_14 : decode cX8_ends 14 = .ok (.sipush 188, 3) := by decide +kernel
theorem dX8_ends_17 : decode cX8_ends 17 = .ok (.if_icmp .ge 85, 3) := by decide +kernel
theorem dX8_ends_20 : decode cX8_ends 20 = .ok (.iload_n 1, 1) := by decide +kernel
theorem dX8_ends_21 : decode cX8_ends 21 = .ok (.bipush 64, 2) := by decide +kernel
theorem dX8_ends_23 : decode cX8_ends 23 = .ok (.idiv, 1) := by decide +kernel
theorem dX8_ends_24 : decode cX8_ends 24 = .ok (.aload_n 0, 1) := by decide +kernel
theorem dX8_ends_25 : decode cX8_ends 25 = .ok (.invokevirtual 52, 3) := by decide +kernel
theorem dX8_ends_28 : decode cX8_ends 28 = .ok (.if_icmp .eq 19, 3) := by decide +kernel
theorem dX8_ends_31 : decode cX8_ends 31 = .ok (.iload_n 1, 1) := by decide +kernel
theorem dX8_ends_32 : decode cX8_ends 32 = .ok (.sipush 128, 3) := by decide +kernel
theorem dX8_ends_35 : decode cX8_ends 35 = .ok (.if_icmp .lt 16, 3) := by decide +kernel
theorem dX8_ends_38 : decode cX8_ends 38 = .ok (.aload_n 0, 1) := by decide +kernel
theorem dX8_ends_39 : decode cX8_ends 39 = .ok (.iload_n 1, 1) := by decide +kernel
theorem dX8_ends_40 : decode cX8_ends 40 = .ok (.iconst 4, 1) := by decide +kernel
theorem dX8_ends_41 : decode cX8_ends 41 = .ok (.invokevirtual 44, 3) := by decide +kernel
theorem dX8_ends_44 : decode cX8_ends 44 = .ok (.ifCond .ne 7, 3) := by decide +kernel
theorem dX8_ends_47 : decode cX8_ends 47 = .ok (.iconst 1, 1) := by decide +kernel
theorem dX8_ends_48 : decode cX8_ends 48 = .ok (.goto 4, 3) := by decide +kernel
theorem dX8_ends_51 : decode cX8_ends 51 = .ok (.iconst 0, 1) := by decide +kernel
theorem dX8_ends_52 : decode cX8_ends 52 = .ok (.istore_n 2, 1) := by decide +kernel
theorem dX8_ends_53 : decode cX8_ends 53 = .ok (.aload_n 0, 1) := by decide +kernel
theorem dX8_ends_54 : decode cX8_ends 54 = .ok (.getfield 7, 3) := by decide +kernel
theorem dX8_ends_57 : decode cX8_ends 57 = .ok (.sipush 185, 3) := by decide +kernel
theorem dX8_ends_60 : decode cX8_ends 60 = .ok (.iconst 5, 1) := by decide +kernel
theorem dX8_ends_61 : decode cX8_ends 61 = .ok (.iload_n 1, 1) := by decide +kernel
theorem dX8_ends_62 : decode cX8_ends 62 = .ok (.imul, 1) := by decide +kernel
theorem dX8_ends_63 : decode cX8_ends 63 = .ok (.iadd, 1) := by decide +kernel
theorem dX8_ends_64 : decode cX8_ends 64 = .ok (.iconst 0, 1) := by decide +kernel
theorem dX8_ends_65 : decode cX8_ends 65 = .ok (.iadd, 1) := by decide +kernel
theorem dX8_ends_66 : decode cX8_ends 66 = .ok (.iload_n 2, 1) := by decide +kernel
theorem dX8_ends_67 : decode cX8_ends 67 = .ok (.ifCond .eq 7, 3) := by decide +kernel
theorem dX8_ends_70 : decode cX8_ends 70 = .ok (.iconst 0, 1) := by decide +kernel
theorem dX8_ends_71 : decode cX8_ends 71 = .ok (.goto 9, 3) := by decide +kernel
theorem dX8_ends_74 : decode cX8_ends 74 = .ok (.aload_n 0, 1) := by decide +kernel
theorem dX8_ends_75 : decode cX8_ends 75 = .ok (.iload_n 1, 1) := by decide +kernel
theorem dX8_ends_76 : decode cX8_ends 76 = .ok (.iconst 0, 1) := by decide +kernel
theorem dX8_ends_77 : decode cX8_ends 77 = .ok (.invokevirtual 44, 3) := by decide +kernel
theorem dX8_ends_80 : decode cX8_ends 80 = .ok (.iastore, 1) := by decide +kernel
theorem dX8_ends_81 : decode cX8_ends 81 = .ok (.aload_n 0, 1) := by decide +kernel
theorem dX8_ends_82 : decode cX8_ends 82 = .ok (.getfield 7, 3) := by decide +kernel
theorem dX8_ends_85 : decode cX8_ends 85 = .ok (.sipush 185, 3) := by decide +kernel
theorem dX8_ends_88 : decode cX8_ends 88 = .ok (.iconst 5, 1) := by decide +kernel
theorem dX8_ends_89 : decode cX8_ends 89 = .ok (.iload_n 1, 1) := by decide +kernel
theorem dX8_ends_90 : decode cX8_ends 90 = .ok (.imul, 1) := by decide +kernel
theorem dX8_ends_91 : decode cX8_ends 91 = .ok (.iadd, 1) := by decide +kernel
theorem dX8_ends_92 : decode cX8_ends 92 = .ok (.iconst 4, 1) := by decide +kernel
theorem dX8_ends_93 : decode cX8_ends 93 = .ok (.iadd, 1) := by decide +kernel
theorem dX8_ends_94 : decode cX8_ends 94 = .ok (.iconst 0, 1) := by decide +kernel
theorem dX8_ends_95 : decode cX8_ends 95 = .ok (.iastore, 1) := by decide +kernel
theorem dX8_ends_96 : decode cX8_ends 96 = .ok (.iinc 1 1, 3) := by decide +kernel
theorem dX8_ends_99 : decode cX8_ends 99 = .ok (.goto (-86), 3) := by decide +kernel
theorem dX8_ends_102 : decode cX8_ends 102 = .ok (.aload_n 0, 1) := by decide +kernel
theorem dX8_ends_103 : decode cX8_ends 103 = .ok (.getfield 7, 3) := by decide +kernel
theorem dX8_ends_106 : decode cX8_ends 106 = .ok (.iconst 4, 1) := by decide +kernel
theorem dX8_ends_107 : decode cX8_ends 107 = .ok (.aload_n 0, 1) := by decide +kernel
theorem dX8_ends_108 : decode cX8_ends 108 = .ok (.invokevirtual 52, 3) := by decide +kernel
theorem dX8_ends_111 : decode cX8_ends 111 = .ok (.iadd, 1) := by decide +kernel
theorem dX8_ends_112 : decode cX8_ends 112 = .ok (.iconst 0, 1) := by decide +kernel
theorem dX8_ends_113 : decode cX8_ends 113 = .ok (.iastore, 1) := by decide +kernel
theorem dX8_ends_114 : decode cX8_ends 114 = .ok (.aload_n 0, 1) := by decide +kernel
theorem dX8_ends_115 : decode cX8_ends 115 = .ok (.getfield 7, 3) := by decide +kernel
theorem dX8_ends_118 : decode cX8_ends 118 = .ok (.iconst 2, 1) := by decide +kernel
theorem dX8_ends_119 : decode cX8_ends 119 = .ok (.iconst 0, 1) := by decide +kernel
theorem dX8_ends_120 : decode cX8_ends 120 = .ok (.iastore, 1) := by decide +kernel
theorem dX8_ends_121 : decode cX8_ends 121 = .ok (.aload_n 0, 1) := by decide +kernel
theorem dX8_ends_122 : decode cX8_ends 122 = .ok (.getfield 7, 3) := by decide +kernel
theorem dX8_ends_125 : decode cX8_ends 125 = .ok (.bipush 7, 2) := by decide +kernel
theorem dX8_ends_127 : decode cX8_ends 127 = .ok (.dup2, 1) := by decide +kernel
theorem dX8_ends_128 : decode cX8_ends 128 = .ok (.iaload, 1) := by decide +kernel
theorem dX8_ends_129 : decode cX8_ends 129 = .ok (.iconst 1, 1) := by decide +kernel
theorem dX8_ends_130 : decode cX8_ends 130 = .ok (.iadd, 1) := by decide +kernel
theorem dX8_ends_131 : decode cX8_ends 131 = .ok (.iastore, 1) := by decide +kernel
theorem dX8_ends_132 : decode cX8_ends 132 = .ok (.return_, 1) := by decide +kernel
set_option maxRecDepth 20000 in
theorem ggX8_begins_X8_old : GoodIn wsX8_begins wsX8_old := goodIn_r _ [6, 1, 45, 46, 47, 48, 49, 50, 51, 52, 53, 54, 55, 56] (by decide +kernel) (by decide +kernel)
set_option maxRecDepth 20000 in
theorem gX8_begins_X8_old : GoodIn wsX8_begins (wsV RX8 52 RX8 yX8_old wsX8_old) := goodIn_app (goodIn_of _ (by decide +kernel)) ggX8_begins_X8_old
set_option maxRecDepth 20000 in
theorem ggX8_begins_X8_reads : GoodIn wsX8_begins wsX8_reads := goodIn_r _ [10, 1, 11, 12, 13, 5, 14, 15, 16, 17, 2, 3, 4, 6, 18, 19, 20, 21, 22, 23, 24, 25, 26, 27, 28, 29, 30, 31, 32, 33, 34, 35, 36, 37, 38, 39, 40, 45, 46, 47, 48, 49, 50, 51, 52, 53, 54, 55, 56] (by decide +kernel) (by decide +kernel)
set_option maxRecDepth 20000 in
theorem gX8_begins_X8_reads : GoodIn wsX8_begins (wsV RX8 85 RX8 yX8_reads wsX8_reads) := goodIn_app (goodIn_of _ (by decide +kernel)) ggX8_begins_X8_reads
set_option maxRecDepth 20000 in
theorem ggX8_begins_X8_ends : GoodIn wsX8_begins wsX8_ends := goodIn_r _ [44, 1, 2, 3, 4, 5, 6, 18, 19, 20, 21, 45, 46, 47, 48, 49, 50, 51, 52, 53, 54, 55, 56] (by decide +kernel) (by decide +kernel)
set_option maxRecDepth 20000 in
theorem gX8_begins_X8_ends : GoodIn wsX8_begins (wsV RX8 88 RX8 yX8_ends wsX8_ends) := goodIn_app (goodIn_of _ (by decide +kernel)) ggX8_begins_X8_ends
theorem dX8_begins_0 : decode cX8_begins 0 = .ok (.aload_n 0, 1) := by decide +kernel
theorem dX8_begins_1 : decode cX8_begins 1 = .ok (.getfield 7, 3) := by decide +kernel
theorem dX8_begins_4 : decode cX8_begins 4 = .ok (.iconst 3, 1) := by decide +kernel
theorem dX8_begins_5 : decode cX8_begins 5 = .ok (.aload_n 0, 1) := by decide +kernel
theorem dX8_begins_6 : decode cX8_begins 6 = .ok (.invokevirtual 52, 3) := by decide +kernel
theorem dX8_begins_9 : decode cX8_begins 9 = .ok (.iastore, 1) := by decide +kernel
theorem dX8_begins_10 : decode cX8_begins 10 = .ok (.aload_n 0, 1) := by decide +kernel
theorem dX8_begins_11 : decode cX8_begins 11 = .ok (.getfield 7, 3) := by decide +kernel
theorem dX8_begins_14 : decode cX8_begins 14 = .ok (.iconst 2, 1) := by decide +kernel
theorem dX8_begins_15 : decode cX8_begins 15 = .ok (.iconst 1, 1) := by decide +kernel
theorem dX8_begins_16 : decode cX8_begins 16 = .ok (.iastore, 1) := by decide +kernel
theorem dX8_begins_17 : decode cX8_begins 17 = .ok (.iconst 0, 1) := by decide +kernel
theorem dX8_begins_18 : decode cX8_begins 18 = .ok (.istore_n 1, 1) := by decide +kernel
theorem dX8_begins_19 : decode cX8_begins 19 = .ok (.iload_n 1, 1) := by decide +kernel
theorem dX8_begins_20 : decode cX8_begins 20 = .ok (.bipush 8, 2) := by decide +kernel
theorem dX8_begins_22 : decode cX8_begins 22 = .ok (.if_icmp .ge 17, 3) := by decide +kernel
theorem dX8_begins_25 : decode cX8_begins 25 = .ok (.aload_n 0, 1) := by decide +kernel
theorem dX8_begins_26 : decode cX8_begins 26 = .ok (.bipush 9, 2) := by decide +kernel
theorem dX8_begins_28 : decode cX8_begins 28 = .ok (.iload_n 1, 1) := by decide +kernel
theorem dX8_begins_29 : decode cX8_begins 29 = .ok (.iadd, 1) := by decide +kernel
theorem dX8_begins_30 : decode cX8_begins 30 = .ok (.invokevirtual 85, 3) := by decide +kernel
theorem dX8_begins_33 : decode cX8_begins 33 = .ok (.iinc 1 1, 3) := by decide +kernel
theorem dX8_begins_36 : decode cX8_begins 36 = .ok (.goto (-17), 3) := by decide +kernel
theorem dX8_begins_39 : decode cX8_begins 39 = .ok (.aload_n 0, 1) := by decide +kernel
theorem dX8_begins_40 : decode cX8_begins 40 = .ok (.invokevirtual 88, 3) := by decide +kernel
theorem dX8_begins_43 : decode cX8_begins 43 = .ok (.return_, 1) := by decide +kernel
set_option maxRecDepth 20000 in
theorem ggX8_steps_X8_reads : GoodIn wsX8_steps wsX8_reads := goodIn_r _ [6, 1, 7, 8, 9, 5, 10, 11, 12, 13, 14, 15, 16, 17, 18, 19, 20, 21, 22, 23, 24, 25, 26, 27, 28, 29, 30, 31, 32, 33, 34, 35, 36, 37, 38, 39, 40, 45, 46, 47, 48, 49, 50, 51, 52, 53, 54, 55, 56] (by decide +kernel) (by decide +kernel)
set_option maxRecDepth 20000 in
theorem gX8_steps_X8_reads : GoodIn wsX8_steps (wsV RX8 85 RX8 yX8_reads wsX8_reads) := goodIn_app (goodIn_of _ (by decide +kernel)) ggX8_steps_X8_reads
set_option maxRecDepth 20000 in
theorem ggX8_steps_X8_ends : GoodIn wsX8_steps wsX8_ends := goodIn_r _ [44, 1, 14, 15, 16, 5, 17, 18, 19, 20, 21, 45, 46, 47, 48, 49, 50, 51, 52, 53, 54, 55, 56] (by decide +kernel) (by decide +kernel)
set_option maxRecDepth 20000 in
theorem gX8_steps_X8_ends : GoodIn wsX8_steps (wsV RX8 88 RX8 yX8_ends wsX8_ends) := goodIn_app (goodIn_of _ (by decide +kernel)) ggX8_steps_X8_ends
theorem dX8_steps_0 : decode cX8_steps 0 = .ok (.aload_n 0, 1) := by decide +kernel
theorem dX8_steps_1 : decode cX8_steps 1 = .ok (.getfield 7, 3) := by decide +kernel
theorem dX8_steps_4 : decode cX8_steps 4 = .ok (.bipush 57, 2) := by decide +kernel
theorem dX8_steps_6 : decode cX8_steps 6 = .ok (.iaload, 1) := by decide +kernel
theorem dX8_steps_7 : decode cX8_steps 7 = .ok (.istore_n 1, 1) := by decide +kernel
theorem dX8_steps_8 : decode cX8_steps 8 = .ok (.aload_n 0, 1) := by decide +kernel
theorem dX8_steps_9 : decode cX8_steps 9 = .ok (.getfield 7, 3) := by decide +kernel
theorem dX8_steps_12 : decode cX8_steps 12 = .ok (.bipush 8, 2) := by decide +kernel
theorem dX8_steps_14 : decode cX8_steps 14 = .ok (.dup2, 1) := by decide +kernel
theorem dX8_steps_15 : decode cX8_steps 15 = .ok (.iaload, 1) := by decide +kernel
theorem dX8_steps_16 : decode cX8_steps 16 = .ok (.iconst 1, 1) := by decide +kernel
theorem dX8_steps_17 : decode cX8_steps 17 = .ok (.isub, 1) := by decide +kernel
theorem dX8_steps_18 : decode cX8_steps 18 = .ok (.iastore, 1) := by decide +kernel
theorem dX8_steps_19 : decode cX8_steps 19 = .ok (.iconst 0, 1) := by decide +kernel
theorem dX8_steps_20 : decode cX8_steps 20 = .ok (.istore_n 2, 1) := by decide +kernel
theorem dX8_steps_21 : decode cX8_steps 21 = .ok (.iload_n 2, 1) := by decide +kernel
theorem dX8_steps_22 : decode cX8_steps 22 = .ok (.aload_n 0, 1) := by decide +kernel
theorem dX8_steps_23 : decode cX8_steps 23 = .ok (.getfield 7, 3) := by decide +kernel
theorem dX8_steps_26 : decode cX8_steps 26 = .ok (.bipush 8, 2) := by decide +kernel
theorem dX8_steps_28 : decode cX8_steps 28 = .ok (.iaload, 1) := by decide +kernel
theorem dX8_steps_29 : decode cX8_steps 29 = .ok (.if_icmp .ge 29, 3) := by decide +kernel
theorem dX8_steps_32 : decode cX8_steps 32 = .ok (.aload_n 0, 1) := by decide +kernel
theorem dX8_steps_33 : decode cX8_steps 33 = .ok (.getfield 7, 3) := by decide +kernel
theorem dX8_steps_36 : decode cX8_steps 36 = .ok (.bipush 57, 2) := by decide +kernel
theorem dX8_steps_38 : decode cX8_steps 38 = .ok (.iload_n 2, 1) := by decide +kernel
theorem dX8_steps_39 : decode cX8_steps 39 = .ok (.iadd, 1) := by decide +kernel
theorem dX8_steps_40 : decode cX8_steps 40 = .ok (.aload_n 0, 1) := by decide +kernel
theorem dX8_steps_41 : decode cX8_steps 41 = .ok (.getfield 7, 3) := by decide +kernel
theorem dX8_steps_44 : decode cX8_steps 44 = .ok (.bipush 57, 2) := by decide +kernel
theorem dX8_steps_46 : decode cX8_steps 46 = .ok (.iload_n 2, 1) := by decide +kernel
theorem dX8_steps_47 : decode cX8_steps 47 = .ok (.iadd, 1) := by decide +kernel
theorem dX8_steps_48 : decode cX8_steps 48 = .ok (.iconst 1, 1) := by decide +kernel
theorem dX8_steps_49 : decode cX8_steps 49 = .ok (.iadd, 1) := by decide +kernel
theorem dX8_steps_50 : decode cX8_steps 50 = .ok (.iaload, 1) := by decide +kernel
theorem dX8_steps_51 : decode cX8_steps 51 = .ok (.iastore, 1) := by decide +kernel
theorem dX8_steps_52 : decode cX8_steps 52 = .ok (.iinc 2 1, 3) := by decide +kernel
theorem dX8_steps_55 : decode cX8_steps 55 = .ok (.goto (-34), 3) := by decide +kernel
theorem dX8_steps_58 : decode cX8_steps 58 = .ok (.aload_n 0, 1) := by decide +kernel
theorem dX8_steps_59 : decode cX8_steps 59 = .ok (.sipush 185, 3) := by decide +kernel
theorem dX8_steps_62 : decode cX8_steps 62 = .ok (.iconst 5, 1) := by decide +kernel
theorem dX8_steps_63 : decode cX8_steps 63 = .ok (.iload_n 1, 1) := by decide +kernel
theorem dX8_steps_64 : decode cX8_steps 64 = .ok (.imul, 1) := by decide +kernel
theorem dX8_steps_65 : decode cX8_steps 65 = .ok (.iadd, 1) := by decide +kernel
theorem dX8_steps_66 : decode cX8_steps 66 = .ok (.iconst 1, 1) := by decide +kernel
theorem dX8_steps_67 : decode cX8_steps 67 = .ok (.iadd, 1) := by decide +kernel
theorem dX8_steps_68 : decode cX8_steps 68 = .ok (.invokevirtual 85, 3) := by decide +kernel
theorem dX8_steps_71 : decode cX8_steps 71 = .ok (.aload_n 0, 1) := by decide +kernel
theorem dX8_steps_72 : decode cX8_steps 72 = .ok (.sipush 185, 3) := by decide +kernel
theorem dX8_steps_75 : decode cX8_steps 75 = .ok (.iconst 5, 1) := by decide +kernel
theorem dX8_steps_76 : decode cX8_steps 76 = .ok (.iload_n 1, 1) := by decide +kernel
theorem dX8_steps_77 : decode cX8_steps 77 = .ok (.imul, 1) := by decide +kernel
theorem dX8_steps_78 : decode cX8_steps 78 = .ok (.iadd, 1) := by decide +kernel
theorem dX8_steps_79 : decode cX8_steps 79 = .ok (.iconst 1, 1) := by decide +kernel
theorem dX8_steps_80 : decode cX8_steps 80 = .ok (.iadd, 1) := by decide +kernel
theorem dX8_steps_81 : decode cX8_steps 81 = .ok (.iconst 1, 1) := by decide +kernel
theorem dX8_steps_82 : decode cX8_steps 82 = .ok (.iadd, 1) := by decide +kernel
theorem dX8_steps_83 : decode cX8_steps 83 = .ok (.invokevirtual 85, 3) := by decide +kernel
theorem dX8_steps_86 : decode cX8_steps 86 = .ok (.aload_n 0, 1) := by decide +kernel
theorem dX8_steps_87 : decode cX8_steps 87 = .ok (.invokevirtual 88, 3) := by decide +kernel
theorem dX8_steps_90 : decode cX8_steps 90 = .ok (.return_, 1) := by decide +kernel
set_option maxRecDepth 20000 in
theorem ggX8_stepsToEnd_X8_isMoving : GoodIn wsX8_stepsToEnd wsX8_isMoving := goodIn_r _ [5, 6, 49, 50, 51, 52, 53, 54, 55, 56, 57, 58, 59, 60] (by decide +kernel) (by decide +kernel)
set_option maxRecDepth 20000 in
theorem gX8_stepsToEnd_X8_isMoving : GoodIn wsX8_stepsToEnd (wsV RX8 56 RX8 yX8_isMoving wsX8_isMoving) := goodIn_app (goodIn_of _ (by decide +kernel)) ggX8_stepsToEnd_X8_isMoving
set_option maxRecDepth 20000 in
theorem ggX8_stepsToEnd_X8_steps : GoodIn wsX8_stepsToEnd wsX8_steps := goodIn_r _ [10, 6, 11, 12, 13, 4, 14, 1, 2, 3, 5, 15, 16, 17, 18, 19, 20, 21, 22, 23, 24, 25, 26, 27, 28, 29, 30, 31, 32, 33, 34, 35, 36, 37, 38, 39, 40, 41, 42, 43, 44, 45, 46, 47, 48, 49, 50, 51, 52, 53, 54, 55, 56, 57, 58, 59, 60] (by decide +kernel) (by decide +kernel)
set_option maxRecDepth 20000 in
theorem gX8_stepsToEnd_X8_steps : GoodIn wsX8_stepsToEnd (wsV RX8 91 RX8 yX8_steps wsX8_steps) := goodIn_app (goodIn_of _ (by decide +kernel)) ggX8_stepsToEnd_X8_steps
theorem dX8_stepsToEnd_0 : decode cX8_stepsToEnd 0 = .ok (.iconst 0, 1) := by decide +kernel
theorem dX8_stepsToEnd_1 : decode cX8_stepsToEnd 1 = .ok (.istore_n 1, 1) := by decide +kernel
theorem dX8_stepsToEnd_2 : decode cX8_stepsToEnd 2 = .ok (.aload_n 0, 1) := by decide +kernel
theorem dX8_stepsToEnd_3 : decode cX8_stepsToEnd 3 = .ok (.invokevirtual 56, 3) := by decide +kernel
theorem dX8_stepsToEnd_6 : decode cX8_stepsToEnd 6 = .ok (.ifCond .eq 13, 3) := by decide +kernel
theorem dX8_stepsToEnd_9 : decode cX8_stepsToEnd 9 = .ok (.aload_n 0, 1) := by decide +kernel
theorem dX8_stepsToEnd_10 : decode cX8_stepsToEnd 10 = .ok (.invokevirtual 91, 3) := by decide +kernel
theorem dX8_stepsToEnd_13 : decode cX8_stepsToEnd 13 = .ok (.iinc 1 1, 3) := by decide +kernel
theorem dX8_stepsToEnd_16 : decode cX8_stepsToEnd 16 = .ok (.goto (-14), 3) := by decide +kernel
theorem dX8_stepsToEnd_19 : decode cX8_stepsToEnd 19 = .ok (.iload_n 1, 1) := by decide +kernel
theorem dX8_stepsToEnd_20 : decode cX8_stepsToEnd 20 = .ok (.ireturn, 1) := by decide +kernel
set_option maxRecDepth 20000 in
theorem ggX8_setHeavy_X8_in : GoodIn wsX8_setHeavy wsX8_in := goodIn_r _ [5] (by decide +kernel) (by decide +kernel)
set_option maxRecDepth 20000 in
theorem gX8_setHeavy_X8_in : GoodIn wsX8_setHeavy (va_wsS RX8 40 yX8_in wsX8_in) := goodIn_app (goodIn_of _ (by decide +kernel)) ggX8_setHeavy_X8_in
set_option maxRecDepth 20000 in
theorem ggX8_setHeavy_X8_acts : GoodIn wsX8_setHeavy wsX8_acts := goodIn_r _ [9, 10, 11, 12, 1, 13, 14, 15, 16, 17, 18, 19, 20, 21, 22, 23, 24] (by decide +kernel) (by decide +kernel)
set_option maxRecDepth 20000 in
theorem gX8_setHeavy_X8_acts : GoodIn wsX8_setHeavy (wsV RX8 94 RX8 yX8_acts wsX8_acts) := goodIn_app (goodIn_of _ (by decide +kernel)) ggX8_setHeavy_X8_acts
theorem dX8_setHeavy_0 : decode cX8_setHeavy 0 = .ok (.iload_n 1, 1) := by decide +kernel
theorem dX8_setHeavy_1 : decode cX8_setHeavy 1 = .ok (.iconst 2, 1) := by decide +kernel
theorem dX8_setHeavy_2 : decode cX8_setHeavy 2 = .ok (.bipush 13, 2) := by decide +kernel
theorem dX8_setHeavy_4 : decode cX8_setHeavy 4 = .ok (.invokestatic 40, 3) := by decide +kernel
theorem dX8_setHeavy_7 : decode cX8_setHeavy 7 = .ok (.ifCond .ne 5, 3) := by decide +kernel
theorem dX8_setHeavy_10 : decode cX8_setHeavy 10 = .ok (.iconst (-1), 1) := by decide +kernel
theorem dX8_setHeavy_11 : decode cX8_setHeavy 11 = .ok (.ireturn, 1) := by decide +kernel
theorem dX8_setHeavy_12 : decode cX8_setHeavy 12 = .ok (.aload_n 0, 1) := by decide +kernel
theorem dX8_setHeavy_13 : decode cX8_setHeavy 13 = .ok (.invokevirtual 94, 3) := by decide +kernel
theorem dX8_setHeavy_16 : decode cX8_setHeavy 16 = .ok (.aload_n 0, 1) := by decide +kernel
theorem dX8_setHeavy_17 : decode cX8_setHeavy 17 = .ok (.getfield 7, 3) := by decide +kernel
theorem dX8_setHeavy_20 : decode cX8_setHeavy 20 = .ok (.iconst 1, 1) := by decide +kernel
theorem dX8_setHeavy_21 : decode cX8_setHeavy 21 = .ok (.iaload, 1) := by decide +kernel
theorem dX8_setHeavy_22 : decode cX8_setHeavy 22 = .ok (.istore_n 2, 1) := by decide +kernel
theorem dX8_setHeavy_23 : decode cX8_setHeavy 23 = .ok (.aload_n 0, 1) := by decide +kernel
theorem dX8_setHeavy_24 : decode cX8_setHeavy 24 = .ok (.getfield 7, 3) := by decide +kernel
theorem dX8_setHeavy_27 : decode cX8_setHeavy 27 = .ok (.iconst 1, 1) := by decide +kernel
theorem dX8_setHeavy_28 : decode cX8_setHeavy 28 = .ok (.iload_n 1, 1) := by decide +kernel
theorem dX8_setHeavy_29 : decode cX8_setHeavy 29 = .ok (.iastore, 1) := by decide +kernel
theorem dX8_setHeavy_30 : decode cX8_setHeavy 30 = .ok (.iload_n 2, 1) := by decide +kernel
theorem dX8_setHeavy_31 : decode cX8_setHeavy 31 = .ok (.ireturn, 1) := by decide +kernel
set_option maxRecDepth 20000 in
theorem ggX8_floorPlace_X8_sizeAt : GoodIn wsX8_floorPlace wsX8_sizeAt := goodIn_r _ [5, 6, 7, 8, 9, 4, 10, 11, 12, 13, 14, 15, 16, 17, 18, 19, 20, 21, 22, 23, 24, 25, 26] (by decide +kernel) (by decide +kernel)
set_option maxRecDepth 20000 in
theorem gX8_floorPlace_X8_sizeAt : GoodIn wsX8_floorPlace (wsV RX8 60 RX8 yX8_sizeAt wsX8_sizeAt) := goodIn_app (goodIn_of _ (by decide +kernel)) ggX8_floorPlace_X8_sizeAt
theorem dX8_floorPlace_0 : decode cX8_floorPlace 0 = .ok (.iconst 0, 1) := by decide +kernel
theorem dX8_floorPlace_1 : decode cX8_floorPlace 1 = .ok (.istore_n 2, 1) := by decide +kernel
theorem dX8_floorPlace_2 : decode cX8_floorPlace 2 = .ok (.iconst 0, 1) := by decide +kernel
theorem dX8_floorPlace_3 : decode cX8_floorPlace 3 = .ok (.istore_n 3, 1) := by decide +kernel
theorem dX8_floorPlace_4 : decode cX8_floorPlace 4 = .ok (.iload_n 3, 1) := by decide +kernel
theorem dX8_floorPlace_5 : decode cX8_floorPlace 5 = .ok (.bipush 60, 2) := by decide +kernel
theorem dX8_floorPlace_7 : decode cX8_floorPlace 7 = .ok (.if_icmp .ge 49, 3) := by decide +kernel
theorem dX8_floorPlace_10 : decode cX8_floorPlace 10 = .ok (.iload_n 2, 1) := by decide +kernel
theorem dX8_floorPlace_11 : decode cX8_floorPlace 11 = .ok (.iload_n 1, 1) := by decide +kernel
theorem dX8_floorPlace_12 : decode cX8_floorPlace 12 = .ok (.if_icmp .ge 44, 3) := by decide +kernel
theorem dX8_floorPlace_15 : decode cX8_floorPlace 15 = .ok (.aload_n 0, 1) := by decide +kernel
theorem dX8_floorPlace_16 : decode cX8_floorPlace 16 = .ok (.sipush 128, 3) := by decide +kernel
theorem dX8_floorPlace_19 : decode cX8_floorPlace 19 = .ok (.iload_n 3, 1) := by decide +kernel
theorem dX8_floorPlace_20 : decode cX8_floorPlace 20 = .ok (.iadd, 1) := by decide +kernel
theorem dX8_floorPlace_21 : decode cX8_floorPlace 21 = .ok (.invokevirtual 60, 3) := by decide +kernel
theorem dX8_floorPlace_24 : decode cX8_floorPlace 24 = .ok (.istore 4, 2) := by decide +kernel
theorem dX8_floorPlace_26 : decode cX8_floorPlace 26 = .ok (.iload 4, 2) := by decide +kernel
theorem dX8_floorPlace_28 : decode cX8_floorPlace 28 = .ok (.ifCond .le 7, 3) := by decide +kernel
theorem dX8_floorPlace_31 : decode cX8_floorPlace 31 = .ok (.iconst 0, 1) := by decide +kernel
theorem dX8_floorPlace_32 : decode cX8_floorPlace 32 = .ok (.goto 6, 3) := by decide +kernel
theorem dX8_floorPlace_35 : decode cX8_floorPlace 35 = .ok (.iload_n 2, 1) := by decide +kernel
theorem dX8_floorPlace_36 : decode cX8_floorPlace 36 = .ok (.iconst 1, 1) := by decide +kernel
theorem dX8_floorPlace_37 : decode cX8_floorPlace 37 = .ok (.iadd, 1) := by decide +kernel
theorem dX8_floorPlace_38 : decode cX8_floorPlace 38 = .ok (.istore_n 2, 1) := by decide +kernel
theorem dX8_floorPlace_39 : decode cX8_floorPlace 39 = .ok (.iload_n 3, 1) := by decide +kernel
theorem dX8_floorPlace_40 : decode cX8_floorPlace 40 = .ok (.iload 4, 2) := by decide +kernel
theorem dX8_floorPlace_42 : decode cX8_floorPlace 42 = .ok (.ifCond .le 8, 3) := by decide +kernel
theorem dX8_floorPlace_45 : decode cX8_floorPlace 45 = .ok (.iload 4, 2) := by decide +kernel
theorem dX8_floorPlace_47 : decode cX8_floorPlace 47 = .ok (.goto 4, 3) := by decide +kernel
theorem dX8_floorPlace_50 : decode cX8_floorPlace 50 = .ok (.iconst 1, 1) := by decide +kernel
theorem dX8_floorPlace_51 : decode cX8_floorPlace 51 = .ok (.iadd, 1) := by decide +kernel
theorem dX8_floorPlace_52 : decode cX8_floorPlace 52 = .ok (.istore_n 3, 1) := by decide +kernel
theorem dX8_floorPlace_53 : decode cX8_floorPlace 53 = .ok (.goto (-49), 3) := by decide +kernel
theorem dX8_floorPlace_56 : decode cX8_floorPlace 56 = .ok (.iload_n 2, 1) := by decide +kernel
theorem dX8_floorPlace_57 : decode cX8_floorPlace 57 = .ok (.iload_n 1, 1) := by decide +kernel
theorem dX8_floorPlace_58 : decode cX8_floorPlace 58 = .ok (.if_icmp .ge 8, 3) := by decide +kernel
theorem dX8_floorPlace_61 : decode cX8_floorPlace 61 = .ok (.bipush (-9), 2) := by decide +kernel
theorem dX8_floorPlace_63 : decode cX8_floorPlace 63 = .ok (.goto 6, 3) := by decide +kernel
theorem dX8_floorPlace_66 : decode cX8_floorPlace 66 = .ok (.iload_n 3, 1) := by decide +kernel
theorem dX8_floorPlace_67 : decode cX8_floorPlace 67 = .ok (.iload_n 1, 1) := by decide +kernel
theorem dX8_floorPlace_68 : decode cX8_floorPlace 68 = .ok (.isub, 1) := by decide +kernel
theorem dX8_floorPlace_69 : decode cX8_floorPlace 69 = .ok (.ireturn, 1) := by decide +kernel
set_option maxRecDepth 20000 in
theorem ggX8_make_X8_in : GoodIn wsX8_make wsX8_in := goodIn_r _ [5] (by decide +kernel) (by decide +kernel)
set_option maxRecDepth 20000 in
theorem gX8_make_X8_in : GoodIn wsX8_make (va_wsS RX8 40 yX8_in wsX8_in) := goodIn_app (goodIn_of _ (by decide +kernel)) ggX8_make_X8_in
set_option maxRecDepth 20000 in
theorem ggX8_make_X8_isHook : GoodIn wsX8_make wsX8_isHook := goodIn_r _ [8, 2, 3, 4, 5] (by decide +kernel) (by decide +kernel)
set_option maxRecDepth 20000 in
theorem gX8_make_X8_isHook : GoodIn wsX8_make (va_wsS RX8 97 yX8_isHook wsX8_isHook) := goodIn_app (goodIn_of _ (by decide +kernel)) ggX8_make_X8_isHook
set_option maxRecDepth 20000 in
theorem ggX8_make_X8_floorPlace : GoodIn wsX8_make wsX8_floorPlace := goodIn_r _ [12, 13, 14, 15, 4, 16, 1, 17, 18, 19, 20, 21, 22, 23, 24, 59, 60, 61, 62, 63, 64, 65, 66, 67, 68, 69, 70] (by decide +kernel) (by decide +kernel)
set_option maxRecDepth 20000 in
theorem gX8_make_X8_floorPlace : GoodIn wsX8_make (wsV RX8 100 RX8 yX8_floorPlace wsX8_floorPlace) := goodIn_app (goodIn_of _ (by decide +kernel)) ggX8_make_X8_floorPlace
set_option maxRecDepth 20000 in
theorem ggX8_make_X8_free : GoodIn wsX8_make wsX8_free := goodIn_r _ [28, 1, 59, 60, 61, 62, 63, 64, 65, 66, 67, 68, 69, 70] (by decide +kernel) (by decide +kernel)
set_option maxRecDepth 20000 in
theorem gX8_make_X8_free : GoodIn wsX8_make (wsV RX8 103 RX8 yX8_free wsX8_free) := goodIn_app (goodIn_of _ (by decide +kernel)) ggX8_make_X8_free
set_option maxRecDepth 20000 in
theorem ggX8_make_X8_kept : GoodIn wsX8_make wsX8_kept := goodIn_r _ [32, 33, 34, 35, 4, 36, 1, 37, 38, 39, 40, 17, 18, 19, 20, 21, 22, 23, 24, 13, 14, 15, 16, 59, 60, 61, 62, 63, 64, 65, 66, 67, 68, 69, 70] (by decide +kernel) (by decide +kernel)
set_option maxRecDepth 20000 in
theorem gX8_make_X8_kept : GoodIn wsX8_make (wsV RX8 106 RX8 yX8_kept wsX8_kept) := goodIn_app (goodIn_of _ (by decide +kernel)) ggX8_make_X8_kept
set_option maxRecDepth 20000 in
theorem ggX8_make_X8_acts : GoodIn wsX8_make wsX8_acts := goodIn_r _ [44, 45, 46, 47, 1, 59, 60, 61, 62, 63, 64, 65, 66, 67, 68, 69, 70] (by decide +kernel) (by decide +kernel)
set_option maxRecDepth 20000 in
theorem gX8_make_X8_acts : GoodIn wsX8_make (wsV RX8 94 RX8 yX8_acts wsX8_acts) := goodIn_app (goodIn_of _ (by decide +kernel)) ggX8_make_X8_acts
set_option maxRecDepth 20000 in
theorem ggX8_make_X8_lays : GoodIn wsX8_make wsX8_lays := goodIn_r _ [51, 1, 59, 60, 61, 62, 63, 64, 65, 66, 67, 68, 69, 70] (by decide +kernel) (by decide +kernel)
set_option maxRecDepth 20000 in
theorem gX8_make_X8_lays : GoodIn wsX8_make (wsV RX8 64 RX8 yX8_lays wsX8_lays) := goodIn_app (goodIn_of _ (by decide +kernel)) ggX8_make_X8_lays
set_option maxRecDepth 20000 in
theorem ggX8_make_X8_laysInHalf : GoodIn wsX8_make wsX8_laysInHalf := goodIn_r _ [55, 1, 48, 49, 50, 4, 51, 59, 60, 61, 62, 63, 64, 65, 66, 67, 68, 69, 70] (by decide +kernel) (by decide +kernel)
set_option maxRecDepth 20000 in
theorem gX8_make_X8_laysInHalf : GoodIn wsX8_make (wsV RX8 68 RX8 yX8_laysInHalf wsX8_laysInHalf) := goodIn_app (goodIn_of _ (by decide +kernel)) ggX8_make_X8_laysInHalf
set_option maxRecDepth 20000 in
theorem ggX8_make_X8_address : GoodIn wsX8_make wsX8_address := goodIn_r _ [58] (by decide +kernel) (by decide +kernel)
set_option maxRecDepth 20000 in
theorem gX8_make_X8_address : GoodIn wsX8_make (va_wsS RX8 76 yX8_address wsX8_address) := goodIn_app (goodIn_of _ (by decide +kernel)) ggX8_make_X8_address
theorem dX8_make_0 : decode cX8_make 0 = .ok (.iload_n 1, 1) := by decide +kernel
theorem dX8_make_1 : decode cX8_make 1 = .ok (.iconst 1, 1) := by decide +kernel
theorem dX8_make_2 : decode cX8_make 2 = .ok (.bipush 12, 2) := by decide +kernel
theorem dX8_make_4 : decode cX8_make 4 = .ok (.invokestatic 40, 3) := by decide +kernel
theorem dX8_make_7 : decode cX8_make 7 = .ok (.ifCond .eq 10, 3) := by decide +kernel
theorem dX8_make_10 : decode cX8_make 10 = .ok (.iload_n 2, 1) := by decide +kernel
theorem dX8_make_11 : decode cX8_make 11 = .ok (.invokestatic 97, 3) := by decide +kernel
theorem dX8_make_14 : decode cX8_make 14 = .ok (.ifCond .ne 5, 3) := by decide +kernel
theorem dX8_make_17 : decode cX8_make 17 = .ok (.iconst (-1), 1) := by decide +kernel
theorem dX8_make_18 : decode cX8_make 18 = .ok (.ireturn, 1) := by decide +kernel
theorem dX8_make_19 : decode cX8_make 19 = .ok (.iload_n 1, 1) := by decide +kernel
theorem dX8_make_20 : decode cX8_make 20 = .ok (.aload_n 0, 1) := by decide +kernel
theorem dX8_make_21 : decode cX8_make 21 = .ok (.getfield 7, 3) := by decide +kernel
theorem dX8_make_24 : decode cX8_make 24 = .ok (.iconst 1, 1) := by decide +kernel
theorem dX8_make_25 : decode cX8_make 25 = .ok (.iaload, 1) := by decide +kernel
theorem dX8_make_26 : decode cX8_make 26 = .ok (.if_icmp .lt 7, 3) := by decide +kernel
theorem dX8_make_29 : decode cX8_make 29 = .ok (.iconst 1, 1) := by decide +kernel
theorem dX8_make_30 : decode cX8_make 30 = .ok (.goto 4, 3) := by decide +kernel
theorem dX8_make_33 : decode cX8_make 33 = .ok (.iconst 0, 1) := by decide +kernel
theorem dX8_make_34 : decode cX8_make 34 = .ok (.istore_n 3, 1) := by decide +kernel
theorem dX8_make_35 : decode cX8_make 35 = .ok (.iload_n 3, 1) := by decide +kernel
theorem dX8_make_36 : decode cX8_make 36 = .ok (.ifCond .eq 11, 3) := by decide +kernel
theorem dX8_make_39 : decode cX8_make 39 = .ok (.aload_n 0, 1) := by decide +kernel
theorem dX8_make_40 : decode cX8_make 40 = .ok (.iload_n 1, 1) := by decide +kernel
theorem dX8_make_41 : decode cX8_make 41 = .ok (.invokevirtual 100, 3) := by decide +kernel
theorem dX8_make_44 : decode cX8_make 44 = .ok (.goto 5, 3) := by decide +kernel
theorem dX8_make_47 : decode cX8_make 47 = .ok (.bipush (-9), 2) := by decide +kernel
theorem dX8_make_49 : decode cX8_make 49 = .ok (.istore 4, 2) := by decide +kernel
theorem dX8_make_51 : decode cX8_make 51 = .ok (.iload_n 3, 1) := by decide +kernel
theorem dX8_make_52 : decode cX8_make 52 = .ok (.ifCond .eq 18, 3) := by decide +kernel
theorem dX8_make_55 : decode cX8_make 55 = .ok (.iload 4, 2) := by decide +kernel
theorem dX8_make_57 : decode cX8_make 57 = .ok (.bipush (-9), 2) := by decide +kernel
theorem dX8_make_59 : decode cX8_make 59 = .ok (.if_icmp .eq 7, 3) := by decide +kernel
theorem dX8_make_62 : decode cX8_make 62 = .ok (.iconst 1, 1) := by decide +kernel
theorem dX8_make_63 : decode cX8_make 63 = .ok (.goto 31, 3) := by decide +kernel
theorem dX8_make_66 : decode cX8_make 66 = .ok (.iconst 0, 1) := by decide +kernel
theorem dX8_make_67 : decode cX8_make 67 = .ok (.goto 27, 3) := by decide +kernel
theorem dX8_make_70 : decode cX8_make 70 = .ok (.iload_n 1, 1) := by decide +kernel
theorem dX8_make_71 : decode cX8_make 71 = .ok (.aload_n 0, 1) := by decide +kernel
theorem dX8_make_72 : decode cX8_make 72 = .ok (.aload_n 0, 1) := by decide +kernel
theorem dX8_make_73 : decode cX8_make 73 = .ok (.getfield 7, 3) := by decide +kernel
theorem dX8_make_76 : decode cX8_make 76 = .ok (.iconst 3, 1) := by decide +kernel
theorem dX8_make_77 : decode cX8_make 77 = .ok (.iaload, 1) := by decide +kernel
theorem dX8_make_78 : decode cX8_make 78 = .ok (.invokevirtual 103, 3) := by decide +kernel
theorem dX8_make_81 : decode cX8_make 81 = .ok (.aload_n 0, 1) := by decide +kernel
theorem dX8_make_82 : decode cX8_make 82 = .ok (.invokevirtual 106, 3) := by decide +kernel
theorem dX8_make_85 : decode cX8_make 85 = .ok (.isub, 1) := by decide +kernel
theorem dX8_make_86 : decode cX8_make 86 = .ok (.if_icmp .gt 7, 3) := by decide +kernel
theorem dX8_make_89 : decode cX8_make 89 = .ok (.iconst 1, 1) := by decide +kernel
theorem dX8_make_90 : decode cX8_make 90 = .ok (.goto 4, 3) := by decide +kernel
theorem dX8_make_93 : decode cX8_make 93 = .ok (.iconst 0, 1) := by decide +kernel
theorem dX8_make_94 : decode cX8_make 94 = .ok (.istore 5, 2) := by decide +kernel
theorem dX8_make_96 : decode cX8_make 96 = .ok (.aload_n 0, 1) := by decide +kernel
theorem dX8_make_97 : decode cX8_make 97 = .ok (.getfield 7, 3) := by decide +kernel
theorem dX8_make_100 : decode cX8_make 100 = .ok (.iconst 0, 1) := by decide +kernel
theorem dX8_make_101 : decode cX8_make 101 = .ok (.iaload, 1) := by decide +kernel
theorem dX8_make_102 : decode cX8_make 102 = .ok (.bipush 40, 2) := by decide +kernel
theorem dX8_make_104 : decode cX8_make 104 = .ok (.if_icmp .eq 8, 3) := by decide +kernel
theorem dX8_make_107 : decode cX8_make 107 = .ok (.iload 5, 2) := by decide +kernel
theorem dX8_make_109 : decode cX8_make 109 = .ok (.ifCond .ne 6, 3) := by decide +kernel
theorem dX8_make_112 : decode cX8_make 112 = .ok (.bipush (-3), 2) := by decide +kernel
theorem dX8_make_114 : decode cX8_make 114 = .ok (.ireturn, 1) := by decide +kernel
theorem dX8_make_115 : decode cX8_make 115 = .ok (.aload_n 0, 1) := by decide +kernel
theorem dX8_make_116 : decode cX8_make 116 = .ok (.invokevirtual 94, 3) := by decide +kernel
theorem dX8_make_119 : decode cX8_make 119 = .ok (.aload_n 0, 1) := by decide +kernel
theorem dX8_make_120 : decode cX8_make 120 = .ok (.getfield 7, 3) := by decide +kernel
theorem dX8_make_123 : decode cX8_make 123 = .ok (.iconst 0, 1) := by decide +kernel
theorem dX8_make_124 : decode cX8_make 124 = .ok (.iaload, 1) := by decide +kernel
theorem dX8_make_125 : decode cX8_make 125 = .ok (.istore 6, 2) := by decide +kernel
theorem dX8_make_127 : decode cX8_make 127 = .ok (.aload_n 0, 1) := by decide +kernel
theorem dX8_make_128 : decode cX8_make 128 = .ok (.getfield 7, 3) := by decide +kernel
theorem dX8_make_131 : decode cX8_make 131 = .ok (.bipush 17, 2) := by decide +kernel
theorem dX8_make_133 : decode cX8_make 133 = .ok (.iload 6, 2) := by decide +kernel
theorem dX8_make_135 : decode cX8_make 135 = .ok (.iadd, 1) := by decide +kernel
theorem dX8_make_136 : decode cX8_make 136 = .ok (.iload_n 1, 1) := by decide +kernel
theorem dX8_make_137 : decode cX8_make 137 = .ok (.iastore, 1) := by decide +kernel
theorem dX8_make_138 : decode cX8_make 138 = .ok (.aload_n 0, 1) := by decide +kernel
theorem dX8_make_139 : decode cX8_make 139 = .ok (.getfield 7, 3) := by decide +kernel
theorem dX8_make_142 : decode cX8_make 142 = .ok (.iconst 0, 1) := by decide +kernel
theorem dX8_make_143 : decode cX8_make 143 = .ok (.dup2, 1) := by decide +kernel
theorem dX8_make_144 : decode cX8_make 144 = .ok (.iaload, 1) := by decide +kernel
end
section
theorem dX8_make_145 : decode cX8_make 145 = .ok (.iconst 1, 1) := by decide +kernel
theorem dX8_make_146 : decode cX8_make 146 = .ok (.iadd, 1) := by decide +kernel
theorem dX8_make_147 : decode cX8_make 147 = .ok (.iastore, 1) := by decide +kernel
theorem dX8_make_148 : decode cX8_make 148 = .ok (.sipush 128, 3) := by decide +kernel
theorem dX8_make_151 : decode cX8_make 151 = .ok (.iload 4, 2) := by decide +kernel
theorem dX8_make_153 : decode cX8_make 153 = .ok (.iadd, 1) := by decide +kernel
theorem dX8_make_154 : decode cX8_make 154 = .ok (.istore 7, 2) := by decide +kernel
theorem dX8_make_156 : decode cX8_make 156 = .ok (.iload_n 3, 1) := by decide +kernel
theorem dX8_make_157 : decode cX8_make 157 = .ok (.ifCond .eq 24, 3) := by decide +kernel
theorem dX8_make_160 : decode cX8_make 160 = .ok (.aload_n 0, 1) := by decide +kernel
theorem dX8_make_161 : decode cX8_make 161 = .ok (.iload 7, 2) := by decide +kernel
theorem dX8_make_163 : decode cX8_make 163 = .ok (.iload 6, 2) := by decide +kernel
theorem dX8_make_165 : decode cX8_make 165 = .ok (.bipush (-9), 2) := by decide +kernel
theorem dX8_make_167 : decode cX8_make 167 = .ok (.bipush (-9), 2) := by decide +kernel
theorem dX8_make_169 : decode cX8_make 169 = .ok (.aload_n 0, 1) := by decide +kernel
theorem dX8_make_170 : decode cX8_make 170 = .ok (.getfield 7, 3) := by decide +kernel
theorem dX8_make_173 : decode cX8_make 173 = .ok (.iconst 2, 1) := by decide +kernel
theorem dX8_make_174 : decode cX8_make 174 = .ok (.iaload, 1) := by decide +kernel
theorem dX8_make_175 : decode cX8_make 175 = .ok (.invokevirtual 64, 3) := by decide +kernel
theorem dX8_make_178 : decode cX8_make 178 = .ok (.goto 15, 3) := by decide +kernel
theorem dX8_make_181 : decode cX8_make 181 = .ok (.aload_n 0, 1) := by decide +kernel
theorem dX8_make_182 : decode cX8_make 182 = .ok (.iload 6, 2) := by decide +kernel
theorem dX8_make_184 : decode cX8_make 184 = .ok (.bipush (-9), 2) := by decide +kernel
theorem dX8_make_186 : decode cX8_make 186 = .ok (.bipush (-9), 2) := by decide +kernel
theorem dX8_make_188 : decode cX8_make 188 = .ok (.invokevirtual 68, 3) := by decide +kernel
theorem dX8_make_191 : decode cX8_make 191 = .ok (.istore 7, 2) := by decide +kernel
theorem dX8_make_193 : decode cX8_make 193 = .ok (.aload_n 0, 1) := by decide +kernel
theorem dX8_make_194 : decode cX8_make 194 = .ok (.getfield 7, 3) := by decide +kernel
theorem dX8_make_197 : decode cX8_make 197 = .ok (.bipush 9, 2) := by decide +kernel
theorem dX8_make_199 : decode cX8_make 199 = .ok (.iload_n 2, 1) := by decide +kernel
theorem dX8_make_200 : decode cX8_make 200 = .ok (.iadd, 1) := by decide +kernel
theorem dX8_make_201 : decode cX8_make 201 = .ok (.iload 7, 2) := by decide +kernel
theorem dX8_make_203 : decode cX8_make 203 = .ok (.invokestatic 76, 3) := by decide +kernel
theorem dX8_make_206 : decode cX8_make 206 = .ok (.iastore, 1) := by decide +kernel
theorem dX8_make_207 : decode cX8_make 207 = .ok (.iload 6, 2) := by decide +kernel
theorem dX8_make_209 : decode cX8_make 209 = .ok (.ireturn, 1) := by decide +kernel
theorem dX8_told_0 : decode cX8_told 0 = .ok (.iload_n 0, 1) := by decide +kernel
theorem dX8_told_1 : decode cX8_told 1 = .ok (.bipush (-9), 2) := by decide +kernel
theorem dX8_told_3 : decode cX8_told 3 = .ok (.if_icmp .ne 9, 3) := by decide +kernel
theorem dX8_told_6 : decode cX8_told 6 = .ok (.sipush 300, 3) := by decide +kernel
theorem dX8_told_9 : decode cX8_told 9 = .ok (.goto 4, 3) := by decide +kernel
theorem dX8_told_12 : decode cX8_told 12 = .ok (.iload_n 0, 1) := by decide +kernel
theorem dX8_told_13 : decode cX8_told 13 = .ok (.ireturn, 1) := by decide +kernel
set_option maxRecDepth 20000 in
theorem ggX8_isRight_X8_isHook : GoodIn wsX8_isRight wsX8_isHook := goodIn_r _ [4, 5, 6, 3, 7] (by decide +kernel) (by decide +kernel)
set_option maxRecDepth 20000 in
theorem gX8_isRight_X8_isHook : GoodIn wsX8_isRight (va_wsS RX8 97 yX8_isHook wsX8_isHook) := goodIn_app (goodIn_of _ (by decide +kernel)) ggX8_isRight_X8_isHook
set_option maxRecDepth 20000 in
theorem ggX8_isRight_X8_in : GoodIn wsX8_isRight wsX8_in := goodIn_r _ [7] (by decide +kernel) (by decide +kernel)
set_option maxRecDepth 20000 in
theorem gX8_isRight_X8_in : GoodIn wsX8_isRight (va_wsS RX8 40 yX8_in wsX8_in) := goodIn_app (goodIn_of _ (by decide +kernel)) ggX8_isRight_X8_in
theorem dX8_isRight_0 : decode cX8_isRight 0 = .ok (.iload_n 1, 1) := by decide +kernel
theorem dX8_isRight_1 : decode cX8_isRight 1 = .ok (.invokestatic 97, 3) := by decide +kernel
theorem dX8_isRight_4 : decode cX8_isRight 4 = .ok (.ifCond .eq 23, 3) := by decide +kernel
theorem dX8_isRight_7 : decode cX8_isRight 7 = .ok (.iload_n 2, 1) := by decide +kernel
theorem dX8_isRight_8 : decode cX8_isRight 8 = .ok (.iconst 0, 1) := by decide +kernel
theorem dX8_isRight_9 : decode cX8_isRight 9 = .ok (.iconst 1, 1) := by decide +kernel
theorem dX8_isRight_10 : decode cX8_isRight 10 = .ok (.invokestatic 40, 3) := by decide +kernel
theorem dX8_isRight_13 : decode cX8_isRight 13 = .ok (.ifCond .eq 14, 3) := by decide +kernel
theorem dX8_isRight_16 : decode cX8_isRight 16 = .ok (.iload_n 3, 1) := by decide +kernel
theorem dX8_isRight_17 : decode cX8_isRight 17 = .ok (.invokestatic 97, 3) := by decide +kernel
theorem dX8_isRight_20 : decode cX8_isRight 20 = .ok (.ifCond .eq 7, 3) := by decide +kernel
theorem dX8_isRight_23 : decode cX8_isRight 23 = .ok (.iconst 1, 1) := by decide +kernel
theorem dX8_isRight_24 : decode cX8_isRight 24 = .ok (.goto 4, 3) := by decide +kernel
theorem dX8_isRight_27 : decode cX8_isRight 27 = .ok (.iconst 0, 1) := by decide +kernel
theorem dX8_isRight_28 : decode cX8_isRight 28 = .ok (.ireturn, 1) := by decide +kernel
set_option maxRecDepth 20000 in
theorem ggX8_link_X8_isRight : GoodIn wsX8_link wsX8_isRight := goodIn_r _ [6, 7, 8, 5, 9, 10, 11, 12] (by decide +kernel) (by decide +kernel)
set_option maxRecDepth 20000 in
theorem gX8_link_X8_isRight : GoodIn wsX8_link (wsV RX8 109 RX8 yX8_isRight wsX8_isRight) := goodIn_app (goodIn_of _ (by decide +kernel)) ggX8_link_X8_isRight
set_option maxRecDepth 20000 in
theorem ggX8_link_X8_acts : GoodIn wsX8_link wsX8_acts := goodIn_r _ [16, 17, 18, 19, 1, 61, 62, 63, 64, 65, 66, 67, 68, 69, 70, 71, 72] (by decide +kernel) (by decide +kernel)
set_option maxRecDepth 20000 in
theorem gX8_link_X8_acts : GoodIn wsX8_link (wsV RX8 94 RX8 yX8_acts wsX8_acts) := goodIn_app (goodIn_of _ (by decide +kernel)) ggX8_link_X8_acts
set_option maxRecDepth 20000 in
theorem ggX8_link_X8_reads : GoodIn wsX8_link wsX8_reads := goodIn_r _ [23, 1, 24, 25, 26, 5, 27, 28, 29, 30, 31, 32, 33, 34, 35, 36, 37, 38, 39, 40, 41, 42, 43, 44, 45, 46, 47, 48, 49, 50, 51, 52, 53, 54, 55, 56, 57, 61, 62, 63, 64, 65, 66, 67, 68, 69, 70, 71, 72] (by decide +kernel) (by decide +kernel)
set_option maxRecDepth 20000 in
theorem gX8_link_X8_reads : GoodIn wsX8_link (wsV RX8 85 RX8 yX8_reads wsX8_reads) := goodIn_app (goodIn_of _ (by decide +kernel)) ggX8_link_X8_reads
set_option maxRecDepth 20000 in
theorem ggX8_link_X8_cell : GoodIn wsX8_link wsX8_cell := goodIn_r _ [30] (by decide +kernel) (by decide +kernel)
set_option maxRecDepth 20000 in
theorem gX8_link_X8_cell : GoodIn wsX8_link (va_wsS RX8 79 yX8_cell wsX8_cell) := goodIn_app (goodIn_of _ (by decide +kernel)) ggX8_link_X8_cell
set_option maxRecDepth 20000 in
theorem ggX8_link_X8_told : GoodIn wsX8_link wsX8_told := goodIn_r _ [60] (by decide +kernel) (by decide +kernel)
set_option maxRecDepth 20000 in
theorem gX8_link_X8_told : GoodIn wsX8_link (va_wsS RX8 112 yX8_told wsX8_told) := goodIn_app (goodIn_of _ (by decide +kernel)) ggX8_link_X8_told
theorem dX8_link_0 : decode cX8_link 0 = .ok (.aload_n 0, 1) := by decide +kernel
theorem dX8_link_1 : decode cX8_link 1 = .ok (.iload_n 1, 1) := by decide +kernel
theorem dX8_link_2 : decode cX8_link 2 = .ok (.iload_n 2, 1) := by decide +kernel
theorem dX8_link_3 : decode cX8_link 3 = .ok (.iload_n 3, 1) := by decide +kernel
theorem dX8_link_4 : decode cX8_link 4 = .ok (.invokevirtual 109, 3) := by decide +kernel
theorem dX8_link_7 : decode cX8_link 7 = .ok (.ifCond .ne 5, 3) := by decide +kernel
theorem dX8_link_10 : decode cX8_link 10 = .ok (.iconst (-1), 1) := by decide +kernel
theorem dX8_link_11 : decode cX8_link 11 = .ok (.ireturn, 1) := by decide +kernel
theorem dX8_link_12 : decode cX8_link 12 = .ok (.aload_n 0, 1) := by decide +kernel
theorem dX8_link_13 : decode cX8_link 13 = .ok (.getfield 7, 3) := by decide +kernel
theorem dX8_link_16 : decode cX8_link 16 = .ok (.bipush 9, 2) := by decide +kernel
theorem dX8_link_18 : decode cX8_link 18 = .ok (.iload_n 1, 1) := by decide +kernel
theorem dX8_link_19 : decode cX8_link 19 = .ok (.iadd, 1) := by decide +kernel
theorem dX8_link_20 : decode cX8_link 20 = .ok (.iaload, 1) := by decide +kernel
theorem dX8_link_21 : decode cX8_link 21 = .ok (.bipush (-9), 2) := by decide +kernel
theorem dX8_link_23 : decode cX8_link 23 = .ok (.if_icmp .ne 6, 3) := by decide +kernel
theorem dX8_link_26 : decode cX8_link 26 = .ok (.bipush (-2), 2) := by decide +kernel
theorem dX8_link_28 : decode cX8_link 28 = .ok (.ireturn, 1) := by decide +kernel
theorem dX8_link_29 : decode cX8_link 29 = .ok (.aload_n 0, 1) := by decide +kernel
theorem dX8_link_30 : decode cX8_link 30 = .ok (.invokevirtual 94, 3) := by decide +kernel
theorem dX8_link_33 : decode cX8_link 33 = .ok (.aload_n 0, 1) := by decide +kernel
theorem dX8_link_34 : decode cX8_link 34 = .ok (.bipush 9, 2) := by decide +kernel
theorem dX8_link_36 : decode cX8_link 36 = .ok (.iload_n 1, 1) := by decide +kernel
theorem dX8_link_37 : decode cX8_link 37 = .ok (.iadd, 1) := by decide +kernel
theorem dX8_link_38 : decode cX8_link 38 = .ok (.invokevirtual 85, 3) := by decide +kernel
theorem dX8_link_41 : decode cX8_link 41 = .ok (.aload_n 0, 1) := by decide +kernel
theorem dX8_link_42 : decode cX8_link 42 = .ok (.bipush 9, 2) := by decide +kernel
theorem dX8_link_44 : decode cX8_link 44 = .ok (.iload_n 3, 1) := by decide +kernel
theorem dX8_link_45 : decode cX8_link 45 = .ok (.iadd, 1) := by decide +kernel
theorem dX8_link_46 : decode cX8_link 46 = .ok (.invokevirtual 85, 3) := by decide +kernel
theorem dX8_link_49 : decode cX8_link 49 = .ok (.aload_n 0, 1) := by decide +kernel
theorem dX8_link_50 : decode cX8_link 50 = .ok (.getfield 7, 3) := by decide +kernel
theorem dX8_link_53 : decode cX8_link 53 = .ok (.sipush 185, 3) := by decide +kernel
theorem dX8_link_56 : decode cX8_link 56 = .ok (.iconst 5, 1) := by decide +kernel
theorem dX8_link_57 : decode cX8_link 57 = .ok (.aload_n 0, 1) := by decide +kernel
theorem dX8_link_58 : decode cX8_link 58 = .ok (.getfield 7, 3) := by decide +kernel
theorem dX8_link_61 : decode cX8_link 61 = .ok (.bipush 9, 2) := by decide +kernel
theorem dX8_link_63 : decode cX8_link 63 = .ok (.iload_n 1, 1) := by decide +kernel
theorem dX8_link_64 : decode cX8_link 64 = .ok (.iadd, 1) := by decide +kernel
theorem dX8_link_65 : decode cX8_link 65 = .ok (.iaload, 1) := by decide +kernel
theorem dX8_link_66 : decode cX8_link 66 = .ok (.invokestatic 79, 3) := by decide +kernel
theorem dX8_link_69 : decode cX8_link 69 = .ok (.imul, 1) := by decide +kernel
theorem dX8_link_70 : decode cX8_link 70 = .ok (.iadd, 1) := by decide +kernel
theorem dX8_link_71 : decode cX8_link 71 = .ok (.iconst 1, 1) := by decide +kernel
theorem dX8_link_72 : decode cX8_link 72 = .ok (.iadd, 1) := by decide +kernel
theorem dX8_link_73 : decode cX8_link 73 = .ok (.iload_n 2, 1) := by decide +kernel
theorem dX8_link_74 : decode cX8_link 74 = .ok (.iadd, 1) := by decide +kernel
theorem dX8_link_75 : decode cX8_link 75 = .ok (.aload_n 0, 1) := by decide +kernel
theorem dX8_link_76 : decode cX8_link 76 = .ok (.getfield 7, 3) := by decide +kernel
theorem dX8_link_79 : decode cX8_link 79 = .ok (.bipush 9, 2) := by decide +kernel
theorem dX8_link_81 : decode cX8_link 81 = .ok (.iload_n 3, 1) := by decide +kernel
theorem dX8_link_82 : decode cX8_link 82 = .ok (.iadd, 1) := by decide +kernel
theorem dX8_link_83 : decode cX8_link 83 = .ok (.iaload, 1) := by decide +kernel
theorem dX8_link_84 : decode cX8_link 84 = .ok (.iastore, 1) := by decide +kernel
theorem dX8_link_85 : decode cX8_link 85 = .ok (.aload_n 0, 1) := by decide +kernel
theorem dX8_link_86 : decode cX8_link 86 = .ok (.getfield 7, 3) := by decide +kernel
theorem dX8_link_89 : decode cX8_link 89 = .ok (.bipush 9, 2) := by decide +kernel
theorem dX8_link_91 : decode cX8_link 91 = .ok (.iload_n 3, 1) := by decide +kernel
theorem dX8_link_92 : decode cX8_link 92 = .ok (.iadd, 1) := by decide +kernel
theorem dX8_link_93 : decode cX8_link 93 = .ok (.iaload, 1) := by decide +kernel
theorem dX8_link_94 : decode cX8_link 94 = .ok (.invokestatic 112, 3) := by decide +kernel
theorem dX8_link_97 : decode cX8_link 97 = .ok (.ireturn, 1) := by decide +kernel
set_option maxRecDepth 20000 in
theorem ggX8_follow_X8_isRight : GoodIn wsX8_follow wsX8_isRight := goodIn_r _ [6, 7, 8, 5, 9, 10, 11, 12] (by decide +kernel) (by decide +kernel)
set_option maxRecDepth 20000 in
theorem gX8_follow_X8_isRight : GoodIn wsX8_follow (wsV RX8 109 RX8 yX8_isRight wsX8_isRight) := goodIn_app (goodIn_of _ (by decide +kernel)) ggX8_follow_X8_isRight
set_option maxRecDepth 20000 in
theorem ggX8_follow_X8_acts : GoodIn wsX8_follow wsX8_acts := goodIn_r _ [16, 17, 18, 19, 1, 61, 62, 63, 64, 65, 66, 67, 68, 69, 70, 71, 72] (by decide +kernel) (by decide +kernel)
set_option maxRecDepth 20000 in
theorem gX8_follow_X8_acts : GoodIn wsX8_follow (wsV RX8 94 RX8 yX8_acts wsX8_acts) := goodIn_app (goodIn_of _ (by decide +kernel)) ggX8_follow_X8_acts
set_option maxRecDepth 20000 in
theorem ggX8_follow_X8_reads : GoodIn wsX8_follow wsX8_reads := goodIn_r _ [23, 1, 24, 25, 26, 5, 27, 28, 29, 30, 31, 32, 33, 34, 35, 36, 37, 38, 39, 40, 41, 42, 43, 44, 45, 46, 47, 48, 49, 50, 51, 52, 53, 54, 55, 56, 57, 61, 62, 63, 64, 65, 66, 67, 68, 69, 70, 71, 72] (by decide +kernel) (by decide +kernel)
set_option maxRecDepth 20000 in
theorem gX8_follow_X8_reads : GoodIn wsX8_follow (wsV RX8 85 RX8 yX8_reads wsX8_reads) := goodIn_app (goodIn_of _ (by decide +kernel)) ggX8_follow_X8_reads
set_option maxRecDepth 20000 in
theorem ggX8_follow_X8_cell : GoodIn wsX8_follow wsX8_cell := goodIn_r _ [30] (by decide +kernel) (by decide +kernel)
set_option maxRecDepth 20000 in
theorem gX8_follow_X8_cell : GoodIn wsX8_follow (va_wsS RX8 79 yX8_cell wsX8_cell) := goodIn_app (goodIn_of _ (by decide +kernel)) ggX8_follow_X8_cell
set_option maxRecDepth 20000 in
theorem ggX8_follow_X8_told : GoodIn wsX8_follow wsX8_told := goodIn_r _ [60] (by decide +kernel) (by decide +kernel)
set_option maxRecDepth 20000 in
theorem gX8_follow_X8_told : GoodIn wsX8_follow (va_wsS RX8 112 yX8_told wsX8_told) := goodIn_app (goodIn_of _ (by decide +kernel)) ggX8_follow_X8_told
theorem dX8_follow_0 : decode cX8_follow 0 = .ok (.aload_n 0, 1) := by decide +kernel
theorem dX8_follow_1 : decode cX8_follow 1 = .ok (.iload_n 1, 1) := by decide +kernel
theorem dX8_follow_2 : decode cX8_follow 2 = .ok (.iload_n 2, 1) := by decide +kernel
theorem dX8_follow_3 : decode cX8_follow 3 = .ok (.iload_n 3, 1) := by decide +kernel
theorem dX8_follow_4 : decode cX8_follow 4 = .ok (.invokevirtual 109, 3) := by decide +kernel
theorem dX8_follow_7 : decode cX8_follow 7 = .ok (.ifCond .ne 5, 3) := by decide +kernel
theorem dX8_follow_10 : decode cX8_follow 10 = .ok (.iconst (-1), 1) := by decide +kernel
theorem dX8_follow_11 : decode cX8_follow 11 = .ok (.ireturn, 1) := by decide +kernel
theorem dX8_follow_12 : decode cX8_follow 12 = .ok (.aload_n 0, 1) := by decide +kernel
theorem dX8_follow_13 : decode cX8_follow 13 = .ok (.getfield 7, 3) := by decide +kernel
theorem dX8_follow_16 : decode cX8_follow 16 = .ok (.bipush 9, 2) := by decide +kernel
theorem dX8_follow_18 : decode cX8_follow 18 = .ok (.iload_n 1, 1) := by decide +kernel
theorem dX8_follow_19 : decode cX8_follow 19 = .ok (.iadd, 1) := by decide +kernel
theorem dX8_follow_20 : decode cX8_follow 20 = .ok (.iaload, 1) := by decide +kernel
theorem dX8_follow_21 : decode cX8_follow 21 = .ok (.bipush (-9), 2) := by decide +kernel
theorem dX8_follow_23 : decode cX8_follow 23 = .ok (.if_icmp .ne 6, 3) := by decide +kernel
theorem dX8_follow_26 : decode cX8_follow 26 = .ok (.bipush (-2), 2) := by decide +kernel
theorem dX8_follow_28 : decode cX8_follow 28 = .ok (.ireturn, 1) := by decide +kernel
theorem dX8_follow_29 : decode cX8_follow 29 = .ok (.aload_n 0, 1) := by decide +kernel
theorem dX8_follow_30 : decode cX8_follow 30 = .ok (.invokevirtual 94, 3) := by decide +kernel
theorem dX8_follow_33 : decode cX8_follow 33 = .ok (.aload_n 0, 1) := by decide +kernel
theorem dX8_follow_34 : decode cX8_follow 34 = .ok (.bipush 9, 2) := by decide +kernel
theorem dX8_follow_36 : decode cX8_follow 36 = .ok (.iload_n 1, 1) := by decide +kernel
theorem dX8_follow_37 : decode cX8_follow 37 = .ok (.iadd, 1) := by decide +kernel
theorem dX8_follow_38 : decode cX8_follow 38 = .ok (.invokevirtual 85, 3) := by decide +kernel
theorem dX8_follow_41 : decode cX8_follow 41 = .ok (.sipush 185, 3) := by decide +kernel
theorem dX8_follow_44 : decode cX8_follow 44 = .ok (.iconst 5, 1) := by decide +kernel
theorem dX8_follow_45 : decode cX8_follow 45 = .ok (.aload_n 0, 1) := by decide +kernel
theorem dX8_follow_46 : decode cX8_follow 46 = .ok (.getfield 7, 3) := by decide +kernel
theorem dX8_follow_49 : decode cX8_follow 49 = .ok (.bipush 9, 2) := by decide +kernel
theorem dX8_follow_51 : decode cX8_follow 51 = .ok (.iload_n 1, 1) := by decide +kernel
theorem dX8_follow_52 : decode cX8_follow 52 = .ok (.iadd, 1) := by decide +kernel
theorem dX8_follow_53 : decode cX8_follow 53 = .ok (.iaload, 1) := by decide +kernel
theorem dX8_follow_54 : decode cX8_follow 54 = .ok (.invokestatic 79, 3) := by decide +kernel
theorem dX8_follow_57 : decode cX8_follow 57 = .ok (.imul, 1) := by decide +kernel
theorem dX8_follow_58 : decode cX8_follow 58 = .ok (.iadd, 1) := by decide +kernel
theorem dX8_follow_59 : decode cX8_follow 59 = .ok (.iconst 1, 1) := by decide +kernel
theorem dX8_follow_60 : decode cX8_follow 60 = .ok (.iadd, 1) := by decide +kernel
theorem dX8_follow_61 : decode cX8_follow 61 = .ok (.iload_n 2, 1) := by decide +kernel
theorem dX8_follow_62 : decode cX8_follow 62 = .ok (.iadd, 1) := by decide +kernel
theorem dX8_follow_63 : decode cX8_follow 63 = .ok (.istore 4, 2) := by decide +kernel
theorem dX8_follow_65 : decode cX8_follow 65 = .ok (.aload_n 0, 1) := by decide +kernel
theorem dX8_follow_66 : decode cX8_follow 66 = .ok (.iload 4, 2) := by decide +kernel
theorem dX8_follow_68 : decode cX8_follow 68 = .ok (.invokevirtual 85, 3) := by decide +kernel
theorem dX8_follow_71 : decode cX8_follow 71 = .ok (.aload_n 0, 1) := by decide +kernel
theorem dX8_follow_72 : decode cX8_follow 72 = .ok (.getfield 7, 3) := by decide +kernel
theorem dX8_follow_75 : decode cX8_follow 75 = .ok (.bipush 9, 2) := by decide +kernel
theorem dX8_follow_77 : decode cX8_follow 77 = .ok (.iload_n 3, 1) := by decide +kernel
theorem dX8_follow_78 : decode cX8_follow 78 = .ok (.iadd, 1) := by decide +kernel
theorem dX8_follow_79 : decode cX8_follow 79 = .ok (.aload_n 0, 1) := by decide +kernel
theorem dX8_follow_80 : decode cX8_follow 80 = .ok (.getfield 7, 3) := by decide +kernel
theorem dX8_follow_83 : decode cX8_follow 83 = .ok (.iload 4, 2) := by decide +kernel
theorem dX8_follow_85 : decode cX8_follow 85 = .ok (.iaload, 1) := by decide +kernel
theorem dX8_follow_86 : decode cX8_follow 86 = .ok (.iastore, 1) := by decide +kernel
theorem dX8_follow_87 : decode cX8_follow 87 = .ok (.aload_n 0, 1) := by decide +kernel
theorem dX8_follow_88 : decode cX8_follow 88 = .ok (.getfield 7, 3) := by decide +kernel
theorem dX8_follow_91 : decode cX8_follow 91 = .ok (.iload 4, 2) := by decide +kernel
theorem dX8_follow_93 : decode cX8_follow 93 = .ok (.iaload, 1) := by decide +kernel
theorem dX8_follow_94 : decode cX8_follow 94 = .ok (.invokestatic 112, 3) := by decide +kernel
theorem dX8_follow_97 : decode cX8_follow 97 = .ok (.ireturn, 1) := by decide +kernel
set_option maxRecDepth 20000 in
theorem ggX8_drop_X8_isHook : GoodIn wsX8_drop wsX8_isHook := goodIn_r _ [5, 6, 7, 4, 8] (by decide +kernel) (by decide +kernel)
set_option maxRecDepth 20000 in
theorem gX8_drop_X8_isHook : GoodIn wsX8_drop (va_wsS RX8 97 yX8_isHook wsX8_isHook) := goodIn_app (goodIn_of _ (by decide +kernel)) ggX8_drop_X8_isHook
set_option maxRecDepth 20000 in
theorem ggX8_drop_X8_acts : GoodIn wsX8_drop wsX8_acts := goodIn_r _ [12, 13, 14, 15, 1, 19, 20, 21, 22, 23, 24, 25, 26, 27, 28, 29, 30] (by decide +kernel) (by decide +kernel)
set_option maxRecDepth 20000 in
theorem gX8_drop_X8_acts : GoodIn wsX8_drop (wsV RX8 94 RX8 yX8_acts wsX8_acts) := goodIn_app (goodIn_of _ (by decide +kernel)) ggX8_drop_X8_acts
set_option maxRecDepth 20000 in
theorem ggX8_drop_X8_told : GoodIn wsX8_drop wsX8_told := goodIn_r _ [18] (by decide +kernel) (by decide +kernel)
set_option maxRecDepth 20000 in
theorem gX8_drop_X8_told : GoodIn wsX8_drop (va_wsS RX8 112 yX8_told wsX8_told) := goodIn_app (goodIn_of _ (by decide +kernel)) ggX8_drop_X8_told
theorem dX8_drop_0 : decode cX8_drop 0 = .ok (.iload_n 1, 1) := by decide +kernel
theorem dX8_drop_1 : decode cX8_drop 1 = .ok (.invokestatic 97, 3) := by decide +kernel
theorem dX8_drop_4 : decode cX8_drop 4 = .ok (.ifCond .ne 5, 3) := by decide +kernel
theorem dX8_drop_7 : decode cX8_drop 7 = .ok (.iconst (-1), 1) := by decide +kernel
theorem dX8_drop_8 : decode cX8_drop 8 = .ok (.ireturn, 1) := by decide +kernel
theorem dX8_drop_9 : decode cX8_drop 9 = .ok (.aload_n 0, 1) := by decide +kernel
theorem dX8_drop_10 : decode cX8_drop 10 = .ok (.invokevirtual 94, 3) := by decide +kernel
theorem dX8_drop_13 : decode cX8_drop 13 = .ok (.aload_n 0, 1) := by decide +kernel
theorem dX8_drop_14 : decode cX8_drop 14 = .ok (.getfield 7, 3) := by decide +kernel
theorem dX8_drop_17 : decode cX8_drop 17 = .ok (.bipush 9, 2) := by decide +kernel
theorem dX8_drop_19 : decode cX8_drop 19 = .ok (.iload_n 1, 1) := by decide +kernel
theorem dX8_drop_20 : decode cX8_drop 20 = .ok (.iadd, 1) := by decide +kernel
theorem dX8_drop_21 : decode cX8_drop 21 = .ok (.iaload, 1) := by decide +kernel
theorem dX8_drop_22 : decode cX8_drop 22 = .ok (.istore_n 2, 1) := by decide +kernel
theorem dX8_drop_23 : decode cX8_drop 23 = .ok (.aload_n 0, 1) := by decide +kernel
theorem dX8_drop_24 : decode cX8_drop 24 = .ok (.getfield 7, 3) := by decide +kernel
theorem dX8_drop_27 : decode cX8_drop 27 = .ok (.bipush 9, 2) := by decide +kernel
theorem dX8_drop_29 : decode cX8_drop 29 = .ok (.iload_n 1, 1) := by decide +kernel
theorem dX8_drop_30 : decode cX8_drop 30 = .ok (.iadd, 1) := by decide +kernel
theorem dX8_drop_31 : decode cX8_drop 31 = .ok (.bipush (-9), 2) := by decide +kernel
theorem dX8_drop_33 : decode cX8_drop 33 = .ok (.iastore, 1) := by decide +kernel
theorem dX8_drop_34 : decode cX8_drop 34 = .ok (.iload_n 2, 1) := by decide +kernel
theorem dX8_drop_35 : decode cX8_drop 35 = .ok (.invokestatic 112, 3) := by decide +kernel
theorem dX8_drop_38 : decode cX8_drop 38 = .ok (.ireturn, 1) := by decide +kernel
set_option maxRecDepth 20000 in
theorem ggX8_begin_X8_isMoving : GoodIn wsX8_begin wsX8_isMoving := goodIn_r _ [6, 1, 56, 57, 58, 59, 60, 61, 62, 63, 64, 65, 66, 67] (by decide +kernel) (by decide +kernel)
set_option maxRecDepth 20000 in
theorem gX8_begin_X8_isMoving : GoodIn wsX8_begin (wsV RX8 56 RX8 yX8_isMoving wsX8_isMoving) := goodIn_app (goodIn_of _ (by decide +kernel)) ggX8_begin_X8_isMoving
set_option maxRecDepth 20000 in
theorem ggX8_begin_X8_acts : GoodIn wsX8_begin wsX8_acts := goodIn_r _ [10, 11, 12, 13, 1, 56, 57, 58, 59, 60, 61, 62, 63, 64, 65, 66, 67] (by decide +kernel) (by decide +kernel)
set_option maxRecDepth 20000 in
theorem gX8_begin_X8_acts : GoodIn wsX8_begin (wsV RX8 94 RX8 yX8_acts wsX8_acts) := goodIn_app (goodIn_of _ (by decide +kernel)) ggX8_begin_X8_acts
set_option maxRecDepth 20000 in
theorem ggX8_begin_X8_begins : GoodIn wsX8_begin wsX8_begins := goodIn_r _ [17, 1, 18, 19, 20, 5, 21, 22, 23, 24, 25, 2, 3, 4, 6, 26, 27, 28, 29, 30, 31, 32, 33, 34, 35, 36, 37, 38, 39, 40, 41, 42, 43, 44, 45, 46, 47, 48, 49, 50, 51, 52, 53, 54, 55, 56, 57, 58, 59, 60, 61, 62, 63, 64, 65, 66, 67] (by decide +kernel) (by decide +kernel)
set_option maxRecDepth 20000 in
theorem gX8_begin_X8_begins : GoodIn wsX8_begin (wsV RX8 115 RX8 yX8_begins wsX8_begins) := goodIn_app (goodIn_of _ (by decide +kernel)) ggX8_begin_X8_begins
theorem dX8_begin_0 : decode cX8_begin 0 = .ok (.aload_n 0, 1) := by decide +kernel
theorem dX8_begin_1 : decode cX8_begin 1 = .ok (.invokevirtual 56, 3) := by decide +kernel
theorem dX8_begin_4 : decode cX8_begin 4 = .ok (.ifCond .eq 6, 3) := by decide +kernel
theorem dX8_begin_7 : decode cX8_begin 7 = .ok (.bipush (-2), 2) := by decide +kernel
theorem dX8_begin_9 : decode cX8_begin 9 = .ok (.ireturn, 1) := by decide +kernel
theorem dX8_begin_10 : decode cX8_begin 10 = .ok (.aload_n 0, 1) := by decide +kernel
theorem dX8_begin_11 : decode cX8_begin 11 = .ok (.invokevirtual 94, 3) := by decide +kernel
theorem dX8_begin_14 : decode cX8_begin 14 = .ok (.aload_n 0, 1) := by decide +kernel
theorem dX8_begin_15 : decode cX8_begin 15 = .ok (.invokevirtual 115, 3) := by decide +kernel
theorem dX8_begin_18 : decode cX8_begin 18 = .ok (.aload_n 0, 1) := by decide +kernel
theorem dX8_begin_19 : decode cX8_begin 19 = .ok (.getfield 7, 3) := by decide +kernel
theorem dX8_begin_22 : decode cX8_begin 22 = .ok (.bipush 8, 2) := by decide +kernel
theorem dX8_begin_24 : decode cX8_begin 24 = .ok (.iaload, 1) := by decide +kernel
theorem dX8_begin_25 : decode cX8_begin 25 = .ok (.ireturn, 1) := by decide +kernel
set_option maxRecDepth 20000 in
theorem ggX8_carry_X8_in : GoodIn wsX8_carry wsX8_in := goodIn_r _ [4] (by decide +kernel) (by decide +kernel)
set_option maxRecDepth 20000 in
theorem gX8_carry_X8_in : GoodIn wsX8_carry (va_wsS RX8 40 yX8_in wsX8_in) := goodIn_app (goodIn_of _ (by decide +kernel)) ggX8_carry_X8_in
set_option maxRecDepth 20000 in
theorem ggX8_carry_X8_isMoving : GoodIn wsX8_carry wsX8_isMoving := goodIn_r _ [8, 9, 59, 60, 61, 62, 63, 64, 65, 66, 67, 68, 69, 70] (by decide +kernel) (by decide +kernel)
set_option maxRecDepth 20000 in
theorem gX8_carry_X8_isMoving : GoodIn wsX8_carry (wsV RX8 56 RX8 yX8_isMoving wsX8_isMoving) := goodIn_app (goodIn_of _ (by decide +kernel)) ggX8_carry_X8_isMoving
set_option maxRecDepth 20000 in
theorem ggX8_carry_X8_acts : GoodIn wsX8_carry wsX8_acts := goodIn_r _ [13, 14, 15, 16, 9, 59, 60, 61, 62, 63, 64, 65, 66, 67, 68, 69, 70] (by decide +kernel) (by decide +kernel)
set_option maxRecDepth 20000 in
theorem gX8_carry_X8_acts : GoodIn wsX8_carry (wsV RX8 94 RX8 yX8_acts wsX8_acts) := goodIn_app (goodIn_of _ (by decide +kernel)) ggX8_carry_X8_acts
set_option maxRecDepth 20000 in
theorem ggX8_carry_X8_steps : GoodIn wsX8_carry wsX8_steps := goodIn_r _ [20, 9, 21, 22, 23, 3, 24, 5, 6, 7, 8, 25, 26, 27, 28, 29, 30, 31, 32, 33, 34, 35, 36, 37, 38, 39, 40, 41, 42, 43, 44, 45, 46, 47, 48, 49, 50, 51, 52, 53, 54, 55, 56, 57, 58, 59, 60, 61, 62, 63, 64, 65, 66, 67, 68, 69, 70] (by decide +kernel) (by decide +kernel)
set_option maxRecDepth 20000 in
theorem gX8_carry_X8_steps : GoodIn wsX8_carry (wsV RX8 91 RX8 yX8_steps wsX8_steps) := goodIn_app (goodIn_of _ (by decide +kernel)) ggX8_carry_X8_steps
theorem dX8_carry_0 : decode cX8_carry 0 = .ok (.iload_n 1, 1) := by decide +kernel
theorem dX8_carry_1 : decode cX8_carry 1 = .ok (.iconst 1, 1) := by decide +kernel
theorem dX8_carry_2 : decode cX8_carry 2 = .ok (.bipush 99, 2) := by decide +kernel
theorem dX8_carry_4 : decode cX8_carry 4 = .ok (.invokestatic 40, 3) := by decide +kernel
theorem dX8_carry_7 : decode cX8_carry 7 = .ok (.ifCond .ne 5, 3) := by decide +kernel
theorem dX8_carry_10 : decode cX8_carry 10 = .ok (.iconst (-1), 1) := by decide +kernel
theorem dX8_carry_11 : decode cX8_carry 11 = .ok (.ireturn, 1) := by decide +kernel
theorem dX8_carry_12 : decode cX8_carry 12 = .ok (.aload_n 0, 1) := by decide +kernel
theorem dX8_carry_13 : decode cX8_carry 13 = .ok (.invokevirtual 56, 3) := by decide +kernel
theorem dX8_carry_16 : decode cX8_carry 16 = .ok (.ifCond .ne 6, 3) := by decide +kernel
theorem dX8_carry_19 : decode cX8_carry 19 = .ok (.bipush (-2), 2) := by decide +kernel
theorem dX8_carry_21 : decode cX8_carry 21 = .ok (.ireturn, 1) := by decide +kernel
theorem dX8_carry_22 : decode cX8_carry 22 = .ok (.aload_n 0, 1) := by decide +kernel
theorem dX8_carry_23 : decode cX8_carry 23 = .ok (.invokevirtual 94, 3) := by decide +kernel
theorem dX8_carry_26 : decode cX8_carry 26 = .ok (.iconst 0, 1) := by decide +kernel
theorem dX8_carry_27 : decode cX8_carry 27 = .ok (.istore_n 2, 1) := by decide +kernel
theorem dX8_carry_28 : decode cX8_carry 28 = .ok (.aload_n 0, 1) := by decide +kernel
theorem dX8_carry_29 : decode cX8_carry 29 = .ok (.invokevirtual 56, 3) := by decide +kernel
theorem dX8_carry_32 : decode cX8_carry 32 = .ok (.ifCond .eq 18, 3) := by decide +kernel
theorem dX8_carry_35 : decode cX8_carry 35 = .ok (.iload_n 2, 1) := by decide +kernel
theorem dX8_carry_36 : decode cX8_carry 36 = .ok (.iload_n 1, 1) := by decide +kernel
theorem dX8_carry_37 : decode cX8_carry 37 = .ok (.if_icmp .ge 13, 3) := by decide +kernel
theorem dX8_carry_40 : decode cX8_carry 40 = .ok (.aload_n 0, 1) := by decide +kernel
theorem dX8_carry_41 : decode cX8_carry 41 = .ok (.invokevirtual 91, 3) := by decide +kernel
theorem dX8_carry_44 : decode cX8_carry 44 = .ok (.iinc 2 1, 3) := by decide +kernel
theorem dX8_carry_47 : decode cX8_carry 47 = .ok (.goto (-19), 3) := by decide +kernel
theorem dX8_carry_50 : decode cX8_carry 50 = .ok (.iload_n 2, 1) := by decide +kernel
theorem dX8_carry_51 : decode cX8_carry 51 = .ok (.ireturn, 1) := by decide +kernel
set_option maxRecDepth 20000 in
theorem ggX8_noted_X8_old : GoodIn wsX8_noted wsX8_old := goodIn_r _ [5, 6, 11, 12, 13, 14, 15, 16, 17, 18, 19, 20, 21, 22] (by decide +kernel) (by decide +kernel)
set_option maxRecDepth 20000 in
theorem gX8_noted_X8_old : GoodIn wsX8_noted (wsV RX8 52 RX8 yX8_old wsX8_old) := goodIn_app (goodIn_of _ (by decide +kernel)) ggX8_noted_X8_old
set_option maxRecDepth 20000 in
theorem ggX8_noted_X8_ofCopy : GoodIn wsX8_noted wsX8_ofCopy := goodIn_r _ [10, 6, 11, 12, 13, 14, 15, 16, 17, 18, 19, 20, 21, 22] (by decide +kernel) (by decide +kernel)
set_option maxRecDepth 20000 in
theorem gX8_noted_X8_ofCopy : GoodIn wsX8_noted (wsV RX8 44 RX8 yX8_ofCopy wsX8_ofCopy) := goodIn_app (goodIn_of _ (by decide +kernel)) ggX8_noted_X8_ofCopy
theorem dX8_noted_0 : decode cX8_noted 0 = .ok (.bipush (-9), 2) := by decide +kernel
theorem dX8_noted_2 : decode cX8_noted 2 = .ok (.istore_n 2, 1) := by decide +kernel
theorem dX8_noted_3 : decode cX8_noted 3 = .ok (.bipush 63, 2) := by decide +kernel
theorem dX8_noted_5 : decode cX8_noted 5 = .ok (.istore_n 3, 1) := by decide +kernel
theorem dX8_noted_6 : decode cX8_noted 6 = .ok (.iload_n 3, 1) := by decide +kernel
theorem dX8_noted_7 : decode cX8_noted 7 = .ok (.ifCond .lt 52, 3) := by decide +kernel
theorem dX8_noted_10 : decode cX8_noted 10 = .ok (.bipush 64, 2) := by decide +kernel
theorem dX8_noted_12 : decode cX8_noted 12 = .ok (.aload_n 0, 1) := by decide +kernel
theorem dX8_noted_13 : decode cX8_noted 13 = .ok (.invokevirtual 52, 3) := by decide +kernel
theorem dX8_noted_16 : decode cX8_noted 16 = .ok (.imul, 1) := by decide +kernel
theorem dX8_noted_17 : decode cX8_noted 17 = .ok (.iload_n 3, 1) := by decide +kernel
theorem dX8_noted_18 : decode cX8_noted 18 = .ok (.iadd, 1) := by decide +kernel
theorem dX8_noted_19 : decode cX8_noted 19 = .ok (.istore 4, 2) := by decide +kernel
theorem dX8_noted_21 : decode cX8_noted 21 = .ok (.aload_n 0, 1) := by decide +kernel
theorem dX8_noted_22 : decode cX8_noted 22 = .ok (.iload 4, 2) := by decide +kernel
theorem dX8_noted_24 : decode cX8_noted 24 = .ok (.iconst 0, 1) := by decide +kernel
theorem dX8_noted_25 : decode cX8_noted 25 = .ok (.invokevirtual 44, 3) := by decide +kernel
theorem dX8_noted_28 : decode cX8_noted 28 = .ok (.iload_n 1, 1) := by decide +kernel
theorem dX8_noted_29 : decode cX8_noted 29 = .ok (.iconst 1, 1) := by decide +kernel
theorem dX8_noted_30 : decode cX8_noted 30 = .ok (.iadd, 1) := by decide +kernel
theorem dX8_noted_31 : decode cX8_noted 31 = .ok (.if_icmp .ne 20, 3) := by decide +kernel
theorem dX8_noted_34 : decode cX8_noted 34 = .ok (.aload_n 0, 1) := by decide +kernel
theorem dX8_noted_35 : decode cX8_noted 35 = .ok (.iload 4, 2) := by decide +kernel
theorem dX8_noted_37 : decode cX8_noted 37 = .ok (.iconst 3, 1) := by decide +kernel
theorem dX8_noted_38 : decode cX8_noted 38 = .ok (.invokevirtual 44, 3) := by decide +kernel
theorem dX8_noted_41 : decode cX8_noted 41 = .ok (.bipush (-9), 2) := by decide +kernel
theorem dX8_noted_43 : decode cX8_noted 43 = .ok (.if_icmp .eq 8, 3) := by decide +kernel
theorem dX8_noted_46 : decode cX8_noted 46 = .ok (.iload 4, 2) := by decide +kernel
theorem dX8_noted_48 : decode cX8_noted 48 = .ok (.goto 4, 3) := by decide +kernel
theorem dX8_noted_51 : decode cX8_noted 51 = .ok (.iload_n 2, 1) := by decide +kernel
theorem dX8_noted_52 : decode cX8_noted 52 = .ok (.istore_n 2, 1) := by decide +kernel
theorem dX8_noted_53 : decode cX8_noted 53 = .ok (.iinc 3 (-1), 3) := by decide +kernel
theorem dX8_noted_56 : decode cX8_noted 56 = .ok (.goto (-50), 3) := by decide +kernel
theorem dX8_noted_59 : decode cX8_noted 59 = .ok (.iload_n 2, 1) := by decide +kernel
theorem dX8_noted_60 : decode cX8_noted 60 = .ok (.ireturn, 1) := by decide +kernel
set_option maxRecDepth 20000 in
theorem ggX8_lose_X8_isThing : GoodIn wsX8_lose wsX8_isThing := goodIn_r _ [6, 1, 49, 50, 51, 52, 53, 54, 55, 56, 57, 58, 59, 60] (by decide +kernel) (by decide +kernel)
set_option maxRecDepth 20000 in
theorem gX8_lose_X8_isThing : GoodIn wsX8_lose (wsV RX8 118 RX8 yX8_isThing wsX8_isThing) := goodIn_app (goodIn_of _ (by decide +kernel)) ggX8_lose_X8_isThing
set_option maxRecDepth 20000 in
theorem ggX8_lose_X8_isMoving : GoodIn wsX8_lose wsX8_isMoving := goodIn_r _ [10, 1, 49, 50, 51, 52, 53, 54, 55, 56, 57, 58, 59, 60] (by decide +kernel) (by decide +kernel)
set_option maxRecDepth 20000 in
theorem gX8_lose_X8_isMoving : GoodIn wsX8_lose (wsV RX8 56 RX8 yX8_isMoving wsX8_isMoving) := goodIn_app (goodIn_of _ (by decide +kernel)) ggX8_lose_X8_isMoving
set_option maxRecDepth 20000 in
theorem ggX8_lose_X8_noted : GoodIn wsX8_lose wsX8_noted := goodIn_r _ [14, 15, 16, 17, 5, 18, 1, 19, 20, 21, 22, 49, 50, 51, 52, 53, 54, 55, 56, 57, 58, 59, 60] (by decide +kernel) (by decide +kernel)
set_option maxRecDepth 20000 in
theorem gX8_lose_X8_noted : GoodIn wsX8_lose (wsV RX8 121 RX8 yX8_noted wsX8_noted) := goodIn_app (goodIn_of _ (by decide +kernel)) ggX8_lose_X8_noted
set_option maxRecDepth 20000 in
theorem ggX8_lose_X8_free : GoodIn wsX8_lose wsX8_free := goodIn_r _ [26, 1, 49, 50, 51, 52, 53, 54, 55, 56, 57, 58, 59, 60] (by decide +kernel) (by decide +kernel)
set_option maxRecDepth 20000 in
theorem gX8_lose_X8_free : GoodIn wsX8_lose (wsV RX8 103 RX8 yX8_free wsX8_free) := goodIn_app (goodIn_of _ (by decide +kernel)) ggX8_lose_X8_free
set_option maxRecDepth 20000 in
theorem ggX8_lose_X8_kept : GoodIn wsX8_lose wsX8_kept := goodIn_r _ [30, 15, 16, 17, 5, 18, 1, 7, 8, 9, 10, 31, 32, 33, 34, 19, 20, 21, 22, 35, 36, 37, 38, 49, 50, 51, 52, 53, 54, 55, 56, 57, 58, 59, 60] (by decide +kernel) (by decide +kernel)
set_option maxRecDepth 20000 in
theorem gX8_lose_X8_kept : GoodIn wsX8_lose (wsV RX8 106 RX8 yX8_kept wsX8_kept) := goodIn_app (goodIn_of _ (by decide +kernel)) ggX8_lose_X8_kept
set_option maxRecDepth 20000 in
theorem ggX8_lose_X8_acts : GoodIn wsX8_lose wsX8_acts := goodIn_r _ [42, 43, 44, 45, 1, 49, 50, 51, 52, 53, 54, 55, 56, 57, 58, 59, 60] (by decide +kernel) (by decide +kernel)
set_option maxRecDepth 20000 in
theorem gX8_lose_X8_acts : GoodIn wsX8_lose (wsV RX8 94 RX8 yX8_acts wsX8_acts) := goodIn_app (goodIn_of _ (by decide +kernel)) ggX8_lose_X8_acts
set_option maxRecDepth 20000 in
theorem ggX8_lose_X8_address : GoodIn wsX8_lose wsX8_address := goodIn_r _ [48] (by decide +kernel) (by decide +kernel)
set_option maxRecDepth 20000 in
theorem gX8_lose_X8_address : GoodIn wsX8_lose (va_wsS RX8 76 yX8_address wsX8_address) := goodIn_app (goodIn_of _ (by decide +kernel)) ggX8_lose_X8_address
theorem dX8_lose_0 : decode cX8_lose 0 = .ok (.aload_n 0, 1) := by decide +kernel
theorem dX8_lose_1 : decode cX8_lose 1 = .ok (.iload_n 1, 1) := by decide +kernel
theorem dX8_lose_2 : decode cX8_lose 2 = .ok (.invokevirtual 118, 3) := by decide +kernel
theorem dX8_lose_5 : decode cX8_lose 5 = .ok (.ifCond .ne 5, 3) := by decide +kernel
theorem dX8_lose_8 : decode cX8_lose 8 = .ok (.iconst (-1), 1) := by decide +kernel
theorem dX8_lose_9 : decode cX8_lose 9 = .ok (.ireturn, 1) := by decide +kernel
theorem dX8_lose_10 : decode cX8_lose 10 = .ok (.aload_n 0, 1) := by decide +kernel
theorem dX8_lose_11 : decode cX8_lose 11 = .ok (.invokevirtual 56, 3) := by decide +kernel
theorem dX8_lose_14 : decode cX8_lose 14 = .ok (.ifCond .eq 11, 3) := by decide +kernel
theorem dX8_lose_17 : decode cX8_lose 17 = .ok (.aload_n 0, 1) := by decide +kernel
theorem dX8_lose_18 : decode cX8_lose 18 = .ok (.iload_n 1, 1) := by decide +kernel
theorem dX8_lose_19 : decode cX8_lose 19 = .ok (.invokevirtual 121, 3) := by decide +kernel
theorem dX8_lose_22 : decode cX8_lose 22 = .ok (.goto 5, 3) := by decide +kernel
theorem dX8_lose_25 : decode cX8_lose 25 = .ok (.bipush (-9), 2) := by decide +kernel
theorem dX8_lose_27 : decode cX8_lose 27 = .ok (.istore_n 2, 1) := by decide +kernel
theorem dX8_lose_28 : decode cX8_lose 28 = .ok (.iload_n 2, 1) := by decide +kernel
theorem dX8_lose_29 : decode cX8_lose 29 = .ok (.bipush (-9), 2) := by decide +kernel
theorem dX8_lose_31 : decode cX8_lose 31 = .ok (.if_icmp .ne 6, 3) := by decide +kernel
theorem dX8_lose_34 : decode cX8_lose 34 = .ok (.bipush (-2), 2) := by decide +kernel
theorem dX8_lose_36 : decode cX8_lose 36 = .ok (.ireturn, 1) := by decide +kernel
theorem dX8_lose_37 : decode cX8_lose 37 = .ok (.aload_n 0, 1) := by decide +kernel
theorem dX8_lose_38 : decode cX8_lose 38 = .ok (.aload_n 0, 1) := by decide +kernel
theorem dX8_lose_39 : decode cX8_lose 39 = .ok (.getfield 7, 3) := by decide +kernel
theorem dX8_lose_42 : decode cX8_lose 42 = .ok (.iconst 3, 1) := by decide +kernel
theorem dX8_lose_43 : decode cX8_lose 43 = .ok (.iaload, 1) := by decide +kernel
theorem dX8_lose_44 : decode cX8_lose 44 = .ok (.invokevirtual 103, 3) := by decide +kernel
theorem dX8_lose_47 : decode cX8_lose 47 = .ok (.aload_n 0, 1) := by decide +kernel
theorem dX8_lose_48 : decode cX8_lose 48 = .ok (.invokevirtual 106, 3) := by decide +kernel
theorem dX8_lose_51 : decode cX8_lose 51 = .ok (.aload_n 0, 1) := by decide +kernel
theorem dX8_lose_52 : decode cX8_lose 52 = .ok (.getfield 7, 3) := by decide +kernel
theorem dX8_lose_55 : decode cX8_lose 55 = .ok (.bipush 17, 2) := by decide +kernel
theorem dX8_lose_57 : decode cX8_lose 57 = .ok (.iload_n 1, 1) := by decide +kernel
theorem dX8_lose_58 : decode cX8_lose 58 = .ok (.iadd, 1) := by decide +kernel
theorem dX8_lose_59 : decode cX8_lose 59 = .ok (.iaload, 1) := by decide +kernel
theorem dX8_lose_60 : decode cX8_lose 60 = .ok (.iadd, 1) := by decide +kernel
theorem dX8_lose_61 : decode cX8_lose 61 = .ok (.if_icmp .ge 6, 3) := by decide +kernel
theorem dX8_lose_64 : decode cX8_lose 64 = .ok (.bipush (-3), 2) := by decide +kernel
theorem dX8_lose_66 : decode cX8_lose 66 = .ok (.ireturn, 1) := by decide +kernel
theorem dX8_lose_67 : decode cX8_lose 67 = .ok (.aload_n 0, 1) := by decide +kernel
theorem dX8_lose_68 : decode cX8_lose 68 = .ok (.invokevirtual 94, 3) := by decide +kernel
theorem dX8_lose_71 : decode cX8_lose 71 = .ok (.aload_n 0, 1) := by decide +kernel
theorem dX8_lose_72 : decode cX8_lose 72 = .ok (.getfield 7, 3) := by decide +kernel
theorem dX8_lose_75 : decode cX8_lose 75 = .ok (.sipush 185, 3) := by decide +kernel
theorem dX8_lose_78 : decode cX8_lose 78 = .ok (.iconst 5, 1) := by decide +kernel
theorem dX8_lose_79 : decode cX8_lose 79 = .ok (.iload_n 2, 1) := by decide +kernel
theorem dX8_lose_80 : decode cX8_lose 80 = .ok (.imul, 1) := by decide +kernel
theorem dX8_lose_81 : decode cX8_lose 81 = .ok (.iadd, 1) := by decide +kernel
theorem dX8_lose_82 : decode cX8_lose 82 = .ok (.iconst 3, 1) := by decide +kernel
theorem dX8_lose_83 : decode cX8_lose 83 = .ok (.iadd, 1) := by decide +kernel
theorem dX8_lose_84 : decode cX8_lose 84 = .ok (.bipush (-9), 2) := by decide +kernel
theorem dX8_lose_86 : decode cX8_lose 86 = .ok (.iastore, 1) := by decide +kernel
theorem dX8_lose_87 : decode cX8_lose 87 = .ok (.aload_n 0, 1) := by decide +kernel
theorem dX8_lose_88 : decode cX8_lose 88 = .ok (.getfield 7, 3) := by decide +kernel
theorem dX8_lose_91 : decode cX8_lose 91 = .ok (.bipush 6, 2) := by decide +kernel
theorem dX8_lose_93 : decode cX8_lose 93 = .ok (.dup2, 1) := by decide +kernel
theorem dX8_lose_94 : decode cX8_lose 94 = .ok (.iaload, 1) := by decide +kernel
theorem dX8_lose_95 : decode cX8_lose 95 = .ok (.iconst 1, 1) := by decide +kernel
theorem dX8_lose_96 : decode cX8_lose 96 = .ok (.iadd, 1) := by decide +kernel
theorem dX8_lose_97 : decode cX8_lose 97 = .ok (.iastore, 1) := by decide +kernel
theorem dX8_lose_98 : decode cX8_lose 98 = .ok (.iload_n 2, 1) := by decide +kernel
theorem dX8_lose_99 : decode cX8_lose 99 = .ok (.invokestatic 76, 3) := by decide +kernel
theorem dX8_lose_102 : decode cX8_lose 102 = .ok (.ireturn, 1) := by decide +kernel
set_option maxRecDepth 20000 in
theorem ggX8_copies_X8_isMoving : GoodIn wsX8_copies wsX8_isMoving := goodIn_r _ [5, 6, 15, 16, 17, 18, 19, 20, 21, 22, 23, 24, 25, 26] (by decide +kernel) (by decide +kernel)
set_option maxRecDepth 20000 in
theorem gX8_copies_X8_isMoving : GoodIn wsX8_copies (wsV RX8 56 RX8 yX8_isMoving wsX8_isMoving) := goodIn_app (goodIn_of _ (by decide +kernel)) ggX8_copies_X8_isMoving
set_option maxRecDepth 20000 in
theorem ggX8_copies_X8_old : GoodIn wsX8_copies wsX8_old := goodIn_r _ [10, 6, 15, 16, 17, 18, 19, 20, 21, 22, 23, 24, 25, 26] (by decide +kernel) (by decide +kernel)
set_option maxRecDepth 20000 in
theorem gX8_copies_X8_old : GoodIn wsX8_copies (wsV RX8 52 RX8 yX8_old wsX8_old) := goodIn_app (goodIn_of _ (by decide +kernel)) ggX8_copies_X8_old
set_option maxRecDepth 20000 in
theorem ggX8_copies_X8_ofCopy : GoodIn wsX8_copies wsX8_ofCopy := goodIn_r _ [14, 6, 15, 16, 17, 18, 19, 20, 21, 22, 23, 24, 25, 26] (by decide +kernel) (by decide +kernel)
set_option maxRecDepth 20000 in
theorem gX8_copies_X8_ofCopy : GoodIn wsX8_copies (wsV RX8 44 RX8 yX8_ofCopy wsX8_ofCopy) := goodIn_app (goodIn_of _ (by decide +kernel)) ggX8_copies_X8_ofCopy
theorem dX8_copies_0 : decode cX8_copies 0 = .ok (.iconst 0, 1) := by decide +kernel
theorem dX8_copies_1 : decode cX8_copies 1 = .ok (.istore_n 2, 1) := by decide +kernel
theorem dX8_copies_2 : decode cX8_copies 2 = .ok (.iconst 0, 1) := by decide +kernel
theorem dX8_copies_3 : decode cX8_copies 3 = .ok (.istore_n 3, 1) := by decide +kernel
theorem dX8_copies_4 : decode cX8_copies 4 = .ok (.iload_n 3, 1) := by decide +kernel
theorem dX8_copies_5 : decode cX8_copies 5 = .ok (.sipush 188, 3) := by decide +kernel
theorem dX8_copies_8 : decode cX8_copies 8 = .ok (.if_icmp .ge 59, 3) := by decide +kernel
theorem dX8_copies_11 : decode cX8_copies 11 = .ok (.aload_n 0, 1) := by decide +kernel
theorem dX8_copies_12 : decode cX8_copies 12 = .ok (.invokevirtual 56, 3) := by decide +kernel
theorem dX8_copies_15 : decode cX8_copies 15 = .ok (.ifCond .eq 14, 3) := by decide +kernel
theorem dX8_copies_18 : decode cX8_copies 18 = .ok (.iload_n 3, 1) := by decide +kernel
theorem dX8_copies_19 : decode cX8_copies 19 = .ok (.bipush 64, 2) := by decide +kernel
theorem dX8_copies_21 : decode cX8_copies 21 = .ok (.idiv, 1) := by decide +kernel
theorem dX8_copies_22 : decode cX8_copies 22 = .ok (.aload_n 0, 1) := by decide +kernel
theorem dX8_copies_23 : decode cX8_copies 23 = .ok (.invokevirtual 52, 3) := by decide +kernel
theorem dX8_copies_26 : decode cX8_copies 26 = .ok (.if_icmp .eq 7, 3) := by decide +kernel
theorem dX8_copies_29 : decode cX8_copies 29 = .ok (.iconst 1, 1) := by decide +kernel
theorem dX8_copies_30 : decode cX8_copies 30 = .ok (.goto 4, 3) := by decide +kernel
theorem dX8_copies_33 : decode cX8_copies 33 = .ok (.iconst 0, 1) := by decide +kernel
theorem dX8_copies_34 : decode cX8_copies 34 = .ok (.istore 4, 2) := by decide +kernel
theorem dX8_copies_36 : decode cX8_copies 36 = .ok (.iload_n 2, 1) := by decide +kernel
theorem dX8_copies_37 : decode cX8_copies 37 = .ok (.iload 4, 2) := by decide +kernel
theorem dX8_copies_39 : decode cX8_copies 39 = .ok (.ifCond .eq 19, 3) := by decide +kernel
theorem dX8_copies_42 : decode cX8_copies 42 = .ok (.aload_n 0, 1) := by decide +kernel
theorem dX8_copies_43 : decode cX8_copies 43 = .ok (.iload_n 3, 1) := by decide +kernel
theorem dX8_copies_44 : decode cX8_copies 44 = .ok (.iconst 0, 1) := by decide +kernel
theorem dX8_copies_45 : decode cX8_copies 45 = .ok (.invokevirtual 44, 3) := by decide +kernel
theorem dX8_copies_48 : decode cX8_copies 48 = .ok (.iload_n 1, 1) := by decide +kernel
theorem dX8_copies_49 : decode cX8_copies 49 = .ok (.iconst 1, 1) := by decide +kernel
theorem dX8_copies_50 : decode cX8_copies 50 = .ok (.iadd, 1) := by decide +kernel
theorem dX8_copies_51 : decode cX8_copies 51 = .ok (.if_icmp .ne 7, 3) := by decide +kernel
theorem dX8_copies_54 : decode cX8_copies 54 = .ok (.iconst 1, 1) := by decide +kernel
theorem dX8_copies_55 : decode cX8_copies 55 = .ok (.goto 4, 3) := by decide +kernel
theorem dX8_copies_58 : decode cX8_copies 58 = .ok (.iconst 0, 1) := by decide +kernel
theorem dX8_copies_59 : decode cX8_copies 59 = .ok (.iadd, 1) := by decide +kernel
theorem dX8_copies_60 : decode cX8_copies 60 = .ok (.istore_n 2, 1) := by decide +kernel
theorem dX8_copies_61 : decode cX8_copies 61 = .ok (.iinc 3 1, 3) := by decide +kernel
theorem dX8_copies_64 : decode cX8_copies 64 = .ok (.goto (-60), 3) := by decide +kernel
theorem dX8_copies_67 : decode cX8_copies 67 = .ok (.iload_n 2, 1) := by decide +kernel
theorem dX8_copies_68 : decode cX8_copies 68 = .ok (.ireturn, 1) := by decide +kernel
set_option maxRecDepth 20000 in
theorem ggX8_first_X8_ofCopy : GoodIn wsX8_first wsX8_ofCopy := goodIn_r _ [5, 6, 7, 8, 9, 10, 11, 12, 13, 14, 15, 16, 17, 18] (by decide +kernel) (by decide +kernel)
set_option maxRecDepth 20000 in
theorem gX8_first_X8_ofCopy : GoodIn wsX8_first (wsV RX8 44 RX8 yX8_ofCopy wsX8_ofCopy) := goodIn_app (goodIn_of _ (by decide +kernel)) ggX8_first_X8_ofCopy
theorem dX8_first_0 : decode cX8_first 0 = .ok (.iconst 0, 1) := by decide +kernel
theorem dX8_first_1 : decode cX8_first 1 = .ok (.istore_n 2, 1) := by decide +kernel
theorem dX8_first_2 : decode cX8_first 2 = .ok (.aload_n 0, 1) := by decide +kernel
theorem dX8_first_3 : decode cX8_first 3 = .ok (.iload_n 2, 1) := by decide +kernel
theorem dX8_first_4 : decode cX8_first 4 = .ok (.iconst 0, 1) := by decide +kernel
theorem dX8_first_5 : decode cX8_first 5 = .ok (.invokevirtual 44, 3) := by decide +kernel
theorem dX8_first_8 : decode cX8_first 8 = .ok (.iload_n 1, 1) := by decide +kernel
theorem dX8_first_9 : decode cX8_first 9 = .ok (.iconst 1, 1) := by decide +kernel
theorem dX8_first_10 : decode cX8_first 10 = .ok (.iadd, 1) := by decide +kernel
theorem dX8_first_11 : decode cX8_first 11 = .ok (.if_icmp .eq 9, 3) := by decide +kernel
theorem dX8_first_14 : decode cX8_first 14 = .ok (.iinc 2 1, 3) := by decide +kernel
theorem dX8_first_17 : decode cX8_first 17 = .ok (.goto (-15), 3) := by decide +kernel
theorem dX8_first_20 : decode cX8_first 20 = .ok (.iload_n 2, 1) := by decide +kernel
theorem dX8_first_21 : decode cX8_first 21 = .ok (.ireturn, 1) := by decide +kernel
set_option maxRecDepth 20000 in
theorem ggX8_turns_X8_cell : GoodIn wsX8_turns wsX8_cell := goodIn_r _ [5] (by decide +kernel) (by decide +kernel)
set_option maxRecDepth 20000 in
theorem gX8_turns_X8_cell : GoodIn wsX8_turns (va_wsS RX8 79 yX8_cell wsX8_cell) := goodIn_app (goodIn_of _ (by decide +kernel)) ggX8_turns_X8_cell
set_option maxRecDepth 20000 in
theorem ggX8_turns_X8_ofCopy : GoodIn wsX8_turns wsX8_ofCopy := goodIn_r _ [9, 1, 10, 11, 12, 13, 14, 15, 16, 17, 18, 19, 20, 21] (by decide +kernel) (by decide +kernel)
set_option maxRecDepth 20000 in
theorem gX8_turns_X8_ofCopy : GoodIn wsX8_turns (wsV RX8 44 RX8 yX8_ofCopy wsX8_ofCopy) := goodIn_app (goodIn_of _ (by decide +kernel)) ggX8_turns_X8_ofCopy
theorem dX8_turns_0 : decode cX8_turns 0 = .ok (.aload_n 0, 1) := by decide +kernel
theorem dX8_turns_1 : decode cX8_turns 1 = .ok (.getfield 7, 3) := by decide +kernel
theorem dX8_turns_4 : decode cX8_turns 4 = .ok (.iload_n 1, 1) := by decide +kernel
theorem dX8_turns_5 : decode cX8_turns 5 = .ok (.iaload, 1) := by decide +kernel
theorem dX8_turns_6 : decode cX8_turns 6 = .ok (.bipush (-9), 2) := by decide +kernel
theorem dX8_turns_8 : decode cX8_turns 8 = .ok (.if_icmp .eq 27, 3) := by decide +kernel
theorem dX8_turns_11 : decode cX8_turns 11 = .ok (.aload_n 0, 1) := by decide +kernel
theorem dX8_turns_12 : decode cX8_turns 12 = .ok (.aload_n 0, 1) := by decide +kernel
theorem dX8_turns_13 : decode cX8_turns 13 = .ok (.getfield 7, 3) := by decide +kernel
theorem dX8_turns_16 : decode cX8_turns 16 = .ok (.iload_n 1, 1) := by decide +kernel
theorem dX8_turns_17 : decode cX8_turns 17 = .ok (.iaload, 1) := by decide +kernel
theorem dX8_turns_18 : decode cX8_turns 18 = .ok (.invokestatic 79, 3) := by decide +kernel
theorem dX8_turns_21 : decode cX8_turns 21 = .ok (.iconst 0, 1) := by decide +kernel
theorem dX8_turns_22 : decode cX8_turns 22 = .ok (.invokevirtual 44, 3) := by decide +kernel
theorem dX8_turns_25 : decode cX8_turns 25 = .ok (.iload_n 2, 1) := by decide +kernel
theorem dX8_turns_26 : decode cX8_turns 26 = .ok (.iconst 1, 1) := by decide +kernel
theorem dX8_turns_27 : decode cX8_turns 27 = .ok (.iadd, 1) := by decide +kernel
theorem dX8_turns_28 : decode cX8_turns 28 = .ok (.if_icmp .ne 7, 3) := by decide +kernel
theorem dX8_turns_31 : decode cX8_turns 31 = .ok (.iconst 1, 1) := by decide +kernel
theorem dX8_turns_32 : decode cX8_turns 32 = .ok (.goto 4, 3) := by decide +kernel
theorem dX8_turns_35 : decode cX8_turns 35 = .ok (.iconst 0, 1) := by decide +kernel
theorem dX8_turns_36 : decode cX8_turns 36 = .ok (.istore 4, 2) := by decide +kernel
theorem dX8_turns_38 : decode cX8_turns 38 = .ok (.aload_n 0, 1) := by decide +kernel
theorem dX8_turns_39 : decode cX8_turns 39 = .ok (.getfield 7, 3) := by decide +kernel
theorem dX8_turns_42 : decode cX8_turns 42 = .ok (.iload_n 1, 1) := by decide +kernel
theorem dX8_turns_43 : decode cX8_turns 43 = .ok (.iload 4, 2) := by decide +kernel
theorem dX8_turns_45 : decode cX8_turns 45 = .ok (.ifCond .eq 7, 3) := by decide +kernel
theorem dX8_turns_48 : decode cX8_turns 48 = .ok (.iload_n 3, 1) := by decide +kernel
theorem dX8_turns_49 : decode cX8_turns 49 = .ok (.goto 9, 3) := by decide +kernel
theorem dX8_turns_52 : decode cX8_turns 52 = .ok (.aload_n 0, 1) := by decide +kernel
theorem dX8_turns_53 : decode cX8_turns 53 = .ok (.getfield 7, 3) := by decide +kernel
theorem dX8_turns_56 : decode cX8_turns 56 = .ok (.iload_n 1, 1) := by decide +kernel
theorem dX8_turns_57 : decode cX8_turns 57 = .ok (.iaload, 1) := by decide +kernel
theorem dX8_turns_58 : decode cX8_turns 58 = .ok (.iastore, 1) := by decide +kernel
theorem dX8_turns_59 : decode cX8_turns 59 = .ok (.return_, 1) := by decide +kernel
set_option maxRecDepth 20000 in
theorem ggX8_mend_X8_isThing : GoodIn wsX8_mend wsX8_isThing := goodIn_r _ [6, 1, 48, 49, 50, 51, 52, 53, 54, 55, 56, 57, 58, 59] (by decide +kernel) (by decide +kernel)
set_option maxRecDepth 20000 in
theorem gX8_mend_X8_isThing : GoodIn wsX8_mend (wsV RX8 118 RX8 yX8_isThing wsX8_isThing) := goodIn_app (goodIn_of _ (by decide +kernel)) ggX8_mend_X8_isThing
set_option maxRecDepth 20000 in
theorem ggX8_mend_X8_copies : GoodIn wsX8_mend wsX8_copies := goodIn_r _ [10, 11, 12, 13, 5, 14, 1, 15, 16, 17, 18, 19, 20, 21, 22, 48, 49, 50, 51, 52, 53, 54, 55, 56, 57, 58, 59] (by decide +kernel) (by decide +kernel)
set_option maxRecDepth 20000 in
theorem gX8_mend_X8_copies : GoodIn wsX8_mend (wsV RX8 124 RX8 yX8_copies wsX8_copies) := goodIn_app (goodIn_of _ (by decide +kernel)) ggX8_mend_X8_copies
set_option maxRecDepth 20000 in
theorem ggX8_mend_X8_isMoving : GoodIn wsX8_mend wsX8_isMoving := goodIn_r _ [14, 1, 48, 49, 50, 51, 52, 53, 54, 55, 56, 57, 58, 59] (by decide +kernel) (by decide +kernel)
set_option maxRecDepth 20000 in
theorem gX8_mend_X8_isMoving : GoodIn wsX8_mend (wsV RX8 56 RX8 yX8_isMoving wsX8_isMoving) := goodIn_app (goodIn_of _ (by decide +kernel)) ggX8_mend_X8_isMoving
set_option maxRecDepth 20000 in
theorem ggX8_mend_X8_acts : GoodIn wsX8_mend wsX8_acts := goodIn_r _ [26, 27, 28, 29, 1, 48, 49, 50, 51, 52, 53, 54, 55, 56, 57, 58, 59] (by decide +kernel) (by decide +kernel)
set_option maxRecDepth 20000 in
theorem gX8_mend_X8_acts : GoodIn wsX8_mend (wsV RX8 94 RX8 yX8_acts wsX8_acts) := goodIn_app (goodIn_of _ (by decide +kernel)) ggX8_mend_X8_acts
set_option maxRecDepth 20000 in
theorem ggX8_mend_X8_first : GoodIn wsX8_mend wsX8_first := goodIn_r _ [33, 19, 20, 21, 5, 22, 1, 48, 49, 50, 51, 52, 53, 54, 55, 56, 57, 58, 59] (by decide +kernel) (by decide +kernel)
set_option maxRecDepth 20000 in
theorem gX8_mend_X8_first : GoodIn wsX8_mend (wsV RX8 127 RX8 yX8_first wsX8_first) := goodIn_app (goodIn_of _ (by decide +kernel)) ggX8_mend_X8_first
set_option maxRecDepth 20000 in
theorem ggX8_mend_X8_address : GoodIn wsX8_mend wsX8_address := goodIn_r _ [36] (by decide +kernel) (by decide +kernel)
set_option maxRecDepth 20000 in
theorem gX8_mend_X8_address : GoodIn wsX8_mend (va_wsS RX8 76 yX8_address wsX8_address) := goodIn_app (goodIn_of _ (by decide +kernel)) ggX8_mend_X8_address
set_option maxRecDepth 20000 in
theorem ggX8_mend_X8_turns : GoodIn wsX8_mend wsX8_turns := goodIn_r _ [40, 1, 41, 42, 5, 43, 19, 20, 21, 22, 48, 49, 50, 51, 52, 53, 54, 55, 56, 57, 58, 59] (by decide +kernel) (by decide +kernel)
set_option maxRecDepth 20000 in
theorem gX8_mend_X8_turns : GoodIn wsX8_mend (wsV RX8 130 RX8 yX8_turns wsX8_turns) := goodIn_app (goodIn_of _ (by decide +kernel)) ggX8_mend_X8_turns
set_option maxRecDepth 20000 in
theorem ggX8_mend_X8_isCopy : GoodIn wsX8_mend wsX8_isCopy := goodIn_r _ [47, 19, 20, 21, 5, 22, 1, 48, 49, 50, 51, 52, 53, 54, 55, 56, 57, 58, 59] (by decide +kernel) (by decide +kernel)
set_option maxRecDepth 20000 in
theorem gX8_mend_X8_isCopy : GoodIn wsX8_mend (wsV RX8 48 RX8 yX8_isCopy wsX8_isCopy) := goodIn_app (goodIn_of _ (by decide +kernel)) ggX8_mend_X8_isCopy
set_option maxRecDepth 20000 in
theorem ggX8_mend_X8_ofCopy : GoodIn wsX8_mend wsX8_ofCopy := goodIn_r _ [22, 1, 48, 49, 50, 51, 52, 53, 54, 55, 56, 57, 58, 59] (by decide +kernel) (by decide +kernel)
set_option maxRecDepth 20000 in
theorem gX8_mend_X8_ofCopy : GoodIn wsX8_mend (wsV RX8 44 RX8 yX8_ofCopy wsX8_ofCopy) := goodIn_app (goodIn_of _ (by decide +kernel)) ggX8_mend_X8_ofCopy
theorem dX8_mend_0 : decode cX8_mend 0 = .ok (.aload_n 0, 1) := by decide +kernel
theorem dX8_mend_1 : decode cX8_mend 1 = .ok (.iload_n 1, 1) := by decide +kernel
theorem dX8_mend_2 : decode cX8_mend 2 = .ok (.invokevirtual 118, 3) := by decide +kernel
theorem dX8_mend_5 : decode cX8_mend 5 = .ok (.ifCond .ne 5, 3) := by decide +kernel
theorem dX8_mend_8 : decode cX8_mend 8 = .ok (.iconst (-1), 1) := by decide +kernel
theorem dX8_mend_9 : decode cX8_mend 9 = .ok (.ireturn, 1) := by decide +kernel
theorem dX8_mend_10 : decode cX8_mend 10 = .ok (.aload_n 0, 1) := by decide +kernel
theorem dX8_mend_11 : decode cX8_mend 11 = .ok (.iload_n 1, 1) := by decide +kernel
theorem dX8_mend_12 : decode cX8_mend 12 = .ok (.invokevirtual 124, 3) := by decide +kernel
theorem dX8_mend_15 : decode cX8_mend 15 = .ok (.istore_n 2, 1) := by decide +kernel
theorem dX8_mend_16 : decode cX8_mend 16 = .ok (.aload_n 0, 1) := by decide +kernel
theorem dX8_mend_17 : decode cX8_mend 17 = .ok (.invokevirtual 56, 3) := by decide +kernel
theorem dX8_mend_20 : decode cX8_mend 20 = .ok (.ifCond .ne 8, 3) := by decide +kernel
theorem dX8_mend_23 : decode cX8_mend 23 = .ok (.iload_n 2, 1) := by decide +kernel
theorem dX8_mend_24 : decode cX8_mend 24 = .ok (.iconst 2, 1) := by decide +kernel
theorem dX8_mend_25 : decode cX8_mend 25 = .ok (.if_icmp .ge 6, 3) := by decide +kernel
theorem dX8_mend_28 : decode cX8_mend 28 = .ok (.bipush (-2), 2) := by decide +kernel
theorem dX8_mend_30 : decode cX8_mend 30 = .ok (.ireturn, 1) := by decide +kernel
theorem dX8_mend_31 : decode cX8_mend 31 = .ok (.aload_n 0, 1) := by decide +kernel
theorem dX8_mend_32 : decode cX8_mend 32 = .ok (.invokevirtual 94, 3) := by decide +kernel
theorem dX8_mend_35 : decode cX8_mend 35 = .ok (.aload_n 0, 1) := by decide +kernel
theorem dX8_mend_36 : decode cX8_mend 36 = .ok (.iload_n 1, 1) := by decide +kernel
theorem dX8_mend_37 : decode cX8_mend 37 = .ok (.invokevirtual 127, 3) := by decide +kernel
theorem dX8_mend_40 : decode cX8_mend 40 = .ok (.istore_n 3, 1) := by decide +kernel
theorem dX8_mend_41 : decode cX8_mend 41 = .ok (.iconst 0, 1) := by decide +kernel
theorem dX8_mend_42 : decode cX8_mend 42 = .ok (.istore 4, 2) := by decide +kernel
theorem dX8_mend_44 : decode cX8_mend 44 = .ok (.iload 4, 2) := by decide +kernel
theorem dX8_mend_46 : decode cX8_mend 46 = .ok (.bipush 8, 2) := by decide +kernel
theorem dX8_mend_48 : decode cX8_mend 48 = .ok (.if_icmp .ge 23, 3) := by decide +kernel
theorem dX8_mend_51 : decode cX8_mend 51 = .ok (.aload_n 0, 1) := by decide +kernel
theorem dX8_mend_52 : decode cX8_mend 52 = .ok (.bipush 9, 2) := by decide +kernel
theorem dX8_mend_54 : decode cX8_mend 54 = .ok (.iload 4, 2) := by decide +kernel
theorem dX8_mend_56 : decode cX8_mend 56 = .ok (.iadd, 1) := by decide +kernel
theorem dX8_mend_57 : decode cX8_mend 57 = .ok (.iload_n 1, 1) := by decide +kernel
theorem dX8_mend_58 : decode cX8_mend 58 = .ok (.iload_n 3, 1) := by decide +kernel
theorem dX8_mend_59 : decode cX8_mend 59 = .ok (.invokestatic 76, 3) := by decide +kernel
theorem dX8_mend_62 : decode cX8_mend 62 = .ok (.invokevirtual 130, 3) := by decide +kernel
theorem dX8_mend_65 : decode cX8_mend 65 = .ok (.iinc 4 1, 3) := by decide +kernel
theorem dX8_mend_68 : decode cX8_mend 68 = .ok (.goto (-24), 3) := by decide +kernel
theorem dX8_mend_71 : decode cX8_mend 71 = .ok (.iconst 0, 1) := by decide +kernel
theorem dX8_mend_72 : decode cX8_mend 72 = .ok (.istore 4, 2) := by decide +kernel
theorem dX8_mend_74 : decode cX8_mend 74 = .ok (.iload 4, 2) := by decide +kernel
theorem dX8_mend_76 : decode cX8_mend 76 = .ok (.sipush 188, 3) := by decide +kernel
theorem dX8_mend_79 : decode cX8_mend 79 = .ok (.if_icmp .ge 58, 3) := by decide +kernel
theorem dX8_mend_82 : decode cX8_mend 82 = .ok (.aload_n 0, 1) := by decide +kernel
theorem dX8_mend_83 : decode cX8_mend 83 = .ok (.iload 4, 2) := by decide +kernel
theorem dX8_mend_85 : decode cX8_mend 85 = .ok (.invokevirtual 48, 3) := by decide +kernel
theorem dX8_mend_88 : decode cX8_mend 88 = .ok (.ifCond .eq 43, 3) := by decide +kernel
theorem dX8_mend_91 : decode cX8_mend 91 = .ok (.aload_n 0, 1) := by decide +kernel
theorem dX8_mend_92 : decode cX8_mend 92 = .ok (.sipush 185, 3) := by decide +kernel
theorem dX8_mend_95 : decode cX8_mend 95 = .ok (.iconst 5, 1) := by decide +kernel
theorem dX8_mend_96 : decode cX8_mend 96 = .ok (.iload 4, 2) := by decide +kernel
theorem dX8_mend_98 : decode cX8_mend 98 = .ok (.imul, 1) := by decide +kernel
theorem dX8_mend_99 : decode cX8_mend 99 = .ok (.iadd, 1) := by decide +kernel
theorem dX8_mend_100 : decode cX8_mend 100 = .ok (.iconst 1, 1) := by decide +kernel
theorem dX8_mend_101 : decode cX8_mend 101 = .ok (.iadd, 1) := by decide +kernel
theorem dX8_mend_102 : decode cX8_mend 102 = .ok (.iload_n 1, 1) := by decide +kernel
theorem dX8_mend_103 : decode cX8_mend 103 = .ok (.iload_n 3, 1) := by decide +kernel
theorem dX8_mend_104 : decode cX8_mend 104 = .ok (.invokestatic 76, 3) := by decide +kernel
theorem dX8_mend_107 : decode cX8_mend 107 = .ok (.invokevirtual 130, 3) := by decide +kernel
theorem dX8_mend_110 : decode cX8_mend 110 = .ok (.aload_n 0, 1) := by decide +kernel
theorem dX8_mend_111 : decode cX8_mend 111 = .ok (.sipush 185, 3) := by decide +kernel
theorem dX8_mend_114 : decode cX8_mend 114 = .ok (.iconst 5, 1) := by decide +kernel
theorem dX8_mend_115 : decode cX8_mend 115 = .ok (.iload 4, 2) := by decide +kernel
theorem dX8_mend_117 : decode cX8_mend 117 = .ok (.imul, 1) := by decide +kernel
theorem dX8_mend_118 : decode cX8_mend 118 = .ok (.iadd, 1) := by decide +kernel
theorem dX8_mend_119 : decode cX8_mend 119 = .ok (.iconst 1, 1) := by decide +kernel
theorem dX8_mend_120 : decode cX8_mend 120 = .ok (.iadd, 1) := by decide +kernel
theorem dX8_mend_121 : decode cX8_mend 121 = .ok (.iconst 1, 1) := by decide +kernel
theorem dX8_mend_122 : decode cX8_mend 122 = .ok (.iadd, 1) := by decide +kernel
theorem dX8_mend_123 : decode cX8_mend 123 = .ok (.iload_n 1, 1) := by decide +kernel
theorem dX8_mend_124 : decode cX8_mend 124 = .ok (.iload_n 3, 1) := by decide +kernel
theorem dX8_mend_125 : decode cX8_mend 125 = .ok (.invokestatic 76, 3) := by decide +kernel
theorem dX8_mend_128 : decode cX8_mend 128 = .ok (.invokevirtual 130, 3) := by decide +kernel
theorem dX8_mend_131 : decode cX8_mend 131 = .ok (.iinc 4 1, 3) := by decide +kernel
theorem dX8_mend_134 : decode cX8_mend 134 = .ok (.goto (-60), 3) := by decide +kernel
theorem dX8_mend_137 : decode cX8_mend 137 = .ok (.iload_n 3, 1) := by decide +kernel
theorem dX8_mend_138 : decode cX8_mend 138 = .ok (.iconst 1, 1) := by decide +kernel
theorem dX8_mend_139 : decode cX8_mend 139 = .ok (.iadd, 1) := by decide +kernel
theorem dX8_mend_140 : decode cX8_mend 140 = .ok (.istore 4, 2) := by decide +kernel
theorem dX8_mend_142 : decode cX8_mend 142 = .ok (.iload 4, 2) := by decide +kernel
theorem dX8_mend_144 : decode cX8_mend 144 = .ok (.sipush 188, 3) := by decide +kernel
theorem dX8_mend_147 : decode cX8_mend 147 = .ok (.if_icmp .ge 48, 3) := by decide +kernel
theorem dX8_mend_150 : decode cX8_mend 150 = .ok (.aload_n 0, 1) := by decide +kernel
end
section
theorem dX8_mend_151 : decode cX8_mend 151 = .ok (.getfield 7, 3) := by decide +kernel
theorem dX8_mend_154 : decode cX8_mend 154 = .ok (.sipush 185, 3) := by decide +kernel
theorem dX8_mend_157 : decode cX8_mend 157 = .ok (.iconst 5, 1) := by decide +kernel
theorem dX8_mend_158 : decode cX8_mend 158 = .ok (.iload 4, 2) := by decide +kernel
theorem dX8_mend_160 : decode cX8_mend 160 = .ok (.imul, 1) := by decide +kernel
theorem dX8_mend_161 : decode cX8_mend 161 = .ok (.iadd, 1) := by decide +kernel
theorem dX8_mend_162 : decode cX8_mend 162 = .ok (.iconst 0, 1) := by decide +kernel
theorem dX8_mend_163 : decode cX8_mend 163 = .ok (.iadd, 1) := by decide +kernel
theorem dX8_mend_164 : decode cX8_mend 164 = .ok (.aload_n 0, 1) := by decide +kernel
theorem dX8_mend_165 : decode cX8_mend 165 = .ok (.iload 4, 2) := by decide +kernel
theorem dX8_mend_167 : decode cX8_mend 167 = .ok (.iconst 0, 1) := by decide +kernel
theorem dX8_mend_168 : decode cX8_mend 168 = .ok (.invokevirtual 44, 3) := by decide +kernel
theorem dX8_mend_171 : decode cX8_mend 171 = .ok (.iload_n 1, 1) := by decide +kernel
theorem dX8_mend_172 : decode cX8_mend 172 = .ok (.iconst 1, 1) := by decide +kernel
theorem dX8_mend_173 : decode cX8_mend 173 = .ok (.iadd, 1) := by decide +kernel
theorem dX8_mend_174 : decode cX8_mend 174 = .ok (.if_icmp .ne 7, 3) := by decide +kernel
theorem dX8_mend_177 : decode cX8_mend 177 = .ok (.iconst 0, 1) := by decide +kernel
theorem dX8_mend_178 : decode cX8_mend 178 = .ok (.goto 10, 3) := by decide +kernel
theorem dX8_mend_181 : decode cX8_mend 181 = .ok (.aload_n 0, 1) := by decide +kernel
theorem dX8_mend_182 : decode cX8_mend 182 = .ok (.iload 4, 2) := by decide +kernel
theorem dX8_mend_184 : decode cX8_mend 184 = .ok (.iconst 0, 1) := by decide +kernel
theorem dX8_mend_185 : decode cX8_mend 185 = .ok (.invokevirtual 44, 3) := by decide +kernel
theorem dX8_mend_188 : decode cX8_mend 188 = .ok (.iastore, 1) := by decide +kernel
theorem dX8_mend_189 : decode cX8_mend 189 = .ok (.iinc 4 1, 3) := by decide +kernel
theorem dX8_mend_192 : decode cX8_mend 192 = .ok (.goto (-50), 3) := by decide +kernel
theorem dX8_mend_195 : decode cX8_mend 195 = .ok (.iload_n 2, 1) := by decide +kernel
theorem dX8_mend_196 : decode cX8_mend 196 = .ok (.iconst 1, 1) := by decide +kernel
theorem dX8_mend_197 : decode cX8_mend 197 = .ok (.isub, 1) := by decide +kernel
theorem dX8_mend_198 : decode cX8_mend 198 = .ok (.ireturn, 1) := by decide +kernel
theorem dX8_undo_0 : decode cX8_undo 0 = .ok (.aload_n 0, 1) := by decide +kernel
theorem dX8_undo_1 : decode cX8_undo 1 = .ok (.getfield 36, 3) := by decide +kernel
theorem dX8_undo_4 : decode cX8_undo 4 = .ok (.ifCond .ne 6, 3) := by decide +kernel
theorem dX8_undo_7 : decode cX8_undo 7 = .ok (.bipush (-2), 2) := by decide +kernel
theorem dX8_undo_9 : decode cX8_undo 9 = .ok (.ireturn, 1) := by decide +kernel
theorem dX8_undo_10 : decode cX8_undo 10 = .ok (.aload_n 0, 1) := by decide +kernel
theorem dX8_undo_11 : decode cX8_undo 11 = .ok (.dup, 1) := by decide +kernel
theorem dX8_undo_12 : decode cX8_undo 12 = .ok (.getfield 36, 3) := by decide +kernel
theorem dX8_undo_15 : decode cX8_undo 15 = .ok (.iconst 1, 1) := by decide +kernel
theorem dX8_undo_16 : decode cX8_undo 16 = .ok (.isub, 1) := by decide +kernel
theorem dX8_undo_17 : decode cX8_undo 17 = .ok (.putfield 36, 3) := by decide +kernel
theorem dX8_undo_20 : decode cX8_undo 20 = .ok (.iconst 0, 1) := by decide +kernel
theorem dX8_undo_21 : decode cX8_undo 21 = .ok (.istore_n 1, 1) := by decide +kernel
theorem dX8_undo_22 : decode cX8_undo 22 = .ok (.iload_n 1, 1) := by decide +kernel
theorem dX8_undo_23 : decode cX8_undo 23 = .ok (.sipush 1125, 3) := by decide +kernel
theorem dX8_undo_26 : decode cX8_undo 26 = .ok (.if_icmp .ge 30, 3) := by decide +kernel
theorem dX8_undo_29 : decode cX8_undo 29 = .ok (.aload_n 0, 1) := by decide +kernel
theorem dX8_undo_30 : decode cX8_undo 30 = .ok (.getfield 7, 3) := by decide +kernel
theorem dX8_undo_33 : decode cX8_undo 33 = .ok (.iload_n 1, 1) := by decide +kernel
theorem dX8_undo_34 : decode cX8_undo 34 = .ok (.aload_n 0, 1) := by decide +kernel
theorem dX8_undo_35 : decode cX8_undo 35 = .ok (.getfield 13, 3) := by decide +kernel
theorem dX8_undo_38 : decode cX8_undo 38 = .ok (.sipush 1125, 3) := by decide +kernel
theorem dX8_undo_41 : decode cX8_undo 41 = .ok (.aload_n 0, 1) := by decide +kernel
theorem dX8_undo_42 : decode cX8_undo 42 = .ok (.getfield 36, 3) := by decide +kernel
theorem dX8_undo_45 : decode cX8_undo 45 = .ok (.imul, 1) := by decide +kernel
theorem dX8_undo_46 : decode cX8_undo 46 = .ok (.iload_n 1, 1) := by decide +kernel
theorem dX8_undo_47 : decode cX8_undo 47 = .ok (.iadd, 1) := by decide +kernel
theorem dX8_undo_48 : decode cX8_undo 48 = .ok (.iaload, 1) := by decide +kernel
theorem dX8_undo_49 : decode cX8_undo 49 = .ok (.iastore, 1) := by decide +kernel
theorem dX8_undo_50 : decode cX8_undo 50 = .ok (.iinc 1 1, 3) := by decide +kernel
theorem dX8_undo_53 : decode cX8_undo 53 = .ok (.goto (-31), 3) := by decide +kernel
theorem dX8_undo_56 : decode cX8_undo 56 = .ok (.aload_n 0, 1) := by decide +kernel
theorem dX8_undo_57 : decode cX8_undo 57 = .ok (.getfield 36, 3) := by decide +kernel
theorem dX8_undo_60 : decode cX8_undo 60 = .ok (.ireturn, 1) := by decide +kernel
set_option maxRecDepth 20000 in
theorem ggX8_append_X8_in : GoodIn wsX8_append wsX8_in := goodIn_r _ [6] (by decide +kernel) (by decide +kernel)
set_option maxRecDepth 20000 in
theorem gX8_append_X8_in : GoodIn wsX8_append (va_wsS RX8 40 yX8_in wsX8_in) := goodIn_app (goodIn_of _ (by decide +kernel)) ggX8_append_X8_in
theorem dX8_append_0 : decode cX8_append 0 = .ok (.iload_n 1, 1) := by decide +kernel
theorem dX8_append_1 : decode cX8_append 1 = .ok (.iconst 1, 1) := by decide +kernel
theorem dX8_append_2 : decode cX8_append 2 = .ok (.sipush 255, 3) := by decide +kernel
theorem dX8_append_5 : decode cX8_append 5 = .ok (.invokestatic 40, 3) := by decide +kernel
theorem dX8_append_8 : decode cX8_append 8 = .ok (.ifCond .ne 5, 3) := by decide +kernel
theorem dX8_append_11 : decode cX8_append 11 = .ok (.iconst (-1), 1) := by decide +kernel
theorem dX8_append_12 : decode cX8_append 12 = .ok (.ireturn, 1) := by decide +kernel
theorem dX8_append_13 : decode cX8_append 13 = .ok (.aload_n 0, 1) := by decide +kernel
theorem dX8_append_14 : decode cX8_append 14 = .ok (.getfield 134, 3) := by decide +kernel
theorem dX8_append_17 : decode cX8_append 17 = .ok (.bipush 80, 2) := by decide +kernel
theorem dX8_append_19 : decode cX8_append 19 = .ok (.if_icmp .ne 6, 3) := by decide +kernel
theorem dX8_append_22 : decode cX8_append 22 = .ok (.bipush (-3), 2) := by decide +kernel
theorem dX8_append_24 : decode cX8_append 24 = .ok (.ireturn, 1) := by decide +kernel
theorem dX8_append_25 : decode cX8_append 25 = .ok (.aload_n 0, 1) := by decide +kernel
theorem dX8_append_26 : decode cX8_append 26 = .ok (.getfield 19, 3) := by decide +kernel
theorem dX8_append_29 : decode cX8_append 29 = .ok (.aload_n 0, 1) := by decide +kernel
theorem dX8_append_30 : decode cX8_append 30 = .ok (.getfield 134, 3) := by decide +kernel
theorem dX8_append_33 : decode cX8_append 33 = .ok (.iload_n 1, 1) := by decide +kernel
theorem dX8_append_34 : decode cX8_append 34 = .ok (.iastore, 1) := by decide +kernel
theorem dX8_append_35 : decode cX8_append 35 = .ok (.aload_n 0, 1) := by decide +kernel
theorem dX8_append_36 : decode cX8_append 36 = .ok (.dup, 1) := by decide +kernel
theorem dX8_append_37 : decode cX8_append 37 = .ok (.getfield 134, 3) := by decide +kernel
theorem dX8_append_40 : decode cX8_append 40 = .ok (.iconst 1, 1) := by decide +kernel
theorem dX8_append_41 : decode cX8_append 41 = .ok (.iadd, 1) := by decide +kernel
theorem dX8_append_42 : decode cX8_append 42 = .ok (.putfield 134, 3) := by decide +kernel
theorem dX8_append_45 : decode cX8_append 45 = .ok (.aload_n 0, 1) := by decide +kernel
theorem dX8_append_46 : decode cX8_append 46 = .ok (.getfield 134, 3) := by decide +kernel
theorem dX8_append_49 : decode cX8_append 49 = .ok (.ireturn, 1) := by decide +kernel
theorem dX8_clearText_0 : decode cX8_clearText 0 = .ok (.aload_n 0, 1) := by decide +kernel
theorem dX8_clearText_1 : decode cX8_clearText 1 = .ok (.getfield 134, 3) := by decide +kernel
theorem dX8_clearText_4 : decode cX8_clearText 4 = .ok (.istore_n 1, 1) := by decide +kernel
theorem dX8_clearText_5 : decode cX8_clearText 5 = .ok (.aload_n 0, 1) := by decide +kernel
theorem dX8_clearText_6 : decode cX8_clearText 6 = .ok (.iconst 0, 1) := by decide +kernel
theorem dX8_clearText_7 : decode cX8_clearText 7 = .ok (.putfield 134, 3) := by decide +kernel
theorem dX8_clearText_10 : decode cX8_clearText 10 = .ok (.iload_n 1, 1) := by decide +kernel
theorem dX8_clearText_11 : decode cX8_clearText 11 = .ok (.ireturn, 1) := by decide +kernel
set_option maxRecDepth 20000 in
theorem ggX8_isAt_X8_in : GoodIn wsX8_isAt wsX8_in := goodIn_r _ [7] (by decide +kernel) (by decide +kernel)
set_option maxRecDepth 20000 in
theorem gX8_isAt_X8_in : GoodIn wsX8_isAt (va_wsS RX8 40 yX8_in wsX8_in) := goodIn_app (goodIn_of _ (by decide +kernel)) ggX8_isAt_X8_in
theorem dX8_isAt_0 : decode cX8_isAt 0 = .ok (.aload_n 0, 1) := by decide +kernel
theorem dX8_isAt_1 : decode cX8_isAt 1 = .ok (.getfield 137, 3) := by decide +kernel
theorem dX8_isAt_4 : decode cX8_isAt 4 = .ok (.aload_n 0, 1) := by decide +kernel
theorem dX8_isAt_5 : decode cX8_isAt 5 = .ok (.getfield 134, 3) := by decide +kernel
theorem dX8_isAt_8 : decode cX8_isAt 8 = .ok (.if_icmp .ge 24, 3) := by decide +kernel
theorem dX8_isAt_11 : decode cX8_isAt 11 = .ok (.aload_n 0, 1) := by decide +kernel
theorem dX8_isAt_12 : decode cX8_isAt 12 = .ok (.getfield 19, 3) := by decide +kernel
theorem dX8_isAt_15 : decode cX8_isAt 15 = .ok (.aload_n 0, 1) := by decide +kernel
theorem dX8_isAt_16 : decode cX8_isAt 16 = .ok (.getfield 137, 3) := by decide +kernel
theorem dX8_isAt_19 : decode cX8_isAt 19 = .ok (.iaload, 1) := by decide +kernel
theorem dX8_isAt_20 : decode cX8_isAt 20 = .ok (.iload_n 1, 1) := by decide +kernel
theorem dX8_isAt_21 : decode cX8_isAt 21 = .ok (.iload_n 2, 1) := by decide +kernel
theorem dX8_isAt_22 : decode cX8_isAt 22 = .ok (.invokestatic 40, 3) := by decide +kernel
theorem dX8_isAt_25 : decode cX8_isAt 25 = .ok (.ifCond .eq 7, 3) := by decide +kernel
theorem dX8_isAt_28 : decode cX8_isAt 28 = .ok (.iconst 1, 1) := by decide +kernel
theorem dX8_isAt_29 : decode cX8_isAt 29 = .ok (.goto 4, 3) := by decide +kernel
theorem dX8_isAt_32 : decode cX8_isAt 32 = .ok (.iconst 0, 1) := by decide +kernel
theorem dX8_isAt_33 : decode cX8_isAt 33 = .ok (.ireturn, 1) := by decide +kernel
set_option maxRecDepth 20000 in
theorem ggX8_number_X8_isAt : GoodIn wsX8_number wsX8_isAt := goodIn_r _ [8, 1, 9, 3, 10, 11, 7, 12, 13, 14, 15, 16, 17, 18, 19, 20, 21, 22, 23, 24] (by decide +kernel) (by decide +kernel)
set_option maxRecDepth 20000 in
theorem gX8_number_X8_isAt : GoodIn wsX8_number (wsV RX8 140 RX8 yX8_isAt wsX8_isAt) := goodIn_app (goodIn_of _ (by decide +kernel)) ggX8_number_X8_isAt
theorem dX8_number_0 : decode cX8_number 0 = .ok (.aload_n 0, 1) := by decide +kernel
theorem dX8_number_1 : decode cX8_number 1 = .ok (.getfield 137, 3) := by decide +kernel
theorem dX8_number_4 : decode cX8_number 4 = .ok (.istore_n 3, 1) := by decide +kernel
theorem dX8_number_5 : decode cX8_number 5 = .ok (.aload_n 0, 1) := by decide +kernel
theorem dX8_number_6 : decode cX8_number 6 = .ok (.getfield 22, 3) := by decide +kernel
theorem dX8_number_9 : decode cX8_number 9 = .ok (.iload_n 1, 1) := by decide +kernel
theorem dX8_number_10 : decode cX8_number 10 = .ok (.iconst 0, 1) := by decide +kernel
theorem dX8_number_11 : decode cX8_number 11 = .ok (.iastore, 1) := by decide +kernel
theorem dX8_number_12 : decode cX8_number 12 = .ok (.aload_n 0, 1) := by decide +kernel
theorem dX8_number_13 : decode cX8_number 13 = .ok (.bipush 48, 2) := by decide +kernel
theorem dX8_number_15 : decode cX8_number 15 = .ok (.bipush 57, 2) := by decide +kernel
theorem dX8_number_17 : decode cX8_number 17 = .ok (.invokevirtual 140, 3) := by decide +kernel
theorem dX8_number_20 : decode cX8_number 20 = .ok (.ifCond .eq 71, 3) := by decide +kernel
theorem dX8_number_23 : decode cX8_number 23 = .ok (.aload_n 0, 1) := by decide +kernel
theorem dX8_number_24 : decode cX8_number 24 = .ok (.getfield 137, 3) := by decide +kernel
theorem dX8_number_27 : decode cX8_number 27 = .ok (.iload_n 3, 1) := by decide +kernel
theorem dX8_number_28 : decode cX8_number 28 = .ok (.isub, 1) := by decide +kernel
theorem dX8_number_29 : decode cX8_number 29 = .ok (.iconst 2, 1) := by decide +kernel
theorem dX8_number_30 : decode cX8_number 30 = .ok (.if_icmp .ge 61, 3) := by decide +kernel
theorem dX8_number_33 : decode cX8_number 33 = .ok (.aload_n 0, 1) := by decide +kernel
theorem dX8_number_34 : decode cX8_number 34 = .ok (.getfield 137, 3) := by decide +kernel
theorem dX8_number_37 : decode cX8_number 37 = .ok (.iload_n 3, 1) := by decide +kernel
theorem dX8_number_38 : decode cX8_number 38 = .ok (.if_icmp .eq 12, 3) := by decide +kernel
theorem dX8_number_41 : decode cX8_number 41 = .ok (.aload_n 0, 1) := by decide +kernel
theorem dX8_number_42 : decode cX8_number 42 = .ok (.getfield 22, 3) := by decide +kernel
theorem dX8_number_45 : decode cX8_number 45 = .ok (.iload_n 1, 1) := by decide +kernel
theorem dX8_number_46 : decode cX8_number 46 = .ok (.iaload, 1) := by decide +kernel
theorem dX8_number_47 : decode cX8_number 47 = .ok (.ifCond .le 44, 3) := by decide +kernel
theorem dX8_number_50 : decode cX8_number 50 = .ok (.aload_n 0, 1) := by decide +kernel
theorem dX8_number_51 : decode cX8_number 51 = .ok (.getfield 22, 3) := by decide +kernel
theorem dX8_number_54 : decode cX8_number 54 = .ok (.iload_n 1, 1) := by decide +kernel
theorem dX8_number_55 : decode cX8_number 55 = .ok (.bipush 10, 2) := by decide +kernel
theorem dX8_number_57 : decode cX8_number 57 = .ok (.aload_n 0, 1) := by decide +kernel
theorem dX8_number_58 : decode cX8_number 58 = .ok (.getfield 22, 3) := by decide +kernel
theorem dX8_number_61 : decode cX8_number 61 = .ok (.iload_n 1, 1) := by decide +kernel
theorem dX8_number_62 : decode cX8_number 62 = .ok (.iaload, 1) := by decide +kernel
theorem dX8_number_63 : decode cX8_number 63 = .ok (.imul, 1) := by decide +kernel
theorem dX8_number_64 : decode cX8_number 64 = .ok (.aload_n 0, 1) := by decide +kernel
theorem dX8_number_65 : decode cX8_number 65 = .ok (.getfield 19, 3) := by decide +kernel
theorem dX8_number_68 : decode cX8_number 68 = .ok (.aload_n 0, 1) := by decide +kernel
theorem dX8_number_69 : decode cX8_number 69 = .ok (.getfield 137, 3) := by decide +kernel
theorem dX8_number_72 : decode cX8_number 72 = .ok (.iaload, 1) := by decide +kernel
theorem dX8_number_73 : decode cX8_number 73 = .ok (.iadd, 1) := by decide +kernel
theorem dX8_number_74 : decode cX8_number 74 = .ok (.bipush 48, 2) := by decide +kernel
theorem dX8_number_76 : decode cX8_number 76 = .ok (.isub, 1) := by decide +kernel
theorem dX8_number_77 : decode cX8_number 77 = .ok (.iastore, 1) := by decide +kernel
theorem dX8_number_78 : decode cX8_number 78 = .ok (.aload_n 0, 1) := by decide +kernel
theorem dX8_number_79 : decode cX8_number 79 = .ok (.dup, 1) := by decide +kernel
theorem dX8_number_80 : decode cX8_number 80 = .ok (.getfield 137, 3) := by decide +kernel
theorem dX8_number_83 : decode cX8_number 83 = .ok (.iconst 1, 1) := by decide +kernel
theorem dX8_number_84 : decode cX8_number 84 = .ok (.iadd, 1) := by decide +kernel
theorem dX8_number_85 : decode cX8_number 85 = .ok (.putfield 137, 3) := by decide +kernel
theorem dX8_number_88 : decode cX8_number 88 = .ok (.goto (-76), 3) := by decide +kernel
theorem dX8_number_91 : decode cX8_number 91 = .ok (.aload_n 0, 1) := by decide +kernel
theorem dX8_number_92 : decode cX8_number 92 = .ok (.getfield 137, 3) := by decide +kernel
theorem dX8_number_95 : decode cX8_number 95 = .ok (.iload_n 3, 1) := by decide +kernel
theorem dX8_number_96 : decode cX8_number 96 = .ok (.if_icmp .eq 12, 3) := by decide +kernel
theorem dX8_number_99 : decode cX8_number 99 = .ok (.aload_n 0, 1) := by decide +kernel
theorem dX8_number_100 : decode cX8_number 100 = .ok (.iload_n 2, 1) := by decide +kernel
theorem dX8_number_101 : decode cX8_number 101 = .ok (.iload_n 2, 1) := by decide +kernel
theorem dX8_number_102 : decode cX8_number 102 = .ok (.invokevirtual 140, 3) := by decide +kernel
theorem dX8_number_105 : decode cX8_number 105 = .ok (.ifCond .ne 5, 3) := by decide +kernel
theorem dX8_number_108 : decode cX8_number 108 = .ok (.iconst 0, 1) := by decide +kernel
theorem dX8_number_109 : decode cX8_number 109 = .ok (.ireturn, 1) := by decide +kernel
theorem dX8_number_110 : decode cX8_number 110 = .ok (.aload_n 0, 1) := by decide +kernel
theorem dX8_number_111 : decode cX8_number 111 = .ok (.dup, 1) := by decide +kernel
theorem dX8_number_112 : decode cX8_number 112 = .ok (.getfield 137, 3) := by decide +kernel
theorem dX8_number_115 : decode cX8_number 115 = .ok (.iconst 1, 1) := by decide +kernel
theorem dX8_number_116 : decode cX8_number 116 = .ok (.iadd, 1) := by decide +kernel
theorem dX8_number_117 : decode cX8_number 117 = .ok (.putfield 137, 3) := by decide +kernel
theorem dX8_number_120 : decode cX8_number 120 = .ok (.iconst 1, 1) := by decide +kernel
theorem dX8_number_121 : decode cX8_number 121 = .ok (.ireturn, 1) := by decide +kernel
theorem dX8_numbersOf_0 : decode cX8_numbersOf 0 = .ok (.iload_n 0, 1) := by decide +kernel
theorem dX8_numbersOf_1 : decode cX8_numbersOf 1 = .ok (.tableswitch 95 98 115 #[93, 95, 91, 95, 89, 95, 95, 95, 95, 95, 89, 87, 95, 95, 95, 95, 95, 91], 87) := by decide +kernel
theorem dX8_numbersOf_88 : decode cX8_numbersOf 88 = .ok (.iconst 2, 1) := by decide +kernel
theorem dX8_numbersOf_89 : decode cX8_numbersOf 89 = .ok (.ireturn, 1) := by decide +kernel
theorem dX8_numbersOf_90 : decode cX8_numbersOf 90 = .ok (.iconst 3, 1) := by decide +kernel
theorem dX8_numbersOf_91 : decode cX8_numbersOf 91 = .ok (.ireturn, 1) := by decide +kernel
theorem dX8_numbersOf_92 : decode cX8_numbersOf 92 = .ok (.iconst 1, 1) := by decide +kernel
theorem dX8_numbersOf_93 : decode cX8_numbersOf 93 = .ok (.ireturn, 1) := by decide +kernel
theorem dX8_numbersOf_94 : decode cX8_numbersOf 94 = .ok (.iconst 0, 1) := by decide +kernel
theorem dX8_numbersOf_95 : decode cX8_numbersOf 95 = .ok (.ireturn, 1) := by decide +kernel
theorem dX8_numbersOf_96 : decode cX8_numbersOf 96 = .ok (.bipush (-9), 2) := by decide +kernel
theorem dX8_numbersOf_98 : decode cX8_numbersOf 98 = .ok (.ireturn, 1) := by decide +kernel
set_option maxRecDepth 20000 in
theorem ggX8_does_X8_make : GoodIn wsX8_does wsX8_make := goodIn_r _ [6, 7, 8, 9, 5, 10, 11, 12, 13, 14, 15, 16, 17, 18, 19, 20, 21, 22, 23, 24, 25, 26, 27, 28, 29, 30, 31, 32, 33, 34, 35, 36, 37, 38, 39, 40, 41, 42, 43, 44, 45, 46, 47, 48, 49, 50, 51, 52, 53, 54, 55, 56, 57, 58, 59, 60, 61, 62, 63, 118, 119, 120, 121, 122, 123, 124, 125, 126, 127, 128, 129] (by decide +kernel) (by decide +kernel)
set_option maxRecDepth 20000 in
theorem gX8_does_X8_make : GoodIn wsX8_does (wsV RX8 144 RX8 yX8_make wsX8_make) := goodIn_app (goodIn_of _ (by decide +kernel)) ggX8_does_X8_make
set_option maxRecDepth 20000 in
theorem ggX8_does_X8_link : GoodIn wsX8_does wsX8_link := goodIn_r _ [67, 7, 68, 69, 70, 5, 71, 11, 12, 13, 8, 9, 10, 46, 47, 48, 49, 50, 51, 52, 72, 73, 74, 75, 42, 43, 44, 45, 76, 77, 78, 38, 39, 40, 41, 26, 27, 28, 29, 79, 80, 81, 82, 57, 58, 59, 60, 53, 54, 55, 56, 83, 84, 85, 86, 61, 62, 63, 87, 88, 89, 118, 119, 120, 121, 122, 123, 124, 125, 126, 127, 128, 129] (by decide +kernel) (by decide +kernel)
set_option maxRecDepth 20000 in
theorem gX8_does_X8_link : GoodIn wsX8_does (wsV RX8 147 RX8 yX8_link wsX8_link) := goodIn_app (goodIn_of _ (by decide +kernel)) ggX8_does_X8_link
set_option maxRecDepth 20000 in
theorem ggX8_does_X8_follow : GoodIn wsX8_does wsX8_follow := goodIn_r _ [93, 7, 68, 69, 70, 5, 71, 11, 12, 13, 8, 9, 10, 46, 47, 48, 49, 50, 51, 52, 72, 73, 74, 75, 42, 43, 44, 45, 76, 77, 78, 38, 39, 40, 41, 26, 27, 28, 29, 79, 80, 81, 82, 57, 58, 59, 60, 53, 54, 55, 56, 83, 84, 85, 86, 61, 62, 63, 87, 88, 89, 118, 119, 120, 121, 122, 123, 124, 125, 126, 127, 128, 129] (by decide +kernel) (by decide +kernel)
set_option maxRecDepth 20000 in
theorem gX8_does_X8_follow : GoodIn wsX8_does (wsV RX8 150 RX8 yX8_follow wsX8_follow) := goodIn_app (goodIn_of _ (by decide +kernel)) ggX8_does_X8_follow
set_option maxRecDepth 20000 in
theorem ggX8_does_X8_drop : GoodIn wsX8_does wsX8_drop := goodIn_r _ [97, 7, 11, 12, 5, 13, 8, 9, 10, 46, 47, 48, 49, 50, 51, 52, 87, 88, 89, 118, 119, 120, 121, 122, 123, 124, 125, 126, 127, 128, 129] (by decide +kernel) (by decide +kernel)
set_option maxRecDepth 20000 in
theorem gX8_does_X8_drop : GoodIn wsX8_does (wsV RX8 153 RX8 yX8_drop wsX8_drop) := goodIn_app (goodIn_of _ (by decide +kernel)) ggX8_does_X8_drop
set_option maxRecDepth 20000 in
theorem ggX8_does_X8_carry : GoodIn wsX8_does wsX8_carry := goodIn_r _ [101, 8, 9, 5, 10, 42, 43, 44, 45, 7, 46, 47, 48, 49, 50, 51, 52, 102, 103, 104, 105, 72, 73, 74, 75, 76, 77, 78, 38, 39, 40, 41, 26, 27, 28, 29, 79, 80, 81, 82, 57, 58, 59, 60, 53, 54, 55, 56, 83, 84, 85, 86, 61, 62, 63, 106, 107, 108, 109, 118, 119, 120, 121, 122, 123, 124, 125, 126, 127, 128, 129] (by decide +kernel) (by decide +kernel)
set_option maxRecDepth 20000 in
theorem gX8_does_X8_carry : GoodIn wsX8_does (wsV RX8 156 RX8 yX8_carry wsX8_carry) := goodIn_app (goodIn_of _ (by decide +kernel)) ggX8_does_X8_carry
set_option maxRecDepth 20000 in
theorem ggX8_does_X8_begin : GoodIn wsX8_does wsX8_begin := goodIn_r _ [113, 7, 42, 43, 44, 5, 45, 46, 47, 48, 49, 50, 51, 52, 114, 115, 116, 117, 38, 39, 40, 41, 72, 73, 74, 75, 76, 77, 78, 26, 27, 28, 29, 79, 80, 81, 82, 57, 58, 59, 60, 53, 54, 55, 56, 83, 84, 85, 86, 61, 62, 63, 106, 107, 108, 109, 118, 119, 120, 121, 122, 123, 124, 125, 126, 127, 128, 129] (by decide +kernel) (by decide +kernel)
set_option maxRecDepth 20000 in
theorem gX8_does_X8_begin : GoodIn wsX8_does (wsV RX8 159 RX8 yX8_begin wsX8_begin) := goodIn_app (goodIn_of _ (by decide +kernel)) ggX8_does_X8_begin
theorem dX8_does_0 : decode cX8_does 0 = .ok (.iload_n 1, 1) := by decide +kernel
theorem dX8_does_1 : decode cX8_does 1 = .ok (.lookupswitch 136 #[(100, 114), (102, 91), (108, 68), (109, 51), (115, 125)], 51) := by decide +kernel
theorem dX8_does_52 : decode cX8_does 52 = .ok (.aload_n 0, 1) := by decide +kernel
theorem dX8_does_53 : decode cX8_does 53 = .ok (.aload_n 0, 1) := by decide +kernel
theorem dX8_does_54 : decode cX8_does 54 = .ok (.getfield 22, 3) := by decide +kernel
theorem dX8_does_57 : decode cX8_does 57 = .ok (.iconst 0, 1) := by decide +kernel
theorem dX8_does_58 : decode cX8_does 58 = .ok (.iaload, 1) := by decide +kernel
theorem dX8_does_59 : decode cX8_does 59 = .ok (.aload_n 0, 1) := by decide +kernel
theorem dX8_does_60 : decode cX8_does 60 = .ok (.getfield 22, 3) := by decide +kernel
theorem dX8_does_63 : decode cX8_does 63 = .ok (.iconst 1, 1) := by decide +kernel
theorem dX8_does_64 : decode cX8_does 64 = .ok (.iaload, 1) := by decide +kernel
theorem dX8_does_65 : decode cX8_does 65 = .ok (.invokevirtual 144, 3) := by decide +kernel
theorem dX8_does_68 : decode cX8_does 68 = .ok (.ireturn, 1) := by decide +kernel
theorem dX8_does_69 : decode cX8_does 69 = .ok (.aload_n 0, 1) := by decide +kernel
theorem dX8_does_70 : decode cX8_does 70 = .ok (.aload_n 0, 1) := by decide +kernel
theorem dX8_does_71 : decode cX8_does 71 = .ok (.getfield 22, 3) := by decide +kernel
theorem dX8_does_74 : decode cX8_does 74 = .ok (.iconst 0, 1) := by decide +kernel
theorem dX8_does_75 : decode cX8_does 75 = .ok (.iaload, 1) := by decide +kernel
theorem dX8_does_76 : decode cX8_does 76 = .ok (.aload_n 0, 1) := by decide +kernel
theorem dX8_does_77 : decode cX8_does 77 = .ok (.getfield 22, 3) := by decide +kernel
theorem dX8_does_80 : decode cX8_does 80 = .ok (.iconst 1, 1) := by decide +kernel
theorem dX8_does_81 : decode cX8_does 81 = .ok (.iaload, 1) := by decide +kernel
theorem dX8_does_82 : decode cX8_does 82 = .ok (.aload_n 0, 1) := by decide +kernel
theorem dX8_does_83 : decode cX8_does 83 = .ok (.getfield 22, 3) := by decide +kernel
theorem dX8_does_86 : decode cX8_does 86 = .ok (.iconst 2, 1) := by decide +kernel
theorem dX8_does_87 : decode cX8_does 87 = .ok (.iaload, 1) := by decide +kernel
theorem dX8_does_88 : decode cX8_does 88 = .ok (.invokevirtual 147, 3) := by decide +kernel
theorem dX8_does_91 : decode cX8_does 91 = .ok (.ireturn, 1) := by decide +kernel
theorem dX8_does_92 : decode cX8_does 92 = .ok (.aload_n 0, 1) := by decide +kernel
theorem dX8_does_93 : decode cX8_does 93 = .ok (.aload_n 0, 1) := by decide +kernel
theorem dX8_does_94 : decode cX8_does 94 = .ok (.getfield 22, 3) := by decide +kernel
theorem dX8_does_97 : decode cX8_does 97 = .ok (.iconst 0, 1) := by decide +kernel
theorem dX8_does_98 : decode cX8_does 98 = .ok (.iaload, 1) := by decide +kernel
theorem dX8_does_99 : decode cX8_does 99 = .ok (.aload_n 0, 1) := by decide +kernel
theorem dX8_does_100 : decode cX8_does 100 = .ok (.getfield 22, 3) := by decide +kernel
theorem dX8_does_103 : decode cX8_does 103 = .ok (.iconst 1, 1) := by decide +kernel
theorem dX8_does_104 : decode cX8_does 104 = .ok (.iaload, 1) := by decide +kernel
theorem dX8_does_105 : decode cX8_does 105 = .ok (.aload_n 0, 1) := by decide +kernel
theorem dX8_does_106 : decode cX8_does 106 = .ok (.getfield 22, 3) := by decide +kernel
theorem dX8_does_109 : decode cX8_does 109 = .ok (.iconst 2, 1) := by decide +kernel
theorem dX8_does_110 : decode cX8_does 110 = .ok (.iaload, 1) := by decide +kernel
theorem dX8_does_111 : decode cX8_does 111 = .ok (.invokevirtual 150, 3) := by decide +kernel
theorem dX8_does_114 : decode cX8_does 114 = .ok (.ireturn, 1) := by decide +kernel
theorem dX8_does_115 : decode cX8_does 115 = .ok (.aload_n 0, 1) := by decide +kernel
theorem dX8_does_116 : decode cX8_does 116 = .ok (.aload_n 0, 1) := by decide +kernel
theorem dX8_does_117 : decode cX8_does 117 = .ok (.getfield 22, 3) := by decide +kernel
theorem dX8_does_120 : decode cX8_does 120 = .ok (.iconst 0, 1) := by decide +kernel
theorem dX8_does_121 : decode cX8_does 121 = .ok (.iaload, 1) := by decide +kernel
theorem dX8_does_122 : decode cX8_does 122 = .ok (.invokevirtual 153, 3) := by decide +kernel
theorem dX8_does_125 : decode cX8_does 125 = .ok (.ireturn, 1) := by decide +kernel
theorem dX8_does_126 : decode cX8_does 126 = .ok (.aload_n 0, 1) := by decide +kernel
theorem dX8_does_127 : decode cX8_does 127 = .ok (.aload_n 0, 1) := by decide +kernel
theorem dX8_does_128 : decode cX8_does 128 = .ok (.getfield 22, 3) := by decide +kernel
theorem dX8_does_131 : decode cX8_does 131 = .ok (.iconst 0, 1) := by decide +kernel
theorem dX8_does_132 : decode cX8_does 132 = .ok (.iaload, 1) := by decide +kernel
theorem dX8_does_133 : decode cX8_does 133 = .ok (.invokevirtual 156, 3) := by decide +kernel
theorem dX8_does_136 : decode cX8_does 136 = .ok (.ireturn, 1) := by decide +kernel
theorem dX8_does_137 : decode cX8_does 137 = .ok (.aload_n 0, 1) := by decide +kernel
theorem dX8_does_138 : decode cX8_does 138 = .ok (.invokevirtual 159, 3) := by decide +kernel
theorem dX8_does_141 : decode cX8_does 141 = .ok (.ireturn, 1) := by decide +kernel
set_option maxRecDepth 20000 in
theorem ggX8_doesOne_X8_numbersOf : GoodIn wsX8_doesOne wsX8_numbersOf := goodIn_r _ [6] (by decide +kernel) (by decide +kernel)
set_option maxRecDepth 20000 in
theorem gX8_doesOne_X8_numbersOf : GoodIn wsX8_doesOne (va_wsS RX8 162 yX8_numbersOf wsX8_numbersOf) := goodIn_app (goodIn_of _ (by decide +kernel)) ggX8_doesOne_X8_numbersOf
set_option maxRecDepth 20000 in
theorem ggX8_doesOne_X8_isAt : GoodIn wsX8_doesOne wsX8_isAt := goodIn_r _ [10, 1, 11, 2, 12, 13, 5, 14, 136, 137, 138, 139, 140, 141, 142, 143, 144, 145, 146, 147] (by decide +kernel) (by decide +kernel)
set_option maxRecDepth 20000 in
theorem gX8_doesOne_X8_isAt : GoodIn wsX8_doesOne (wsV RX8 140 RX8 yX8_isAt wsX8_isAt) := goodIn_app (goodIn_of _ (by decide +kernel)) ggX8_doesOne_X8_isAt
set_option maxRecDepth 20000 in
theorem ggX8_doesOne_X8_number : GoodIn wsX8_doesOne wsX8_number := goodIn_r _ [18, 1, 19, 2, 7, 8, 9, 5, 10, 11, 12, 13, 14, 136, 137, 138, 139, 140, 141, 142, 143, 144, 145, 146, 147] (by decide +kernel) (by decide +kernel)
set_option maxRecDepth 20000 in
theorem gX8_doesOne_X8_number : GoodIn wsX8_doesOne (wsV RX8 165 RX8 yX8_number wsX8_number) := goodIn_app (goodIn_of _ (by decide +kernel)) ggX8_doesOne_X8_number
set_option maxRecDepth 20000 in
theorem ggX8_doesOne_X8_does : GoodIn wsX8_doesOne wsX8_does := goodIn_r _ [23, 19, 24, 25, 26, 5, 27, 28, 12, 13, 14, 29, 30, 31, 32, 33, 34, 35, 36, 37, 38, 39, 40, 41, 42, 43, 44, 45, 46, 47, 48, 49, 50, 51, 52, 53, 54, 55, 56, 57, 58, 59, 60, 61, 62, 63, 64, 65, 66, 67, 68, 69, 70, 71, 72, 73, 74, 75, 76, 77, 78, 79, 80, 81, 82, 83, 84, 85, 86, 87, 88, 89, 90, 91, 92, 93, 94, 95, 96, 97, 98, 99, 100, 101, 102, 103, 104, 105, 106, 107, 108, 109, 110, 111, 112, 113, 114, 115, 116, 117, 118, 119, 120, 121, 122, 123, 124, 125, 126, 127, 128, 129, 130, 131, 132, 133, 134, 135, 136, 137, 138, 139, 140, 141, 142, 143, 144, 145, 146, 147] (by decide +kernel) (by decide +kernel)
set_option maxRecDepth 20000 in
theorem gX8_doesOne_X8_does : GoodIn wsX8_doesOne (wsV RX8 168 RX8 yX8_does wsX8_does) := goodIn_app (goodIn_of _ (by decide +kernel)) ggX8_doesOne_X8_does
theorem dX8_doesOne_0 : decode cX8_doesOne 0 = .ok (.aload_n 0, 1) := by decide +kernel
theorem dX8_doesOne_1 : decode cX8_doesOne 1 = .ok (.getfield 137, 3) := by decide +kernel
theorem dX8_doesOne_4 : decode cX8_doesOne 4 = .ok (.istore_n 1, 1) := by decide +kernel
theorem dX8_doesOne_5 : decode cX8_doesOne 5 = .ok (.aload_n 0, 1) := by decide +kernel
theorem dX8_doesOne_6 : decode cX8_doesOne 6 = .ok (.getfield 19, 3) := by decide +kernel
theorem dX8_doesOne_9 : decode cX8_doesOne 9 = .ok (.aload_n 0, 1) := by decide +kernel
theorem dX8_doesOne_10 : decode cX8_doesOne 10 = .ok (.getfield 137, 3) := by decide +kernel
theorem dX8_doesOne_13 : decode cX8_doesOne 13 = .ok (.iaload, 1) := by decide +kernel
theorem dX8_doesOne_14 : decode cX8_doesOne 14 = .ok (.istore_n 2, 1) := by decide +kernel
theorem dX8_doesOne_15 : decode cX8_doesOne 15 = .ok (.iload_n 2, 1) := by decide +kernel
theorem dX8_doesOne_16 : decode cX8_doesOne 16 = .ok (.invokestatic 162, 3) := by decide +kernel
theorem dX8_doesOne_19 : decode cX8_doesOne 19 = .ok (.istore_n 3, 1) := by decide +kernel
theorem dX8_doesOne_20 : decode cX8_doesOne 20 = .ok (.iload_n 3, 1) := by decide +kernel
theorem dX8_doesOne_21 : decode cX8_doesOne 21 = .ok (.bipush (-9), 2) := by decide +kernel
theorem dX8_doesOne_23 : decode cX8_doesOne 23 = .ok (.if_icmp .ne 5, 3) := by decide +kernel
theorem dX8_doesOne_26 : decode cX8_doesOne 26 = .ok (.iload_n 1, 1) := by decide +kernel
theorem dX8_doesOne_27 : decode cX8_doesOne 27 = .ok (.ireturn, 1) := by decide +kernel
theorem dX8_doesOne_28 : decode cX8_doesOne 28 = .ok (.aload_n 0, 1) := by decide +kernel
theorem dX8_doesOne_29 : decode cX8_doesOne 29 = .ok (.dup, 1) := by decide +kernel
theorem dX8_doesOne_30 : decode cX8_doesOne 30 = .ok (.getfield 137, 3) := by decide +kernel
theorem dX8_doesOne_33 : decode cX8_doesOne 33 = .ok (.iconst 1, 1) := by decide +kernel
theorem dX8_doesOne_34 : decode cX8_doesOne 34 = .ok (.iadd, 1) := by decide +kernel
theorem dX8_doesOne_35 : decode cX8_doesOne 35 = .ok (.putfield 137, 3) := by decide +kernel
theorem dX8_doesOne_38 : decode cX8_doesOne 38 = .ok (.iload_n 3, 1) := by decide +kernel
theorem dX8_doesOne_39 : decode cX8_doesOne 39 = .ok (.ifCond .ne 29, 3) := by decide +kernel
theorem dX8_doesOne_42 : decode cX8_doesOne 42 = .ok (.aload_n 0, 1) := by decide +kernel
theorem dX8_doesOne_43 : decode cX8_doesOne 43 = .ok (.bipush 59, 2) := by decide +kernel
theorem dX8_doesOne_45 : decode cX8_doesOne 45 = .ok (.bipush 59, 2) := by decide +kernel
theorem dX8_doesOne_47 : decode cX8_doesOne 47 = .ok (.invokevirtual 140, 3) := by decide +kernel
theorem dX8_doesOne_50 : decode cX8_doesOne 50 = .ok (.ifCond .ne 8, 3) := by decide +kernel
theorem dX8_doesOne_53 : decode cX8_doesOne 53 = .ok (.aload_n 0, 1) := by decide +kernel
theorem dX8_doesOne_54 : decode cX8_doesOne 54 = .ok (.getfield 137, 3) := by decide +kernel
theorem dX8_doesOne_57 : decode cX8_doesOne 57 = .ok (.ireturn, 1) := by decide +kernel
theorem dX8_doesOne_58 : decode cX8_doesOne 58 = .ok (.aload_n 0, 1) := by decide +kernel
theorem dX8_doesOne_59 : decode cX8_doesOne 59 = .ok (.dup, 1) := by decide +kernel
theorem dX8_doesOne_60 : decode cX8_doesOne 60 = .ok (.getfield 137, 3) := by decide +kernel
theorem dX8_doesOne_63 : decode cX8_doesOne 63 = .ok (.iconst 1, 1) := by decide +kernel
theorem dX8_doesOne_64 : decode cX8_doesOne 64 = .ok (.iadd, 1) := by decide +kernel
theorem dX8_doesOne_65 : decode cX8_doesOne 65 = .ok (.putfield 137, 3) := by decide +kernel
theorem dX8_doesOne_68 : decode cX8_doesOne 68 = .ok (.iconst 0, 1) := by decide +kernel
theorem dX8_doesOne_69 : decode cX8_doesOne 69 = .ok (.istore 4, 2) := by decide +kernel
theorem dX8_doesOne_71 : decode cX8_doesOne 71 = .ok (.iload 4, 2) := by decide +kernel
theorem dX8_doesOne_73 : decode cX8_doesOne 73 = .ok (.iload_n 3, 1) := by decide +kernel
theorem dX8_doesOne_74 : decode cX8_doesOne 74 = .ok (.if_icmp .ge 38, 3) := by decide +kernel
theorem dX8_doesOne_77 : decode cX8_doesOne 77 = .ok (.aload_n 0, 1) := by decide +kernel
theorem dX8_doesOne_78 : decode cX8_doesOne 78 = .ok (.iload 4, 2) := by decide +kernel
theorem dX8_doesOne_80 : decode cX8_doesOne 80 = .ok (.iload 4, 2) := by decide +kernel
theorem dX8_doesOne_82 : decode cX8_doesOne 82 = .ok (.iload_n 3, 1) := by decide +kernel
theorem dX8_doesOne_83 : decode cX8_doesOne 83 = .ok (.iconst 1, 1) := by decide +kernel
theorem dX8_doesOne_84 : decode cX8_doesOne 84 = .ok (.isub, 1) := by decide +kernel
theorem dX8_doesOne_85 : decode cX8_doesOne 85 = .ok (.if_icmp .ne 8, 3) := by decide +kernel
theorem dX8_doesOne_88 : decode cX8_doesOne 88 = .ok (.bipush 59, 2) := by decide +kernel
theorem dX8_doesOne_90 : decode cX8_doesOne 90 = .ok (.goto 5, 3) := by decide +kernel
theorem dX8_doesOne_93 : decode cX8_doesOne 93 = .ok (.bipush 44, 2) := by decide +kernel
theorem dX8_doesOne_95 : decode cX8_doesOne 95 = .ok (.invokevirtual 165, 3) := by decide +kernel
theorem dX8_doesOne_98 : decode cX8_doesOne 98 = .ok (.ifCond .ne 8, 3) := by decide +kernel
theorem dX8_doesOne_101 : decode cX8_doesOne 101 = .ok (.aload_n 0, 1) := by decide +kernel
theorem dX8_doesOne_102 : decode cX8_doesOne 102 = .ok (.getfield 137, 3) := by decide +kernel
theorem dX8_doesOne_105 : decode cX8_doesOne 105 = .ok (.ireturn, 1) := by decide +kernel
theorem dX8_doesOne_106 : decode cX8_doesOne 106 = .ok (.iinc 4 1, 3) := by decide +kernel
theorem dX8_doesOne_109 : decode cX8_doesOne 109 = .ok (.goto (-38), 3) := by decide +kernel
theorem dX8_doesOne_112 : decode cX8_doesOne 112 = .ok (.aload_n 0, 1) := by decide +kernel
theorem dX8_doesOne_113 : decode cX8_doesOne 113 = .ok (.iload_n 2, 1) := by decide +kernel
theorem dX8_doesOne_114 : decode cX8_doesOne 114 = .ok (.invokevirtual 168, 3) := by decide +kernel
theorem dX8_doesOne_117 : decode cX8_doesOne 117 = .ok (.ifCond .ge 7, 3) := by decide +kernel
theorem dX8_doesOne_120 : decode cX8_doesOne 120 = .ok (.iload_n 1, 1) := by decide +kernel
theorem dX8_doesOne_121 : decode cX8_doesOne 121 = .ok (.goto 5, 3) := by decide +kernel
theorem dX8_doesOne_124 : decode cX8_doesOne 124 = .ok (.bipush (-9), 2) := by decide +kernel
theorem dX8_doesOne_126 : decode cX8_doesOne 126 = .ok (.ireturn, 1) := by decide +kernel
theorem dX8_exchanges_0 : decode cX8_exchanges 0 = .ok (.iconst 0, 1) := by decide +kernel
theorem dX8_exchanges_1 : decode cX8_exchanges 1 = .ok (.istore_n 1, 1) := by decide +kernel
theorem dX8_exchanges_2 : decode cX8_exchanges 2 = .ok (.iload_n 1, 1) := by decide +kernel
theorem dX8_exchanges_3 : decode cX8_exchanges 3 = .ok (.sipush 1125, 3) := by decide +kernel
theorem dX8_exchanges_6 : decode cX8_exchanges 6 = .ok (.if_icmp .ge 35, 3) := by decide +kernel
theorem dX8_exchanges_9 : decode cX8_exchanges 9 = .ok (.aload_n 0, 1) := by decide +kernel
theorem dX8_exchanges_10 : decode cX8_exchanges 10 = .ok (.getfield 7, 3) := by decide +kernel
theorem dX8_exchanges_13 : decode cX8_exchanges 13 = .ok (.iload_n 1, 1) := by decide +kernel
theorem dX8_exchanges_14 : decode cX8_exchanges 14 = .ok (.iaload, 1) := by decide +kernel
theorem dX8_exchanges_15 : decode cX8_exchanges 15 = .ok (.istore_n 2, 1) := by decide +kernel
theorem dX8_exchanges_16 : decode cX8_exchanges 16 = .ok (.aload_n 0, 1) := by decide +kernel
theorem dX8_exchanges_17 : decode cX8_exchanges 17 = .ok (.getfield 7, 3) := by decide +kernel
theorem dX8_exchanges_20 : decode cX8_exchanges 20 = .ok (.iload_n 1, 1) := by decide +kernel
theorem dX8_exchanges_21 : decode cX8_exchanges 21 = .ok (.aload_n 0, 1) := by decide +kernel
theorem dX8_exchanges_22 : decode cX8_exchanges 22 = .ok (.getfield 16, 3) := by decide +kernel
theorem dX8_exchanges_25 : decode cX8_exchanges 25 = .ok (.iload_n 1, 1) := by decide +kernel
theorem dX8_exchanges_26 : decode cX8_exchanges 26 = .ok (.iaload, 1) := by decide +kernel
theorem dX8_exchanges_27 : decode cX8_exchanges 27 = .ok (.iastore, 1) := by decide +kernel
theorem dX8_exchanges_28 : decode cX8_exchanges 28 = .ok (.aload_n 0, 1) := by decide +kernel
theorem dX8_exchanges_29 : decode cX8_exchanges 29 = .ok (.getfield 16, 3) := by decide +kernel
theorem dX8_exchanges_32 : decode cX8_exchanges 32 = .ok (.iload_n 1, 1) := by decide +kernel
theorem dX8_exchanges_33 : decode cX8_exchanges 33 = .ok (.iload_n 2, 1) := by decide +kernel
theorem dX8_exchanges_34 : decode cX8_exchanges 34 = .ok (.iastore, 1) := by decide +kernel
theorem dX8_exchanges_35 : decode cX8_exchanges 35 = .ok (.iinc 1 1, 3) := by decide +kernel
theorem dX8_exchanges_38 : decode cX8_exchanges 38 = .ok (.goto (-36), 3) := by decide +kernel
theorem dX8_exchanges_41 : decode cX8_exchanges 41 = .ok (.return_, 1) := by decide +kernel
theorem dX8_holds_0 : decode cX8_holds 0 = .ok (.iconst 0, 1) := by decide +kernel
theorem dX8_holds_1 : decode cX8_holds 1 = .ok (.istore_n 1, 1) := by decide +kernel
theorem dX8_holds_2 : decode cX8_holds 2 = .ok (.iload_n 1, 1) := by decide +kernel
theorem dX8_holds_3 : decode cX8_holds 3 = .ok (.sipush 1125, 3) := by decide +kernel
theorem dX8_holds_6 : decode cX8_holds 6 = .ok (.if_icmp .ge 21, 3) := by decide +kernel
theorem dX8_holds_9 : decode cX8_holds 9 = .ok (.aload_n 0, 1) := by decide +kernel
theorem dX8_holds_10 : decode cX8_holds 10 = .ok (.getfield 16, 3) := by decide +kernel
theorem dX8_holds_13 : decode cX8_holds 13 = .ok (.iload_n 1, 1) := by decide +kernel
theorem dX8_holds_14 : decode cX8_holds 14 = .ok (.aload_n 0, 1) := by decide +kernel
theorem dX8_holds_15 : decode cX8_holds 15 = .ok (.getfield 7, 3) := by decide +kernel
theorem dX8_holds_18 : decode cX8_holds 18 = .ok (.iload_n 1, 1) := by decide +kernel
theorem dX8_holds_19 : decode cX8_holds 19 = .ok (.iaload, 1) := by decide +kernel
theorem dX8_holds_20 : decode cX8_holds 20 = .ok (.iastore, 1) := by decide +kernel
theorem dX8_holds_21 : decode cX8_holds 21 = .ok (.iinc 1 1, 3) := by decide +kernel
theorem dX8_holds_24 : decode cX8_holds 24 = .ok (.goto (-22), 3) := by decide +kernel
theorem dX8_holds_27 : decode cX8_holds 27 = .ok (.return_, 1) := by decide +kernel
set_option maxRecDepth 20000 in
theorem ggX8_run_X8_holds : GoodIn wsX8_run wsX8_holds := goodIn_r _ [8, 9, 10, 149, 150, 151, 152, 153, 154, 155, 156, 157, 158, 159, 160] (by decide +kernel) (by decide +kernel)
set_option maxRecDepth 20000 in
theorem gX8_run_X8_holds : GoodIn wsX8_run (wsV RX8 171 RX8 yX8_holds wsX8_holds) := goodIn_app (goodIn_of _ (by decide +kernel)) ggX8_run_X8_holds
set_option maxRecDepth 20000 in
theorem ggX8_run_X8_doesOne : GoodIn wsX8_run wsX8_doesOne := goodIn_r _ [14, 2, 15, 16, 17, 7, 18, 19, 20, 21, 22, 3, 23, 24, 25, 26, 27, 28, 29, 30, 31, 32, 33, 34, 35, 36, 37, 38, 10, 39, 40, 41, 42, 43, 44, 45, 46, 47, 48, 49, 50, 51, 52, 53, 54, 55, 56, 57, 58, 59, 60, 61, 62, 63, 64, 65, 66, 67, 68, 69, 70, 71, 72, 73, 74, 75, 76, 77, 1, 78, 79, 80, 81, 82, 83, 84, 85, 86, 87, 88, 89, 90, 91, 92, 93, 94, 95, 96, 97, 98, 99, 100, 101, 102, 103, 104, 105, 106, 107, 108, 109, 110, 111, 112, 113, 114, 115, 116, 117, 118, 119, 120, 121, 122, 123, 124, 125, 126, 127, 128, 129, 130, 131, 132, 133, 134, 135, 136, 137, 138, 139, 140, 141, 142, 143, 144, 149, 150, 151, 152, 153, 154, 155, 156, 157, 158, 159, 160] (by decide +kernel) (by decide +kernel)
set_option maxRecDepth 20000 in
theorem gX8_run_X8_doesOne : GoodIn wsX8_run (wsV RX8 174 RX8 yX8_doesOne wsX8_doesOne) := goodIn_app (goodIn_of _ (by decide +kernel)) ggX8_run_X8_doesOne
set_option maxRecDepth 20000 in
theorem ggX8_run_X8_exchanges : GoodIn wsX8_run wsX8_exchanges := goodIn_r _ [148, 10, 9, 149, 150, 151, 152, 153, 154, 155, 156, 157, 158, 159, 160] (by decide +kernel) (by decide +kernel)
set_option maxRecDepth 20000 in
theorem gX8_run_X8_exchanges : GoodIn wsX8_run (wsV RX8 177 RX8 yX8_exchanges wsX8_exchanges) := goodIn_app (goodIn_of _ (by decide +kernel)) ggX8_run_X8_exchanges
set_option maxRecDepth 20000 in
theorem ggX8_run_X8_acts : GoodIn wsX8_run wsX8_acts := goodIn_r _ [77, 1, 78, 79, 10, 149, 150, 151, 152, 153, 154, 155, 156, 157, 158, 159, 160] (by decide +kernel) (by decide +kernel)
set_option maxRecDepth 20000 in
theorem gX8_run_X8_acts : GoodIn wsX8_run (wsV RX8 94 RX8 yX8_acts wsX8_acts) := goodIn_app (goodIn_of _ (by decide +kernel)) ggX8_run_X8_acts
theorem dX8_run_0 : decode cX8_run 0 = .ok (.aload_n 0, 1) := by decide +kernel
theorem dX8_run_1 : decode cX8_run 1 = .ok (.invokevirtual 171, 3) := by decide +kernel
theorem dX8_run_4 : decode cX8_run 4 = .ok (.aload_n 0, 1) := by decide +kernel
theorem dX8_run_5 : decode cX8_run 5 = .ok (.iconst 1, 1) := by decide +kernel
theorem dX8_run_6 : decode cX8_run 6 = .ok (.putfield 32, 3) := by decide +kernel
theorem dX8_run_9 : decode cX8_run 9 = .ok (.iconst 0, 1) := by decide +kernel
theorem dX8_run_10 : decode cX8_run 10 = .ok (.istore_n 1, 1) := by decide +kernel
theorem dX8_run_11 : decode cX8_run 11 = .ok (.bipush (-9), 2) := by decide +kernel
theorem dX8_run_13 : decode cX8_run 13 = .ok (.istore_n 2, 1) := by decide +kernel
theorem dX8_run_14 : decode cX8_run 14 = .ok (.aload_n 0, 1) := by decide +kernel
theorem dX8_run_15 : decode cX8_run 15 = .ok (.iconst 0, 1) := by decide +kernel
theorem dX8_run_16 : decode cX8_run 16 = .ok (.putfield 137, 3) := by decide +kernel
theorem dX8_run_19 : decode cX8_run 19 = .ok (.iload_n 2, 1) := by decide +kernel
theorem dX8_run_20 : decode cX8_run 20 = .ok (.bipush (-9), 2) := by decide +kernel
theorem dX8_run_22 : decode cX8_run 22 = .ok (.if_icmp .ne 25, 3) := by decide +kernel
theorem dX8_run_25 : decode cX8_run 25 = .ok (.aload_n 0, 1) := by decide +kernel
theorem dX8_run_26 : decode cX8_run 26 = .ok (.getfield 137, 3) := by decide +kernel
theorem dX8_run_29 : decode cX8_run 29 = .ok (.aload_n 0, 1) := by decide +kernel
theorem dX8_run_30 : decode cX8_run 30 = .ok (.getfield 134, 3) := by decide +kernel
theorem dX8_run_33 : decode cX8_run 33 = .ok (.if_icmp .ge 14, 3) := by decide +kernel
theorem dX8_run_36 : decode cX8_run 36 = .ok (.aload_n 0, 1) := by decide +kernel
theorem dX8_run_37 : decode cX8_run 37 = .ok (.invokevirtual 174, 3) := by decide +kernel
theorem dX8_run_40 : decode cX8_run 40 = .ok (.istore_n 2, 1) := by decide +kernel
theorem dX8_run_41 : decode cX8_run 41 = .ok (.iinc 1 1, 3) := by decide +kernel
theorem dX8_run_44 : decode cX8_run 44 = .ok (.goto (-25), 3) := by decide +kernel
theorem dX8_run_47 : decode cX8_run 47 = .ok (.aload_n 0, 1) := by decide +kernel
theorem dX8_run_48 : decode cX8_run 48 = .ok (.iconst 0, 1) := by decide +kernel
theorem dX8_run_49 : decode cX8_run 49 = .ok (.putfield 32, 3) := by decide +kernel
theorem dX8_run_52 : decode cX8_run 52 = .ok (.aload_n 0, 1) := by decide +kernel
theorem dX8_run_53 : decode cX8_run 53 = .ok (.invokevirtual 177, 3) := by decide +kernel
theorem dX8_run_56 : decode cX8_run 56 = .ok (.iload_n 2, 1) := by decide +kernel
theorem dX8_run_57 : decode cX8_run 57 = .ok (.bipush (-9), 2) := by decide +kernel
theorem dX8_run_59 : decode cX8_run 59 = .ok (.if_icmp .eq 9, 3) := by decide +kernel
theorem dX8_run_62 : decode cX8_run 62 = .ok (.sipush (-1000), 3) := by decide +kernel
theorem dX8_run_65 : decode cX8_run 65 = .ok (.iload_n 2, 1) := by decide +kernel
theorem dX8_run_66 : decode cX8_run 66 = .ok (.isub, 1) := by decide +kernel
theorem dX8_run_67 : decode cX8_run 67 = .ok (.ireturn, 1) := by decide +kernel
theorem dX8_run_68 : decode cX8_run 68 = .ok (.aload_n 0, 1) := by decide +kernel
theorem dX8_run_69 : decode cX8_run 69 = .ok (.invokevirtual 94, 3) := by decide +kernel
theorem dX8_run_72 : decode cX8_run 72 = .ok (.aload_n 0, 1) := by decide +kernel
theorem dX8_run_73 : decode cX8_run 73 = .ok (.invokevirtual 177, 3) := by decide +kernel
theorem dX8_run_76 : decode cX8_run 76 = .ok (.aload_n 0, 1) := by decide +kernel
theorem dX8_run_77 : decode cX8_run 77 = .ok (.iconst 0, 1) := by decide +kernel
theorem dX8_run_78 : decode cX8_run 78 = .ok (.putfield 134, 3) := by decide +kernel
theorem dX8_run_81 : decode cX8_run 81 = .ok (.iload_n 1, 1) := by decide +kernel
theorem dX8_run_82 : decode cX8_run 82 = .ok (.ireturn, 1) := by decide +kernel
set_option maxRecDepth 20000 in
theorem ggX8_allCopies_X8_isCopy : GoodIn wsX8_allCopies wsX8_isCopy := goodIn_r _ [5, 6, 7, 8, 4, 9, 10, 11, 12, 13, 14, 15, 16, 17, 18, 19, 20, 21, 22] (by decide +kernel) (by decide +kernel)
set_option maxRecDepth 20000 in
theorem gX8_allCopies_X8_isCopy : GoodIn wsX8_allCopies (wsV RX8 48 RX8 yX8_isCopy wsX8_isCopy) := goodIn_app (goodIn_of _ (by decide +kernel)) ggX8_allCopies_X8_isCopy
theorem dX8_allCopies_0 : decode cX8_allCopies 0 = .ok (.iconst 0, 1) := by decide +kernel
theorem dX8_allCopies_1 : decode cX8_allCopies 1 = .ok (.istore_n 1, 1) := by decide +kernel
theorem dX8_allCopies_2 : decode cX8_allCopies 2 = .ok (.iconst 0, 1) := by decide +kernel
theorem dX8_allCopies_3 : decode cX8_allCopies 3 = .ok (.istore_n 2, 1) := by decide +kernel
theorem dX8_allCopies_4 : decode cX8_allCopies 4 = .ok (.iload_n 2, 1) := by decide +kernel
theorem dX8_allCopies_5 : decode cX8_allCopies 5 = .ok (.sipush 188, 3) := by decide +kernel
theorem dX8_allCopies_8 : decode cX8_allCopies 8 = .ok (.if_icmp .ge 25, 3) := by decide +kernel
theorem dX8_allCopies_11 : decode cX8_allCopies 11 = .ok (.iload_n 1, 1) := by decide +kernel
theorem dX8_allCopies_12 : decode cX8_allCopies 12 = .ok (.aload_n 0, 1) := by decide +kernel
theorem dX8_allCopies_13 : decode cX8_allCopies 13 = .ok (.iload_n 2, 1) := by decide +kernel
theorem dX8_allCopies_14 : decode cX8_allCopies 14 = .ok (.invokevirtual 48, 3) := by decide +kernel
theorem dX8_allCopies_17 : decode cX8_allCopies 17 = .ok (.ifCond .eq 7, 3) := by decide +kernel
theorem dX8_allCopies_20 : decode cX8_allCopies 20 = .ok (.iconst 1, 1) := by decide +kernel
theorem dX8_allCopies_21 : decode cX8_allCopies 21 = .ok (.goto 4, 3) := by decide +kernel
theorem dX8_allCopies_24 : decode cX8_allCopies 24 = .ok (.iconst 0, 1) := by decide +kernel
theorem dX8_allCopies_25 : decode cX8_allCopies 25 = .ok (.iadd, 1) := by decide +kernel
theorem dX8_allCopies_26 : decode cX8_allCopies 26 = .ok (.istore_n 1, 1) := by decide +kernel
theorem dX8_allCopies_27 : decode cX8_allCopies 27 = .ok (.iinc 2 1, 3) := by decide +kernel
theorem dX8_allCopies_30 : decode cX8_allCopies 30 = .ok (.goto (-26), 3) := by decide +kernel
theorem dX8_allCopies_33 : decode cX8_allCopies 33 = .ok (.iload_n 1, 1) := by decide +kernel
theorem dX8_allCopies_34 : decode cX8_allCopies 34 = .ok (.ireturn, 1) := by decide +kernel
set_option maxRecDepth 20000 in
theorem ggX8_freeFloor_X8_sizeAt : GoodIn wsX8_freeFloor wsX8_sizeAt := goodIn_r _ [5, 6, 7, 8, 9, 4, 10, 11, 12, 13, 14, 15, 16, 17, 18, 19, 20, 21, 22, 23, 24, 25, 26] (by decide +kernel) (by decide +kernel)
set_option maxRecDepth 20000 in
theorem gX8_freeFloor_X8_sizeAt : GoodIn wsX8_freeFloor (wsV RX8 60 RX8 yX8_sizeAt wsX8_sizeAt) := goodIn_app (goodIn_of _ (by decide +kernel)) ggX8_freeFloor_X8_sizeAt
theorem dX8_freeFloor_0 : decode cX8_freeFloor 0 = .ok (.bipush 60, 2) := by decide +kernel
theorem dX8_freeFloor_2 : decode cX8_freeFloor 2 = .ok (.istore_n 1, 1) := by decide +kernel
theorem dX8_freeFloor_3 : decode cX8_freeFloor 3 = .ok (.sipush 128, 3) := by decide +kernel
theorem dX8_freeFloor_6 : decode cX8_freeFloor 6 = .ok (.istore_n 2, 1) := by decide +kernel
theorem dX8_freeFloor_7 : decode cX8_freeFloor 7 = .ok (.iload_n 2, 1) := by decide +kernel
theorem dX8_freeFloor_8 : decode cX8_freeFloor 8 = .ok (.sipush 188, 3) := by decide +kernel
theorem dX8_freeFloor_11 : decode cX8_freeFloor 11 = .ok (.if_icmp .ge 17, 3) := by decide +kernel
theorem dX8_freeFloor_14 : decode cX8_freeFloor 14 = .ok (.iload_n 1, 1) := by decide +kernel
theorem dX8_freeFloor_15 : decode cX8_freeFloor 15 = .ok (.aload_n 0, 1) := by decide +kernel
theorem dX8_freeFloor_16 : decode cX8_freeFloor 16 = .ok (.iload_n 2, 1) := by decide +kernel
theorem dX8_freeFloor_17 : decode cX8_freeFloor 17 = .ok (.invokevirtual 60, 3) := by decide +kernel
theorem dX8_freeFloor_20 : decode cX8_freeFloor 20 = .ok (.isub, 1) := by decide +kernel
theorem dX8_freeFloor_21 : decode cX8_freeFloor 21 = .ok (.istore_n 1, 1) := by decide +kernel
theorem dX8_freeFloor_22 : decode cX8_freeFloor 22 = .ok (.iinc 2 1, 3) := by decide +kernel
theorem dX8_freeFloor_25 : decode cX8_freeFloor 25 = .ok (.goto (-18), 3) := by decide +kernel
theorem dX8_freeFloor_28 : decode cX8_freeFloor 28 = .ok (.iload_n 1, 1) := by decide +kernel
theorem dX8_freeFloor_29 : decode cX8_freeFloor 29 = .ok (.ireturn, 1) := by decide +kernel
set_option maxRecDepth 20000 in
theorem ggX8_twins_X8_copies : GoodIn wsX8_twins wsX8_copies := goodIn_r _ [6, 7, 8, 9, 5, 10, 1, 11, 12, 13, 14, 15, 16, 17, 18, 19, 20, 21, 22, 23, 24, 25, 26, 27, 28, 29, 30] (by decide +kernel) (by decide +kernel)
set_option maxRecDepth 20000 in
theorem gX8_twins_X8_copies : GoodIn wsX8_twins (wsV RX8 124 RX8 yX8_copies wsX8_copies) := goodIn_app (goodIn_of _ (by decide +kernel)) ggX8_twins_X8_copies
theorem dX8_twins_0 : decode cX8_twins 0 = .ok (.iconst 0, 1) := by decide +kernel
theorem dX8_twins_1 : decode cX8_twins 1 = .ok (.istore_n 1, 1) := by decide +kernel
theorem dX8_twins_2 : decode cX8_twins 2 = .ok (.iconst 0, 1) := by decide +kernel
theorem dX8_twins_3 : decode cX8_twins 3 = .ok (.istore_n 2, 1) := by decide +kernel
theorem dX8_twins_4 : decode cX8_twins 4 = .ok (.iload_n 2, 1) := by decide +kernel
theorem dX8_twins_5 : decode cX8_twins 5 = .ok (.aload_n 0, 1) := by decide +kernel
theorem dX8_twins_6 : decode cX8_twins 6 = .ok (.getfield 7, 3) := by decide +kernel
theorem dX8_twins_9 : decode cX8_twins 9 = .ok (.iconst 0, 1) := by decide +kernel
theorem dX8_twins_10 : decode cX8_twins 10 = .ok (.iaload, 1) := by decide +kernel
theorem dX8_twins_11 : decode cX8_twins 11 = .ok (.if_icmp .ge 26, 3) := by decide +kernel
theorem dX8_twins_14 : decode cX8_twins 14 = .ok (.iload_n 1, 1) := by decide +kernel
theorem dX8_twins_15 : decode cX8_twins 15 = .ok (.aload_n 0, 1) := by decide +kernel
theorem dX8_twins_16 : decode cX8_twins 16 = .ok (.iload_n 2, 1) := by decide +kernel
theorem dX8_twins_17 : decode cX8_twins 17 = .ok (.invokevirtual 124, 3) := by decide +kernel
theorem dX8_twins_20 : decode cX8_twins 20 = .ok (.iconst 1, 1) := by decide +kernel
theorem dX8_twins_21 : decode cX8_twins 21 = .ok (.if_icmp .le 7, 3) := by decide +kernel
theorem dX8_twins_24 : decode cX8_twins 24 = .ok (.iconst 1, 1) := by decide +kernel
theorem dX8_twins_25 : decode cX8_twins 25 = .ok (.goto 4, 3) := by decide +kernel
theorem dX8_twins_28 : decode cX8_twins 28 = .ok (.iconst 0, 1) := by decide +kernel
theorem dX8_twins_29 : decode cX8_twins 29 = .ok (.iadd, 1) := by decide +kernel
theorem dX8_twins_30 : decode cX8_twins 30 = .ok (.istore_n 1, 1) := by decide +kernel
theorem dX8_twins_31 : decode cX8_twins 31 = .ok (.iinc 2 1, 3) := by decide +kernel
theorem dX8_twins_34 : decode cX8_twins 34 = .ok (.goto (-30), 3) := by decide +kernel
theorem dX8_twins_37 : decode cX8_twins 37 = .ok (.iload_n 1, 1) := by decide +kernel
theorem dX8_twins_38 : decode cX8_twins 38 = .ok (.ireturn, 1) := by decide +kernel
set_option maxRecDepth 20000 in
theorem ggX8_count_X8_allCopies : GoodIn wsX8_count wsX8_allCopies := goodIn_r _ [8, 9, 10, 11, 7, 12, 13, 14, 15, 16, 1, 49, 50, 51, 52, 53, 54, 55, 56, 57, 58, 59, 60] (by decide +kernel) (by decide +kernel)
set_option maxRecDepth 20000 in
theorem gX8_count_X8_allCopies : GoodIn wsX8_count (wsV RX8 180 RX8 yX8_allCopies wsX8_allCopies) := goodIn_app (goodIn_of _ (by decide +kernel)) ggX8_count_X8_allCopies
set_option maxRecDepth 20000 in
theorem ggX8_count_X8_free : GoodIn wsX8_count wsX8_free := goodIn_r _ [20, 1, 49, 50, 51, 52, 53, 54, 55, 56, 57, 58, 59, 60] (by decide +kernel) (by decide +kernel)
set_option maxRecDepth 20000 in
theorem gX8_count_X8_free : GoodIn wsX8_count (wsV RX8 103 RX8 yX8_free wsX8_free) := goodIn_app (goodIn_of _ (by decide +kernel)) ggX8_count_X8_free
set_option maxRecDepth 20000 in
theorem ggX8_count_X8_freeFloor : GoodIn wsX8_count wsX8_freeFloor := goodIn_r _ [24, 25, 26, 27, 7, 28, 1, 9, 10, 11, 12, 13, 14, 15, 16, 49, 50, 51, 52, 53, 54, 55, 56, 57, 58, 59, 60] (by decide +kernel) (by decide +kernel)
set_option maxRecDepth 20000 in
theorem gX8_count_X8_freeFloor : GoodIn wsX8_count (wsV RX8 183 RX8 yX8_freeFloor wsX8_freeFloor) := goodIn_app (goodIn_of _ (by decide +kernel)) ggX8_count_X8_freeFloor
set_option maxRecDepth 20000 in
theorem ggX8_count_X8_kept : GoodIn wsX8_count wsX8_kept := goodIn_r _ [32, 33, 34, 35, 7, 36, 1, 37, 38, 39, 40, 9, 10, 11, 12, 13, 14, 15, 16, 25, 26, 27, 28, 49, 50, 51, 52, 53, 54, 55, 56, 57, 58, 59, 60] (by decide +kernel) (by decide +kernel)
set_option maxRecDepth 20000 in
theorem gX8_count_X8_kept : GoodIn wsX8_count (wsV RX8 106 RX8 yX8_kept wsX8_kept) := goodIn_app (goodIn_of _ (by decide +kernel)) ggX8_count_X8_kept
set_option maxRecDepth 20000 in
theorem ggX8_count_X8_twins : GoodIn wsX8_count wsX8_twins := goodIn_r _ [44, 1, 45, 46, 47, 7, 48, 37, 38, 39, 40, 33, 34, 35, 36, 13, 14, 15, 16, 49, 50, 51, 52, 53, 54, 55, 56, 57, 58, 59, 60] (by decide +kernel) (by decide +kernel)
set_option maxRecDepth 20000 in
theorem gX8_count_X8_twins : GoodIn wsX8_count (wsV RX8 186 RX8 yX8_twins wsX8_twins) := goodIn_app (goodIn_of _ (by decide +kernel)) ggX8_count_X8_twins
theorem dX8_count_0 : decode cX8_count 0 = .ok (.iload_n 1, 1) := by decide +kernel
theorem dX8_count_1 : decode cX8_count 1 = .ok (.tableswitch 164 0 13 #[71, 78, 83, 90, 97, 108, 113, 121, 126, 134, 142, 147, 154, 159], 71) := by decide +kernel
theorem dX8_count_72 : decode cX8_count 72 = .ok (.aload_n 0, 1) := by decide +kernel
theorem dX8_count_73 : decode cX8_count 73 = .ok (.getfield 7, 3) := by decide +kernel
theorem dX8_count_76 : decode cX8_count 76 = .ok (.iconst 0, 1) := by decide +kernel
theorem dX8_count_77 : decode cX8_count 77 = .ok (.iaload, 1) := by decide +kernel
theorem dX8_count_78 : decode cX8_count 78 = .ok (.ireturn, 1) := by decide +kernel
theorem dX8_count_79 : decode cX8_count 79 = .ok (.aload_n 0, 1) := by decide +kernel
theorem dX8_count_80 : decode cX8_count 80 = .ok (.invokevirtual 180, 3) := by decide +kernel
theorem dX8_count_83 : decode cX8_count 83 = .ok (.ireturn, 1) := by decide +kernel
theorem dX8_count_84 : decode cX8_count 84 = .ok (.aload_n 0, 1) := by decide +kernel
theorem dX8_count_85 : decode cX8_count 85 = .ok (.getfield 7, 3) := by decide +kernel
theorem dX8_count_88 : decode cX8_count 88 = .ok (.iconst 2, 1) := by decide +kernel
theorem dX8_count_89 : decode cX8_count 89 = .ok (.iaload, 1) := by decide +kernel
theorem dX8_count_90 : decode cX8_count 90 = .ok (.ireturn, 1) := by decide +kernel
theorem dX8_count_91 : decode cX8_count 91 = .ok (.aload_n 0, 1) := by decide +kernel
theorem dX8_count_92 : decode cX8_count 92 = .ok (.getfield 7, 3) := by decide +kernel
theorem dX8_count_95 : decode cX8_count 95 = .ok (.iconst 3, 1) := by decide +kernel
theorem dX8_count_96 : decode cX8_count 96 = .ok (.iaload, 1) := by decide +kernel
theorem dX8_count_97 : decode cX8_count 97 = .ok (.ireturn, 1) := by decide +kernel
theorem dX8_count_98 : decode cX8_count 98 = .ok (.aload_n 0, 1) := by decide +kernel
theorem dX8_count_99 : decode cX8_count 99 = .ok (.aload_n 0, 1) := by decide +kernel
theorem dX8_count_100 : decode cX8_count 100 = .ok (.getfield 7, 3) := by decide +kernel
theorem dX8_count_103 : decode cX8_count 103 = .ok (.iconst 3, 1) := by decide +kernel
theorem dX8_count_104 : decode cX8_count 104 = .ok (.iaload, 1) := by decide +kernel
theorem dX8_count_105 : decode cX8_count 105 = .ok (.invokevirtual 103, 3) := by decide +kernel
theorem dX8_count_108 : decode cX8_count 108 = .ok (.ireturn, 1) := by decide +kernel
theorem dX8_count_109 : decode cX8_count 109 = .ok (.aload_n 0, 1) := by decide +kernel
theorem dX8_count_110 : decode cX8_count 110 = .ok (.invokevirtual 183, 3) := by decide +kernel
theorem dX8_count_113 : decode cX8_count 113 = .ok (.ireturn, 1) := by decide +kernel
theorem dX8_count_114 : decode cX8_count 114 = .ok (.aload_n 0, 1) := by decide +kernel
theorem dX8_count_115 : decode cX8_count 115 = .ok (.getfield 7, 3) := by decide +kernel
theorem dX8_count_118 : decode cX8_count 118 = .ok (.bipush 8, 2) := by decide +kernel
theorem dX8_count_120 : decode cX8_count 120 = .ok (.iaload, 1) := by decide +kernel
theorem dX8_count_121 : decode cX8_count 121 = .ok (.ireturn, 1) := by decide +kernel
theorem dX8_count_122 : decode cX8_count 122 = .ok (.aload_n 0, 1) := by decide +kernel
theorem dX8_count_123 : decode cX8_count 123 = .ok (.invokevirtual 106, 3) := by decide +kernel
theorem dX8_count_126 : decode cX8_count 126 = .ok (.ireturn, 1) := by decide +kernel
theorem dX8_count_127 : decode cX8_count 127 = .ok (.aload_n 0, 1) := by decide +kernel
theorem dX8_count_128 : decode cX8_count 128 = .ok (.getfield 7, 3) := by decide +kernel
theorem dX8_count_131 : decode cX8_count 131 = .ok (.bipush 6, 2) := by decide +kernel
theorem dX8_count_133 : decode cX8_count 133 = .ok (.iaload, 1) := by decide +kernel
theorem dX8_count_134 : decode cX8_count 134 = .ok (.ireturn, 1) := by decide +kernel
theorem dX8_count_135 : decode cX8_count 135 = .ok (.aload_n 0, 1) := by decide +kernel
theorem dX8_count_136 : decode cX8_count 136 = .ok (.getfield 7, 3) := by decide +kernel
theorem dX8_count_139 : decode cX8_count 139 = .ok (.bipush 7, 2) := by decide +kernel
theorem dX8_count_141 : decode cX8_count 141 = .ok (.iaload, 1) := by decide +kernel
theorem dX8_count_142 : decode cX8_count 142 = .ok (.ireturn, 1) := by decide +kernel
theorem dX8_count_143 : decode cX8_count 143 = .ok (.aload_n 0, 1) := by decide +kernel
theorem dX8_count_144 : decode cX8_count 144 = .ok (.invokevirtual 186, 3) := by decide +kernel
theorem dX8_count_147 : decode cX8_count 147 = .ok (.ireturn, 1) := by decide +kernel
theorem dX8_count_148 : decode cX8_count 148 = .ok (.aload_n 0, 1) := by decide +kernel
theorem dX8_count_149 : decode cX8_count 149 = .ok (.getfield 7, 3) := by decide +kernel
theorem dX8_count_152 : decode cX8_count 152 = .ok (.iconst 1, 1) := by decide +kernel
theorem dX8_count_153 : decode cX8_count 153 = .ok (.iaload, 1) := by decide +kernel
theorem dX8_count_154 : decode cX8_count 154 = .ok (.ireturn, 1) := by decide +kernel
theorem dX8_count_155 : decode cX8_count 155 = .ok (.aload_n 0, 1) := by decide +kernel
theorem dX8_count_156 : decode cX8_count 156 = .ok (.getfield 36, 3) := by decide +kernel
theorem dX8_count_159 : decode cX8_count 159 = .ok (.ireturn, 1) := by decide +kernel
theorem dX8_count_160 : decode cX8_count 160 = .ok (.aload_n 0, 1) := by decide +kernel
theorem dX8_count_161 : decode cX8_count 161 = .ok (.getfield 134, 3) := by decide +kernel
theorem dX8_count_164 : decode cX8_count 164 = .ok (.ireturn, 1) := by decide +kernel
theorem dX8_count_165 : decode cX8_count 165 = .ok (.iconst (-1), 1) := by decide +kernel
theorem dX8_count_166 : decode cX8_count 166 = .ok (.ireturn, 1) := by decide +kernel
set_option maxRecDepth 20000 in
theorem ggX8_hook_X8_isHook : GoodIn wsX8_hook wsX8_isHook := goodIn_r _ [5, 6, 7, 4, 8] (by decide +kernel) (by decide +kernel)
set_option maxRecDepth 20000 in
theorem gX8_hook_X8_isHook : GoodIn wsX8_hook (va_wsS RX8 97 yX8_isHook wsX8_isHook) := goodIn_app (goodIn_of _ (by decide +kernel)) ggX8_hook_X8_isHook
theorem dX8_hook_0 : decode cX8_hook 0 = .ok (.iload_n 1, 1) := by decide +kernel
theorem dX8_hook_1 : decode cX8_hook 1 = .ok (.invokestatic 97, 3) := by decide +kernel
theorem dX8_hook_4 : decode cX8_hook 4 = .ok (.ifCond .eq 15, 3) := by decide +kernel
theorem dX8_hook_7 : decode cX8_hook 7 = .ok (.aload_n 0, 1) := by decide +kernel
theorem dX8_hook_8 : decode cX8_hook 8 = .ok (.getfield 7, 3) := by decide +kernel
theorem dX8_hook_11 : decode cX8_hook 11 = .ok (.bipush 9, 2) := by decide +kernel
theorem dX8_hook_13 : decode cX8_hook 13 = .ok (.iload_n 1, 1) := by decide +kernel
theorem dX8_hook_14 : decode cX8_hook 14 = .ok (.iadd, 1) := by decide +kernel
theorem dX8_hook_15 : decode cX8_hook 15 = .ok (.iaload, 1) := by decide +kernel
theorem dX8_hook_16 : decode cX8_hook 16 = .ok (.goto 4, 3) := by decide +kernel
theorem dX8_hook_19 : decode cX8_hook 19 = .ok (.iconst (-1), 1) := by decide +kernel
theorem dX8_hook_20 : decode cX8_hook 20 = .ok (.ireturn, 1) := by decide +kernel
set_option maxRecDepth 20000 in
theorem ggX8_copy_X8_isAddress : GoodIn wsX8_copy wsX8_isAddress := goodIn_r _ [4] (by decide +kernel) (by decide +kernel)
set_option maxRecDepth 20000 in
theorem gX8_copy_X8_isAddress : GoodIn wsX8_copy (va_wsS RX8 189 yX8_isAddress wsX8_isAddress) := goodIn_app (goodIn_of _ (by decide +kernel)) ggX8_copy_X8_isAddress
set_option maxRecDepth 20000 in
theorem ggX8_copy_X8_cell : GoodIn wsX8_copy wsX8_cell := goodIn_r _ [7] (by decide +kernel) (by decide +kernel)
set_option maxRecDepth 20000 in
theorem gX8_copy_X8_cell : GoodIn wsX8_copy (va_wsS RX8 79 yX8_cell wsX8_cell) := goodIn_app (goodIn_of _ (by decide +kernel)) ggX8_copy_X8_cell
set_option maxRecDepth 20000 in
theorem ggX8_copy_X8_isCopy : GoodIn wsX8_copy wsX8_isCopy := goodIn_r _ [11, 12, 13, 14, 3, 15, 16, 24, 25, 26, 27, 28, 29, 30, 31, 32, 33, 34, 35] (by decide +kernel) (by decide +kernel)
set_option maxRecDepth 20000 in
theorem gX8_copy_X8_isCopy : GoodIn wsX8_copy (wsV RX8 48 RX8 yX8_isCopy wsX8_isCopy) := goodIn_app (goodIn_of _ (by decide +kernel)) ggX8_copy_X8_isCopy
set_option maxRecDepth 20000 in
theorem ggX8_copy_X8_in : GoodIn wsX8_copy wsX8_in := goodIn_r _ [19] (by decide +kernel) (by decide +kernel)
set_option maxRecDepth 20000 in
theorem gX8_copy_X8_in : GoodIn wsX8_copy (va_wsS RX8 40 yX8_in wsX8_in) := goodIn_app (goodIn_of _ (by decide +kernel)) ggX8_copy_X8_in
set_option maxRecDepth 20000 in
theorem ggX8_copy_X8_ofCopy : GoodIn wsX8_copy wsX8_ofCopy := goodIn_r _ [15, 16, 24, 25, 26, 27, 28, 29, 30, 31, 32, 33, 34, 35] (by decide +kernel) (by decide +kernel)
set_option maxRecDepth 20000 in
theorem gX8_copy_X8_ofCopy : GoodIn wsX8_copy (wsV RX8 44 RX8 yX8_ofCopy wsX8_ofCopy) := goodIn_app (goodIn_of _ (by decide +kernel)) ggX8_copy_X8_ofCopy
set_option maxRecDepth 20000 in
theorem ggX8_copy_X8_sizeAt : GoodIn wsX8_copy wsX8_sizeAt := goodIn_r _ [23, 16, 8, 9, 10, 3, 11, 12, 13, 14, 15, 24, 25, 26, 27, 28, 29, 30, 31, 32, 33, 34, 35] (by decide +kernel) (by decide +kernel)
set_option maxRecDepth 20000 in
theorem gX8_copy_X8_sizeAt : GoodIn wsX8_copy (wsV RX8 60 RX8 yX8_sizeAt wsX8_sizeAt) := goodIn_app (goodIn_of _ (by decide +kernel)) ggX8_copy_X8_sizeAt
theorem dX8_copy_0 : decode cX8_copy 0 = .ok (.iload_n 1, 1) := by decide +kernel
theorem dX8_copy_1 : decode cX8_copy 1 = .ok (.invokestatic 189, 3) := by decide +kernel
theorem dX8_copy_4 : decode cX8_copy 4 = .ok (.ifCond .eq 23, 3) := by decide +kernel
theorem dX8_copy_7 : decode cX8_copy 7 = .ok (.aload_n 0, 1) := by decide +kernel
theorem dX8_copy_8 : decode cX8_copy 8 = .ok (.iload_n 1, 1) := by decide +kernel
theorem dX8_copy_9 : decode cX8_copy 9 = .ok (.invokestatic 79, 3) := by decide +kernel
theorem dX8_copy_12 : decode cX8_copy 12 = .ok (.invokevirtual 48, 3) := by decide +kernel
theorem dX8_copy_15 : decode cX8_copy 15 = .ok (.ifCond .eq 12, 3) := by decide +kernel
theorem dX8_copy_18 : decode cX8_copy 18 = .ok (.iload_n 2, 1) := by decide +kernel
theorem dX8_copy_19 : decode cX8_copy 19 = .ok (.iconst 0, 1) := by decide +kernel
theorem dX8_copy_20 : decode cX8_copy 20 = .ok (.iconst 5, 1) := by decide +kernel
theorem dX8_copy_21 : decode cX8_copy 21 = .ok (.invokestatic 40, 3) := by decide +kernel
theorem dX8_copy_24 : decode cX8_copy 24 = .ok (.ifCond .ne 5, 3) := by decide +kernel
theorem dX8_copy_27 : decode cX8_copy 27 = .ok (.iconst (-1), 1) := by decide +kernel
theorem dX8_copy_28 : decode cX8_copy 28 = .ok (.ireturn, 1) := by decide +kernel
end
section
theorem dX8_copy_29 : decode cX8_copy 29 = .ok (.iload_n 1, 1) := by decide +kernel
theorem dX8_copy_30 : decode cX8_copy 30 = .ok (.invokestatic 79, 3) := by decide +kernel
theorem dX8_copy_33 : decode cX8_copy 33 = .ok (.istore_n 3, 1) := by decide +kernel
theorem dX8_copy_34 : decode cX8_copy 34 = .ok (.iload_n 2, 1) := by decide +kernel
theorem dX8_copy_35 : decode cX8_copy 35 = .ok (.tableswitch 58 0 3 #[29, 38, 44, 51], 29) := by decide +kernel
theorem dX8_copy_64 : decode cX8_copy 64 = .ok (.aload_n 0, 1) := by decide +kernel
theorem dX8_copy_65 : decode cX8_copy 65 = .ok (.iload_n 3, 1) := by decide +kernel
theorem dX8_copy_66 : decode cX8_copy 66 = .ok (.iconst 0, 1) := by decide +kernel
theorem dX8_copy_67 : decode cX8_copy 67 = .ok (.invokevirtual 44, 3) := by decide +kernel
theorem dX8_copy_70 : decode cX8_copy 70 = .ok (.iconst 1, 1) := by decide +kernel
theorem dX8_copy_71 : decode cX8_copy 71 = .ok (.isub, 1) := by decide +kernel
theorem dX8_copy_72 : decode cX8_copy 72 = .ok (.ireturn, 1) := by decide +kernel
theorem dX8_copy_73 : decode cX8_copy 73 = .ok (.aload_n 0, 1) := by decide +kernel
theorem dX8_copy_74 : decode cX8_copy 74 = .ok (.iload_n 3, 1) := by decide +kernel
theorem dX8_copy_75 : decode cX8_copy 75 = .ok (.invokevirtual 60, 3) := by decide +kernel
theorem dX8_copy_78 : decode cX8_copy 78 = .ok (.ireturn, 1) := by decide +kernel
theorem dX8_copy_79 : decode cX8_copy 79 = .ok (.aload_n 0, 1) := by decide +kernel
theorem dX8_copy_80 : decode cX8_copy 80 = .ok (.iload_n 3, 1) := by decide +kernel
theorem dX8_copy_81 : decode cX8_copy 81 = .ok (.iconst 3, 1) := by decide +kernel
theorem dX8_copy_82 : decode cX8_copy 82 = .ok (.invokevirtual 44, 3) := by decide +kernel
theorem dX8_copy_85 : decode cX8_copy 85 = .ok (.ireturn, 1) := by decide +kernel
theorem dX8_copy_86 : decode cX8_copy 86 = .ok (.aload_n 0, 1) := by decide +kernel
theorem dX8_copy_87 : decode cX8_copy 87 = .ok (.iload_n 3, 1) := by decide +kernel
theorem dX8_copy_88 : decode cX8_copy 88 = .ok (.iconst 4, 1) := by decide +kernel
theorem dX8_copy_89 : decode cX8_copy 89 = .ok (.invokevirtual 44, 3) := by decide +kernel
theorem dX8_copy_92 : decode cX8_copy 92 = .ok (.ireturn, 1) := by decide +kernel
theorem dX8_copy_93 : decode cX8_copy 93 = .ok (.aload_n 0, 1) := by decide +kernel
theorem dX8_copy_94 : decode cX8_copy 94 = .ok (.iload_n 3, 1) := by decide +kernel
theorem dX8_copy_95 : decode cX8_copy 95 = .ok (.iconst 1, 1) := by decide +kernel
theorem dX8_copy_96 : decode cX8_copy 96 = .ok (.iload_n 2, 1) := by decide +kernel
theorem dX8_copy_97 : decode cX8_copy 97 = .ok (.iadd, 1) := by decide +kernel
theorem dX8_copy_98 : decode cX8_copy 98 = .ok (.iconst 4, 1) := by decide +kernel
theorem dX8_copy_99 : decode cX8_copy 99 = .ok (.isub, 1) := by decide +kernel
theorem dX8_copy_100 : decode cX8_copy 100 = .ok (.invokevirtual 44, 3) := by decide +kernel
theorem dX8_copy_103 : decode cX8_copy 103 = .ok (.ireturn, 1) := by decide +kernel
set_option maxRecDepth 20000 in
theorem ggX8_where_X8_isThing : GoodIn wsX8_where wsX8_isThing := goodIn_r _ [5, 6, 14, 15, 16, 17, 18, 19, 20, 21, 22, 23, 24, 25] (by decide +kernel) (by decide +kernel)
set_option maxRecDepth 20000 in
theorem gX8_where_X8_isThing : GoodIn wsX8_where (wsV RX8 118 RX8 yX8_isThing wsX8_isThing) := goodIn_app (goodIn_of _ (by decide +kernel)) ggX8_where_X8_isThing
set_option maxRecDepth 20000 in
theorem ggX8_where_X8_ofCopy : GoodIn wsX8_where wsX8_ofCopy := goodIn_r _ [10, 6, 14, 15, 16, 17, 18, 19, 20, 21, 22, 23, 24, 25] (by decide +kernel) (by decide +kernel)
set_option maxRecDepth 20000 in
theorem gX8_where_X8_ofCopy : GoodIn wsX8_where (wsV RX8 44 RX8 yX8_ofCopy wsX8_ofCopy) := goodIn_app (goodIn_of _ (by decide +kernel)) ggX8_where_X8_ofCopy
set_option maxRecDepth 20000 in
theorem ggX8_where_X8_address : GoodIn wsX8_where wsX8_address := goodIn_r _ [13] (by decide +kernel) (by decide +kernel)
set_option maxRecDepth 20000 in
theorem gX8_where_X8_address : GoodIn wsX8_where (va_wsS RX8 76 yX8_address wsX8_address) := goodIn_app (goodIn_of _ (by decide +kernel)) ggX8_where_X8_address
theorem dX8_where_0 : decode cX8_where 0 = .ok (.aload_n 0, 1) := by decide +kernel
theorem dX8_where_1 : decode cX8_where 1 = .ok (.iload_n 1, 1) := by decide +kernel
theorem dX8_where_2 : decode cX8_where 2 = .ok (.invokevirtual 118, 3) := by decide +kernel
theorem dX8_where_5 : decode cX8_where 5 = .ok (.ifCond .eq 7, 3) := by decide +kernel
theorem dX8_where_8 : decode cX8_where 8 = .ok (.iload_n 2, 1) := by decide +kernel
theorem dX8_where_9 : decode cX8_where 9 = .ok (.ifCond .ge 5, 3) := by decide +kernel
theorem dX8_where_12 : decode cX8_where 12 = .ok (.iconst (-1), 1) := by decide +kernel
theorem dX8_where_13 : decode cX8_where 13 = .ok (.ireturn, 1) := by decide +kernel
theorem dX8_where_14 : decode cX8_where 14 = .ok (.iconst 0, 1) := by decide +kernel
theorem dX8_where_15 : decode cX8_where 15 = .ok (.istore_n 3, 1) := by decide +kernel
theorem dX8_where_16 : decode cX8_where 16 = .ok (.iconst 0, 1) := by decide +kernel
theorem dX8_where_17 : decode cX8_where 17 = .ok (.istore 4, 2) := by decide +kernel
theorem dX8_where_19 : decode cX8_where 19 = .ok (.iload 4, 2) := by decide +kernel
theorem dX8_where_21 : decode cX8_where 21 = .ok (.sipush 188, 3) := by decide +kernel
theorem dX8_where_24 : decode cX8_where 24 = .ok (.if_icmp .ge 58, 3) := by decide +kernel
theorem dX8_where_27 : decode cX8_where 27 = .ok (.aload_n 0, 1) := by decide +kernel
theorem dX8_where_28 : decode cX8_where 28 = .ok (.iload 4, 2) := by decide +kernel
theorem dX8_where_30 : decode cX8_where 30 = .ok (.iconst 0, 1) := by decide +kernel
theorem dX8_where_31 : decode cX8_where 31 = .ok (.invokevirtual 44, 3) := by decide +kernel
theorem dX8_where_34 : decode cX8_where 34 = .ok (.iload_n 1, 1) := by decide +kernel
theorem dX8_where_35 : decode cX8_where 35 = .ok (.iconst 1, 1) := by decide +kernel
theorem dX8_where_36 : decode cX8_where 36 = .ok (.iadd, 1) := by decide +kernel
theorem dX8_where_37 : decode cX8_where 37 = .ok (.if_icmp .ne 7, 3) := by decide +kernel
theorem dX8_where_40 : decode cX8_where 40 = .ok (.iconst 1, 1) := by decide +kernel
theorem dX8_where_41 : decode cX8_where 41 = .ok (.goto 4, 3) := by decide +kernel
theorem dX8_where_44 : decode cX8_where 44 = .ok (.iconst 0, 1) := by decide +kernel
theorem dX8_where_45 : decode cX8_where 45 = .ok (.istore 5, 2) := by decide +kernel
theorem dX8_where_47 : decode cX8_where 47 = .ok (.iload 5, 2) := by decide +kernel
theorem dX8_where_49 : decode cX8_where 49 = .ok (.ifCond .eq 14, 3) := by decide +kernel
theorem dX8_where_52 : decode cX8_where 52 = .ok (.iload_n 3, 1) := by decide +kernel
theorem dX8_where_53 : decode cX8_where 53 = .ok (.iload_n 2, 1) := by decide +kernel
theorem dX8_where_54 : decode cX8_where 54 = .ok (.if_icmp .ne 9, 3) := by decide +kernel
theorem dX8_where_57 : decode cX8_where 57 = .ok (.iload 4, 2) := by decide +kernel
theorem dX8_where_59 : decode cX8_where 59 = .ok (.invokestatic 76, 3) := by decide +kernel
theorem dX8_where_62 : decode cX8_where 62 = .ok (.ireturn, 1) := by decide +kernel
theorem dX8_where_63 : decode cX8_where 63 = .ok (.iload_n 3, 1) := by decide +kernel
theorem dX8_where_64 : decode cX8_where 64 = .ok (.iload 5, 2) := by decide +kernel
theorem dX8_where_66 : decode cX8_where 66 = .ok (.ifCond .eq 7, 3) := by decide +kernel
theorem dX8_where_69 : decode cX8_where 69 = .ok (.iconst 1, 1) := by decide +kernel
theorem dX8_where_70 : decode cX8_where 70 = .ok (.goto 4, 3) := by decide +kernel
theorem dX8_where_73 : decode cX8_where 73 = .ok (.iconst 0, 1) := by decide +kernel
theorem dX8_where_74 : decode cX8_where 74 = .ok (.iadd, 1) := by decide +kernel
theorem dX8_where_75 : decode cX8_where 75 = .ok (.istore_n 3, 1) := by decide +kernel
theorem dX8_where_76 : decode cX8_where 76 = .ok (.iinc 4 1, 3) := by decide +kernel
theorem dX8_where_79 : decode cX8_where 79 = .ok (.goto (-60), 3) := by decide +kernel
theorem dX8_where_82 : decode cX8_where 82 = .ok (.bipush (-9), 2) := by decide +kernel
theorem dX8_where_84 : decode cX8_where 84 = .ok (.ireturn, 1) := by decide +kernel
set_option maxRecDepth 20000 in
theorem ggX8_leads_X8_cell : GoodIn wsX8_leads wsX8_cell := goodIn_r _ [7] (by decide +kernel) (by decide +kernel)
set_option maxRecDepth 20000 in
theorem gX8_leads_X8_cell : GoodIn wsX8_leads (va_wsS RX8 79 yX8_cell wsX8_cell) := goodIn_app (goodIn_of _ (by decide +kernel)) ggX8_leads_X8_cell
set_option maxRecDepth 20000 in
theorem ggX8_leads_X8_ofCopy : GoodIn wsX8_leads wsX8_ofCopy := goodIn_r _ [11, 12, 13, 14, 15, 16, 17, 18, 19, 20, 21, 22, 23, 24] (by decide +kernel) (by decide +kernel)
set_option maxRecDepth 20000 in
theorem gX8_leads_X8_ofCopy : GoodIn wsX8_leads (wsV RX8 44 RX8 yX8_ofCopy wsX8_ofCopy) := goodIn_app (goodIn_of _ (by decide +kernel)) ggX8_leads_X8_ofCopy
theorem dX8_leads_0 : decode cX8_leads 0 = .ok (.iload_n 1, 1) := by decide +kernel
theorem dX8_leads_1 : decode cX8_leads 1 = .ok (.bipush (-9), 2) := by decide +kernel
theorem dX8_leads_3 : decode cX8_leads 3 = .ok (.if_icmp .ne 4, 3) := by decide +kernel
theorem dX8_leads_6 : decode cX8_leads 6 = .ok (.return_, 1) := by decide +kernel
theorem dX8_leads_7 : decode cX8_leads 7 = .ok (.iload_n 1, 1) := by decide +kernel
theorem dX8_leads_8 : decode cX8_leads 8 = .ok (.invokestatic 79, 3) := by decide +kernel
theorem dX8_leads_11 : decode cX8_leads 11 = .ok (.istore_n 2, 1) := by decide +kernel
theorem dX8_leads_12 : decode cX8_leads 12 = .ok (.aload_n 0, 1) := by decide +kernel
theorem dX8_leads_13 : decode cX8_leads 13 = .ok (.iload_n 2, 1) := by decide +kernel
theorem dX8_leads_14 : decode cX8_leads 14 = .ok (.iconst 3, 1) := by decide +kernel
theorem dX8_leads_15 : decode cX8_leads 15 = .ok (.invokevirtual 44, 3) := by decide +kernel
theorem dX8_leads_18 : decode cX8_leads 18 = .ok (.bipush (-9), 2) := by decide +kernel
theorem dX8_leads_20 : decode cX8_leads 20 = .ok (.if_icmp .eq 15, 3) := by decide +kernel
theorem dX8_leads_23 : decode cX8_leads 23 = .ok (.aload_n 0, 1) := by decide +kernel
theorem dX8_leads_24 : decode cX8_leads 24 = .ok (.iload_n 2, 1) := by decide +kernel
theorem dX8_leads_25 : decode cX8_leads 25 = .ok (.iconst 3, 1) := by decide +kernel
theorem dX8_leads_26 : decode cX8_leads 26 = .ok (.invokevirtual 44, 3) := by decide +kernel
theorem dX8_leads_29 : decode cX8_leads 29 = .ok (.invokestatic 79, 3) := by decide +kernel
theorem dX8_leads_32 : decode cX8_leads 32 = .ok (.goto 4, 3) := by decide +kernel
theorem dX8_leads_35 : decode cX8_leads 35 = .ok (.iload_n 2, 1) := by decide +kernel
theorem dX8_leads_36 : decode cX8_leads 36 = .ok (.istore_n 2, 1) := by decide +kernel
theorem dX8_leads_37 : decode cX8_leads 37 = .ok (.aload_n 0, 1) := by decide +kernel
theorem dX8_leads_38 : decode cX8_leads 38 = .ok (.getfield 25, 3) := by decide +kernel
theorem dX8_leads_41 : decode cX8_leads 41 = .ok (.iload_n 2, 1) := by decide +kernel
theorem dX8_leads_42 : decode cX8_leads 42 = .ok (.baload, 1) := by decide +kernel
theorem dX8_leads_43 : decode cX8_leads 43 = .ok (.ifCond .ne 30, 3) := by decide +kernel
theorem dX8_leads_46 : decode cX8_leads 46 = .ok (.aload_n 0, 1) := by decide +kernel
theorem dX8_leads_47 : decode cX8_leads 47 = .ok (.getfield 25, 3) := by decide +kernel
theorem dX8_leads_50 : decode cX8_leads 50 = .ok (.iload_n 2, 1) := by decide +kernel
theorem dX8_leads_51 : decode cX8_leads 51 = .ok (.iconst 1, 1) := by decide +kernel
theorem dX8_leads_52 : decode cX8_leads 52 = .ok (.bastore, 1) := by decide +kernel
theorem dX8_leads_53 : decode cX8_leads 53 = .ok (.aload_n 0, 1) := by decide +kernel
theorem dX8_leads_54 : decode cX8_leads 54 = .ok (.getfield 29, 3) := by decide +kernel
theorem dX8_leads_57 : decode cX8_leads 57 = .ok (.aload_n 0, 1) := by decide +kernel
theorem dX8_leads_58 : decode cX8_leads 58 = .ok (.getfield 192, 3) := by decide +kernel
theorem dX8_leads_61 : decode cX8_leads 61 = .ok (.iload_n 2, 1) := by decide +kernel
theorem dX8_leads_62 : decode cX8_leads 62 = .ok (.iastore, 1) := by decide +kernel
theorem dX8_leads_63 : decode cX8_leads 63 = .ok (.aload_n 0, 1) := by decide +kernel
theorem dX8_leads_64 : decode cX8_leads 64 = .ok (.dup, 1) := by decide +kernel
theorem dX8_leads_65 : decode cX8_leads 65 = .ok (.getfield 192, 3) := by decide +kernel
theorem dX8_leads_68 : decode cX8_leads 68 = .ok (.iconst 1, 1) := by decide +kernel
theorem dX8_leads_69 : decode cX8_leads 69 = .ok (.iadd, 1) := by decide +kernel
theorem dX8_leads_70 : decode cX8_leads 70 = .ok (.putfield 192, 3) := by decide +kernel
theorem dX8_leads_73 : decode cX8_leads 73 = .ok (.return_, 1) := by decide +kernel
theorem dX8_forgets_0 : decode cX8_forgets 0 = .ok (.iconst 0, 1) := by decide +kernel
theorem dX8_forgets_1 : decode cX8_forgets 1 = .ok (.istore_n 1, 1) := by decide +kernel
theorem dX8_forgets_2 : decode cX8_forgets 2 = .ok (.iload_n 1, 1) := by decide +kernel
theorem dX8_forgets_3 : decode cX8_forgets 3 = .ok (.sipush 188, 3) := by decide +kernel
theorem dX8_forgets_6 : decode cX8_forgets 6 = .ok (.if_icmp .ge 16, 3) := by decide +kernel
theorem dX8_forgets_9 : decode cX8_forgets 9 = .ok (.aload_n 0, 1) := by decide +kernel
theorem dX8_forgets_10 : decode cX8_forgets 10 = .ok (.getfield 25, 3) := by decide +kernel
theorem dX8_forgets_13 : decode cX8_forgets 13 = .ok (.iload_n 1, 1) := by decide +kernel
theorem dX8_forgets_14 : decode cX8_forgets 14 = .ok (.iconst 0, 1) := by decide +kernel
theorem dX8_forgets_15 : decode cX8_forgets 15 = .ok (.bastore, 1) := by decide +kernel
theorem dX8_forgets_16 : decode cX8_forgets 16 = .ok (.iinc 1 1, 3) := by decide +kernel
theorem dX8_forgets_19 : decode cX8_forgets 19 = .ok (.goto (-17), 3) := by decide +kernel
theorem dX8_forgets_22 : decode cX8_forgets 22 = .ok (.aload_n 0, 1) := by decide +kernel
theorem dX8_forgets_23 : decode cX8_forgets 23 = .ok (.iconst 0, 1) := by decide +kernel
theorem dX8_forgets_24 : decode cX8_forgets 24 = .ok (.putfield 192, 3) := by decide +kernel
theorem dX8_forgets_27 : decode cX8_forgets 27 = .ok (.return_, 1) := by decide +kernel
set_option maxRecDepth 20000 in
theorem ggX8_reaches_X8_ofCopy : GoodIn wsX8_reaches wsX8_ofCopy := goodIn_r _ [7, 8, 17, 18, 19, 20, 21, 22, 23, 24, 25, 26, 27, 28] (by decide +kernel) (by decide +kernel)
set_option maxRecDepth 20000 in
theorem gX8_reaches_X8_ofCopy : GoodIn wsX8_reaches (wsV RX8 44 RX8 yX8_ofCopy wsX8_ofCopy) := goodIn_app (goodIn_of _ (by decide +kernel)) ggX8_reaches_X8_ofCopy
set_option maxRecDepth 20000 in
theorem ggX8_reaches_X8_leads : GoodIn wsX8_reaches wsX8_leads := goodIn_r _ [12, 13, 2, 1, 14, 15, 6, 16, 3, 4, 5, 7, 8, 17, 18, 19, 20, 21, 22, 23, 24, 25, 26, 27, 28] (by decide +kernel) (by decide +kernel)
set_option maxRecDepth 20000 in
theorem gX8_reaches_X8_leads : GoodIn wsX8_reaches (wsV RX8 195 RX8 yX8_leads wsX8_leads) := goodIn_app (goodIn_of _ (by decide +kernel)) ggX8_reaches_X8_leads
theorem dX8_reaches_0 : decode cX8_reaches 0 = .ok (.iconst 0, 1) := by decide +kernel
theorem dX8_reaches_1 : decode cX8_reaches 1 = .ok (.istore_n 1, 1) := by decide +kernel
theorem dX8_reaches_2 : decode cX8_reaches 2 = .ok (.iload_n 1, 1) := by decide +kernel
theorem dX8_reaches_3 : decode cX8_reaches 3 = .ok (.aload_n 0, 1) := by decide +kernel
theorem dX8_reaches_4 : decode cX8_reaches 4 = .ok (.getfield 192, 3) := by decide +kernel
theorem dX8_reaches_7 : decode cX8_reaches 7 = .ok (.if_icmp .ge 39, 3) := by decide +kernel
theorem dX8_reaches_10 : decode cX8_reaches 10 = .ok (.aload_n 0, 1) := by decide +kernel
theorem dX8_reaches_11 : decode cX8_reaches 11 = .ok (.aload_n 0, 1) := by decide +kernel
theorem dX8_reaches_12 : decode cX8_reaches 12 = .ok (.aload_n 0, 1) := by decide +kernel
theorem dX8_reaches_13 : decode cX8_reaches 13 = .ok (.getfield 29, 3) := by decide +kernel
theorem dX8_reaches_16 : decode cX8_reaches 16 = .ok (.iload_n 1, 1) := by decide +kernel
theorem dX8_reaches_17 : decode cX8_reaches 17 = .ok (.iaload, 1) := by decide +kernel
theorem dX8_reaches_18 : decode cX8_reaches 18 = .ok (.iconst 1, 1) := by decide +kernel
theorem dX8_reaches_19 : decode cX8_reaches 19 = .ok (.invokevirtual 44, 3) := by decide +kernel
theorem dX8_reaches_22 : decode cX8_reaches 22 = .ok (.invokevirtual 195, 3) := by decide +kernel
theorem dX8_reaches_25 : decode cX8_reaches 25 = .ok (.aload_n 0, 1) := by decide +kernel
theorem dX8_reaches_26 : decode cX8_reaches 26 = .ok (.aload_n 0, 1) := by decide +kernel
theorem dX8_reaches_27 : decode cX8_reaches 27 = .ok (.aload_n 0, 1) := by decide +kernel
theorem dX8_reaches_28 : decode cX8_reaches 28 = .ok (.getfield 29, 3) := by decide +kernel
theorem dX8_reaches_31 : decode cX8_reaches 31 = .ok (.iload_n 1, 1) := by decide +kernel
theorem dX8_reaches_32 : decode cX8_reaches 32 = .ok (.iaload, 1) := by decide +kernel
theorem dX8_reaches_33 : decode cX8_reaches 33 = .ok (.iconst 2, 1) := by decide +kernel
theorem dX8_reaches_34 : decode cX8_reaches 34 = .ok (.invokevirtual 44, 3) := by decide +kernel
theorem dX8_reaches_37 : decode cX8_reaches 37 = .ok (.invokevirtual 195, 3) := by decide +kernel
theorem dX8_reaches_40 : decode cX8_reaches 40 = .ok (.iinc 1 1, 3) := by decide +kernel
theorem dX8_reaches_43 : decode cX8_reaches 43 = .ok (.goto (-41), 3) := by decide +kernel
theorem dX8_reaches_46 : decode cX8_reaches 46 = .ok (.return_, 1) := by decide +kernel
set_option maxRecDepth 20000 in
theorem ggX8_named_X8_isHook : GoodIn wsX8_named wsX8_isHook := goodIn_r _ [7, 8, 9, 6, 10] (by decide +kernel) (by decide +kernel)
set_option maxRecDepth 20000 in
theorem gX8_named_X8_isHook : GoodIn wsX8_named (va_wsS RX8 97 yX8_isHook wsX8_isHook) := goodIn_app (goodIn_of _ (by decide +kernel)) ggX8_named_X8_isHook
set_option maxRecDepth 20000 in
theorem ggX8_named_X8_forgets : GoodIn wsX8_named wsX8_forgets := goodIn_r _ [14, 15, 2, 31, 32, 33, 34, 35, 36, 37, 38, 39, 40, 41, 42] (by decide +kernel) (by decide +kernel)
set_option maxRecDepth 20000 in
theorem gX8_named_X8_forgets : GoodIn wsX8_named (wsV RX8 198 RX8 yX8_forgets wsX8_forgets) := goodIn_app (goodIn_of _ (by decide +kernel)) ggX8_named_X8_forgets
set_option maxRecDepth 20000 in
theorem ggX8_named_X8_leads : GoodIn wsX8_named wsX8_leads := goodIn_r _ [19, 15, 3, 2, 20, 21, 6, 22, 23, 24, 25, 26, 1, 31, 32, 33, 34, 35, 36, 37, 38, 39, 40, 41, 42] (by decide +kernel) (by decide +kernel)
set_option maxRecDepth 20000 in
theorem gX8_named_X8_leads : GoodIn wsX8_named (wsV RX8 195 RX8 yX8_leads wsX8_leads) := goodIn_app (goodIn_of _ (by decide +kernel)) ggX8_named_X8_leads
set_option maxRecDepth 20000 in
theorem ggX8_named_X8_reaches : GoodIn wsX8_named wsX8_reaches := goodIn_r _ [30, 2, 3, 23, 24, 25, 6, 26, 1, 16, 17, 18, 19, 15, 20, 21, 22, 31, 32, 33, 34, 35, 36, 37, 38, 39, 40, 41, 42] (by decide +kernel) (by decide +kernel)
set_option maxRecDepth 20000 in
theorem gX8_named_X8_reaches : GoodIn wsX8_named (wsV RX8 201 RX8 yX8_reaches wsX8_reaches) := goodIn_app (goodIn_of _ (by decide +kernel)) ggX8_named_X8_reaches
set_option maxRecDepth 20000 in
theorem ggX8_named_X8_ofCopy : GoodIn wsX8_named wsX8_ofCopy := goodIn_r _ [26, 1, 31, 32, 33, 34, 35, 36, 37, 38, 39, 40, 41, 42] (by decide +kernel) (by decide +kernel)
set_option maxRecDepth 20000 in
theorem gX8_named_X8_ofCopy : GoodIn wsX8_named (wsV RX8 44 RX8 yX8_ofCopy wsX8_ofCopy) := goodIn_app (goodIn_of _ (by decide +kernel)) ggX8_named_X8_ofCopy
theorem dX8_named_0 : decode cX8_named 0 = .ok (.iload_n 1, 1) := by decide +kernel
theorem dX8_named_1 : decode cX8_named 1 = .ok (.invokestatic 97, 3) := by decide +kernel
theorem dX8_named_4 : decode cX8_named 4 = .ok (.ifCond .ne 5, 3) := by decide +kernel
theorem dX8_named_7 : decode cX8_named 7 = .ok (.iconst (-1), 1) := by decide +kernel
theorem dX8_named_8 : decode cX8_named 8 = .ok (.ireturn, 1) := by decide +kernel
theorem dX8_named_9 : decode cX8_named 9 = .ok (.aload_n 0, 1) := by decide +kernel
theorem dX8_named_10 : decode cX8_named 10 = .ok (.invokevirtual 198, 3) := by decide +kernel
theorem dX8_named_13 : decode cX8_named 13 = .ok (.aload_n 0, 1) := by decide +kernel
theorem dX8_named_14 : decode cX8_named 14 = .ok (.aload_n 0, 1) := by decide +kernel
theorem dX8_named_15 : decode cX8_named 15 = .ok (.getfield 7, 3) := by decide +kernel
theorem dX8_named_18 : decode cX8_named 18 = .ok (.bipush 9, 2) := by decide +kernel
theorem dX8_named_20 : decode cX8_named 20 = .ok (.iload_n 1, 1) := by decide +kernel
theorem dX8_named_21 : decode cX8_named 21 = .ok (.iadd, 1) := by decide +kernel
theorem dX8_named_22 : decode cX8_named 22 = .ok (.iaload, 1) := by decide +kernel
theorem dX8_named_23 : decode cX8_named 23 = .ok (.invokevirtual 195, 3) := by decide +kernel
theorem dX8_named_26 : decode cX8_named 26 = .ok (.aload_n 0, 1) := by decide +kernel
theorem dX8_named_27 : decode cX8_named 27 = .ok (.invokevirtual 201, 3) := by decide +kernel
theorem dX8_named_30 : decode cX8_named 30 = .ok (.iconst 0, 1) := by decide +kernel
theorem dX8_named_31 : decode cX8_named 31 = .ok (.istore_n 2, 1) := by decide +kernel
theorem dX8_named_32 : decode cX8_named 32 = .ok (.iconst 0, 1) := by decide +kernel
theorem dX8_named_33 : decode cX8_named 33 = .ok (.istore_n 3, 1) := by decide +kernel
theorem dX8_named_34 : decode cX8_named 34 = .ok (.iload_n 3, 1) := by decide +kernel
theorem dX8_named_35 : decode cX8_named 35 = .ok (.aload_n 0, 1) := by decide +kernel
theorem dX8_named_36 : decode cX8_named 36 = .ok (.getfield 192, 3) := by decide +kernel
theorem dX8_named_39 : decode cX8_named 39 = .ok (.if_icmp .ge 78, 3) := by decide +kernel
theorem dX8_named_42 : decode cX8_named 42 = .ok (.iconst 1, 1) := by decide +kernel
theorem dX8_named_43 : decode cX8_named 43 = .ok (.istore 4, 2) := by decide +kernel
theorem dX8_named_45 : decode cX8_named 45 = .ok (.iconst 0, 1) := by decide +kernel
theorem dX8_named_46 : decode cX8_named 46 = .ok (.istore 5, 2) := by decide +kernel
theorem dX8_named_48 : decode cX8_named 48 = .ok (.iload 5, 2) := by decide +kernel
theorem dX8_named_50 : decode cX8_named 50 = .ok (.iload_n 3, 1) := by decide +kernel
theorem dX8_named_51 : decode cX8_named 51 = .ok (.if_icmp .ge 47, 3) := by decide +kernel
theorem dX8_named_54 : decode cX8_named 54 = .ok (.iload 4, 2) := by decide +kernel
theorem dX8_named_56 : decode cX8_named 56 = .ok (.ifCond .eq 33, 3) := by decide +kernel
theorem dX8_named_59 : decode cX8_named 59 = .ok (.aload_n 0, 1) := by decide +kernel
theorem dX8_named_60 : decode cX8_named 60 = .ok (.aload_n 0, 1) := by decide +kernel
theorem dX8_named_61 : decode cX8_named 61 = .ok (.getfield 29, 3) := by decide +kernel
theorem dX8_named_64 : decode cX8_named 64 = .ok (.iload 5, 2) := by decide +kernel
theorem dX8_named_66 : decode cX8_named 66 = .ok (.iaload, 1) := by decide +kernel
theorem dX8_named_67 : decode cX8_named 67 = .ok (.iconst 0, 1) := by decide +kernel
theorem dX8_named_68 : decode cX8_named 68 = .ok (.invokevirtual 44, 3) := by decide +kernel
theorem dX8_named_71 : decode cX8_named 71 = .ok (.aload_n 0, 1) := by decide +kernel
theorem dX8_named_72 : decode cX8_named 72 = .ok (.aload_n 0, 1) := by decide +kernel
theorem dX8_named_73 : decode cX8_named 73 = .ok (.getfield 29, 3) := by decide +kernel
theorem dX8_named_76 : decode cX8_named 76 = .ok (.iload_n 3, 1) := by decide +kernel
theorem dX8_named_77 : decode cX8_named 77 = .ok (.iaload, 1) := by decide +kernel
theorem dX8_named_78 : decode cX8_named 78 = .ok (.iconst 0, 1) := by decide +kernel
theorem dX8_named_79 : decode cX8_named 79 = .ok (.invokevirtual 44, 3) := by decide +kernel
theorem dX8_named_82 : decode cX8_named 82 = .ok (.if_icmp .eq 7, 3) := by decide +kernel
theorem dX8_named_85 : decode cX8_named 85 = .ok (.iconst 1, 1) := by decide +kernel
theorem dX8_named_86 : decode cX8_named 86 = .ok (.goto 4, 3) := by decide +kernel
theorem dX8_named_89 : decode cX8_named 89 = .ok (.iconst 0, 1) := by decide +kernel
theorem dX8_named_90 : decode cX8_named 90 = .ok (.istore 4, 2) := by decide +kernel
theorem dX8_named_92 : decode cX8_named 92 = .ok (.iinc 5 1, 3) := by decide +kernel
theorem dX8_named_95 : decode cX8_named 95 = .ok (.goto (-47), 3) := by decide +kernel
theorem dX8_named_98 : decode cX8_named 98 = .ok (.iload_n 2, 1) := by decide +kernel
theorem dX8_named_99 : decode cX8_named 99 = .ok (.iload 4, 2) := by decide +kernel
theorem dX8_named_101 : decode cX8_named 101 = .ok (.ifCond .eq 7, 3) := by decide +kernel
theorem dX8_named_104 : decode cX8_named 104 = .ok (.iconst 1, 1) := by decide +kernel
theorem dX8_named_105 : decode cX8_named 105 = .ok (.goto 4, 3) := by decide +kernel
theorem dX8_named_108 : decode cX8_named 108 = .ok (.iconst 0, 1) := by decide +kernel
theorem dX8_named_109 : decode cX8_named 109 = .ok (.iadd, 1) := by decide +kernel
theorem dX8_named_110 : decode cX8_named 110 = .ok (.istore_n 2, 1) := by decide +kernel
theorem dX8_named_111 : decode cX8_named 111 = .ok (.iinc 3 1, 3) := by decide +kernel
theorem dX8_named_114 : decode cX8_named 114 = .ok (.goto (-80), 3) := by decide +kernel
theorem dX8_named_117 : decode cX8_named 117 = .ok (.iload_n 2, 1) := by decide +kernel
theorem dX8_named_118 : decode cX8_named 118 = .ok (.ireturn, 1) := by decide +kernel
set_option maxRecDepth 20000 in
theorem ggX8_garbage_X8_forgets : GoodIn wsX8_garbage wsX8_forgets := goodIn_r _ [7, 2, 8, 33, 34, 35, 36, 37, 38, 39, 40, 41, 42, 43, 44] (by decide +kernel) (by decide +kernel)
set_option maxRecDepth 20000 in
theorem gX8_garbage_X8_forgets : GoodIn wsX8_garbage (wsV RX8 198 RX8 yX8_forgets wsX8_forgets) := goodIn_app (goodIn_of _ (by decide +kernel)) ggX8_garbage_X8_forgets
set_option maxRecDepth 20000 in
theorem ggX8_garbage_X8_leads : GoodIn wsX8_garbage wsX8_leads := goodIn_r _ [12, 2, 13, 8, 14, 15, 6, 16, 17, 18, 19, 20, 1, 33, 34, 35, 36, 37, 38, 39, 40, 41, 42, 43, 44] (by decide +kernel) (by decide +kernel)
set_option maxRecDepth 20000 in
theorem gX8_garbage_X8_leads : GoodIn wsX8_garbage (wsV RX8 195 RX8 yX8_leads wsX8_leads) := goodIn_app (goodIn_of _ (by decide +kernel)) ggX8_garbage_X8_leads
set_option maxRecDepth 20000 in
theorem ggX8_garbage_X8_reaches : GoodIn wsX8_garbage wsX8_reaches := goodIn_r _ [24, 8, 13, 17, 18, 19, 6, 20, 1, 9, 10, 11, 12, 2, 14, 15, 16, 33, 34, 35, 36, 37, 38, 39, 40, 41, 42, 43, 44] (by decide +kernel) (by decide +kernel)
set_option maxRecDepth 20000 in
theorem gX8_garbage_X8_reaches : GoodIn wsX8_garbage (wsV RX8 201 RX8 yX8_reaches wsX8_reaches) := goodIn_app (goodIn_of _ (by decide +kernel)) ggX8_garbage_X8_reaches
set_option maxRecDepth 20000 in
theorem ggX8_garbage_X8_isCopy : GoodIn wsX8_garbage wsX8_isCopy := goodIn_r _ [28, 17, 18, 19, 6, 20, 1, 33, 34, 35, 36, 37, 38, 39, 40, 41, 42, 43, 44] (by decide +kernel) (by decide +kernel)
set_option maxRecDepth 20000 in
theorem gX8_garbage_X8_isCopy : GoodIn wsX8_garbage (wsV RX8 48 RX8 yX8_isCopy wsX8_isCopy) := goodIn_app (goodIn_of _ (by decide +kernel)) ggX8_garbage_X8_isCopy
set_option maxRecDepth 20000 in
theorem ggX8_garbage_X8_ofCopy : GoodIn wsX8_garbage wsX8_ofCopy := goodIn_r _ [20, 1, 33, 34, 35, 36, 37, 38, 39, 40, 41, 42, 43, 44] (by decide +kernel) (by decide +kernel)
set_option maxRecDepth 20000 in
theorem gX8_garbage_X8_ofCopy : GoodIn wsX8_garbage (wsV RX8 44 RX8 yX8_ofCopy wsX8_ofCopy) := goodIn_app (goodIn_of _ (by decide +kernel)) ggX8_garbage_X8_ofCopy
set_option maxRecDepth 20000 in
theorem ggX8_garbage_X8_sizeAt : GoodIn wsX8_garbage wsX8_sizeAt := goodIn_r _ [32, 1, 25, 26, 27, 6, 28, 17, 18, 19, 20, 33, 34, 35, 36, 37, 38, 39, 40, 41, 42, 43, 44] (by decide +kernel) (by decide +kernel)
set_option maxRecDepth 20000 in
theorem gX8_garbage_X8_sizeAt : GoodIn wsX8_garbage (wsV RX8 60 RX8 yX8_sizeAt wsX8_sizeAt) := goodIn_app (goodIn_of _ (by decide +kernel)) ggX8_garbage_X8_sizeAt
theorem dX8_garbage_0 : decode cX8_garbage 0 = .ok (.aload_n 0, 1) := by decide +kernel
theorem dX8_garbage_1 : decode cX8_garbage 1 = .ok (.invokevirtual 198, 3) := by decide +kernel
theorem dX8_garbage_4 : decode cX8_garbage 4 = .ok (.iconst 0, 1) := by decide +kernel
theorem dX8_garbage_5 : decode cX8_garbage 5 = .ok (.istore_n 1, 1) := by decide +kernel
theorem dX8_garbage_6 : decode cX8_garbage 6 = .ok (.iload_n 1, 1) := by decide +kernel
theorem dX8_garbage_7 : decode cX8_garbage 7 = .ok (.bipush 8, 2) := by decide +kernel
theorem dX8_garbage_9 : decode cX8_garbage 9 = .ok (.if_icmp .ge 22, 3) := by decide +kernel
theorem dX8_garbage_12 : decode cX8_garbage 12 = .ok (.aload_n 0, 1) := by decide +kernel
theorem dX8_garbage_13 : decode cX8_garbage 13 = .ok (.aload_n 0, 1) := by decide +kernel
theorem dX8_garbage_14 : decode cX8_garbage 14 = .ok (.getfield 7, 3) := by decide +kernel
theorem dX8_garbage_17 : decode cX8_garbage 17 = .ok (.bipush 9, 2) := by decide +kernel
theorem dX8_garbage_19 : decode cX8_garbage 19 = .ok (.iload_n 1, 1) := by decide +kernel
theorem dX8_garbage_20 : decode cX8_garbage 20 = .ok (.iadd, 1) := by decide +kernel
theorem dX8_garbage_21 : decode cX8_garbage 21 = .ok (.iaload, 1) := by decide +kernel
theorem dX8_garbage_22 : decode cX8_garbage 22 = .ok (.invokevirtual 195, 3) := by decide +kernel
theorem dX8_garbage_25 : decode cX8_garbage 25 = .ok (.iinc 1 1, 3) := by decide +kernel
theorem dX8_garbage_28 : decode cX8_garbage 28 = .ok (.goto (-22), 3) := by decide +kernel
theorem dX8_garbage_31 : decode cX8_garbage 31 = .ok (.aload_n 0, 1) := by decide +kernel
theorem dX8_garbage_32 : decode cX8_garbage 32 = .ok (.invokevirtual 201, 3) := by decide +kernel
theorem dX8_garbage_35 : decode cX8_garbage 35 = .ok (.iconst 0, 1) := by decide +kernel
theorem dX8_garbage_36 : decode cX8_garbage 36 = .ok (.istore_n 1, 1) := by decide +kernel
theorem dX8_garbage_37 : decode cX8_garbage 37 = .ok (.iconst 0, 1) := by decide +kernel
theorem dX8_garbage_38 : decode cX8_garbage 38 = .ok (.istore_n 2, 1) := by decide +kernel
theorem dX8_garbage_39 : decode cX8_garbage 39 = .ok (.iload_n 2, 1) := by decide +kernel
theorem dX8_garbage_40 : decode cX8_garbage 40 = .ok (.sipush 188, 3) := by decide +kernel
theorem dX8_garbage_43 : decode cX8_garbage 43 = .ok (.if_icmp .ge 49, 3) := by decide +kernel
theorem dX8_garbage_46 : decode cX8_garbage 46 = .ok (.iload_n 1, 1) := by decide +kernel
theorem dX8_garbage_47 : decode cX8_garbage 47 = .ok (.aload_n 0, 1) := by decide +kernel
theorem dX8_garbage_48 : decode cX8_garbage 48 = .ok (.iload_n 2, 1) := by decide +kernel
theorem dX8_garbage_49 : decode cX8_garbage 49 = .ok (.invokevirtual 48, 3) := by decide +kernel
theorem dX8_garbage_52 : decode cX8_garbage 52 = .ok (.ifCond .eq 31, 3) := by decide +kernel
theorem dX8_garbage_55 : decode cX8_garbage 55 = .ok (.aload_n 0, 1) := by decide +kernel
theorem dX8_garbage_56 : decode cX8_garbage 56 = .ok (.getfield 25, 3) := by decide +kernel
theorem dX8_garbage_59 : decode cX8_garbage 59 = .ok (.iload_n 2, 1) := by decide +kernel
theorem dX8_garbage_60 : decode cX8_garbage 60 = .ok (.baload, 1) := by decide +kernel
theorem dX8_garbage_61 : decode cX8_garbage 61 = .ok (.ifCond .ne 22, 3) := by decide +kernel
theorem dX8_garbage_64 : decode cX8_garbage 64 = .ok (.aload_n 0, 1) := by decide +kernel
theorem dX8_garbage_65 : decode cX8_garbage 65 = .ok (.iload_n 2, 1) := by decide +kernel
theorem dX8_garbage_66 : decode cX8_garbage 66 = .ok (.iconst 3, 1) := by decide +kernel
theorem dX8_garbage_67 : decode cX8_garbage 67 = .ok (.invokevirtual 44, 3) := by decide +kernel
theorem dX8_garbage_70 : decode cX8_garbage 70 = .ok (.bipush (-9), 2) := by decide +kernel
theorem dX8_garbage_72 : decode cX8_garbage 72 = .ok (.if_icmp .ne 11, 3) := by decide +kernel
theorem dX8_garbage_75 : decode cX8_garbage 75 = .ok (.aload_n 0, 1) := by decide +kernel
theorem dX8_garbage_76 : decode cX8_garbage 76 = .ok (.iload_n 2, 1) := by decide +kernel
theorem dX8_garbage_77 : decode cX8_garbage 77 = .ok (.invokevirtual 60, 3) := by decide +kernel
theorem dX8_garbage_80 : decode cX8_garbage 80 = .ok (.goto 4, 3) := by decide +kernel
theorem dX8_garbage_83 : decode cX8_garbage 83 = .ok (.iconst 0, 1) := by decide +kernel
theorem dX8_garbage_84 : decode cX8_garbage 84 = .ok (.iadd, 1) := by decide +kernel
theorem dX8_garbage_85 : decode cX8_garbage 85 = .ok (.istore_n 1, 1) := by decide +kernel
theorem dX8_garbage_86 : decode cX8_garbage 86 = .ok (.iinc 2 1, 3) := by decide +kernel
theorem dX8_garbage_89 : decode cX8_garbage 89 = .ok (.goto (-50), 3) := by decide +kernel
theorem dX8_garbage_92 : decode cX8_garbage 92 = .ok (.iload_n 1, 1) := by decide +kernel
theorem dX8_garbage_93 : decode cX8_garbage 93 = .ok (.ireturn, 1) := by decide +kernel
set_option maxRecDepth 20000 in
theorem ggX8_stepsLeft_X8_isMoving : GoodIn wsX8_stepsLeft wsX8_isMoving := goodIn_r _ [5, 6, 62, 63, 64, 65, 66, 67, 68, 69, 70, 71, 72, 73] (by decide +kernel) (by decide +kernel)
set_option maxRecDepth 20000 in
theorem gX8_stepsLeft_X8_isMoving : GoodIn wsX8_stepsLeft (wsV RX8 56 RX8 yX8_isMoving wsX8_isMoving) := goodIn_app (goodIn_of _ (by decide +kernel)) ggX8_stepsLeft_X8_isMoving
set_option maxRecDepth 20000 in
theorem ggX8_stepsLeft_X8_holds : GoodIn wsX8_stepsLeft wsX8_holds := goodIn_r _ [10, 11, 6, 62, 63, 64, 65, 66, 67, 68, 69, 70, 71, 72, 73] (by decide +kernel) (by decide +kernel)
set_option maxRecDepth 20000 in
theorem gX8_stepsLeft_X8_holds : GoodIn wsX8_stepsLeft (wsV RX8 171 RX8 yX8_holds wsX8_holds) := goodIn_app (goodIn_of _ (by decide +kernel)) ggX8_stepsLeft_X8_holds
set_option maxRecDepth 20000 in
theorem ggX8_stepsLeft_X8_stepsToEnd : GoodIn wsX8_stepsLeft wsX8_stepsToEnd := goodIn_r _ [15, 1, 2, 3, 4, 5, 6, 16, 17, 18, 19, 20, 21, 22, 23, 24, 25, 26, 27, 28, 29, 30, 31, 32, 33, 34, 35, 36, 37, 38, 39, 40, 41, 42, 43, 44, 45, 46, 47, 48, 49, 50, 51, 52, 53, 54, 55, 56, 57, 62, 63, 64, 65, 66, 67, 68, 69, 70, 71, 72, 73] (by decide +kernel) (by decide +kernel)
set_option maxRecDepth 20000 in
theorem gX8_stepsLeft_X8_stepsToEnd : GoodIn wsX8_stepsLeft (wsV RX8 204 RX8 yX8_stepsToEnd wsX8_stepsToEnd) := goodIn_app (goodIn_of _ (by decide +kernel)) ggX8_stepsLeft_X8_stepsToEnd
set_option maxRecDepth 20000 in
theorem ggX8_stepsLeft_X8_exchanges : GoodIn wsX8_stepsLeft wsX8_exchanges := goodIn_r _ [61, 6, 11, 62, 63, 64, 65, 66, 67, 68, 69, 70, 71, 72, 73] (by decide +kernel) (by decide +kernel)
set_option maxRecDepth 20000 in
theorem gX8_stepsLeft_X8_exchanges : GoodIn wsX8_stepsLeft (wsV RX8 177 RX8 yX8_exchanges wsX8_exchanges) := goodIn_app (goodIn_of _ (by decide +kernel)) ggX8_stepsLeft_X8_exchanges
theorem dX8_stepsLeft_0 : decode cX8_stepsLeft 0 = .ok (.aload_n 0, 1) := by decide +kernel
theorem dX8_stepsLeft_1 : decode cX8_stepsLeft 1 = .ok (.invokevirtual 56, 3) := by decide +kernel
theorem dX8_stepsLeft_4 : decode cX8_stepsLeft 4 = .ok (.ifCond .ne 6, 3) := by decide +kernel
theorem dX8_stepsLeft_7 : decode cX8_stepsLeft 7 = .ok (.bipush (-2), 2) := by decide +kernel
theorem dX8_stepsLeft_9 : decode cX8_stepsLeft 9 = .ok (.ireturn, 1) := by decide +kernel
theorem dX8_stepsLeft_10 : decode cX8_stepsLeft 10 = .ok (.aload_n 0, 1) := by decide +kernel
theorem dX8_stepsLeft_11 : decode cX8_stepsLeft 11 = .ok (.invokevirtual 171, 3) := by decide +kernel
theorem dX8_stepsLeft_14 : decode cX8_stepsLeft 14 = .ok (.aload_n 0, 1) := by decide +kernel
theorem dX8_stepsLeft_15 : decode cX8_stepsLeft 15 = .ok (.invokevirtual 204, 3) := by decide +kernel
theorem dX8_stepsLeft_18 : decode cX8_stepsLeft 18 = .ok (.istore_n 1, 1) := by decide +kernel
theorem dX8_stepsLeft_19 : decode cX8_stepsLeft 19 = .ok (.aload_n 0, 1) := by decide +kernel
theorem dX8_stepsLeft_20 : decode cX8_stepsLeft 20 = .ok (.invokevirtual 177, 3) := by decide +kernel
theorem dX8_stepsLeft_23 : decode cX8_stepsLeft 23 = .ok (.iload_n 1, 1) := by decide +kernel
theorem dX8_stepsLeft_24 : decode cX8_stepsLeft 24 = .ok (.ireturn, 1) := by decide +kernel
set_option maxRecDepth 20000 in
theorem ggX8_freeThen_X8_holds : GoodIn wsX8_freeThen wsX8_holds := goodIn_r _ [6, 7, 1, 70, 71, 72, 73, 74, 75, 76, 77, 78, 79, 80, 81] (by decide +kernel) (by decide +kernel)
set_option maxRecDepth 20000 in
theorem gX8_freeThen_X8_holds : GoodIn wsX8_freeThen (wsV RX8 171 RX8 yX8_holds wsX8_holds) := goodIn_app (goodIn_of _ (by decide +kernel)) ggX8_freeThen_X8_holds
set_option maxRecDepth 20000 in
theorem ggX8_freeThen_X8_stepsToEnd : GoodIn wsX8_freeThen wsX8_stepsToEnd := goodIn_r _ [11, 12, 13, 14, 5, 15, 1, 16, 17, 18, 19, 20, 21, 22, 23, 24, 25, 26, 27, 28, 29, 30, 31, 32, 33, 34, 35, 36, 37, 38, 39, 40, 41, 42, 43, 44, 45, 46, 47, 48, 49, 50, 51, 52, 53, 54, 55, 56, 57, 70, 71, 72, 73, 74, 75, 76, 77, 78, 79, 80, 81] (by decide +kernel) (by decide +kernel)
set_option maxRecDepth 20000 in
theorem gX8_freeThen_X8_stepsToEnd : GoodIn wsX8_freeThen (wsV RX8 204 RX8 yX8_stepsToEnd wsX8_stepsToEnd) := goodIn_app (goodIn_of _ (by decide +kernel)) ggX8_freeThen_X8_stepsToEnd
set_option maxRecDepth 20000 in
theorem ggX8_freeThen_X8_begins : GoodIn wsX8_freeThen wsX8_begins := goodIn_r _ [61, 1, 27, 28, 29, 5, 30, 20, 21, 22, 23, 12, 13, 14, 15, 24, 25, 26, 31, 32, 33, 34, 35, 36, 37, 38, 39, 40, 41, 42, 43, 44, 45, 46, 47, 48, 49, 50, 51, 52, 53, 54, 55, 56, 57, 70, 71, 72, 73, 74, 75, 76, 77, 78, 79, 80, 81] (by decide +kernel) (by decide +kernel)
set_option maxRecDepth 20000 in
theorem gX8_freeThen_X8_begins : GoodIn wsX8_freeThen (wsV RX8 115 RX8 yX8_begins wsX8_begins) := goodIn_app (goodIn_of _ (by decide +kernel)) ggX8_freeThen_X8_begins
set_option maxRecDepth 20000 in
theorem ggX8_freeThen_X8_free : GoodIn wsX8_freeThen wsX8_free := goodIn_r _ [65, 1, 70, 71, 72, 73, 74, 75, 76, 77, 78, 79, 80, 81] (by decide +kernel) (by decide +kernel)
set_option maxRecDepth 20000 in
theorem gX8_freeThen_X8_free : GoodIn wsX8_freeThen (wsV RX8 103 RX8 yX8_free wsX8_free) := goodIn_app (goodIn_of _ (by decide +kernel)) ggX8_freeThen_X8_free
set_option maxRecDepth 20000 in
theorem ggX8_freeThen_X8_exchanges : GoodIn wsX8_freeThen wsX8_exchanges := goodIn_r _ [69, 1, 7, 70, 71, 72, 73, 74, 75, 76, 77, 78, 79, 80, 81] (by decide +kernel) (by decide +kernel)
set_option maxRecDepth 20000 in
theorem gX8_freeThen_X8_exchanges : GoodIn wsX8_freeThen (wsV RX8 177 RX8 yX8_exchanges wsX8_exchanges) := goodIn_app (goodIn_of _ (by decide +kernel)) ggX8_freeThen_X8_exchanges
theorem dX8_freeThen_0 : decode cX8_freeThen 0 = .ok (.aload_n 0, 1) := by decide +kernel
theorem dX8_freeThen_1 : decode cX8_freeThen 1 = .ok (.invokevirtual 171, 3) := by decide +kernel
theorem dX8_freeThen_4 : decode cX8_freeThen 4 = .ok (.aload_n 0, 1) := by decide +kernel
theorem dX8_freeThen_5 : decode cX8_freeThen 5 = .ok (.invokevirtual 204, 3) := by decide +kernel
theorem dX8_freeThen_8 : decode cX8_freeThen 8 = .ok (.istore_n 1, 1) := by decide +kernel
theorem dX8_freeThen_9 : decode cX8_freeThen 9 = .ok (.aload_n 0, 1) := by decide +kernel
theorem dX8_freeThen_10 : decode cX8_freeThen 10 = .ok (.invokevirtual 115, 3) := by decide +kernel
theorem dX8_freeThen_13 : decode cX8_freeThen 13 = .ok (.iload_n 1, 1) := by decide +kernel
theorem dX8_freeThen_14 : decode cX8_freeThen 14 = .ok (.aload_n 0, 1) := by decide +kernel
theorem dX8_freeThen_15 : decode cX8_freeThen 15 = .ok (.invokevirtual 204, 3) := by decide +kernel
theorem dX8_freeThen_18 : decode cX8_freeThen 18 = .ok (.iadd, 1) := by decide +kernel
theorem dX8_freeThen_19 : decode cX8_freeThen 19 = .ok (.istore_n 1, 1) := by decide +kernel
theorem dX8_freeThen_20 : decode cX8_freeThen 20 = .ok (.iload_n 1, 1) := by decide +kernel
theorem dX8_freeThen_21 : decode cX8_freeThen 21 = .ok (.ifCond .ge 8, 3) := by decide +kernel
theorem dX8_freeThen_24 : decode cX8_freeThen 24 = .ok (.bipush (-9), 2) := by decide +kernel
theorem dX8_freeThen_26 : decode cX8_freeThen 26 = .ok (.goto 13, 3) := by decide +kernel
theorem dX8_freeThen_29 : decode cX8_freeThen 29 = .ok (.aload_n 0, 1) := by decide +kernel
theorem dX8_freeThen_30 : decode cX8_freeThen 30 = .ok (.aload_n 0, 1) := by decide +kernel
theorem dX8_freeThen_31 : decode cX8_freeThen 31 = .ok (.getfield 7, 3) := by decide +kernel
theorem dX8_freeThen_34 : decode cX8_freeThen 34 = .ok (.iconst 3, 1) := by decide +kernel
theorem dX8_freeThen_35 : decode cX8_freeThen 35 = .ok (.iaload, 1) := by decide +kernel
theorem dX8_freeThen_36 : decode cX8_freeThen 36 = .ok (.invokevirtual 103, 3) := by decide +kernel
theorem dX8_freeThen_39 : decode cX8_freeThen 39 = .ok (.istore_n 2, 1) := by decide +kernel
theorem dX8_freeThen_40 : decode cX8_freeThen 40 = .ok (.aload_n 0, 1) := by decide +kernel
theorem dX8_freeThen_41 : decode cX8_freeThen 41 = .ok (.invokevirtual 177, 3) := by decide +kernel
theorem dX8_freeThen_44 : decode cX8_freeThen 44 = .ok (.iload_n 2, 1) := by decide +kernel
theorem dX8_freeThen_45 : decode cX8_freeThen 45 = .ok (.ireturn, 1) := by decide +kernel
theorem dJ9_floorMod_7cf53_0 : decode cJ9_floorMod_7cf53 0 = .ok (.iload_n 0, 1) := by decide +kernel
theorem dJ9_floorMod_7cf53_1 : decode cJ9_floorMod_7cf53 1 = .ok (.iload_n 1, 1) := by decide +kernel
theorem dJ9_floorMod_7cf53_2 : decode cJ9_floorMod_7cf53 2 = .ok (.irem, 1) := by decide +kernel
theorem dJ9_floorMod_7cf53_3 : decode cJ9_floorMod_7cf53 3 = .ok (.istore_n 2, 1) := by decide +kernel
theorem dJ9_floorMod_7cf53_4 : decode cJ9_floorMod_7cf53 4 = .ok (.iload_n 0, 1) := by decide +kernel
theorem dJ9_floorMod_7cf53_5 : decode cJ9_floorMod_7cf53 5 = .ok (.iload_n 1, 1) := by decide +kernel
theorem dJ9_floorMod_7cf53_6 : decode cJ9_floorMod_7cf53 6 = .ok (.ixor, 1) := by decide +kernel
theorem dJ9_floorMod_7cf53_7 : decode cJ9_floorMod_7cf53 7 = .ok (.ifCond .ge 11, 3) := by decide +kernel
theorem dJ9_floorMod_7cf53_10 : decode cJ9_floorMod_7cf53 10 = .ok (.iload_n 2, 1) := by decide +kernel
theorem dJ9_floorMod_7cf53_11 : decode cJ9_floorMod_7cf53 11 = .ok (.ifCond .eq 7, 3) := by decide +kernel
theorem dJ9_floorMod_7cf53_14 : decode cJ9_floorMod_7cf53 14 = .ok (.iload_n 2, 1) := by decide +kernel
theorem dJ9_floorMod_7cf53_15 : decode cJ9_floorMod_7cf53 15 = .ok (.iload_n 1, 1) := by decide +kernel
theorem dJ9_floorMod_7cf53_16 : decode cJ9_floorMod_7cf53 16 = .ok (.iadd, 1) := by decide +kernel
theorem dJ9_floorMod_7cf53_17 : decode cJ9_floorMod_7cf53 17 = .ok (.ireturn, 1) := by decide +kernel
theorem dJ9_floorMod_7cf53_18 : decode cJ9_floorMod_7cf53 18 = .ok (.iload_n 2, 1) := by decide +kernel
theorem dJ9_floorMod_7cf53_19 : decode cJ9_floorMod_7cf53 19 = .ok (.ireturn, 1) := by decide +kernel
theorem dJ7_fill_53178_0 : decode cJ7_fill_53178 0 = .ok (.iconst 0, 1) := by decide +kernel
theorem dJ7_fill_53178_1 : decode cJ7_fill_53178 1 = .ok (.istore_n 2, 1) := by decide +kernel
theorem dJ7_fill_53178_2 : decode cJ7_fill_53178 2 = .ok (.aload_n 0, 1) := by decide +kernel
theorem dJ7_fill_53178_3 : decode cJ7_fill_53178 3 = .ok (.arraylength, 1) := by decide +kernel
theorem dJ7_fill_53178_4 : decode cJ7_fill_53178 4 = .ok (.istore_n 3, 1) := by decide +kernel
theorem dJ7_fill_53178_5 : decode cJ7_fill_53178 5 = .ok (.iload_n 2, 1) := by decide +kernel
theorem dJ7_fill_53178_6 : decode cJ7_fill_53178 6 = .ok (.iload_n 3, 1) := by decide +kernel
theorem dJ7_fill_53178_7 : decode cJ7_fill_53178 7 = .ok (.if_icmp .ge 13, 3) := by decide +kernel
theorem dJ7_fill_53178_10 : decode cJ7_fill_53178 10 = .ok (.aload_n 0, 1) := by decide +kernel
theorem dJ7_fill_53178_11 : decode cJ7_fill_53178 11 = .ok (.iload_n 2, 1) := by decide +kernel
theorem dJ7_fill_53178_12 : decode cJ7_fill_53178 12 = .ok (.iload_n 1, 1) := by decide +kernel
theorem dJ7_fill_53178_13 : decode cJ7_fill_53178 13 = .ok (.iastore, 1) := by decide +kernel
theorem dJ7_fill_53178_14 : decode cJ7_fill_53178 14 = .ok (.iinc 2 1, 3) := by decide +kernel
theorem dJ7_fill_53178_17 : decode cJ7_fill_53178 17 = .ok (.goto (-12), 3) := by decide +kernel
theorem dJ7_fill_53178_20 : decode cJ7_fill_53178 20 = .ok (.return_, 1) := by decide +kernel
set_option maxRecDepth 20000 in
theorem ggL_law_X7_init : GoodIn wsL_law wsX7_init := goodIn_r _ [8, 9, 10, 11, 12, 13, 14, 15, 16, 17, 18, 19, 20, 21, 22, 23, 24, 25, 26, 27, 28, 29, 30, 31, 32, 33, 34, 35, 36, 37, 38, 39, 40, 41, 42, 43, 44, 45, 46, 47, 48, 49, 50, 51, 52, 53, 54, 55, 56, 57, 58, 59, 60, 61, 62, 63, 64, 65, 66, 67, 68, 69, 70, 71, 72, 73, 74, 75, 76, 77, 78, 79, 80, 81, 82, 83, 84, 85, 86, 87, 831, 832, 833, 834, 835, 836, 837, 838, 839, 840, 813, 814, 815, 816, 817, 818, 841, 842, 843, 844, 845, 846, 847, 848, 849, 850, 851, 852, 853, 854, 855, 856, 857, 858, 859, 860] (by decide +kernel) (by decide +kernel)
set_option maxRecDepth 20000 in
theorem gL_law_X7_init : GoodIn wsL_law (wsX7_init) := ggL_law_X7_init
set_option maxRecDepth 20000 in
theorem ggL_law_X8_init : GoodIn wsL_law wsX8_init := goodIn_r _ [90, 91, 10, 11, 37, 92, 93, 94, 95, 96, 76, 97, 98, 819, 820, 821, 822, 823, 824, 825, 826, 827, 828, 829, 830] (by decide +kernel) (by decide +kernel)
set_option maxRecDepth 20000 in
theorem gL_law_X8_init : GoodIn wsL_law (wsX8_init) := ggL_law_X8_init
set_option maxRecDepth 20000 in
theorem ggL_law_X7_setHeavy : GoodIn wsL_law wsX7_setHeavy := goodIn_r _ [102, 20, 15, 103, 104, 105, 19, 106, 71, 107, 108, 109, 110, 111, 112, 113, 114, 115, 116, 117, 118, 119, 14, 120, 38, 121, 122, 123, 124, 42, 46, 47, 125, 126, 127, 128, 129, 130, 131, 132, 133, 41, 134, 52, 135, 53, 54, 55, 56, 136, 137, 138, 45, 139, 64, 140, 141, 142, 143, 144, 145, 146, 147, 148, 149, 2, 150, 151, 152, 153, 154, 813, 814, 815, 816, 817, 818, 841, 842, 843, 831, 832, 833, 834, 835, 836, 837, 838, 839, 840, 853, 854, 855, 856, 857, 858, 859, 860] (by decide +kernel) (by decide +kernel)
set_option maxRecDepth 20000 in
theorem gL_law_X7_setHeavy : GoodIn wsL_law (wsV RL 13 RX7 yX7_setHeavy wsX7_setHeavy) := goodIn_app (goodIn_of _ (by decide +kernel)) ggL_law_X7_setHeavy
set_option maxRecDepth 20000 in
theorem ggL_law_X8_setHeavy : GoodIn wsL_law wsX8_setHeavy := goodIn_r _ [158, 92, 159, 160, 5, 161, 162, 163, 164, 165, 166, 167, 93, 819, 820, 821, 822, 823, 824, 825, 826, 827, 828, 829, 830] (by decide +kernel) (by decide +kernel)
set_option maxRecDepth 20000 in
theorem gL_law_X8_setHeavy : GoodIn wsL_law (wsV RL 17 RX8 yX8_setHeavy wsX8_setHeavy) := goodIn_app (goodIn_of _ (by decide +kernel)) ggL_law_X8_setHeavy
set_option maxRecDepth 20000 in
theorem ggL_law_X7_make : GoodIn wsL_law wsX7_make := goodIn_r _ [171, 20, 15, 103, 104, 105, 19, 106, 71, 107, 108, 109, 110, 111, 112, 113, 114, 115, 116, 117, 118, 119, 14, 120, 38, 121, 122, 123, 124, 42, 46, 47, 125, 126, 127, 128, 129, 130, 131, 132, 133, 41, 134, 52, 135, 53, 54, 55, 56, 136, 137, 138, 45, 139, 64, 140, 141, 142, 172, 173, 174, 175, 176, 2, 177, 178, 179, 180, 181, 182, 183, 184, 185, 186, 187, 188, 189, 190, 191, 192, 193, 194, 195, 196, 197, 198, 199, 200, 201, 202, 203, 204, 205, 206, 207, 208, 209, 210, 211, 212, 213, 214, 215, 216, 217, 218, 147, 148, 149, 150, 151, 152, 153, 154, 813, 814, 815, 816, 817, 818, 841, 842, 843, 831, 832, 833, 834, 835, 836, 837, 838, 839, 840, 853, 854, 855, 856, 857, 858, 859, 860] (by decide +kernel) (by decide +kernel)
set_option maxRecDepth 20000 in
theorem gL_law_X7_make : GoodIn wsL_law (wsV RL 18 RX7 yX7_make wsX7_make) := goodIn_app (goodIn_of _ (by decide +kernel)) ggL_law_X7_make
set_option maxRecDepth 20000 in
theorem ggL_law_X8_make : GoodIn wsL_law wsX8_make := goodIn_r _ [222, 92, 159, 160, 5, 161, 223, 224, 225, 226, 227, 228, 229, 230, 231, 232, 233, 234, 235, 236, 237, 238, 239, 240, 241, 242, 243, 244, 245, 246, 247, 248, 249, 250, 251, 252, 253, 254, 255, 256, 257, 162, 163, 164, 165, 166, 167, 93, 258, 259, 260, 261, 262, 263, 264, 265, 266, 267, 268, 819, 820, 821, 822, 823, 824, 825, 826, 827, 828, 829, 830] (by decide +kernel) (by decide +kernel)
set_option maxRecDepth 20000 in
theorem gL_law_X8_make : GoodIn wsL_law (wsV RL 22 RX8 yX8_make wsX8_make) := goodIn_app (goodIn_of _ (by decide +kernel)) ggL_law_X8_make
set_option maxRecDepth 20000 in
theorem ggL_law_X7_link : GoodIn wsL_law wsX7_link := goodIn_r _ [272, 20, 15, 103, 104, 105, 19, 106, 71, 107, 108, 109, 110, 111, 112, 113, 114, 115, 116, 117, 118, 119, 14, 120, 38, 121, 122, 123, 124, 42, 46, 47, 125, 126, 127, 128, 129, 130, 131, 132, 133, 41, 134, 52, 135, 53, 54, 55, 56, 136, 137, 138, 45, 139, 64, 140, 141, 142, 273, 274, 275, 276, 176, 2, 177, 277, 278, 279, 280, 281, 282, 283, 284, 285, 286, 202, 203, 204, 205, 206, 207, 208, 209, 186, 187, 188, 189, 210, 183, 184, 185, 287, 288, 289, 290, 194, 195, 196, 197, 291, 292, 293, 294, 295, 296, 297, 298, 215, 216, 217, 218, 299, 300, 301, 302, 147, 148, 149, 150, 151, 152, 153, 154, 813, 814, 815, 816, 817, 818, 841, 842, 843, 831, 832, 833, 834, 835, 836, 837, 838, 839, 840, 853, 854, 855, 856, 857, 858, 859, 860] (by decide +kernel) (by decide +kernel)
set_option maxRecDepth 20000 in
theorem gL_law_X7_link : GoodIn wsL_law (wsV RL 23 RX7 yX7_link wsX7_link) := goodIn_app (goodIn_of _ (by decide +kernel)) ggL_law_X7_link
set_option maxRecDepth 20000 in
theorem ggL_law_X8_link : GoodIn wsL_law wsX8_link := goodIn_r _ [306, 92, 307, 308, 309, 5, 310, 223, 224, 225, 159, 160, 161, 162, 163, 164, 165, 166, 167, 93, 311, 312, 313, 314, 254, 255, 256, 257, 315, 316, 317, 250, 251, 252, 253, 238, 239, 240, 241, 318, 319, 320, 321, 262, 263, 264, 265, 258, 259, 260, 261, 322, 323, 324, 325, 266, 267, 268, 326, 327, 328, 819, 820, 821, 822, 823, 824, 825, 826, 827, 828, 829, 830] (by decide +kernel) (by decide +kernel)
set_option maxRecDepth 20000 in
theorem gL_law_X8_link : GoodIn wsL_law (wsV RL 27 RX8 yX8_link wsX8_link) := goodIn_app (goodIn_of _ (by decide +kernel)) ggL_law_X8_link
set_option maxRecDepth 20000 in
theorem ggL_law_X7_follow : GoodIn wsL_law wsX7_follow := goodIn_r _ [332, 20, 15, 103, 104, 105, 19, 106, 71, 107, 108, 109, 110, 111, 112, 113, 114, 115, 116, 117, 118, 119, 14, 120, 38, 121, 122, 123, 124, 42, 46, 47, 125, 126, 127, 128, 129, 130, 131, 132, 133, 41, 134, 52, 135, 53, 54, 55, 56, 136, 137, 138, 45, 139, 64, 140, 141, 142, 333, 334, 335, 336, 176, 2, 177, 277, 278, 279, 280, 281, 282, 283, 284, 285, 286, 202, 203, 204, 205, 206, 207, 208, 209, 186, 187, 188, 189, 210, 183, 184, 185, 287, 288, 289, 290, 194, 195, 196, 197, 291, 292, 293, 294, 295, 296, 297, 298, 215, 216, 217, 218, 147, 148, 149, 150, 151, 152, 153, 154, 813, 814, 815, 816, 817, 818, 841, 842, 843, 831, 832, 833, 834, 835, 836, 837, 838, 839, 840, 853, 854, 855, 856, 857, 858, 859, 860] (by decide +kernel) (by decide +kernel)
set_option maxRecDepth 20000 in
theorem gL_law_X7_follow : GoodIn wsL_law (wsV RL 28 RX7 yX7_follow wsX7_follow) := goodIn_app (goodIn_of _ (by decide +kernel)) ggL_law_X7_follow
set_option maxRecDepth 20000 in
theorem ggL_law_X8_follow : GoodIn wsL_law wsX8_follow := goodIn_r _ [340, 92, 307, 308, 309, 5, 310, 223, 224, 225, 159, 160, 161, 162, 163, 164, 165, 166, 167, 93, 311, 312, 313, 314, 254, 255, 256, 257, 315, 316, 317, 250, 251, 252, 253, 238, 239, 240, 241, 318, 319, 320, 321, 262, 263, 264, 265, 258, 259, 260, 261, 322, 323, 324, 325, 266, 267, 268, 326, 327, 328, 819, 820, 821, 822, 823, 824, 825, 826, 827, 828, 829, 830] (by decide +kernel) (by decide +kernel)
set_option maxRecDepth 20000 in
theorem gL_law_X8_follow : GoodIn wsL_law (wsV RL 31 RX8 yX8_follow wsX8_follow) := goodIn_app (goodIn_of _ (by decide +kernel)) ggL_law_X8_follow
set_option maxRecDepth 20000 in
theorem ggL_law_X7_drop : GoodIn wsL_law wsX7_drop := goodIn_r _ [344, 20, 15, 103, 104, 105, 19, 106, 71, 107, 108, 109, 110, 111, 112, 113, 114, 115, 116, 117, 118, 119, 14, 120, 38, 121, 122, 123, 124, 42, 46, 47, 125, 126, 127, 128, 129, 130, 131, 132, 133, 41, 134, 52, 135, 53, 54, 55, 56, 136, 137, 138, 45, 139, 64, 140, 141, 142, 345, 346, 347, 348, 176, 2, 177, 147, 148, 149, 150, 151, 152, 153, 154, 813, 814, 815, 816, 817, 818, 841, 842, 843, 831, 832, 833, 834, 835, 836, 837, 838, 839, 840, 853, 854, 855, 856, 857, 858, 859, 860] (by decide +kernel) (by decide +kernel)
set_option maxRecDepth 20000 in
theorem gL_law_X7_drop : GoodIn wsL_law (wsV RL 32 RX7 yX7_drop wsX7_drop) := goodIn_app (goodIn_of _ (by decide +kernel)) ggL_law_X7_drop
set_option maxRecDepth 20000 in
theorem ggL_law_X8_drop : GoodIn wsL_law wsX8_drop := goodIn_r _ [352, 92, 223, 224, 5, 225, 159, 160, 161, 162, 163, 164, 165, 166, 167, 93, 326, 327, 328, 819, 820, 821, 822, 823, 824, 825, 826, 827, 828, 829, 830] (by decide +kernel) (by decide +kernel)
set_option maxRecDepth 20000 in
theorem gL_law_X8_drop : GoodIn wsL_law (wsV RL 35 RX8 yX8_drop wsX8_drop) := goodIn_app (goodIn_of _ (by decide +kernel)) ggL_law_X8_drop
set_option maxRecDepth 20000 in
theorem ggL_law_X7_begin : GoodIn wsL_law wsX7_begin := goodIn_r _ [356, 20, 15, 103, 104, 105, 19, 106, 71, 107, 108, 109, 110, 111, 112, 113, 114, 115, 116, 117, 118, 119, 14, 120, 38, 121, 122, 123, 124, 42, 46, 47, 125, 126, 127, 128, 129, 130, 131, 132, 133, 41, 134, 52, 135, 53, 54, 55, 56, 136, 137, 138, 45, 139, 64, 140, 141, 142, 357, 358, 359, 360, 361, 362, 363, 364, 279, 280, 281, 282, 283, 284, 285, 286, 202, 203, 204, 205, 206, 207, 208, 209, 186, 187, 188, 189, 210, 183, 184, 185, 287, 288, 289, 290, 194, 195, 196, 197, 291, 292, 293, 294, 295, 296, 297, 298, 215, 216, 217, 218, 365, 366, 367, 368, 369, 370, 371, 372, 373, 374, 375, 376, 377, 378, 379, 380, 381, 382, 383, 384, 147, 148, 149, 2, 150, 151, 152, 153, 154, 813, 814, 815, 816, 817, 818, 841, 842, 843, 831, 832, 833, 834, 835, 836, 837, 838, 839, 840, 853, 854, 855, 856, 857, 858, 859, 860] (by decide +kernel) (by decide +kernel)
set_option maxRecDepth 20000 in
theorem gL_law_X7_begin : GoodIn wsL_law (wsV RL 36 RX7 yX7_begin wsX7_begin) := goodIn_app (goodIn_of _ (by decide +kernel)) ggL_law_X7_begin
set_option maxRecDepth 20000 in
theorem ggL_law_X8_begin : GoodIn wsL_law wsX8_begin := goodIn_r _ [388, 92, 254, 255, 256, 5, 257, 162, 163, 164, 165, 166, 167, 93, 389, 390, 391, 392, 250, 251, 252, 253, 311, 312, 313, 314, 315, 316, 317, 238, 239, 240, 241, 318, 319, 320, 321, 262, 263, 264, 265, 258, 259, 260, 261, 322, 323, 324, 325, 266, 267, 268, 393, 394, 395, 396, 819, 820, 821, 822, 823, 824, 825, 826, 827, 828, 829, 830] (by decide +kernel) (by decide +kernel)
set_option maxRecDepth 20000 in
theorem gL_law_X8_begin : GoodIn wsL_law (wsV RL 40 RX8 yX8_begin wsX8_begin) := goodIn_app (goodIn_of _ (by decide +kernel)) ggL_law_X8_begin
set_option maxRecDepth 20000 in
theorem ggL_law_X7_carry : GoodIn wsL_law wsX7_carry := goodIn_r _ [400, 20, 15, 103, 104, 105, 19, 106, 71, 107, 108, 109, 110, 111, 112, 113, 114, 115, 116, 117, 118, 119, 14, 120, 38, 121, 122, 123, 124, 42, 46, 47, 125, 126, 127, 128, 129, 130, 131, 132, 133, 41, 134, 52, 135, 53, 54, 55, 56, 136, 137, 138, 45, 139, 64, 140, 141, 142, 401, 402, 403, 404, 405, 406, 407, 408, 409, 410, 411, 412, 279, 280, 281, 282, 283, 284, 285, 286, 202, 203, 204, 205, 206, 207, 208, 209, 186, 187, 188, 189, 210, 183, 184, 185, 287, 288, 289, 290, 194, 195, 196, 197, 291, 292, 293, 294, 295, 296, 297, 298, 215, 216, 217, 218, 365, 366, 367, 368, 369, 370, 371, 372, 373, 374, 375, 376, 377, 378, 379, 380, 381, 382, 383, 384, 147, 148, 149, 2, 150, 151, 152, 153, 154, 813, 814, 815, 816, 817, 818, 841, 842, 843, 831, 832, 833, 834, 835, 836, 837, 838, 839, 840, 853, 854, 855, 856, 857, 858, 859, 860] (by decide +kernel) (by decide +kernel)
set_option maxRecDepth 20000 in
theorem gL_law_X7_carry : GoodIn wsL_law (wsV RL 41 RX7 yX7_carry wsX7_carry) := goodIn_app (goodIn_of _ (by decide +kernel)) ggL_law_X7_carry
set_option maxRecDepth 20000 in
theorem ggL_law_X8_carry : GoodIn wsL_law wsX8_carry := goodIn_r _ [416, 159, 160, 5, 161, 254, 255, 256, 257, 92, 162, 163, 164, 165, 166, 167, 93, 417, 418, 419, 420, 311, 312, 313, 314, 315, 316, 317, 250, 251, 252, 253, 238, 239, 240, 241, 318, 319, 320, 321, 262, 263, 264, 265, 258, 259, 260, 261, 322, 323, 324, 325, 266, 267, 268, 393, 394, 395, 396, 819, 820, 821, 822, 823, 824, 825, 826, 827, 828, 829, 830] (by decide +kernel) (by decide +kernel)
set_option maxRecDepth 20000 in
theorem gL_law_X8_carry : GoodIn wsL_law (wsV RL 44 RX8 yX8_carry wsX8_carry) := goodIn_app (goodIn_of _ (by decide +kernel)) ggL_law_X8_carry
set_option maxRecDepth 20000 in
theorem ggL_law_X7_lose : GoodIn wsL_law wsX7_lose := goodIn_r _ [424, 20, 15, 103, 104, 105, 19, 106, 71, 107, 108, 109, 110, 111, 112, 113, 114, 115, 116, 117, 118, 119, 14, 120, 38, 121, 122, 123, 124, 42, 46, 47, 125, 126, 127, 128, 129, 130, 131, 132, 133, 41, 134, 52, 135, 53, 54, 55, 56, 136, 137, 138, 45, 139, 64, 140, 141, 142, 425, 426, 427, 428, 429, 430, 431, 432, 433, 434, 435, 436, 437, 438, 439, 440, 186, 187, 188, 189, 206, 207, 208, 209, 194, 195, 196, 197, 198, 199, 200, 201, 202, 203, 204, 205, 210, 183, 184, 185, 441, 442, 443, 444, 147, 148, 149, 2, 150, 151, 152, 153, 154, 813, 814, 815, 816, 817, 818, 841, 842, 843, 831, 832, 833, 834, 835, 836, 837, 838, 839, 840, 853, 854, 855, 856, 857, 858, 859, 860] (by decide +kernel) (by decide +kernel)
set_option maxRecDepth 20000 in
theorem gL_law_X7_lose : GoodIn wsL_law (wsV RL 45 RX7 yX7_lose wsX7_lose) := goodIn_app (goodIn_of _ (by decide +kernel)) ggL_law_X7_lose
set_option maxRecDepth 20000 in
theorem ggL_law_X8_lose : GoodIn wsL_law wsX8_lose := goodIn_r _ [448, 92, 449, 450, 451, 5, 452, 254, 255, 256, 257, 453, 454, 455, 456, 250, 251, 252, 253, 238, 239, 240, 241, 242, 243, 244, 245, 246, 247, 248, 249, 234, 235, 236, 237, 230, 231, 232, 233, 162, 163, 164, 165, 166, 167, 93, 266, 267, 268, 819, 820, 821, 822, 823, 824, 825, 826, 827, 828, 829, 830] (by decide +kernel) (by decide +kernel)
set_option maxRecDepth 20000 in
theorem gL_law_X8_lose : GoodIn wsL_law (wsV RL 48 RX8 yX8_lose wsX8_lose) := goodIn_app (goodIn_of _ (by decide +kernel)) ggL_law_X8_lose
set_option maxRecDepth 20000 in
theorem ggL_law_X7_mend : GoodIn wsL_law wsX7_mend := goodIn_r _ [460, 20, 15, 103, 104, 105, 19, 106, 71, 107, 108, 109, 110, 111, 112, 113, 114, 115, 116, 117, 118, 119, 14, 120, 38, 121, 122, 123, 124, 42, 46, 47, 125, 126, 127, 128, 129, 130, 131, 132, 133, 41, 134, 52, 135, 53, 54, 55, 56, 136, 137, 138, 45, 139, 64, 140, 141, 142, 461, 462, 463, 464, 429, 430, 431, 432, 465, 466, 467, 468, 437, 438, 439, 440, 186, 187, 188, 189, 283, 284, 285, 286, 202, 203, 204, 205, 469, 470, 471, 472, 473, 474, 378, 379, 380, 475, 476, 477, 478, 479, 480, 481, 482, 147, 148, 149, 2, 150, 151, 152, 153, 154, 813, 814, 815, 816, 817, 818, 841, 842, 843, 831, 832, 833, 834, 835, 836, 837, 838, 839, 840, 853, 854, 855, 856, 857, 858, 859, 860] (by decide +kernel) (by decide +kernel)
set_option maxRecDepth 20000 in
theorem gL_law_X7_mend : GoodIn wsL_law (wsV RL 49 RX7 yX7_mend wsX7_mend) := goodIn_app (goodIn_of _ (by decide +kernel)) ggL_law_X7_mend
set_option maxRecDepth 20000 in
theorem ggL_law_X8_mend : GoodIn wsL_law wsX8_mend := goodIn_r _ [486, 92, 449, 450, 451, 5, 452, 487, 488, 489, 490, 254, 255, 256, 257, 250, 251, 252, 253, 238, 239, 240, 241, 162, 163, 164, 165, 166, 167, 93, 491, 492, 493, 494, 266, 267, 268, 495, 496, 497, 498, 315, 316, 317, 234, 235, 236, 237, 819, 820, 821, 822, 823, 824, 825, 826, 827, 828, 829, 830] (by decide +kernel) (by decide +kernel)
set_option maxRecDepth 20000 in
theorem gL_law_X8_mend : GoodIn wsL_law (wsV RL 52 RX8 yX8_mend wsX8_mend) := goodIn_app (goodIn_of _ (by decide +kernel)) ggL_law_X8_mend
set_option maxRecDepth 20000 in
theorem ggL_law_X7_undo : GoodIn wsL_law wsX7_undo := goodIn_r _ [502, 20, 15, 503, 504, 505, 19, 506, 112, 507, 508, 509, 510, 511, 512, 513, 514, 71, 107, 108, 109, 110, 111, 113, 114, 115, 116, 117, 118, 119, 14, 120, 38, 121, 122, 123, 124, 42, 46, 47, 125, 126, 127, 128, 129, 130, 131, 132, 133, 41, 134, 52, 135, 53, 54, 55, 56, 136, 137, 138, 45, 139, 64, 140, 141, 142, 813, 814, 815, 816, 817, 818, 841, 842, 843, 831, 832, 833, 834, 835, 836, 837, 838, 839, 840, 853, 854, 855, 856, 857, 858, 859, 860] (by decide +kernel) (by decide +kernel)
set_option maxRecDepth 20000 in
theorem gL_law_X7_undo : GoodIn wsL_law (wsV RL 53 RX7 yX7_undo wsX7_undo) := goodIn_app (goodIn_of _ (by decide +kernel)) ggL_law_X7_undo
set_option maxRecDepth 20000 in
theorem ggL_law_X8_undo : GoodIn wsL_law wsX8_undo := goodIn_r _ [518, 167, 92, 93, 819, 820, 821, 822, 823, 824, 825, 826, 827, 828, 829, 830] (by decide +kernel) (by decide +kernel)
set_option maxRecDepth 20000 in
theorem gL_law_X8_undo : GoodIn wsL_law (wsV RL 56 RX8 yX8_undo wsX8_undo) := goodIn_app (goodIn_of _ (by decide +kernel)) ggL_law_X8_undo
set_option maxRecDepth 20000 in
theorem ggL_law_X7_append : GoodIn wsL_law wsX7_append := goodIn_r _ [522, 28, 523, 524, 525, 27, 526, 527, 83, 813, 814, 815, 816, 817, 818, 848, 849] (by decide +kernel) (by decide +kernel)
set_option maxRecDepth 20000 in
theorem gL_law_X7_append : GoodIn wsL_law (wsV RL 57 RX7 yX7_append wsX7_append) := goodIn_app (goodIn_of _ (by decide +kernel)) ggL_law_X7_append
set_option maxRecDepth 20000 in
theorem ggL_law_X8_append : GoodIn wsL_law wsX8_append := goodIn_r _ [531, 532, 95, 159, 160, 5, 161, 819, 820, 821, 822, 823, 824, 825, 826, 827, 828, 829, 830] (by decide +kernel) (by decide +kernel)
set_option maxRecDepth 20000 in
theorem gL_law_X8_append : GoodIn wsL_law (wsV RL 60 RX8 yX8_append wsX8_append) := goodIn_app (goodIn_of _ (by decide +kernel)) ggL_law_X8_append
set_option maxRecDepth 20000 in
theorem ggL_law_X7_clearText : GoodIn wsL_law wsX7_clearText := goodIn_r _ [536, 28, 537, 538, 539, 27, 540, 527, 541, 542, 543, 544, 813, 814, 815, 816, 817, 818, 848, 849] (by decide +kernel) (by decide +kernel)
set_option maxRecDepth 20000 in
theorem gL_law_X7_clearText : GoodIn wsL_law (wsV RL 61 RX7 yX7_clearText wsX7_clearText) := goodIn_app (goodIn_of _ (by decide +kernel)) ggL_law_X7_clearText
set_option maxRecDepth 20000 in
theorem ggL_law_X8_clearText : GoodIn wsL_law wsX8_clearText := goodIn_r _ [548, 532, 819, 820, 821, 822, 823, 824, 825, 826, 827, 828, 829, 830] (by decide +kernel) (by decide +kernel)
set_option maxRecDepth 20000 in
theorem gL_law_X8_clearText : GoodIn wsL_law (wsV RL 64 RX8 yX8_clearText wsX8_clearText) := goodIn_app (goodIn_of _ (by decide +kernel)) ggL_law_X8_clearText
set_option maxRecDepth 20000 in
theorem ggL_law_X7_run : GoodIn wsL_law wsX7_run := goodIn_r _ [552, 20, 15, 28, 32, 103, 104, 105, 19, 106, 71, 107, 108, 109, 110, 111, 112, 113, 114, 115, 116, 117, 118, 119, 14, 120, 38, 121, 122, 123, 124, 42, 46, 47, 125, 126, 127, 128, 129, 130, 131, 132, 133, 41, 134, 52, 135, 53, 54, 55, 56, 136, 137, 138, 45, 139, 64, 140, 141, 142, 537, 538, 539, 27, 540, 527, 553, 554, 555, 31, 556, 557, 558, 87, 559, 560, 561, 562, 83, 563, 564, 565, 566, 567, 568, 569, 570, 571, 572, 573, 574, 575, 576, 577, 578, 579, 580, 581, 582, 583, 584, 585, 586, 2, 587, 588, 512, 513, 514, 589, 590, 591, 592, 593, 173, 174, 175, 176, 177, 178, 179, 180, 181, 182, 183, 184, 185, 186, 187, 188, 189, 190, 191, 192, 193, 194, 195, 196, 197, 198, 199, 200, 201, 202, 203, 204, 205, 206, 207, 208, 209, 210, 211, 212, 213, 214, 215, 216, 217, 218, 594, 274, 275, 276, 277, 278, 279, 280, 281, 282, 283, 284, 285, 286, 287, 288, 289, 290, 291, 292, 293, 294, 295, 296, 297, 298, 299, 300, 301, 302, 595, 334, 335, 336, 596, 346, 347, 348, 597, 358, 359, 360, 361, 362, 363, 364, 365, 366, 367, 368, 369, 370, 371, 372, 373, 374, 375, 376, 377, 378, 379, 380, 381, 382, 383, 384, 598, 402, 403, 404, 405, 406, 407, 408, 409, 410, 411, 412, 541, 542, 543, 544, 147, 148, 149, 150, 151, 152, 153, 154, 813, 814, 815, 816, 817, 818, 841, 842, 843, 831, 832, 833, 834, 835, 836, 837, 838, 839, 840, 853, 854, 855, 856, 857, 858, 859, 860, 848, 849, 850, 851, 852] (by decide +kernel) (by decide +kernel)
set_option maxRecDepth 20000 in
theorem gL_law_X7_run : GoodIn wsL_law (wsV RL 65 RX7 yX7_run wsX7_run) := goodIn_app (goodIn_of _ (by decide +kernel)) ggL_law_X7_run
set_option maxRecDepth 20000 in
theorem ggL_law_X8_run : GoodIn wsL_law wsX8_run := goodIn_r _ [602, 166, 603, 532, 604, 605, 606, 5, 607, 94, 92, 608, 609, 610, 611, 95, 612, 613, 614, 615, 616, 617, 618, 159, 160, 161, 619, 620, 621, 622, 96, 623, 624, 625, 626, 627, 220, 221, 222, 223, 224, 225, 226, 227, 228, 229, 230, 231, 232, 233, 234, 235, 236, 237, 238, 239, 240, 241, 242, 243, 244, 245, 246, 247, 248, 249, 250, 251, 252, 253, 254, 255, 256, 257, 162, 163, 164, 165, 167, 93, 258, 259, 260, 261, 262, 263, 264, 265, 266, 267, 268, 628, 304, 305, 306, 307, 308, 309, 310, 311, 312, 313, 314, 315, 316, 317, 318, 319, 320, 321, 322, 323, 324, 325, 326, 327, 328, 629, 338, 339, 340, 630, 350, 351, 352, 631, 414, 415, 416, 417, 418, 419, 420, 393, 394, 395, 396, 632, 386, 387, 388, 389, 390, 391, 392, 633, 634, 635, 636, 819, 820, 821, 822, 823, 824, 825, 826, 827, 828, 829, 830] (by decide +kernel) (by decide +kernel)
set_option maxRecDepth 20000 in
theorem gL_law_X8_run : GoodIn wsL_law (wsV RL 68 RX8 yX8_run wsX8_run) := goodIn_app (goodIn_of _ (by decide +kernel)) ggL_law_X8_run
set_option maxRecDepth 20000 in
theorem ggL_law_X7_count : GoodIn wsL_law wsX7_count := goodIn_r _ [640, 20, 28, 15, 503, 504, 505, 19, 506, 112, 537, 538, 539, 27, 540, 527, 641, 642, 643, 14, 644, 125, 42, 126, 127, 46, 129, 130, 47, 645, 646, 647, 41, 648, 186, 187, 188, 189, 53, 194, 195, 196, 197, 128, 649, 650, 651, 652, 182, 183, 184, 185, 365, 366, 367, 45, 368, 142, 141, 198, 199, 200, 201, 202, 203, 204, 205, 206, 207, 208, 209, 54, 210, 653, 654, 655, 656, 465, 466, 467, 468, 437, 438, 439, 440, 52, 283, 284, 285, 286, 813, 814, 815, 816, 817, 818, 841, 842, 843, 848, 849, 831, 832, 833, 834, 835, 836, 837, 838, 839, 840, 853, 854, 855, 856, 857, 858, 859, 860] (by decide +kernel) (by decide +kernel)
set_option maxRecDepth 20000 in
theorem gL_law_X7_count : GoodIn wsL_law (wsV RL 69 RX7 yX7_count wsX7_count) := goodIn_app (goodIn_of _ (by decide +kernel)) ggL_law_X7_count
set_option maxRecDepth 20000 in
theorem ggL_law_X8_count : GoodIn wsL_law wsX8_count := goodIn_r _ [660, 92, 167, 532, 661, 662, 663, 5, 664, 234, 235, 236, 237, 238, 239, 240, 241, 242, 243, 244, 245, 665, 666, 667, 668, 230, 231, 232, 233, 246, 247, 248, 249, 250, 251, 252, 253, 254, 255, 256, 257, 669, 670, 671, 672, 487, 488, 489, 490, 819, 820, 821, 822, 823, 824, 825, 826, 827, 828, 829, 830] (by decide +kernel) (by decide +kernel)
set_option maxRecDepth 20000 in
theorem gL_law_X8_count : GoodIn wsL_law (wsV RL 72 RX8 yX8_count wsX8_count) := goodIn_app (goodIn_of _ (by decide +kernel)) ggL_law_X8_count
set_option maxRecDepth 20000 in
theorem ggL_law_X7_hook : GoodIn wsL_law wsX7_hook := goodIn_r _ [676, 15, 677, 176, 2, 177, 678, 679, 680, 14, 681, 38, 682, 683, 684, 813, 814, 815, 816, 817, 818, 831, 832, 833, 834, 835, 836, 837, 838, 839, 840] (by decide +kernel) (by decide +kernel)
set_option maxRecDepth 20000 in
theorem gL_law_X7_hook : GoodIn wsL_law (wsV RL 73 RX7 yX7_hook wsX7_hook) := goodIn_app (goodIn_of _ (by decide +kernel)) ggL_law_X7_hook
set_option maxRecDepth 20000 in
theorem ggL_law_X8_hook : GoodIn wsL_law wsX8_hook := goodIn_r _ [688, 92, 223, 224, 5, 225, 159, 160, 161, 819, 820, 821, 822, 823, 824, 825, 826, 827, 828, 829, 830] (by decide +kernel) (by decide +kernel)
set_option maxRecDepth 20000 in
theorem gL_law_X8_hook : GoodIn wsL_law (wsV RL 76 RX8 yX8_hook wsX8_hook) := goodIn_app (goodIn_of _ (by decide +kernel)) ggL_law_X8_hook
set_option maxRecDepth 20000 in
theorem ggL_law_X7_copy : GoodIn wsL_law wsX7_copy := goodIn_r _ [692, 15, 693, 187, 188, 41, 189, 53, 694, 695, 696, 697, 52, 186, 698, 183, 184, 185, 699, 207, 208, 209, 54, 682, 683, 2, 684, 700, 701, 702, 703, 55, 704, 705, 706, 707, 56, 277, 278, 813, 814, 815, 816, 817, 818, 831, 832, 833, 834, 835, 836, 837, 838, 839, 840, 853, 854, 855, 856, 857] (by decide +kernel) (by decide +kernel)
set_option maxRecDepth 20000 in
theorem gL_law_X7_copy : GoodIn wsL_law (wsV RL 77 RX7 yX7_copy wsX7_copy) := goodIn_app (goodIn_of _ (by decide +kernel)) ggL_law_X7_copy
set_option maxRecDepth 20000 in
theorem ggL_law_X8_copy : GoodIn wsL_law wsX8_copy := goodIn_r _ [711, 712, 713, 5, 714, 315, 316, 317, 234, 235, 236, 237, 238, 239, 240, 241, 92, 159, 160, 161, 230, 231, 232, 233, 819, 820, 821, 822, 823, 824, 825, 826, 827, 828, 829, 830] (by decide +kernel) (by decide +kernel)
set_option maxRecDepth 20000 in
theorem gL_law_X8_copy : GoodIn wsL_law (wsV RL 80 RX8 yX8_copy wsX8_copy) := goodIn_app (goodIn_of _ (by decide +kernel)) ggL_law_X8_copy
set_option maxRecDepth 20000 in
theorem ggL_law_X7_where : GoodIn wsL_law wsX7_where := goodIn_r _ [718, 15, 719, 430, 431, 14, 432, 125, 720, 470, 471, 41, 472, 473, 438, 439, 440, 52, 186, 187, 188, 189, 53, 682, 683, 2, 684, 813, 814, 815, 816, 817, 818, 831, 832, 833, 834, 835, 836, 837, 838, 839, 840, 853, 854, 855, 856, 857] (by decide +kernel) (by decide +kernel)
set_option maxRecDepth 20000 in
theorem gL_law_X7_where : GoodIn wsL_law (wsV RL 81 RX7 yX7_where wsX7_where) := goodIn_app (goodIn_of _ (by decide +kernel)) ggL_law_X7_where
set_option maxRecDepth 20000 in
theorem ggL_law_X8_where : GoodIn wsL_law wsX8_where := goodIn_r _ [724, 449, 450, 451, 5, 452, 92, 238, 239, 240, 241, 266, 267, 268, 819, 820, 821, 822, 823, 824, 825, 826, 827, 828, 829, 830] (by decide +kernel) (by decide +kernel)
set_option maxRecDepth 20000 in
theorem gL_law_X8_where : GoodIn wsL_law (wsV RL 84 RX8 yX8_where wsX8_where) := goodIn_app (goodIn_of _ (by decide +kernel)) ggL_law_X8_where
set_option maxRecDepth 20000 in
theorem ggL_law_X7_named : GoodIn wsL_law wsX7_named := goodIn_r _ [728, 24, 15, 677, 176, 2, 177, 729, 730, 731, 23, 732, 77, 733, 678, 679, 680, 14, 681, 38, 734, 735, 736, 737, 78, 738, 739, 740, 41, 741, 742, 207, 208, 209, 54, 186, 187, 188, 189, 53, 743, 744, 745, 746, 747, 748, 749, 750, 751, 752, 705, 706, 707, 56, 277, 278, 753, 754, 755, 756, 757, 79, 758, 695, 696, 697, 52, 813, 814, 815, 816, 817, 818, 831, 832, 833, 834, 835, 836, 837, 838, 839, 840, 844, 845, 846, 847, 853, 854, 855, 856, 857] (by decide +kernel) (by decide +kernel)
set_option maxRecDepth 20000 in
theorem gL_law_X7_named : GoodIn wsL_law (wsV RL 85 RX7 yX7_named wsX7_named) := goodIn_app (goodIn_of _ (by decide +kernel)) ggL_law_X7_named
set_option maxRecDepth 20000 in
theorem ggL_law_X8_named : GoodIn wsL_law wsX8_named := goodIn_r _ [762, 92, 763, 98, 223, 224, 5, 225, 159, 160, 161, 764, 765, 766, 767, 97, 768, 769, 770, 771, 315, 316, 317, 238, 239, 240, 241, 772, 773, 774, 775, 819, 820, 821, 822, 823, 824, 825, 826, 827, 828, 829, 830] (by decide +kernel) (by decide +kernel)
set_option maxRecDepth 20000 in
theorem gL_law_X8_named : GoodIn wsL_law (wsV RL 88 RX8 yX8_named wsX8_named) := goodIn_app (goodIn_of _ (by decide +kernel)) ggL_law_X8_named
set_option maxRecDepth 20000 in
theorem ggL_law_X7_garbage : GoodIn wsL_law wsX7_garbage := goodIn_r _ [779, 24, 15, 729, 730, 731, 23, 732, 77, 733, 678, 679, 680, 14, 681, 38, 176, 2, 177, 734, 735, 736, 737, 78, 738, 739, 740, 41, 741, 742, 207, 208, 209, 54, 186, 187, 188, 189, 53, 743, 744, 745, 746, 747, 748, 749, 750, 751, 752, 705, 706, 707, 56, 277, 278, 753, 780, 781, 782, 783, 784, 785, 183, 184, 185, 813, 814, 815, 816, 817, 818, 831, 832, 833, 834, 835, 836, 837, 838, 839, 840, 844, 845, 846, 847, 853, 854, 855, 856, 857] (by decide +kernel) (by decide +kernel)
set_option maxRecDepth 20000 in
theorem gL_law_X7_garbage : GoodIn wsL_law (wsV RL 89 RX7 yX7_garbage wsX7_garbage) := goodIn_app (goodIn_of _ (by decide +kernel)) ggL_law_X7_garbage
set_option maxRecDepth 20000 in
theorem ggL_law_X8_garbage : GoodIn wsL_law wsX8_garbage := goodIn_r _ [789, 92, 97, 764, 765, 766, 5, 767, 763, 768, 769, 770, 771, 98, 315, 316, 317, 238, 239, 240, 241, 772, 773, 774, 775, 234, 235, 236, 237, 230, 231, 232, 233, 819, 820, 821, 822, 823, 824, 825, 826, 827, 828, 829, 830] (by decide +kernel) (by decide +kernel)
set_option maxRecDepth 20000 in
theorem gL_law_X8_garbage : GoodIn wsL_law (wsV RL 92 RX8 yX8_garbage wsX8_garbage) := goodIn_app (goodIn_of _ (by decide +kernel)) ggL_law_X8_garbage
set_option maxRecDepth 20000 in
theorem ggL_law_X7_stepsLeft : GoodIn wsL_law wsX7_stepsLeft := goodIn_r _ [793, 15, 16, 794, 118, 119, 14, 120, 38, 121, 122, 123, 124, 42, 46, 47, 125, 126, 127, 128, 129, 130, 131, 132, 133, 41, 134, 52, 135, 53, 54, 55, 56, 136, 137, 138, 45, 139, 64, 140, 141, 142, 795, 406, 407, 408, 409, 410, 411, 412, 279, 280, 281, 282, 283, 284, 285, 286, 202, 203, 204, 205, 206, 207, 208, 209, 186, 187, 188, 189, 210, 183, 184, 185, 287, 288, 289, 290, 194, 195, 196, 197, 291, 292, 293, 294, 295, 296, 297, 298, 215, 216, 217, 218, 365, 366, 367, 368, 369, 370, 371, 372, 373, 374, 375, 376, 377, 378, 379, 380, 381, 382, 383, 384, 813, 814, 815, 816, 817, 818, 831, 832, 833, 834, 835, 836, 837, 838, 839, 840, 853, 854, 855, 856, 857, 858, 859, 860] (by decide +kernel) (by decide +kernel)
set_option maxRecDepth 20000 in
theorem gL_law_X7_stepsLeft : GoodIn wsL_law (wsV RL 93 RX7 yX7_stepsLeft wsX7_stepsLeft) := goodIn_app (goodIn_of _ (by decide +kernel)) ggL_law_X7_stepsLeft
set_option maxRecDepth 20000 in
theorem ggL_law_X8_stepsLeft : GoodIn wsL_law wsX8_stepsLeft := goodIn_r _ [799, 254, 255, 256, 5, 257, 92, 604, 605, 606, 607, 94, 800, 801, 802, 803, 417, 418, 419, 420, 311, 312, 313, 314, 315, 316, 317, 250, 251, 252, 253, 238, 239, 240, 241, 318, 319, 320, 321, 262, 263, 264, 265, 258, 259, 260, 261, 322, 323, 324, 325, 266, 267, 268, 393, 394, 395, 396, 633, 634, 635, 636, 819, 820, 821, 822, 823, 824, 825, 826, 827, 828, 829, 830] (by decide +kernel) (by decide +kernel)
set_option maxRecDepth 20000 in
theorem gL_law_X8_stepsLeft : GoodIn wsL_law (wsV RL 96 RX8 yX8_stepsLeft wsX8_stepsLeft) := goodIn_app (goodIn_of _ (by decide +kernel)) ggL_law_X8_stepsLeft
set_option maxRecDepth 20000 in
theorem ggL_law_X7_freeThen : GoodIn wsL_law wsX7_freeThen := goodIn_r _ [807, 16, 15, 794, 118, 119, 14, 120, 38, 121, 122, 123, 124, 42, 46, 47, 125, 126, 127, 128, 129, 130, 131, 132, 133, 41, 134, 52, 135, 53, 54, 55, 56, 136, 137, 138, 45, 139, 64, 140, 141, 142, 795, 406, 407, 408, 409, 410, 411, 412, 279, 280, 281, 282, 283, 284, 285, 286, 202, 203, 204, 205, 206, 207, 208, 209, 186, 187, 188, 189, 210, 183, 184, 185, 287, 288, 289, 290, 194, 195, 196, 197, 291, 292, 293, 294, 295, 296, 297, 298, 215, 216, 217, 218, 365, 366, 367, 368, 369, 370, 371, 372, 373, 374, 375, 376, 377, 378, 379, 380, 381, 382, 383, 384, 357, 358, 359, 360, 361, 362, 363, 364, 808, 813, 814, 815, 816, 817, 818, 831, 832, 833, 834, 835, 836, 837, 838, 839, 840, 853, 854, 855, 856, 857, 858, 859, 860] (by decide +kernel) (by decide +kernel)
set_option maxRecDepth 20000 in
theorem gL_law_X7_freeThen : GoodIn wsL_law (wsV RL 97 RX7 yX7_freeThen wsX7_freeThen) := goodIn_app (goodIn_of _ (by decide +kernel)) ggL_law_X7_freeThen
set_option maxRecDepth 20000 in
theorem ggL_law_X8_freeThen : GoodIn wsL_law wsX8_freeThen := goodIn_r _ [812, 92, 604, 605, 606, 5, 607, 94, 800, 801, 802, 803, 254, 255, 256, 257, 417, 418, 419, 420, 311, 312, 313, 314, 315, 316, 317, 250, 251, 252, 253, 238, 239, 240, 241, 318, 319, 320, 321, 262, 263, 264, 265, 258, 259, 260, 261, 322, 323, 324, 325, 266, 267, 268, 393, 394, 395, 396, 389, 390, 391, 392, 242, 243, 244, 245, 633, 634, 635, 636, 819, 820, 821, 822, 823, 824, 825, 826, 827, 828, 829, 830] (by decide +kernel) (by decide +kernel)
set_option maxRecDepth 20000 in
theorem gL_law_X8_freeThen : GoodIn wsL_law (wsV RL 100 RX8 yX8_freeThen wsX8_freeThen) := goodIn_app (goodIn_of _ (by decide +kernel)) ggL_law_X8_freeThen
theorem dL_law_0 : decode cL_law 0 = .ok (.new 7, 3) := by decide +kernel
theorem dL_law_3 : decode cL_law 3 = .ok (.dup, 1) := by decide +kernel
theorem dL_law_4 : decode cL_law 4 = .ok (.invokespecial 9, 3) := by decide +kernel
theorem dL_law_7 : decode cL_law 7 = .ok (.astore_n 1, 1) := by decide +kernel
theorem dL_law_8 : decode cL_law 8 = .ok (.new 10, 3) := by decide +kernel
theorem dL_law_11 : decode cL_law 11 = .ok (.dup, 1) := by decide +kernel
theorem dL_law_12 : decode cL_law 12 = .ok (.invokespecial 12, 3) := by decide +kernel
theorem dL_law_15 : decode cL_law 15 = .ok (.astore_n 2, 1) := by decide +kernel
theorem dL_law_16 : decode cL_law 16 = .ok (.iconst 0, 1) := by decide +kernel
theorem dL_law_17 : decode cL_law 17 = .ok (.istore_n 3, 1) := by decide +kernel
theorem dL_law_18 : decode cL_law 18 = .ok (.iload_n 3, 1) := by decide +kernel
theorem dL_law_19 : decode cL_law 19 = .ok (.aload_n 0, 1) := by decide +kernel
theorem dL_law_20 : decode cL_law 20 = .ok (.arraylength, 1) := by decide +kernel
theorem dL_law_21 : decode cL_law 21 = .ok (.iconst 4, 1) := by decide +kernel
theorem dL_law_22 : decode cL_law 22 = .ok (.isub, 1) := by decide +kernel
theorem dL_law_23 : decode cL_law 23 = .ok (.if_icmp .gt 598, 3) := by decide +kernel
theorem dL_law_26 : decode cL_law 26 = .ok (.aload_n 0, 1) := by decide +kernel
theorem dL_law_27 : decode cL_law 27 = .ok (.iload_n 3, 1) := by decide +kernel
theorem dL_law_28 : decode cL_law 28 = .ok (.iaload, 1) := by decide +kernel
theorem dL_law_29 : decode cL_law 29 = .ok (.bipush 31, 2) := by decide +kernel
theorem dL_law_31 : decode cL_law 31 = .ok (.iand, 1) := by decide +kernel
theorem dL_law_32 : decode cL_law 32 = .ok (.tableswitch 583 0 20 #[100, 123, 156, 199, 242, 265, 278, 301, 324, 347, 360, 383, 396, 409, 432, 455, 488, 521, 544, 557, 570], 100) := by decide +kernel
theorem dL_law_132 : decode cL_law 132 = .ok (.aload_n 1, 1) := by decide +kernel
theorem dL_law_133 : decode cL_law 133 = .ok (.aload_n 0, 1) := by decide +kernel
theorem dL_law_134 : decode cL_law 134 = .ok (.iload_n 3, 1) := by decide +kernel
theorem dL_law_135 : decode cL_law 135 = .ok (.iconst 1, 1) := by decide +kernel
theorem dL_law_136 : decode cL_law 136 = .ok (.iadd, 1) := by decide +kernel
theorem dL_law_137 : decode cL_law 137 = .ok (.iaload, 1) := by decide +kernel
theorem dL_law_138 : decode cL_law 138 = .ok (.invokevirtual 13, 3) := by decide +kernel
theorem dL_law_141 : decode cL_law 141 = .ok (.aload_n 2, 1) := by decide +kernel
theorem dL_law_142 : decode cL_law 142 = .ok (.aload_n 0, 1) := by decide +kernel
theorem dL_law_143 : decode cL_law 143 = .ok (.iload_n 3, 1) := by decide +kernel
theorem dL_law_144 : decode cL_law 144 = .ok (.iconst 1, 1) := by decide +kernel
theorem dL_law_145 : decode cL_law 145 = .ok (.iadd, 1) := by decide +kernel
theorem dL_law_146 : decode cL_law 146 = .ok (.iaload, 1) := by decide +kernel
theorem dL_law_147 : decode cL_law 147 = .ok (.invokevirtual 17, 3) := by decide +kernel
theorem dL_law_150 : decode cL_law 150 = .ok (.if_icmp .eq 465, 3) := by decide +kernel
theorem dL_law_153 : decode cL_law 153 = .ok (.iconst 0, 1) := by decide +kernel
theorem dL_law_154 : decode cL_law 154 = .ok (.ireturn, 1) := by decide +kernel
theorem dL_law_155 : decode cL_law 155 = .ok (.aload_n 1, 1) := by decide +kernel
theorem dL_law_156 : decode cL_law 156 = .ok (.aload_n 0, 1) := by decide +kernel
theorem dL_law_157 : decode cL_law 157 = .ok (.iload_n 3, 1) := by decide +kernel
theorem dL_law_158 : decode cL_law 158 = .ok (.iconst 1, 1) := by decide +kernel
theorem dL_law_159 : decode cL_law 159 = .ok (.iadd, 1) := by decide +kernel
theorem dL_law_160 : decode cL_law 160 = .ok (.iaload, 1) := by decide +kernel
theorem dL_law_161 : decode cL_law 161 = .ok (.aload_n 0, 1) := by decide +kernel
theorem dL_law_162 : decode cL_law 162 = .ok (.iload_n 3, 1) := by decide +kernel
theorem dL_law_163 : decode cL_law 163 = .ok (.iconst 2, 1) := by decide +kernel
theorem dL_law_164 : decode cL_law 164 = .ok (.iadd, 1) := by decide +kernel
theorem dL_law_165 : decode cL_law 165 = .ok (.iaload, 1) := by decide +kernel
theorem dL_law_166 : decode cL_law 166 = .ok (.invokevirtual 18, 3) := by decide +kernel
theorem dL_law_169 : decode cL_law 169 = .ok (.aload_n 2, 1) := by decide +kernel
theorem dL_law_170 : decode cL_law 170 = .ok (.aload_n 0, 1) := by decide +kernel
theorem dL_law_171 : decode cL_law 171 = .ok (.iload_n 3, 1) := by decide +kernel
theorem dL_law_172 : decode cL_law 172 = .ok (.iconst 1, 1) := by decide +kernel
end
section
theorem dL_law_173 : decode cL_law 173 = .ok (.iadd, 1) := by decide +kernel
theorem dL_law_174 : decode cL_law 174 = .ok (.iaload, 1) := by decide +kernel
theorem dL_law_175 : decode cL_law 175 = .ok (.aload_n 0, 1) := by decide +kernel
theorem dL_law_176 : decode cL_law 176 = .ok (.iload_n 3, 1) := by decide +kernel
theorem dL_law_177 : decode cL_law 177 = .ok (.iconst 2, 1) := by decide +kernel
theorem dL_law_178 : decode cL_law 178 = .ok (.iadd, 1) := by decide +kernel
theorem dL_law_179 : decode cL_law 179 = .ok (.iaload, 1) := by decide +kernel
theorem dL_law_180 : decode cL_law 180 = .ok (.invokevirtual 22, 3) := by decide +kernel
theorem dL_law_183 : decode cL_law 183 = .ok (.if_icmp .eq 432, 3) := by decide +kernel
theorem dL_law_186 : decode cL_law 186 = .ok (.iconst 0, 1) := by decide +kernel
theorem dL_law_187 : decode cL_law 187 = .ok (.ireturn, 1) := by decide +kernel
theorem dL_law_188 : decode cL_law 188 = .ok (.aload_n 1, 1) := by decide +kernel
theorem dL_law_189 : decode cL_law 189 = .ok (.aload_n 0, 1) := by decide +kernel
theorem dL_law_190 : decode cL_law 190 = .ok (.iload_n 3, 1) := by decide +kernel
theorem dL_law_191 : decode cL_law 191 = .ok (.iconst 1, 1) := by decide +kernel
theorem dL_law_192 : decode cL_law 192 = .ok (.iadd, 1) := by decide +kernel
theorem dL_law_193 : decode cL_law 193 = .ok (.iaload, 1) := by decide +kernel
theorem dL_law_194 : decode cL_law 194 = .ok (.aload_n 0, 1) := by decide +kernel
theorem dL_law_195 : decode cL_law 195 = .ok (.iload_n 3, 1) := by decide +kernel
theorem dL_law_196 : decode cL_law 196 = .ok (.iconst 2, 1) := by decide +kernel
theorem dL_law_197 : decode cL_law 197 = .ok (.iadd, 1) := by decide +kernel
theorem dL_law_198 : decode cL_law 198 = .ok (.iaload, 1) := by decide +kernel
theorem dL_law_199 : decode cL_law 199 = .ok (.aload_n 0, 1) := by decide +kernel
theorem dL_law_200 : decode cL_law 200 = .ok (.iload_n 3, 1) := by decide +kernel
theorem dL_law_201 : decode cL_law 201 = .ok (.iconst 3, 1) := by decide +kernel
theorem dL_law_202 : decode cL_law 202 = .ok (.iadd, 1) := by decide +kernel
theorem dL_law_203 : decode cL_law 203 = .ok (.iaload, 1) := by decide +kernel
theorem dL_law_204 : decode cL_law 204 = .ok (.invokevirtual 23, 3) := by decide +kernel
theorem dL_law_207 : decode cL_law 207 = .ok (.aload_n 2, 1) := by decide +kernel
theorem dL_law_208 : decode cL_law 208 = .ok (.aload_n 0, 1) := by decide +kernel
theorem dL_law_209 : decode cL_law 209 = .ok (.iload_n 3, 1) := by decide +kernel
theorem dL_law_210 : decode cL_law 210 = .ok (.iconst 1, 1) := by decide +kernel
theorem dL_law_211 : decode cL_law 211 = .ok (.iadd, 1) := by decide +kernel
theorem dL_law_212 : decode cL_law 212 = .ok (.iaload, 1) := by decide +kernel
theorem dL_law_213 : decode cL_law 213 = .ok (.aload_n 0, 1) := by decide +kernel
theorem dL_law_214 : decode cL_law 214 = .ok (.iload_n 3, 1) := by decide +kernel
theorem dL_law_215 : decode cL_law 215 = .ok (.iconst 2, 1) := by decide +kernel
theorem dL_law_216 : decode cL_law 216 = .ok (.iadd, 1) := by decide +kernel
theorem dL_law_217 : decode cL_law 217 = .ok (.iaload, 1) := by decide +kernel
theorem dL_law_218 : decode cL_law 218 = .ok (.aload_n 0, 1) := by decide +kernel
theorem dL_law_219 : decode cL_law 219 = .ok (.iload_n 3, 1) := by decide +kernel
theorem dL_law_220 : decode cL_law 220 = .ok (.iconst 3, 1) := by decide +kernel
theorem dL_law_221 : decode cL_law 221 = .ok (.iadd, 1) := by decide +kernel
theorem dL_law_222 : decode cL_law 222 = .ok (.iaload, 1) := by decide +kernel
theorem dL_law_223 : decode cL_law 223 = .ok (.invokevirtual 27, 3) := by decide +kernel
theorem dL_law_226 : decode cL_law 226 = .ok (.if_icmp .eq 389, 3) := by decide +kernel
theorem dL_law_229 : decode cL_law 229 = .ok (.iconst 0, 1) := by decide +kernel
theorem dL_law_230 : decode cL_law 230 = .ok (.ireturn, 1) := by decide +kernel
theorem dL_law_231 : decode cL_law 231 = .ok (.aload_n 1, 1) := by decide +kernel
theorem dL_law_232 : decode cL_law 232 = .ok (.aload_n 0, 1) := by decide +kernel
theorem dL_law_233 : decode cL_law 233 = .ok (.iload_n 3, 1) := by decide +kernel
theorem dL_law_234 : decode cL_law 234 = .ok (.iconst 1, 1) := by decide +kernel
theorem dL_law_235 : decode cL_law 235 = .ok (.iadd, 1) := by decide +kernel
theorem dL_law_236 : decode cL_law 236 = .ok (.iaload, 1) := by decide +kernel
theorem dL_law_237 : decode cL_law 237 = .ok (.aload_n 0, 1) := by decide +kernel
theorem dL_law_238 : decode cL_law 238 = .ok (.iload_n 3, 1) := by decide +kernel
theorem dL_law_239 : decode cL_law 239 = .ok (.iconst 2, 1) := by decide +kernel
theorem dL_law_240 : decode cL_law 240 = .ok (.iadd, 1) := by decide +kernel
theorem dL_law_241 : decode cL_law 241 = .ok (.iaload, 1) := by decide +kernel
theorem dL_law_242 : decode cL_law 242 = .ok (.aload_n 0, 1) := by decide +kernel
theorem dL_law_243 : decode cL_law 243 = .ok (.iload_n 3, 1) := by decide +kernel
theorem dL_law_244 : decode cL_law 244 = .ok (.iconst 3, 1) := by decide +kernel
theorem dL_law_245 : decode cL_law 245 = .ok (.iadd, 1) := by decide +kernel
theorem dL_law_246 : decode cL_law 246 = .ok (.iaload, 1) := by decide +kernel
theorem dL_law_247 : decode cL_law 247 = .ok (.invokevirtual 28, 3) := by decide +kernel
theorem dL_law_250 : decode cL_law 250 = .ok (.aload_n 2, 1) := by decide +kernel
theorem dL_law_251 : decode cL_law 251 = .ok (.aload_n 0, 1) := by decide +kernel
theorem dL_law_252 : decode cL_law 252 = .ok (.iload_n 3, 1) := by decide +kernel
theorem dL_law_253 : decode cL_law 253 = .ok (.iconst 1, 1) := by decide +kernel
theorem dL_law_254 : decode cL_law 254 = .ok (.iadd, 1) := by decide +kernel
theorem dL_law_255 : decode cL_law 255 = .ok (.iaload, 1) := by decide +kernel
theorem dL_law_256 : decode cL_law 256 = .ok (.aload_n 0, 1) := by decide +kernel
theorem dL_law_257 : decode cL_law 257 = .ok (.iload_n 3, 1) := by decide +kernel
theorem dL_law_258 : decode cL_law 258 = .ok (.iconst 2, 1) := by decide +kernel
theorem dL_law_259 : decode cL_law 259 = .ok (.iadd, 1) := by decide +kernel
theorem dL_law_260 : decode cL_law 260 = .ok (.iaload, 1) := by decide +kernel
theorem dL_law_261 : decode cL_law 261 = .ok (.aload_n 0, 1) := by decide +kernel
theorem dL_law_262 : decode cL_law 262 = .ok (.iload_n 3, 1) := by decide +kernel
theorem dL_law_263 : decode cL_law 263 = .ok (.iconst 3, 1) := by decide +kernel
theorem dL_law_264 : decode cL_law 264 = .ok (.iadd, 1) := by decide +kernel
theorem dL_law_265 : decode cL_law 265 = .ok (.iaload, 1) := by decide +kernel
theorem dL_law_266 : decode cL_law 266 = .ok (.invokevirtual 31, 3) := by decide +kernel
theorem dL_law_269 : decode cL_law 269 = .ok (.if_icmp .eq 346, 3) := by decide +kernel
theorem dL_law_272 : decode cL_law 272 = .ok (.iconst 0, 1) := by decide +kernel
theorem dL_law_273 : decode cL_law 273 = .ok (.ireturn, 1) := by decide +kernel
theorem dL_law_274 : decode cL_law 274 = .ok (.aload_n 1, 1) := by decide +kernel
theorem dL_law_275 : decode cL_law 275 = .ok (.aload_n 0, 1) := by decide +kernel
theorem dL_law_276 : decode cL_law 276 = .ok (.iload_n 3, 1) := by decide +kernel
theorem dL_law_277 : decode cL_law 277 = .ok (.iconst 1, 1) := by decide +kernel
theorem dL_law_278 : decode cL_law 278 = .ok (.iadd, 1) := by decide +kernel
theorem dL_law_279 : decode cL_law 279 = .ok (.iaload, 1) := by decide +kernel
theorem dL_law_280 : decode cL_law 280 = .ok (.invokevirtual 32, 3) := by decide +kernel
theorem dL_law_283 : decode cL_law 283 = .ok (.aload_n 2, 1) := by decide +kernel
theorem dL_law_284 : decode cL_law 284 = .ok (.aload_n 0, 1) := by decide +kernel
theorem dL_law_285 : decode cL_law 285 = .ok (.iload_n 3, 1) := by decide +kernel
theorem dL_law_286 : decode cL_law 286 = .ok (.iconst 1, 1) := by decide +kernel
theorem dL_law_287 : decode cL_law 287 = .ok (.iadd, 1) := by decide +kernel
theorem dL_law_288 : decode cL_law 288 = .ok (.iaload, 1) := by decide +kernel
theorem dL_law_289 : decode cL_law 289 = .ok (.invokevirtual 35, 3) := by decide +kernel
theorem dL_law_292 : decode cL_law 292 = .ok (.if_icmp .eq 323, 3) := by decide +kernel
theorem dL_law_295 : decode cL_law 295 = .ok (.iconst 0, 1) := by decide +kernel
theorem dL_law_296 : decode cL_law 296 = .ok (.ireturn, 1) := by decide +kernel
theorem dL_law_297 : decode cL_law 297 = .ok (.aload_n 1, 1) := by decide +kernel
theorem dL_law_298 : decode cL_law 298 = .ok (.invokevirtual 36, 3) := by decide +kernel
theorem dL_law_301 : decode cL_law 301 = .ok (.aload_n 2, 1) := by decide +kernel
theorem dL_law_302 : decode cL_law 302 = .ok (.invokevirtual 40, 3) := by decide +kernel
theorem dL_law_305 : decode cL_law 305 = .ok (.if_icmp .eq 310, 3) := by decide +kernel
theorem dL_law_308 : decode cL_law 308 = .ok (.iconst 0, 1) := by decide +kernel
theorem dL_law_309 : decode cL_law 309 = .ok (.ireturn, 1) := by decide +kernel
theorem dL_law_310 : decode cL_law 310 = .ok (.aload_n 1, 1) := by decide +kernel
theorem dL_law_311 : decode cL_law 311 = .ok (.aload_n 0, 1) := by decide +kernel
theorem dL_law_312 : decode cL_law 312 = .ok (.iload_n 3, 1) := by decide +kernel
theorem dL_law_313 : decode cL_law 313 = .ok (.iconst 1, 1) := by decide +kernel
theorem dL_law_314 : decode cL_law 314 = .ok (.iadd, 1) := by decide +kernel
theorem dL_law_315 : decode cL_law 315 = .ok (.iaload, 1) := by decide +kernel
theorem dL_law_316 : decode cL_law 316 = .ok (.invokevirtual 41, 3) := by decide +kernel
theorem dL_law_319 : decode cL_law 319 = .ok (.aload_n 2, 1) := by decide +kernel
theorem dL_law_320 : decode cL_law 320 = .ok (.aload_n 0, 1) := by decide +kernel
theorem dL_law_321 : decode cL_law 321 = .ok (.iload_n 3, 1) := by decide +kernel
theorem dL_law_322 : decode cL_law 322 = .ok (.iconst 1, 1) := by decide +kernel
theorem dL_law_323 : decode cL_law 323 = .ok (.iadd, 1) := by decide +kernel
theorem dL_law_324 : decode cL_law 324 = .ok (.iaload, 1) := by decide +kernel
theorem dL_law_325 : decode cL_law 325 = .ok (.invokevirtual 44, 3) := by decide +kernel
theorem dL_law_328 : decode cL_law 328 = .ok (.if_icmp .eq 287, 3) := by decide +kernel
theorem dL_law_331 : decode cL_law 331 = .ok (.iconst 0, 1) := by decide +kernel
theorem dL_law_332 : decode cL_law 332 = .ok (.ireturn, 1) := by decide +kernel
theorem dL_law_333 : decode cL_law 333 = .ok (.aload_n 1, 1) := by decide +kernel
theorem dL_law_334 : decode cL_law 334 = .ok (.aload_n 0, 1) := by decide +kernel
theorem dL_law_335 : decode cL_law 335 = .ok (.iload_n 3, 1) := by decide +kernel
theorem dL_law_336 : decode cL_law 336 = .ok (.iconst 1, 1) := by decide +kernel
theorem dL_law_337 : decode cL_law 337 = .ok (.iadd, 1) := by decide +kernel
theorem dL_law_338 : decode cL_law 338 = .ok (.iaload, 1) := by decide +kernel
theorem dL_law_339 : decode cL_law 339 = .ok (.invokevirtual 45, 3) := by decide +kernel
theorem dL_law_342 : decode cL_law 342 = .ok (.aload_n 2, 1) := by decide +kernel
theorem dL_law_343 : decode cL_law 343 = .ok (.aload_n 0, 1) := by decide +kernel
theorem dL_law_344 : decode cL_law 344 = .ok (.iload_n 3, 1) := by decide +kernel
theorem dL_law_345 : decode cL_law 345 = .ok (.iconst 1, 1) := by decide +kernel
theorem dL_law_346 : decode cL_law 346 = .ok (.iadd, 1) := by decide +kernel
theorem dL_law_347 : decode cL_law 347 = .ok (.iaload, 1) := by decide +kernel
theorem dL_law_348 : decode cL_law 348 = .ok (.invokevirtual 48, 3) := by decide +kernel
theorem dL_law_351 : decode cL_law 351 = .ok (.if_icmp .eq 264, 3) := by decide +kernel
theorem dL_law_354 : decode cL_law 354 = .ok (.iconst 0, 1) := by decide +kernel
theorem dL_law_355 : decode cL_law 355 = .ok (.ireturn, 1) := by decide +kernel
theorem dL_law_356 : decode cL_law 356 = .ok (.aload_n 1, 1) := by decide +kernel
theorem dL_law_357 : decode cL_law 357 = .ok (.aload_n 0, 1) := by decide +kernel
theorem dL_law_358 : decode cL_law 358 = .ok (.iload_n 3, 1) := by decide +kernel
theorem dL_law_359 : decode cL_law 359 = .ok (.iconst 1, 1) := by decide +kernel
theorem dL_law_360 : decode cL_law 360 = .ok (.iadd, 1) := by decide +kernel
theorem dL_law_361 : decode cL_law 361 = .ok (.iaload, 1) := by decide +kernel
theorem dL_law_362 : decode cL_law 362 = .ok (.invokevirtual 49, 3) := by decide +kernel
theorem dL_law_365 : decode cL_law 365 = .ok (.aload_n 2, 1) := by decide +kernel
theorem dL_law_366 : decode cL_law 366 = .ok (.aload_n 0, 1) := by decide +kernel
theorem dL_law_367 : decode cL_law 367 = .ok (.iload_n 3, 1) := by decide +kernel
theorem dL_law_368 : decode cL_law 368 = .ok (.iconst 1, 1) := by decide +kernel
theorem dL_law_369 : decode cL_law 369 = .ok (.iadd, 1) := by decide +kernel
theorem dL_law_370 : decode cL_law 370 = .ok (.iaload, 1) := by decide +kernel
theorem dL_law_371 : decode cL_law 371 = .ok (.invokevirtual 52, 3) := by decide +kernel
theorem dL_law_374 : decode cL_law 374 = .ok (.if_icmp .eq 241, 3) := by decide +kernel
theorem dL_law_377 : decode cL_law 377 = .ok (.iconst 0, 1) := by decide +kernel
theorem dL_law_378 : decode cL_law 378 = .ok (.ireturn, 1) := by decide +kernel
theorem dL_law_379 : decode cL_law 379 = .ok (.aload_n 1, 1) := by decide +kernel
theorem dL_law_380 : decode cL_law 380 = .ok (.invokevirtual 53, 3) := by decide +kernel
theorem dL_law_383 : decode cL_law 383 = .ok (.aload_n 2, 1) := by decide +kernel
theorem dL_law_384 : decode cL_law 384 = .ok (.invokevirtual 56, 3) := by decide +kernel
theorem dL_law_387 : decode cL_law 387 = .ok (.if_icmp .eq 228, 3) := by decide +kernel
theorem dL_law_390 : decode cL_law 390 = .ok (.iconst 0, 1) := by decide +kernel
theorem dL_law_391 : decode cL_law 391 = .ok (.ireturn, 1) := by decide +kernel
theorem dL_law_392 : decode cL_law 392 = .ok (.aload_n 1, 1) := by decide +kernel
theorem dL_law_393 : decode cL_law 393 = .ok (.aload_n 0, 1) := by decide +kernel
theorem dL_law_394 : decode cL_law 394 = .ok (.iload_n 3, 1) := by decide +kernel
theorem dL_law_395 : decode cL_law 395 = .ok (.iconst 1, 1) := by decide +kernel
theorem dL_law_396 : decode cL_law 396 = .ok (.iadd, 1) := by decide +kernel
theorem dL_law_397 : decode cL_law 397 = .ok (.iaload, 1) := by decide +kernel
theorem dL_law_398 : decode cL_law 398 = .ok (.invokevirtual 57, 3) := by decide +kernel
theorem dL_law_401 : decode cL_law 401 = .ok (.aload_n 2, 1) := by decide +kernel
theorem dL_law_402 : decode cL_law 402 = .ok (.aload_n 0, 1) := by decide +kernel
theorem dL_law_403 : decode cL_law 403 = .ok (.iload_n 3, 1) := by decide +kernel
theorem dL_law_404 : decode cL_law 404 = .ok (.iconst 1, 1) := by decide +kernel
theorem dL_law_405 : decode cL_law 405 = .ok (.iadd, 1) := by decide +kernel
theorem dL_law_406 : decode cL_law 406 = .ok (.iaload, 1) := by decide +kernel
theorem dL_law_407 : decode cL_law 407 = .ok (.invokevirtual 60, 3) := by decide +kernel
theorem dL_law_410 : decode cL_law 410 = .ok (.if_icmp .eq 205, 3) := by decide +kernel
theorem dL_law_413 : decode cL_law 413 = .ok (.iconst 0, 1) := by decide +kernel
theorem dL_law_414 : decode cL_law 414 = .ok (.ireturn, 1) := by decide +kernel
theorem dL_law_415 : decode cL_law 415 = .ok (.aload_n 1, 1) := by decide +kernel
theorem dL_law_416 : decode cL_law 416 = .ok (.invokevirtual 61, 3) := by decide +kernel
theorem dL_law_419 : decode cL_law 419 = .ok (.aload_n 2, 1) := by decide +kernel
theorem dL_law_420 : decode cL_law 420 = .ok (.invokevirtual 64, 3) := by decide +kernel
theorem dL_law_423 : decode cL_law 423 = .ok (.if_icmp .eq 192, 3) := by decide +kernel
theorem dL_law_426 : decode cL_law 426 = .ok (.iconst 0, 1) := by decide +kernel
theorem dL_law_427 : decode cL_law 427 = .ok (.ireturn, 1) := by decide +kernel
theorem dL_law_428 : decode cL_law 428 = .ok (.aload_n 1, 1) := by decide +kernel
theorem dL_law_429 : decode cL_law 429 = .ok (.invokevirtual 65, 3) := by decide +kernel
theorem dL_law_432 : decode cL_law 432 = .ok (.aload_n 2, 1) := by decide +kernel
theorem dL_law_433 : decode cL_law 433 = .ok (.invokevirtual 68, 3) := by decide +kernel
theorem dL_law_436 : decode cL_law 436 = .ok (.if_icmp .eq 179, 3) := by decide +kernel
theorem dL_law_439 : decode cL_law 439 = .ok (.iconst 0, 1) := by decide +kernel
theorem dL_law_440 : decode cL_law 440 = .ok (.ireturn, 1) := by decide +kernel
theorem dL_law_441 : decode cL_law 441 = .ok (.aload_n 1, 1) := by decide +kernel
theorem dL_law_442 : decode cL_law 442 = .ok (.aload_n 0, 1) := by decide +kernel
theorem dL_law_443 : decode cL_law 443 = .ok (.iload_n 3, 1) := by decide +kernel
theorem dL_law_444 : decode cL_law 444 = .ok (.iconst 1, 1) := by decide +kernel
theorem dL_law_445 : decode cL_law 445 = .ok (.iadd, 1) := by decide +kernel
theorem dL_law_446 : decode cL_law 446 = .ok (.iaload, 1) := by decide +kernel
theorem dL_law_447 : decode cL_law 447 = .ok (.invokevirtual 69, 3) := by decide +kernel
theorem dL_law_450 : decode cL_law 450 = .ok (.aload_n 2, 1) := by decide +kernel
theorem dL_law_451 : decode cL_law 451 = .ok (.aload_n 0, 1) := by decide +kernel
theorem dL_law_452 : decode cL_law 452 = .ok (.iload_n 3, 1) := by decide +kernel
theorem dL_law_453 : decode cL_law 453 = .ok (.iconst 1, 1) := by decide +kernel
theorem dL_law_454 : decode cL_law 454 = .ok (.iadd, 1) := by decide +kernel
theorem dL_law_455 : decode cL_law 455 = .ok (.iaload, 1) := by decide +kernel
theorem dL_law_456 : decode cL_law 456 = .ok (.invokevirtual 72, 3) := by decide +kernel
theorem dL_law_459 : decode cL_law 459 = .ok (.if_icmp .eq 156, 3) := by decide +kernel
theorem dL_law_462 : decode cL_law 462 = .ok (.iconst 0, 1) := by decide +kernel
theorem dL_law_463 : decode cL_law 463 = .ok (.ireturn, 1) := by decide +kernel
theorem dL_law_464 : decode cL_law 464 = .ok (.aload_n 1, 1) := by decide +kernel
theorem dL_law_465 : decode cL_law 465 = .ok (.aload_n 0, 1) := by decide +kernel
theorem dL_law_466 : decode cL_law 466 = .ok (.iload_n 3, 1) := by decide +kernel
theorem dL_law_467 : decode cL_law 467 = .ok (.iconst 1, 1) := by decide +kernel
theorem dL_law_468 : decode cL_law 468 = .ok (.iadd, 1) := by decide +kernel
theorem dL_law_469 : decode cL_law 469 = .ok (.iaload, 1) := by decide +kernel
theorem dL_law_470 : decode cL_law 470 = .ok (.invokevirtual 73, 3) := by decide +kernel
theorem dL_law_473 : decode cL_law 473 = .ok (.aload_n 2, 1) := by decide +kernel
theorem dL_law_474 : decode cL_law 474 = .ok (.aload_n 0, 1) := by decide +kernel
theorem dL_law_475 : decode cL_law 475 = .ok (.iload_n 3, 1) := by decide +kernel
theorem dL_law_476 : decode cL_law 476 = .ok (.iconst 1, 1) := by decide +kernel
theorem dL_law_477 : decode cL_law 477 = .ok (.iadd, 1) := by decide +kernel
theorem dL_law_478 : decode cL_law 478 = .ok (.iaload, 1) := by decide +kernel
theorem dL_law_479 : decode cL_law 479 = .ok (.invokevirtual 76, 3) := by decide +kernel
theorem dL_law_482 : decode cL_law 482 = .ok (.if_icmp .eq 133, 3) := by decide +kernel
theorem dL_law_485 : decode cL_law 485 = .ok (.iconst 0, 1) := by decide +kernel
theorem dL_law_486 : decode cL_law 486 = .ok (.ireturn, 1) := by decide +kernel
theorem dL_law_487 : decode cL_law 487 = .ok (.aload_n 1, 1) := by decide +kernel
theorem dL_law_488 : decode cL_law 488 = .ok (.aload_n 0, 1) := by decide +kernel
theorem dL_law_489 : decode cL_law 489 = .ok (.iload_n 3, 1) := by decide +kernel
theorem dL_law_490 : decode cL_law 490 = .ok (.iconst 1, 1) := by decide +kernel
theorem dL_law_491 : decode cL_law 491 = .ok (.iadd, 1) := by decide +kernel
theorem dL_law_492 : decode cL_law 492 = .ok (.iaload, 1) := by decide +kernel
theorem dL_law_493 : decode cL_law 493 = .ok (.aload_n 0, 1) := by decide +kernel
theorem dL_law_494 : decode cL_law 494 = .ok (.iload_n 3, 1) := by decide +kernel
theorem dL_law_495 : decode cL_law 495 = .ok (.iconst 2, 1) := by decide +kernel
theorem dL_law_496 : decode cL_law 496 = .ok (.iadd, 1) := by decide +kernel
theorem dL_law_497 : decode cL_law 497 = .ok (.iaload, 1) := by decide +kernel
theorem dL_law_498 : decode cL_law 498 = .ok (.invokevirtual 77, 3) := by decide +kernel
theorem dL_law_501 : decode cL_law 501 = .ok (.aload_n 2, 1) := by decide +kernel
theorem dL_law_502 : decode cL_law 502 = .ok (.aload_n 0, 1) := by decide +kernel
theorem dL_law_503 : decode cL_law 503 = .ok (.iload_n 3, 1) := by decide +kernel
theorem dL_law_504 : decode cL_law 504 = .ok (.iconst 1, 1) := by decide +kernel
theorem dL_law_505 : decode cL_law 505 = .ok (.iadd, 1) := by decide +kernel
theorem dL_law_506 : decode cL_law 506 = .ok (.iaload, 1) := by decide +kernel
theorem dL_law_507 : decode cL_law 507 = .ok (.aload_n 0, 1) := by decide +kernel
theorem dL_law_508 : decode cL_law 508 = .ok (.iload_n 3, 1) := by decide +kernel
theorem dL_law_509 : decode cL_law 509 = .ok (.iconst 2, 1) := by decide +kernel
theorem dL_law_510 : decode cL_law 510 = .ok (.iadd, 1) := by decide +kernel
theorem dL_law_511 : decode cL_law 511 = .ok (.iaload, 1) := by decide +kernel
theorem dL_law_512 : decode cL_law 512 = .ok (.invokevirtual 80, 3) := by decide +kernel
theorem dL_law_515 : decode cL_law 515 = .ok (.if_icmp .eq 100, 3) := by decide +kernel
theorem dL_law_518 : decode cL_law 518 = .ok (.iconst 0, 1) := by decide +kernel
theorem dL_law_519 : decode cL_law 519 = .ok (.ireturn, 1) := by decide +kernel
theorem dL_law_520 : decode cL_law 520 = .ok (.aload_n 1, 1) := by decide +kernel
theorem dL_law_521 : decode cL_law 521 = .ok (.aload_n 0, 1) := by decide +kernel
theorem dL_law_522 : decode cL_law 522 = .ok (.iload_n 3, 1) := by decide +kernel
theorem dL_law_523 : decode cL_law 523 = .ok (.iconst 1, 1) := by decide +kernel
theorem dL_law_524 : decode cL_law 524 = .ok (.iadd, 1) := by decide +kernel
theorem dL_law_525 : decode cL_law 525 = .ok (.iaload, 1) := by decide +kernel
theorem dL_law_526 : decode cL_law 526 = .ok (.aload_n 0, 1) := by decide +kernel
theorem dL_law_527 : decode cL_law 527 = .ok (.iload_n 3, 1) := by decide +kernel
theorem dL_law_528 : decode cL_law 528 = .ok (.iconst 2, 1) := by decide +kernel
theorem dL_law_529 : decode cL_law 529 = .ok (.iadd, 1) := by decide +kernel
theorem dL_law_530 : decode cL_law 530 = .ok (.iaload, 1) := by decide +kernel
theorem dL_law_531 : decode cL_law 531 = .ok (.invokevirtual 81, 3) := by decide +kernel
theorem dL_law_534 : decode cL_law 534 = .ok (.aload_n 2, 1) := by decide +kernel
theorem dL_law_535 : decode cL_law 535 = .ok (.aload_n 0, 1) := by decide +kernel
theorem dL_law_536 : decode cL_law 536 = .ok (.iload_n 3, 1) := by decide +kernel
theorem dL_law_537 : decode cL_law 537 = .ok (.iconst 1, 1) := by decide +kernel
theorem dL_law_538 : decode cL_law 538 = .ok (.iadd, 1) := by decide +kernel
theorem dL_law_539 : decode cL_law 539 = .ok (.iaload, 1) := by decide +kernel
theorem dL_law_540 : decode cL_law 540 = .ok (.aload_n 0, 1) := by decide +kernel
theorem dL_law_541 : decode cL_law 541 = .ok (.iload_n 3, 1) := by decide +kernel
theorem dL_law_542 : decode cL_law 542 = .ok (.iconst 2, 1) := by decide +kernel
theorem dL_law_543 : decode cL_law 543 = .ok (.iadd, 1) := by decide +kernel
theorem dL_law_544 : decode cL_law 544 = .ok (.iaload, 1) := by decide +kernel
theorem dL_law_545 : decode cL_law 545 = .ok (.invokevirtual 84, 3) := by decide +kernel
theorem dL_law_548 : decode cL_law 548 = .ok (.if_icmp .eq 67, 3) := by decide +kernel
theorem dL_law_551 : decode cL_law 551 = .ok (.iconst 0, 1) := by decide +kernel
theorem dL_law_552 : decode cL_law 552 = .ok (.ireturn, 1) := by decide +kernel
theorem dL_law_553 : decode cL_law 553 = .ok (.aload_n 1, 1) := by decide +kernel
theorem dL_law_554 : decode cL_law 554 = .ok (.aload_n 0, 1) := by decide +kernel
theorem dL_law_555 : decode cL_law 555 = .ok (.iload_n 3, 1) := by decide +kernel
theorem dL_law_556 : decode cL_law 556 = .ok (.iconst 1, 1) := by decide +kernel
theorem dL_law_557 : decode cL_law 557 = .ok (.iadd, 1) := by decide +kernel
theorem dL_law_558 : decode cL_law 558 = .ok (.iaload, 1) := by decide +kernel
theorem dL_law_559 : decode cL_law 559 = .ok (.invokevirtual 85, 3) := by decide +kernel
theorem dL_law_562 : decode cL_law 562 = .ok (.aload_n 2, 1) := by decide +kernel
theorem dL_law_563 : decode cL_law 563 = .ok (.aload_n 0, 1) := by decide +kernel
theorem dL_law_564 : decode cL_law 564 = .ok (.iload_n 3, 1) := by decide +kernel
theorem dL_law_565 : decode cL_law 565 = .ok (.iconst 1, 1) := by decide +kernel
theorem dL_law_566 : decode cL_law 566 = .ok (.iadd, 1) := by decide +kernel
theorem dL_law_567 : decode cL_law 567 = .ok (.iaload, 1) := by decide +kernel
theorem dL_law_568 : decode cL_law 568 = .ok (.invokevirtual 88, 3) := by decide +kernel
theorem dL_law_571 : decode cL_law 571 = .ok (.if_icmp .eq 44, 3) := by decide +kernel
theorem dL_law_574 : decode cL_law 574 = .ok (.iconst 0, 1) := by decide +kernel
theorem dL_law_575 : decode cL_law 575 = .ok (.ireturn, 1) := by decide +kernel
theorem dL_law_576 : decode cL_law 576 = .ok (.aload_n 1, 1) := by decide +kernel
theorem dL_law_577 : decode cL_law 577 = .ok (.invokevirtual 89, 3) := by decide +kernel
theorem dL_law_580 : decode cL_law 580 = .ok (.aload_n 2, 1) := by decide +kernel
theorem dL_law_581 : decode cL_law 581 = .ok (.invokevirtual 92, 3) := by decide +kernel
theorem dL_law_584 : decode cL_law 584 = .ok (.if_icmp .eq 31, 3) := by decide +kernel
theorem dL_law_587 : decode cL_law 587 = .ok (.iconst 0, 1) := by decide +kernel
theorem dL_law_588 : decode cL_law 588 = .ok (.ireturn, 1) := by decide +kernel
theorem dL_law_589 : decode cL_law 589 = .ok (.aload_n 1, 1) := by decide +kernel
theorem dL_law_590 : decode cL_law 590 = .ok (.invokevirtual 93, 3) := by decide +kernel
theorem dL_law_593 : decode cL_law 593 = .ok (.aload_n 2, 1) := by decide +kernel
theorem dL_law_594 : decode cL_law 594 = .ok (.invokevirtual 96, 3) := by decide +kernel
theorem dL_law_597 : decode cL_law 597 = .ok (.if_icmp .eq 18, 3) := by decide +kernel
theorem dL_law_600 : decode cL_law 600 = .ok (.iconst 0, 1) := by decide +kernel
theorem dL_law_601 : decode cL_law 601 = .ok (.ireturn, 1) := by decide +kernel
theorem dL_law_602 : decode cL_law 602 = .ok (.aload_n 1, 1) := by decide +kernel
theorem dL_law_603 : decode cL_law 603 = .ok (.invokevirtual 97, 3) := by decide +kernel
theorem dL_law_606 : decode cL_law 606 = .ok (.aload_n 2, 1) := by decide +kernel
theorem dL_law_607 : decode cL_law 607 = .ok (.invokevirtual 100, 3) := by decide +kernel
theorem dL_law_610 : decode cL_law 610 = .ok (.if_icmp .eq 5, 3) := by decide +kernel
theorem dL_law_613 : decode cL_law 613 = .ok (.iconst 0, 1) := by decide +kernel
theorem dL_law_614 : decode cL_law 614 = .ok (.ireturn, 1) := by decide +kernel
theorem dL_law_615 : decode cL_law 615 = .ok (.iinc 3 4, 3) := by decide +kernel
theorem dL_law_618 : decode cL_law 618 = .ok (.goto (-600), 3) := by decide +kernel
theorem dL_law_621 : decode cL_law 621 = .ok (.iconst 1, 1) := by decide +kernel
theorem dL_law_622 : decode cL_law 622 = .ok (.ireturn, 1) := by decide +kernel
abbrev vwCl : List vw_C := [(RX0, TX0, 5), (RX1, TX1, 3), (RX2, TX2, 3), (RX3, TX3, 3), (RX4, TX4, 4), (RX5, TX5, 10), (RX6, TX6, 2), (RX7, TX7, 6), (RX8, TX8, 12)]
end
