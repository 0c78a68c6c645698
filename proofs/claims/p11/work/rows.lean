section
-- ===== PART A: goes FIRST, ahead of the names: the tables' words, and 'selects' of the private methods out of them =====
/-- a private method of a class that the tables say can be made, by its rows of tables_1 -/
def lw_okq (q : MethodName × Nat) : Prop := (q.1.cls ≠ "java/lang/invoke/MethodHandle" ∧ q.1.cls ≠ "java/lang/invoke/VarHandle") ∧ Cond.instantiable q.1.cls q.2 ∈ tables_1 ∧ Cond.privateMethod q.1 ∈ tables_1 ∧ Cond.instanceMethod q.1 ∈ tables_1
theorem lw_p0 : lw_okq (⟨"CutLetters$Pad", "leadingLetters", "(I)I"⟩, 5) := ⟨⟨by decide +kernel, by decide +kernel⟩, List.mem_of_getElem? (i := 24) (by decide +kernel), List.mem_of_getElem? (i := 256) (by decide +kernel), List.mem_of_getElem? (i := 257) (by decide +kernel)⟩
theorem lw_p1 : lw_okq (⟨"CutLetters$Pad", "signAt", "(I)I"⟩, 5) := ⟨⟨by decide +kernel, by decide +kernel⟩, List.mem_of_getElem? (i := 24) (by decide +kernel), List.mem_of_getElem? (i := 260) (by decide +kernel), List.mem_of_getElem? (i := 261) (by decide +kernel)⟩
theorem lw_p2 : lw_okq (⟨"CutLetters$Pad", "kindNamedAt", "(I)I"⟩, 5) := ⟨⟨by decide +kernel, by decide +kernel⟩, List.mem_of_getElem? (i := 24) (by decide +kernel), List.mem_of_getElem? (i := 267) (by decide +kernel), List.mem_of_getElem? (i := 268) (by decide +kernel)⟩
theorem lw_p3 : lw_okq (⟨"CutLetters$Pad", "nameStandsAt", "(II)Z"⟩, 5) := ⟨⟨by decide +kernel, by decide +kernel⟩, List.mem_of_getElem? (i := 24) (by decide +kernel), List.mem_of_getElem? (i := 312) (by decide +kernel), List.mem_of_getElem? (i := 313) (by decide +kernel)⟩
theorem lw_p4 : lw_okq (⟨"CutLetters$Pad", "readCost", "(I)I"⟩, 5) := ⟨⟨by decide +kernel, by decide +kernel⟩, List.mem_of_getElem? (i := 24) (by decide +kernel), List.mem_of_getElem? (i := 316) (by decide +kernel), List.mem_of_getElem? (i := 317) (by decide +kernel)⟩
theorem lw_p5 : lw_okq (⟨"CutLetters$Dictionary", "find", "(LCutLetters$Pad;)I"⟩, 5) := ⟨⟨by decide +kernel, by decide +kernel⟩, List.mem_of_getElem? (i := 60) (by decide +kernel), List.mem_of_getElem? (i := 336) (by decide +kernel), List.mem_of_getElem? (i := 337) (by decide +kernel)⟩
theorem lw_p6 : lw_okq (⟨"CutLetters", "somethingChanged", "()V"⟩, 8) := ⟨⟨by decide +kernel, by decide +kernel⟩, List.mem_of_getElem? (i := 16) (by decide +kernel), List.mem_of_getElem? (i := 347) (by decide +kernel), List.mem_of_getElem? (i := 348) (by decide +kernel)⟩
theorem lw_p7 : lw_okq (⟨"CutLetters", "hasLine", "()Z"⟩, 8) := ⟨⟨by decide +kernel, by decide +kernel⟩, List.mem_of_getElem? (i := 16) (by decide +kernel), List.mem_of_getElem? (i := 400) (by decide +kernel), List.mem_of_getElem? (i := 401) (by decide +kernel)⟩
theorem lw_p8 : lw_okq (⟨"CutLetters", "makeNet", "()V"⟩, 8) := ⟨⟨by decide +kernel, by decide +kernel⟩, List.mem_of_getElem? (i := 16) (by decide +kernel), List.mem_of_getElem? (i := 404) (by decide +kernel), List.mem_of_getElem? (i := 405) (by decide +kernel)⟩
theorem lw_p9 : lw_okq (⟨"CutLetters$Net", "fillSlots", "(LCutLetters$Book;I)V"⟩, 11) := ⟨⟨by decide +kernel, by decide +kernel⟩, List.mem_of_getElem? (i := 115) (by decide +kernel), List.mem_of_getElem? (i := 413) (by decide +kernel), List.mem_of_getElem? (i := 414) (by decide +kernel)⟩
theorem lw_p10 : lw_okq (⟨"CutLetters$Net", "fillWords", "(LCutLetters$Book;I)Z"⟩, 11) := ⟨⟨by decide +kernel, by decide +kernel⟩, List.mem_of_getElem? (i := 115) (by decide +kernel), List.mem_of_getElem? (i := 417) (by decide +kernel), List.mem_of_getElem? (i := 418) (by decide +kernel)⟩
theorem lw_p11 : lw_okq (⟨"CutLetters$Net", "fillWild", "(LCutLetters$Book;I)V"⟩, 11) := ⟨⟨by decide +kernel, by decide +kernel⟩, List.mem_of_getElem? (i := 115) (by decide +kernel), List.mem_of_getElem? (i := 422) (by decide +kernel), List.mem_of_getElem? (i := 423) (by decide +kernel)⟩
theorem lw_p12 : lw_okq (⟨"CutLetters$Net", "addSlots", "(LCutLetters$Book;I)V"⟩, 11) := ⟨⟨by decide +kernel, by decide +kernel⟩, List.mem_of_getElem? (i := 115) (by decide +kernel), List.mem_of_getElem? (i := 433) (by decide +kernel), List.mem_of_getElem? (i := 434) (by decide +kernel)⟩
theorem lw_p13 : lw_okq (⟨"CutLetters$Net", "add", "(LCutLetters$Book;II)V"⟩, 11) := ⟨⟨by decide +kernel, by decide +kernel⟩, List.mem_of_getElem? (i := 115) (by decide +kernel), List.mem_of_getElem? (i := 437) (by decide +kernel), List.mem_of_getElem? (i := 438) (by decide +kernel)⟩
theorem lw_p14 : lw_okq (⟨"CutLetters", "makeRanking", "()V"⟩, 8) := ⟨⟨by decide +kernel, by decide +kernel⟩, List.mem_of_getElem? (i := 16) (by decide +kernel), List.mem_of_getElem? (i := 445) (by decide +kernel), List.mem_of_getElem? (i := 446) (by decide +kernel)⟩
theorem lw_p15 : lw_okq (⟨"CutLetters$Ranking", "reachSpots", "(LCutLetters$Net;)V"⟩, 4) := ⟨⟨by decide +kernel, by decide +kernel⟩, List.mem_of_getElem? (i := 171) (by decide +kernel), List.mem_of_getElem? (i := 453) (by decide +kernel), List.mem_of_getElem? (i := 454) (by decide +kernel)⟩
def lw_privs_1 : List (MethodName × Nat) := [(⟨"CutLetters$Pad", "leadingLetters", "(I)I"⟩, 5), (⟨"CutLetters$Pad", "signAt", "(I)I"⟩, 5), (⟨"CutLetters$Pad", "kindNamedAt", "(I)I"⟩, 5), (⟨"CutLetters$Pad", "nameStandsAt", "(II)Z"⟩, 5), (⟨"CutLetters$Pad", "readCost", "(I)I"⟩, 5), (⟨"CutLetters$Dictionary", "find", "(LCutLetters$Pad;)I"⟩, 5), (⟨"CutLetters", "somethingChanged", "()V"⟩, 8), (⟨"CutLetters", "hasLine", "()Z"⟩, 8), (⟨"CutLetters", "makeNet", "()V"⟩, 8), (⟨"CutLetters$Net", "fillSlots", "(LCutLetters$Book;I)V"⟩, 11), (⟨"CutLetters$Net", "fillWords", "(LCutLetters$Book;I)Z"⟩, 11), (⟨"CutLetters$Net", "fillWild", "(LCutLetters$Book;I)V"⟩, 11), (⟨"CutLetters$Net", "addSlots", "(LCutLetters$Book;I)V"⟩, 11), (⟨"CutLetters$Net", "add", "(LCutLetters$Book;II)V"⟩, 11), (⟨"CutLetters", "makeRanking", "()V"⟩, 8), (⟨"CutLetters$Ranking", "reachSpots", "(LCutLetters$Net;)V"⟩, 4)]
theorem lw_r1 : ∀ q ∈ lw_privs_1, lw_okq q := List.forall_mem_cons.mpr ⟨lw_p0, List.forall_mem_cons.mpr ⟨lw_p1, List.forall_mem_cons.mpr ⟨lw_p2, List.forall_mem_cons.mpr ⟨lw_p3, List.forall_mem_cons.mpr ⟨lw_p4, List.forall_mem_cons.mpr ⟨lw_p5, List.forall_mem_cons.mpr ⟨lw_p6, List.forall_mem_cons.mpr ⟨lw_p7, List.forall_mem_cons.mpr ⟨lw_p8, List.forall_mem_cons.mpr ⟨lw_p9, List.forall_mem_cons.mpr ⟨lw_p10, List.forall_mem_cons.mpr ⟨lw_p11, List.forall_mem_cons.mpr ⟨lw_p12, List.forall_mem_cons.mpr ⟨lw_p13, List.forall_mem_cons.mpr ⟨lw_p14, List.forall_mem_cons.mpr ⟨lw_p15, fun _ h => absurd h List.not_mem_nil⟩⟩⟩⟩⟩⟩⟩⟩⟩⟩⟩⟩⟩⟩⟩⟩
theorem lw_p16 : lw_okq (⟨"CutLetters$Ranking", "leastUpTo", "(LCutLetters$Net;I)I"⟩, 4) := ⟨⟨by decide +kernel, by decide +kernel⟩, List.mem_of_getElem? (i := 171) (by decide +kernel), List.mem_of_getElem? (i := 461) (by decide +kernel), List.mem_of_getElem? (i := 462) (by decide +kernel)⟩
theorem lw_p17 : lw_okq (⟨"CutLetters$Ranking", "rankEnds", "(LCutLetters$Net;)V"⟩, 4) := ⟨⟨by decide +kernel, by decide +kernel⟩, List.mem_of_getElem? (i := 171) (by decide +kernel), List.mem_of_getElem? (i := 470) (by decide +kernel), List.mem_of_getElem? (i := 471) (by decide +kernel)⟩
theorem lw_p18 : lw_okq (⟨"CutLetters$Ranking", "rankSpot", "(LCutLetters$Net;II)V"⟩, 4) := ⟨⟨by decide +kernel, by decide +kernel⟩, List.mem_of_getElem? (i := 171) (by decide +kernel), List.mem_of_getElem? (i := 478) (by decide +kernel), List.mem_of_getElem? (i := 479) (by decide +kernel)⟩
theorem lw_p19 : lw_okq (⟨"CutLetters$Ranking", "offerWays", "(LCutLetters$Net;III)V"⟩, 4) := ⟨⟨by decide +kernel, by decide +kernel⟩, List.mem_of_getElem? (i := 171) (by decide +kernel), List.mem_of_getElem? (i := 482) (by decide +kernel), List.mem_of_getElem? (i := 483) (by decide +kernel)⟩
theorem lw_p20 : lw_okq (⟨"CutLetters$Ranking", "offer", "(II)Z"⟩, 4) := ⟨⟨by decide +kernel, by decide +kernel⟩, List.mem_of_getElem? (i := 171) (by decide +kernel), List.mem_of_getElem? (i := 486) (by decide +kernel), List.mem_of_getElem? (i := 487) (by decide +kernel)⟩
theorem lw_p21 : lw_okq (⟨"CutLetters$Writing", "add", "(I)V"⟩, 2) := ⟨⟨by decide +kernel, by decide +kernel⟩, List.mem_of_getElem? (i := 192) (by decide +kernel), List.mem_of_getElem? (i := 538) (by decide +kernel), List.mem_of_getElem? (i := 539) (by decide +kernel)⟩
theorem lw_p22 : lw_okq (⟨"CutLetters$Writing", "writePiece", "(ILCutLetters$Net;LCutLetters$Book;)V"⟩, 2) := ⟨⟨by decide +kernel, by decide +kernel⟩, List.mem_of_getElem? (i := 192) (by decide +kernel), List.mem_of_getElem? (i := 542) (by decide +kernel), List.mem_of_getElem? (i := 543) (by decide +kernel)⟩
theorem lw_p23 : lw_okq (⟨"CutLettersModel", "wordFault", "()I"⟩, 28) := ⟨⟨by decide +kernel, by decide +kernel⟩, List.mem_of_getElem? (i := 566) (by decide +kernel), List.mem_of_getElem? (i := 673) (by decide +kernel), List.mem_of_getElem? (i := 674) (by decide +kernel)⟩
theorem lw_p24 : lw_okq (⟨"CutLettersModel", "lineFault", "()I"⟩, 28) := ⟨⟨by decide +kernel, by decide +kernel⟩, List.mem_of_getElem? (i := 566) (by decide +kernel), List.mem_of_getElem? (i := 683) (by decide +kernel), List.mem_of_getElem? (i := 684) (by decide +kernel)⟩
theorem lw_p25 : lw_okq (⟨"CutLettersModel", "layPieces", "()V"⟩, 28) := ⟨⟨by decide +kernel, by decide +kernel⟩, List.mem_of_getElem? (i := 566) (by decide +kernel), List.mem_of_getElem? (i := 715) (by decide +kernel), List.mem_of_getElem? (i := 716) (by decide +kernel)⟩
theorem lw_p26 : lw_okq (⟨"CutLettersModel", "stands", "(II)Z"⟩, 28) := ⟨⟨by decide +kernel, by decide +kernel⟩, List.mem_of_getElem? (i := 566) (by decide +kernel), List.mem_of_getElem? (i := 722) (by decide +kernel), List.mem_of_getElem? (i := 723) (by decide +kernel)⟩
theorem lw_p27 : lw_okq (⟨"CutLettersModel", "put", "(IIIII)V"⟩, 28) := ⟨⟨by decide +kernel, by decide +kernel⟩, List.mem_of_getElem? (i := 566) (by decide +kernel), List.mem_of_getElem? (i := 726) (by decide +kernel), List.mem_of_getElem? (i := 727) (by decide +kernel)⟩
theorem lw_p28 : lw_okq (⟨"CutLettersModel", "layRows", "()V"⟩, 28) := ⟨⟨by decide +kernel, by decide +kernel⟩, List.mem_of_getElem? (i := 566) (by decide +kernel), List.mem_of_getElem? (i := 734) (by decide +kernel), List.mem_of_getElem? (i := 735) (by decide +kernel)⟩
theorem lw_p29 : lw_okq (⟨"CutLettersModel", "behind", "(I)I"⟩, 28) := ⟨⟨by decide +kernel, by decide +kernel⟩, List.mem_of_getElem? (i := 566) (by decide +kernel), List.mem_of_getElem? (i := 738) (by decide +kernel), List.mem_of_getElem? (i := 739) (by decide +kernel)⟩
theorem lw_p30 : lw_okq (⟨"CutLettersModel", "joinOf", "(II)I"⟩, 28) := ⟨⟨by decide +kernel, by decide +kernel⟩, List.mem_of_getElem? (i := 566) (by decide +kernel), List.mem_of_getElem? (i := 742) (by decide +kernel), List.mem_of_getElem? (i := 743) (by decide +kernel)⟩
theorem lw_p31 : lw_okq (⟨"CutLettersModel", "leastOf", "(I)I"⟩, 28) := ⟨⟨by decide +kernel, by decide +kernel⟩, List.mem_of_getElem? (i := 566) (by decide +kernel), List.mem_of_getElem? (i := 746) (by decide +kernel), List.mem_of_getElem? (i := 747) (by decide +kernel)⟩
def lw_privs_2 : List (MethodName × Nat) := [(⟨"CutLetters$Ranking", "leastUpTo", "(LCutLetters$Net;I)I"⟩, 4), (⟨"CutLetters$Ranking", "rankEnds", "(LCutLetters$Net;)V"⟩, 4), (⟨"CutLetters$Ranking", "rankSpot", "(LCutLetters$Net;II)V"⟩, 4), (⟨"CutLetters$Ranking", "offerWays", "(LCutLetters$Net;III)V"⟩, 4), (⟨"CutLetters$Ranking", "offer", "(II)Z"⟩, 4), (⟨"CutLetters$Writing", "add", "(I)V"⟩, 2), (⟨"CutLetters$Writing", "writePiece", "(ILCutLetters$Net;LCutLetters$Book;)V"⟩, 2), (⟨"CutLettersModel", "wordFault", "()I"⟩, 28), (⟨"CutLettersModel", "lineFault", "()I"⟩, 28), (⟨"CutLettersModel", "layPieces", "()V"⟩, 28), (⟨"CutLettersModel", "stands", "(II)Z"⟩, 28), (⟨"CutLettersModel", "put", "(IIIII)V"⟩, 28), (⟨"CutLettersModel", "layRows", "()V"⟩, 28), (⟨"CutLettersModel", "behind", "(I)I"⟩, 28), (⟨"CutLettersModel", "joinOf", "(II)I"⟩, 28), (⟨"CutLettersModel", "leastOf", "(I)I"⟩, 28)]
theorem lw_r2 : ∀ q ∈ lw_privs_2, lw_okq q := List.forall_mem_cons.mpr ⟨lw_p16, List.forall_mem_cons.mpr ⟨lw_p17, List.forall_mem_cons.mpr ⟨lw_p18, List.forall_mem_cons.mpr ⟨lw_p19, List.forall_mem_cons.mpr ⟨lw_p20, List.forall_mem_cons.mpr ⟨lw_p21, List.forall_mem_cons.mpr ⟨lw_p22, List.forall_mem_cons.mpr ⟨lw_p23, List.forall_mem_cons.mpr ⟨lw_p24, List.forall_mem_cons.mpr ⟨lw_p25, List.forall_mem_cons.mpr ⟨lw_p26, List.forall_mem_cons.mpr ⟨lw_p27, List.forall_mem_cons.mpr ⟨lw_p28, List.forall_mem_cons.mpr ⟨lw_p29, List.forall_mem_cons.mpr ⟨lw_p30, List.forall_mem_cons.mpr ⟨lw_p31, fun _ h => absurd h List.not_mem_nil⟩⟩⟩⟩⟩⟩⟩⟩⟩⟩⟩⟩⟩⟩⟩⟩
theorem lw_p32 : lw_okq (⟨"CutLettersModel", "cuttingOf", "(I)I"⟩, 28) := ⟨⟨by decide +kernel, by decide +kernel⟩, List.mem_of_getElem? (i := 566) (by decide +kernel), List.mem_of_getElem? (i := 759) (by decide +kernel), List.mem_of_getElem? (i := 760) (by decide +kernel)⟩
theorem lw_p33 : lw_okq (⟨"CutLettersModel", "costOf", "(I)I"⟩, 28) := ⟨⟨by decide +kernel, by decide +kernel⟩, List.mem_of_getElem? (i := 566) (by decide +kernel), List.mem_of_getElem? (i := 763) (by decide +kernel), List.mem_of_getElem? (i := 764) (by decide +kernel)⟩
theorem lw_p34 : lw_okq (⟨"CutLettersModel", "next", "(I)I"⟩, 28) := ⟨⟨by decide +kernel, by decide +kernel⟩, List.mem_of_getElem? (i := 566) (by decide +kernel), List.mem_of_getElem? (i := 767) (by decide +kernel), List.mem_of_getElem? (i := 768) (by decide +kernel)⟩
def lw_privs_3 : List (MethodName × Nat) := [(⟨"CutLettersModel", "cuttingOf", "(I)I"⟩, 28), (⟨"CutLettersModel", "costOf", "(I)I"⟩, 28), (⟨"CutLettersModel", "next", "(I)I"⟩, 28)]
theorem lw_r3 : ∀ q ∈ lw_privs_3, lw_okq q := List.forall_mem_cons.mpr ⟨lw_p32, List.forall_mem_cons.mpr ⟨lw_p33, List.forall_mem_cons.mpr ⟨lw_p34, fun _ h => absurd h List.not_mem_nil⟩⟩⟩
def lw_privs : List (MethodName × Nat) := lw_privs_1 ++ (lw_privs_2 ++ (lw_privs_3))
def lw_tbl : List Cond := k2_sels lw_privs ++ tables_1
theorem lw_privs_ok : ∀ q ∈ lw_privs, lw_okq q := by
  show ∀ q ∈ lw_privs_1 ++ (lw_privs_2 ++ (lw_privs_3)), lw_okq q
  exact List.forall_mem_append.mpr ⟨lw_r1, List.forall_mem_append.mpr ⟨lw_r2, lw_r3⟩⟩

def RX0 : String := "CutLetters$Book"
def TX0 : u_T := fun k => match k with
  | 0 => ("CutLetters$Book", "dictionary", "LCutLetters$Dictionary;", true)
  | 1 => ("CutLetters$Book", "joins", "[I", true)
  | 2 => ("CutLetters$Book", "rules", "[I", true)
  | 3 => ("CutLetters$Book", "line", "[I", true)
  | _ => ("CutLetters$Book", "lineLength", "I", false)
def tyX0 : Nat → FieldType := fun k => match k with
  | 0 => .object "CutLetters$Dictionary"
  | 1 => .array .int
  | 2 => .array .int
  | 3 => .array .int
  | _ => .int
abbrev wsX00 : List Cond := u_ws RX0 TX0 5
theorem nmX0 : ∀ a, a < 5 → ∀ b, b < 5 → a ≠ b → (TX0 a).2.1 ≠ (TX0 b).2.1 := by decide +kernel
theorem tyX0_ok : ∀ k, k < 5 → parseFieldDescriptor (TX0 k).2.2.1 = some (tyX0 k) := by decide +kernel
abbrev cX0_init : ByteArray := prog_2_method_1_code
def yX0_init : MethodName := ⟨RX0, "<init>", "()V"⟩
abbrev cX0_takeLine : ByteArray := prog_2_method_2_code
def yX0_takeLine : MethodName := ⟨RX0, "takeLine", "(LCutLetters$Pad;)V"⟩
abbrev cX0_runLength : ByteArray := prog_2_method_3_code
def yX0_runLength : MethodName := ⟨RX0, "runLength", "(I)I"⟩
abbrev cX0_classOf : ByteArray := prog_2_method_4_code
def yX0_classOf : MethodName := ⟨RX0, "classOf", "(I)I"⟩
abbrev cX0_copy : ByteArray := prog_2_method_5_code
def yX0_copy : MethodName := ⟨RX0, "copy", "(LCutLetters$Book;)V"⟩
def RX1 : String := "CutLetters$Dictionary"
def TX1 : u_T := fun k => match k with
  | 0 => ("CutLetters$Dictionary", "letters", "[I", true)
  | 1 => ("CutLetters$Dictionary", "lengths", "[I", true)
  | 2 => ("CutLetters$Dictionary", "kinds", "[I", true)
  | 3 => ("CutLetters$Dictionary", "costs", "[I", true)
  | _ => ("CutLetters$Dictionary", "count", "I", false)
def tyX1 : Nat → FieldType := fun k => match k with
  | 0 => .array .int
  | 1 => .array .int
  | 2 => .array .int
  | 3 => .array .int
  | _ => .int
abbrev wsX10 : List Cond := u_ws RX1 TX1 5
theorem nmX1 : ∀ a, a < 5 → ∀ b, b < 5 → a ≠ b → (TX1 a).2.1 ≠ (TX1 b).2.1 := by decide +kernel
theorem tyX1_ok : ∀ k, k < 5 → parseFieldDescriptor (TX1 k).2.2.1 = some (tyX1 k) := by decide +kernel
abbrev cX1_init : ByteArray := prog_3_method_1_code
def yX1_init : MethodName := ⟨RX1, "<init>", "()V"⟩
abbrev cX1_has : ByteArray := prog_3_method_2_code
def yX1_has : MethodName := ⟨RX1, "has", "(I)Z"⟩
abbrev cX1_put : ByteArray := prog_3_method_3_code
def yX1_put : MethodName := ⟨RX1, "put", "(LCutLetters$Pad;)I"⟩
abbrev cX1_find : ByteArray := prog_3_method_4_code
def yX1_find : MethodName := ⟨RX1, "find", "(LCutLetters$Pad;)I"⟩
abbrev cX1_standsAt : ByteArray := prog_3_method_5_code
def yX1_standsAt : MethodName := ⟨RX1, "standsAt", "(I[III)Z"⟩
abbrev cX1_remove : ByteArray := prog_3_method_6_code
def yX1_remove : MethodName := ⟨RX1, "remove", "(I)V"⟩
abbrev cX1_tell : ByteArray := prog_3_method_7_code
def yX1_tell : MethodName := ⟨RX1, "tell", "(II)I"⟩
abbrev cX1_copy : ByteArray := prog_3_method_8_code
def yX1_copy : MethodName := ⟨RX1, "copy", "(LCutLetters$Dictionary;)V"⟩
def RX2 : String := "CutLetters$Net"
def TX2 : u_T := fun k => match k with
  | 0 => ("CutLetters$Net", "lineLength", "I", false)
  | 1 => ("CutLetters$Net", "count", "I", false)
  | 2 => ("CutLetters$Net", "places", "[I", true)
  | 3 => ("CutLetters$Net", "lengths", "[I", true)
  | 4 => ("CutLetters$Net", "kinds", "[I", true)
  | 5 => ("CutLetters$Net", "costs", "[I", true)
  | 6 => ("CutLetters$Net", "words", "[I", true)
  | 7 => ("CutLetters$Net", "firsts", "[I", true)
  | 8 => ("CutLetters$Net", "joins", "[I", true)
  | 9 => ("CutLetters$Net", "slots", "[I", true)
  | _ => ("CutLetters$Net", "routes", "[I", true)
def tyX2 : Nat → FieldType := fun k => match k with
  | 0 => .int
  | 1 => .int
  | 2 => .array .int
  | 3 => .array .int
  | 4 => .array .int
  | 5 => .array .int
  | 6 => .array .int
  | 7 => .array .int
  | 8 => .array .int
  | 9 => .array .int
  | _ => .array .int
abbrev wsX20 : List Cond := u_ws RX2 TX2 11
theorem nmX2 : ∀ a, a < 11 → ∀ b, b < 11 → a ≠ b → (TX2 a).2.1 ≠ (TX2 b).2.1 := by decide +kernel
theorem tyX2_ok : ∀ k, k < 11 → parseFieldDescriptor (TX2 k).2.2.1 = some (tyX2 k) := by decide +kernel
abbrev cX2_init : ByteArray := prog_4_method_1_code
def yX2_init : MethodName := ⟨RX2, "<init>", "()V"⟩
abbrev cX2_make : ByteArray := prog_4_method_2_code
def yX2_make : MethodName := ⟨RX2, "make", "(LCutLetters$Book;)V"⟩
abbrev cX2_fillSlots : ByteArray := prog_4_method_3_code
def yX2_fillSlots : MethodName := ⟨RX2, "fillSlots", "(LCutLetters$Book;I)V"⟩
abbrev cX2_fillWords : ByteArray := prog_4_method_4_code
def yX2_fillWords : MethodName := ⟨RX2, "fillWords", "(LCutLetters$Book;I)Z"⟩
abbrev cX2_fillWild : ByteArray := prog_4_method_5_code
def yX2_fillWild : MethodName := ⟨RX2, "fillWild", "(LCutLetters$Book;I)V"⟩
abbrev cX2_addSlots : ByteArray := prog_4_method_6_code
def yX2_addSlots : MethodName := ⟨RX2, "addSlots", "(LCutLetters$Book;I)V"⟩
abbrev cX2_add : ByteArray := prog_4_method_7_code
def yX2_add : MethodName := ⟨RX2, "add", "(LCutLetters$Book;II)V"⟩
abbrev cX2_joinBefore : ByteArray := prog_4_method_8_code
def yX2_joinBefore : MethodName := ⟨RX2, "joinBefore", "(II)I"⟩
abbrev cX2_joinAtEnd : ByteArray := prog_4_method_9_code
def yX2_joinAtEnd : MethodName := ⟨RX2, "joinAtEnd", "(I)I"⟩
abbrev cX2_countWays : ByteArray := prog_4_method_10_code
def yX2_countWays : MethodName := ⟨RX2, "countWays", "()I"⟩
def RX3 : String := "CutLetters$Pad"
def TX3 : u_T := fun k => match k with
  | 0 => ("CutLetters$Pad", "signs", "[I", true)
  | 1 => ("CutLetters$Pad", "count", "I", false)
  | 2 => ("CutLetters$Pad", "letters", "I", false)
  | 3 => ("CutLetters$Pad", "kind", "I", false)
  | _ => ("CutLetters$Pad", "cost", "I", false)
def tyX3 : Nat → FieldType := fun k => match k with
  | 0 => .array .int
  | 1 => .int
  | 2 => .int
  | 3 => .int
  | _ => .int
abbrev wsX30 : List Cond := u_ws RX3 TX3 5
theorem nmX3 : ∀ a, a < 5 → ∀ b, b < 5 → a ≠ b → (TX3 a).2.1 ≠ (TX3 b).2.1 := by decide +kernel
theorem tyX3_ok : ∀ k, k < 5 → parseFieldDescriptor (TX3 k).2.2.1 = some (tyX3 k) := by decide +kernel
abbrev cX3_init : ByteArray := prog_5_method_1_code
def yX3_init : MethodName := ⟨RX3, "<init>", "()V"⟩
abbrev cX3_add : ByteArray := prog_5_method_2_code
def yX3_add : MethodName := ⟨RX3, "add", "(I)Z"⟩
abbrev cX3_clear : ByteArray := prog_5_method_3_code
def yX3_clear : MethodName := ⟨RX3, "clear", "()V"⟩
abbrev cX3_readLine : ByteArray := prog_5_method_4_code
def yX3_readLine : MethodName := ⟨RX3, "readLine", "()I"⟩
abbrev cX3_readWord : ByteArray := prog_5_method_5_code
def yX3_readWord : MethodName := ⟨RX3, "readWord", "()I"⟩
abbrev cX3_readCost : ByteArray := prog_5_method_6_code
def yX3_readCost : MethodName := ⟨RX3, "readCost", "(I)I"⟩
abbrev cX3_leadingLetters : ByteArray := prog_5_method_7_code
def yX3_leadingLetters : MethodName := ⟨RX3, "leadingLetters", "(I)I"⟩
abbrev cX3_signAt : ByteArray := prog_5_method_8_code
def yX3_signAt : MethodName := ⟨RX3, "signAt", "(I)I"⟩
abbrev cX3_kindNamedAt : ByteArray := prog_5_method_9_code
def yX3_kindNamedAt : MethodName := ⟨RX3, "kindNamedAt", "(I)I"⟩
abbrev cX3_nameStandsAt : ByteArray := prog_5_method_10_code
def yX3_nameStandsAt : MethodName := ⟨RX3, "nameStandsAt", "(II)Z"⟩
abbrev cX3_isLetter : ByteArray := prog_5_method_11_code
def yX3_isLetter : MethodName := ⟨RX3, "isLetter", "(I)Z"⟩
abbrev cX3_isFigure : ByteArray := prog_5_method_12_code
def yX3_isFigure : MethodName := ⟨RX3, "isFigure", "(I)Z"⟩
def RX4 : String := "CutLetters$Ranking"
def TX4 : u_T := fun k => match k with
  | 0 => ("CutLetters$Ranking", "before", "[I", true)
  | 1 => ("CutLetters$Ranking", "counts", "[I", true)
  | 2 => ("CutLetters$Ranking", "kept", "[I", true)
  | _ => ("CutLetters$Ranking", "followed", "[I", true)
def tyX4 : Nat → FieldType := fun k => match k with
  | 0 => .array .int
  | 1 => .array .int
  | 2 => .array .int
  | _ => .array .int
abbrev wsX40 : List Cond := u_ws RX4 TX4 4
theorem nmX4 : ∀ a, a < 4 → ∀ b, b < 4 → a ≠ b → (TX4 a).2.1 ≠ (TX4 b).2.1 := by decide +kernel
theorem tyX4_ok : ∀ k, k < 4 → parseFieldDescriptor (TX4 k).2.2.1 = some (tyX4 k) := by decide +kernel
abbrev cX4_init : ByteArray := prog_6_method_1_code
def yX4_init : MethodName := ⟨RX4, "<init>", "()V"⟩
abbrev cX4_make : ByteArray := prog_6_method_2_code
def yX4_make : MethodName := ⟨RX4, "make", "(LCutLetters$Net;)V"⟩
abbrev cX4_rankEnds : ByteArray := prog_6_method_3_code
def yX4_rankEnds : MethodName := ⟨RX4, "rankEnds", "(LCutLetters$Net;)V"⟩
abbrev cX4_rankSpot : ByteArray := prog_6_method_4_code
def yX4_rankSpot : MethodName := ⟨RX4, "rankSpot", "(LCutLetters$Net;II)V"⟩
abbrev cX4_offerWays : ByteArray := prog_6_method_5_code
def yX4_offerWays : MethodName := ⟨RX4, "offerWays", "(LCutLetters$Net;III)V"⟩
abbrev cX4_offer : ByteArray := prog_6_method_6_code
def yX4_offer : MethodName := ⟨RX4, "offer", "(II)Z"⟩
abbrev cX4_spotBehind : ByteArray := prog_6_method_7_code
def yX4_spotBehind : MethodName := ⟨RX4, "spotBehind", "(LCutLetters$Net;I)I"⟩
abbrev cX4_reachSpots : ByteArray := prog_6_method_8_code
def yX4_reachSpots : MethodName := ⟨RX4, "reachSpots", "(LCutLetters$Net;)V"⟩
abbrev cX4_leastUpTo : ByteArray := prog_6_method_9_code
def yX4_leastUpTo : MethodName := ⟨RX4, "leastUpTo", "(LCutLetters$Net;I)I"⟩
abbrev cX4_leastWith : ByteArray := prog_6_method_10_code
def yX4_leastWith : MethodName := ⟨RX4, "leastWith", "(LCutLetters$Net;I)I"⟩
abbrev cX4_cuttings : ByteArray := prog_6_method_11_code
def yX4_cuttings : MethodName := ⟨RX4, "cuttings", "()I"⟩
abbrev cX4_costOf : ByteArray := prog_6_method_12_code
def yX4_costOf : MethodName := ⟨RX4, "costOf", "(I)I"⟩
abbrev cX4_follow : ByteArray := prog_6_method_13_code
def yX4_follow : MethodName := ⟨RX4, "follow", "(LCutLetters$Net;I)I"⟩
abbrev cX4_surePlaces : ByteArray := prog_6_method_14_code
def yX4_surePlaces : MethodName := ⟨RX4, "surePlaces", "(LCutLetters$Net;I)I"⟩
def RX5 : String := "CutLetters$Writing"
def TX5 : u_T := fun k => match k with
  | 0 => ("CutLetters$Writing", "signs", "[I", true)
  | _ => ("CutLetters$Writing", "count", "I", false)
def tyX5 : Nat → FieldType := fun k => match k with
  | 0 => .array .int
  | _ => .int
abbrev wsX50 : List Cond := u_ws RX5 TX5 2
theorem nmX5 : ∀ a, a < 2 → ∀ b, b < 2 → a ≠ b → (TX5 a).2.1 ≠ (TX5 b).2.1 := by decide +kernel
theorem tyX5_ok : ∀ k, k < 2 → parseFieldDescriptor (TX5 k).2.2.1 = some (tyX5 k) := by decide +kernel
abbrev cX5_init : ByteArray := prog_7_method_1_code
def yX5_init : MethodName := ⟨RX5, "<init>", "()V"⟩
abbrev cX5_write : ByteArray := prog_7_method_2_code
def yX5_write : MethodName := ⟨RX5, "write", "(ILCutLetters$Ranking;LCutLetters$Net;LCutLetters$Book;)V"⟩
abbrev cX5_writePiece : ByteArray := prog_7_method_3_code
def yX5_writePiece : MethodName := ⟨RX5, "writePiece", "(ILCutLetters$Net;LCutLetters$Book;)V"⟩
abbrev cX5_add : ByteArray := prog_7_method_4_code
def yX5_add : MethodName := ⟨RX5, "add", "(I)V"⟩
def RX6 : String := "CutLetters"
def TX6 : u_T := fun k => match k with
  | 0 => ("CutLetters", "pad", "LCutLetters$Pad;", true)
  | 1 => ("CutLetters", "book", "LCutLetters$Book;", true)
  | 2 => ("CutLetters", "images", "[LCutLetters$Book;", true)
  | 3 => ("CutLetters", "net", "LCutLetters$Net;", true)
  | 4 => ("CutLetters", "ranking", "LCutLetters$Ranking;", true)
  | 5 => ("CutLetters", "writing", "LCutLetters$Writing;", true)
  | 6 => ("CutLetters", "netStands", "Z", false)
  | _ => ("CutLetters", "rankingStands", "Z", false)
def tyX6 : Nat → FieldType := fun k => match k with
  | 0 => .object "CutLetters$Pad"
  | 1 => .object "CutLetters$Book"
  | 2 => .array (.object "CutLetters$Book")
  | 3 => .object "CutLetters$Net"
  | 4 => .object "CutLetters$Ranking"
  | 5 => .object "CutLetters$Writing"
  | 6 => .boolean
  | _ => .boolean
abbrev wsX60 : List Cond := u_ws RX6 TX6 8
theorem nmX6 : ∀ a, a < 8 → ∀ b, b < 8 → a ≠ b → (TX6 a).2.1 ≠ (TX6 b).2.1 := by decide +kernel
theorem tyX6_ok : ∀ k, k < 8 → parseFieldDescriptor (TX6 k).2.2.1 = some (tyX6 k) := by decide +kernel
abbrev cX6_init : ByteArray := prog_1_method_1_code
def yX6_init : MethodName := ⟨RX6, "<init>", "()V"⟩
abbrev cX6_say : ByteArray := prog_1_method_2_code
def yX6_say : MethodName := ⟨RX6, "say", "(I)I"⟩
abbrev cX6_wipe : ByteArray := prog_1_method_3_code
def yX6_wipe : MethodName := ⟨RX6, "wipe", "()I"⟩
abbrev cX6_fault : ByteArray := prog_1_method_4_code
def yX6_fault : MethodName := ⟨RX6, "fault", "(I)I"⟩
abbrev cX6_learn : ByteArray := prog_1_method_5_code
def yX6_learn : MethodName := ⟨RX6, "learn", "()I"⟩
abbrev cX6_forget : ByteArray := prog_1_method_6_code
def yX6_forget : MethodName := ⟨RX6, "forget", "(I)I"⟩
abbrev cX6_word : ByteArray := prog_1_method_7_code
def yX6_word : MethodName := ⟨RX6, "word", "(II)I"⟩
abbrev cX6_line : ByteArray := prog_1_method_8_code
def yX6_line : MethodName := ⟨RX6, "line", "()I"⟩
abbrev cX6_join : ByteArray := prog_1_method_9_code
def yX6_join : MethodName := ⟨RX6, "join", "(III)I"⟩
abbrev cX6_rule : ByteArray := prog_1_method_10_code
def yX6_rule : MethodName := ⟨RX6, "rule", "(II)I"⟩
abbrev cX6_pieces : ByteArray := prog_1_method_11_code
def yX6_pieces : MethodName := ⟨RX6, "pieces", "()I"⟩
abbrev cX6_piece : ByteArray := prog_1_method_12_code
def yX6_piece : MethodName := ⟨RX6, "piece", "(II)I"⟩
abbrev cX6_ways : ByteArray := prog_1_method_13_code
def yX6_ways : MethodName := ⟨RX6, "ways", "()I"⟩
abbrev cX6_cutting : ByteArray := prog_1_method_14_code
def yX6_cutting : MethodName := ⟨RX6, "cutting", "(II)I"⟩
abbrev cX6_sure : ByteArray := prog_1_method_15_code
def yX6_sure : MethodName := ⟨RX6, "sure", "(I)I"⟩
abbrev cX6_sign : ByteArray := prog_1_method_16_code
def yX6_sign : MethodName := ⟨RX6, "sign", "(II)I"⟩
abbrev cX6_image : ByteArray := prog_1_method_17_code
def yX6_image : MethodName := ⟨RX6, "image", "(I)I"⟩
abbrev cX6_restore : ByteArray := prog_1_method_18_code
def yX6_restore : MethodName := ⟨RX6, "restore", "(I)I"⟩
abbrev cX6_told : ByteArray := prog_1_method_19_code
def yX6_told : MethodName := ⟨RX6, "told", "(I)I"⟩
abbrev cX6_isJoin : ByteArray := prog_1_method_20_code
def yX6_isJoin : MethodName := ⟨RX6, "isJoin", "(II)Z"⟩
abbrev cX6_hasLine : ByteArray := prog_1_method_21_code
def yX6_hasLine : MethodName := ⟨RX6, "hasLine", "()Z"⟩
abbrev cX6_somethingChanged : ByteArray := prog_1_method_22_code
def yX6_somethingChanged : MethodName := ⟨RX6, "somethingChanged", "()V"⟩
abbrev cX6_makeNet : ByteArray := prog_1_method_23_code
def yX6_makeNet : MethodName := ⟨RX6, "makeNet", "()V"⟩
abbrev cX6_makeRanking : ByteArray := prog_1_method_24_code
def yX6_makeRanking : MethodName := ⟨RX6, "makeRanking", "()V"⟩
def RX7 : String := "CutLettersModel"
def TX7 : u_T := fun k => match k with
  | 0 => ("CutLettersModel", "letters", "[I", true)
  | 1 => ("CutLettersModel", "size", "[I", true)
  | 2 => ("CutLettersModel", "kind", "[I", true)
  | 3 => ("CutLettersModel", "cost", "[I", true)
  | 4 => ("CutLettersModel", "words", "I", false)
  | 5 => ("CutLettersModel", "joins", "[I", true)
  | 6 => ("CutLettersModel", "rules", "[I", true)
  | 7 => ("CutLettersModel", "line", "[I", true)
  | 8 => ("CutLettersModel", "long1", "I", false)
  | 9 => ("CutLettersModel", "signs", "I", false)
  | 10 => ("CutLettersModel", "pad", "[I", true)
  | 11 => ("CutLettersModel", "readSize", "I", false)
  | 12 => ("CutLettersModel", "readKind", "I", false)
  | 13 => ("CutLettersModel", "readCost", "I", false)
  | 14 => ("CutLettersModel", "place", "[I", true)
  | 15 => ("CutLettersModel", "length", "[I", true)
  | 16 => ("CutLettersModel", "sort", "[I", true)
  | 17 => ("CutLettersModel", "price", "[I", true)
  | 18 => ("CutLettersModel", "of", "[I", true)
  | 19 => ("CutLettersModel", "begins", "[I", true)
  | 20 => ("CutLettersModel", "many", "I", false)
  | 21 => ("CutLettersModel", "rowCost", "[I", true)
  | 22 => ("CutLettersModel", "rowNext", "[I", true)
  | 23 => ("CutLettersModel", "rows", "[I", true)
  | 24 => ("CutLettersModel", "ahead", "[I", true)
  | 25 => ("CutLettersModel", "waysTo", "[I", true)
  | 26 => ("CutLettersModel", "image", "[I", true)
  | _ => ("CutLettersModel", "isKept", "[Z", true)
def tyX7 : Nat → FieldType := fun k => match k with
  | 0 => .array .int
  | 1 => .array .int
  | 2 => .array .int
  | 3 => .array .int
  | 4 => .int
  | 5 => .array .int
  | 6 => .array .int
  | 7 => .array .int
  | 8 => .int
  | 9 => .int
  | 10 => .array .int
  | 11 => .int
  | 12 => .int
  | 13 => .int
  | 14 => .array .int
  | 15 => .array .int
  | 16 => .array .int
  | 17 => .array .int
  | 18 => .array .int
  | 19 => .array .int
  | 20 => .int
  | 21 => .array .int
  | 22 => .array .int
  | 23 => .array .int
  | 24 => .array .int
  | 25 => .array .int
  | 26 => .array .int
  | _ => .array .boolean
abbrev wsX70 : List Cond := u_ws RX7 TX7 28
theorem nmX7 : ∀ a, a < 28 → ∀ b, b < 28 → a ≠ b → (TX7 a).2.1 ≠ (TX7 b).2.1 := by decide +kernel
theorem tyX7_ok : ∀ k, k < 28 → parseFieldDescriptor (TX7 k).2.2.1 = some (tyX7 k) := by decide +kernel
abbrev cX7_init : ByteArray := prog_9_method_1_code
def yX7_init : MethodName := ⟨RX7, "<init>", "()V"⟩
abbrev cX7_in : ByteArray := prog_9_method_2_code
def yX7_in : MethodName := ⟨RX7, "in", "(III)Z"⟩
abbrev cX7_isLetter : ByteArray := prog_9_method_3_code
def yX7_isLetter : MethodName := ⟨RX7, "isLetter", "(I)Z"⟩
abbrev cX7_say : ByteArray := prog_9_method_4_code
def yX7_say : MethodName := ⟨RX7, "say", "(I)I"⟩
abbrev cX7_wipe : ByteArray := prog_9_method_5_code
def yX7_wipe : MethodName := ⟨RX7, "wipe", "()I"⟩
abbrev cX7_name : ByteArray := prog_9_method_6_code
def yX7_name : MethodName := ⟨RX7, "name", "(II)I"⟩
abbrev cX7_wordFault : ByteArray := prog_9_method_7_code
def yX7_wordFault : MethodName := ⟨RX7, "wordFault", "()I"⟩
abbrev cX7_lineFault : ByteArray := prog_9_method_8_code
def yX7_lineFault : MethodName := ⟨RX7, "lineFault", "()I"⟩
abbrev cX7_fault : ByteArray := prog_9_method_9_code
def yX7_fault : MethodName := ⟨RX7, "fault", "(I)I"⟩
abbrev cX7_learn : ByteArray := prog_9_method_10_code
def yX7_learn : MethodName := ⟨RX7, "learn", "()I"⟩
abbrev cX7_forget : ByteArray := prog_9_method_11_code
def yX7_forget : MethodName := ⟨RX7, "forget", "(I)I"⟩
abbrev cX7_word : ByteArray := prog_9_method_12_code
def yX7_word : MethodName := ⟨RX7, "word", "(II)I"⟩
abbrev cX7_line : ByteArray := prog_9_method_13_code
def yX7_line : MethodName := ⟨RX7, "line", "()I"⟩
abbrev cX7_join : ByteArray := prog_9_method_14_code
def yX7_join : MethodName := ⟨RX7, "join", "(III)I"⟩
abbrev cX7_rule : ByteArray := prog_9_method_15_code
def yX7_rule : MethodName := ⟨RX7, "rule", "(II)I"⟩
abbrev cX7_stands : ByteArray := prog_9_method_16_code
def yX7_stands : MethodName := ⟨RX7, "stands", "(II)Z"⟩
abbrev cX7_classOf : ByteArray := prog_9_method_17_code
def yX7_classOf : MethodName := ⟨RX7, "classOf", "(I)I"⟩
abbrev cX7_put : ByteArray := prog_9_method_18_code
def yX7_put : MethodName := ⟨RX7, "put", "(IIIII)V"⟩
abbrev cX7_layPieces : ByteArray := prog_9_method_19_code
def yX7_layPieces : MethodName := ⟨RX7, "layPieces", "()V"⟩
abbrev cX7_behind : ByteArray := prog_9_method_20_code
def yX7_behind : MethodName := ⟨RX7, "behind", "(I)I"⟩
abbrev cX7_joinOf : ByteArray := prog_9_method_21_code
def yX7_joinOf : MethodName := ⟨RX7, "joinOf", "(II)I"⟩
abbrev cX7_layRows : ByteArray := prog_9_method_22_code
def yX7_layRows : MethodName := ⟨RX7, "layRows", "()V"⟩
abbrev cX7_cuttingOf : ByteArray := prog_9_method_23_code
def yX7_cuttingOf : MethodName := ⟨RX7, "cuttingOf", "(I)I"⟩
abbrev cX7_costOf : ByteArray := prog_9_method_24_code
def yX7_costOf : MethodName := ⟨RX7, "costOf", "(I)I"⟩
abbrev cX7_next : ByteArray := prog_9_method_25_code
def yX7_next : MethodName := ⟨RX7, "next", "(I)I"⟩
abbrev cX7_pieces : ByteArray := prog_9_method_26_code
def yX7_pieces : MethodName := ⟨RX7, "pieces", "()I"⟩
abbrev cX7_leastOf : ByteArray := prog_9_method_27_code
def yX7_leastOf : MethodName := ⟨RX7, "leastOf", "(I)I"⟩
abbrev cX7_piece : ByteArray := prog_9_method_28_code
def yX7_piece : MethodName := ⟨RX7, "piece", "(II)I"⟩
abbrev cX7_ways : ByteArray := prog_9_method_29_code
def yX7_ways : MethodName := ⟨RX7, "ways", "()I"⟩
abbrev cX7_cutting : ByteArray := prog_9_method_30_code
def yX7_cutting : MethodName := ⟨RX7, "cutting", "(II)I"⟩
abbrev cX7_sure : ByteArray := prog_9_method_31_code
def yX7_sure : MethodName := ⟨RX7, "sure", "(I)I"⟩
abbrev cX7_sign : ByteArray := prog_9_method_32_code
def yX7_sign : MethodName := ⟨RX7, "sign", "(II)I"⟩
abbrev cX7_image : ByteArray := prog_9_method_33_code
def yX7_image : MethodName := ⟨RX7, "image", "(I)I"⟩
abbrev cX7_restore : ByteArray := prog_9_method_34_code
def yX7_restore : MethodName := ⟨RX7, "restore", "(I)I"⟩
abbrev cX7_told : ByteArray := prog_9_method_35_code
def yX7_told : MethodName := ⟨RX7, "told", "(I)I"⟩
def RJ9 : String := "java/lang/Math"
def TJ9 : u_T := fun k => match k with
  | _ => ("", "", "", false)
def tyJ9 : Nat → FieldType := fun k => match k with
  | _ => .int
abbrev cJ9_min_7cf53 : ByteArray := prog_10_method_69_code
def yJ9_min_7cf53 : MethodName := ⟨RJ9, "min", "(II)I"⟩
def RJ0 : String := "java/lang/String"
def TJ0 : u_T := fun k => match k with
  | _ => ("", "", "", false)
def tyJ0 : Nat → FieldType := fun k => match k with
  | _ => .int
abbrev cJ0_charAt_5068e : ByteArray := prog_11_method_56_code
def yJ0_charAt_5068e : MethodName := ⟨RJ0, "charAt", "(I)C"⟩
abbrev cJ0_isLatin1_aae02 : ByteArray := prog_11_method_154_code
def yJ0_isLatin1_aae02 : MethodName := ⟨RJ0, "isLatin1", "()Z"⟩
abbrev cJ0_checkIndex_df160 : ByteArray := prog_11_method_155_code
def yJ0_checkIndex_df160 : MethodName := ⟨RJ0, "checkIndex", "(II)V"⟩
def RJ1 : String := "java/lang/StringLatin1"
def TJ1 : u_T := fun k => match k with
  | _ => ("", "", "", false)
def tyJ1 : Nat → FieldType := fun k => match k with
  | _ => .int
abbrev cJ1_charAt_3b067 : ByteArray := prog_12_method_2_code
def yJ1_charAt_3b067 : MethodName := ⟨RJ1, "charAt", "([BI)C"⟩
def RJ2 : String := "java/lang/StringUTF16"
def TJ2 : u_T := fun k => match k with
  | _ => ("", "", "", false)
def tyJ2 : Nat → FieldType := fun k => match k with
  | _ => .int
abbrev cJ2_getChar_3b067 : ByteArray := prog_13_method_5_code
def yJ2_getChar_3b067 : MethodName := ⟨RJ2, "getChar", "([BI)C"⟩
abbrev cJ2_length_9d52b : ByteArray := prog_13_method_6_code
def yJ2_length_9d52b : MethodName := ⟨RJ2, "length", "([B)I"⟩
abbrev cJ2_charAt_3b067 : ByteArray := prog_13_method_83_code
def yJ2_charAt_3b067 : MethodName := ⟨RJ2, "charAt", "([BI)C"⟩
abbrev cJ2_checkIndex_2214a : ByteArray := prog_13_method_91_code
def yJ2_checkIndex_2214a : MethodName := ⟨RJ2, "checkIndex", "(I[B)V"⟩
def RJ10 : String := "java/lang/System"
def TJ10 : u_T := fun k => match k with
  | _ => ("", "", "", false)
def tyJ10 : Nat → FieldType := fun k => match k with
  | _ => .int
def RJ3 : String := "jdk/internal/util/Preconditions"
def TJ3 : u_T := fun k => match k with
  | _ => ("", "", "", false)
def tyJ3 : Nat → FieldType := fun k => match k with
  | _ => .int
abbrev cJ3_checkIndex_8e157 : ByteArray := prog_15_method_11_code
def yJ3_checkIndex_8e157 : MethodName := ⟨RJ3, "checkIndex", "(IILjava/util/function/BiFunction;)I"⟩
def RL : String := "CutLettersLaw"
abbrev cL_law : ByteArray := code
def yL_law : MethodName := ⟨RL, "law", "([I)Z"⟩
abbrev vwCl : List vw_C := [(RX0, TX0, 5), (RX1, TX1, 5), (RX2, TX2, 11), (RX3, TX3, 5), (RX4, TX4, 4), (RX5, TX5, 2), (RX6, TX6, 8), (RX7, TX7, 28)]
def zTs : List Cond := lw_tbl.filter goodWord
theorem zTs_tbl {w : Cond} (h : w ∈ zTs) : w ∈ lw_tbl := (List.mem_filter.mp h).1
theorem zTs_good {w : Cond} (h : w ∈ zTs) : goodWord w = true := (List.mem_filter.mp h).2
theorem zin {w : Cond} (i : Nat) (h : lw_tbl[i]? = some w) (hg : goodWord w = true) : w ∈ zTs := List.mem_filter.mpr ⟨List.mem_of_getElem? h, hg⟩
theorem zin_l {ws : List Cond} (ps : List Nat) (h : ws.map some = ps.map (fun i => lw_tbl[i]?)) (hg : ws.all goodWord = true) : ∀ w ∈ ws, w ∈ zTs := by
  intro w hw
  have h1 : some w ∈ ps.map (fun i => lw_tbl[i]?) := by rw [← h]; exact List.mem_map_of_mem hw
  obtain ⟨i, -, hi⟩ := List.mem_map.mp h1
  exact zin i hi (List.all_eq_true.mp hg w hw)
end
section
theorem inX0z : ∀ w ∈ wsX00, w ∈ zTs := zin_l [137, 139, 141, 143, 145] (by decide +kernel) (by decide +kernel)
theorem inX1z : ∀ w ∈ wsX10, w ∈ zTs := zin_l [110, 112, 114, 116, 118] (by decide +kernel) (by decide +kernel)
theorem inX2z : ∀ w ∈ wsX20, w ∈ zTs := zin_l [182, 184, 186, 188, 190, 192, 194, 196, 198, 200, 202] (by decide +kernel) (by decide +kernel)
theorem inX3z : ∀ w ∈ wsX30, w ∈ zTs := zin_l [76, 78, 80, 82, 84] (by decide +kernel) (by decide +kernel)
theorem inX4z : ∀ w ∈ wsX40, w ∈ zTs := zin_l [217, 219, 221, 223] (by decide +kernel) (by decide +kernel)
theorem inX5z : ∀ w ∈ wsX50, w ∈ zTs := zin_l [236, 238] (by decide +kernel) (by decide +kernel)
theorem inX6z : ∀ w ∈ wsX60, w ∈ zTs := zin_l [249, 251, 253, 255, 257, 259, 261, 263] (by decide +kernel) (by decide +kernel)
theorem inX7z : ∀ w ∈ wsX70, w ∈ zTs := zin_l [634, 636, 638, 640, 642, 644, 646, 648, 650, 652, 654, 656, 658, 660, 662, 664, 666, 668, 670, 672, 674, 676, 678, 680, 682, 684, 686, 688] (by decide +kernel) (by decide +kernel)
theorem it_L : Cond.initialized RL ∈ zTs := zin 35 (by decide +kernel) (by decide +kernel)
theorem it_X6 : Cond.initialized RX6 ∈ zTs := zin 36 (by decide +kernel) (by decide +kernel)
theorem it_X3 : Cond.initialized RX3 ∈ zTs := zin 37 (by decide +kernel) (by decide +kernel)
theorem it_X0 : Cond.initialized RX0 ∈ zTs := zin 38 (by decide +kernel) (by decide +kernel)
theorem it_X1 : Cond.initialized RX1 ∈ zTs := zin 39 (by decide +kernel) (by decide +kernel)
theorem it_X2 : Cond.initialized RX2 ∈ zTs := zin 40 (by decide +kernel) (by decide +kernel)
theorem it_X4 : Cond.initialized RX4 ∈ zTs := zin 41 (by decide +kernel) (by decide +kernel)
theorem it_X5 : Cond.initialized RX5 ∈ zTs := zin 42 (by decide +kernel) (by decide +kernel)
theorem it_X7 : Cond.initialized RX7 ∈ zTs := zin 43 (by decide +kernel) (by decide +kernel)
theorem it_J0 : Cond.initialized RJ0 ∈ zTs := zin 44 (by decide +kernel) (by decide +kernel)
theorem it_J1 : Cond.initialized RJ1 ∈ zTs := zin 45 (by decide +kernel) (by decide +kernel)
theorem it_J3 : Cond.initialized RJ3 ∈ zTs := zin 46 (by decide +kernel) (by decide +kernel)
theorem it_J2 : Cond.initialized RJ2 ∈ zTs := zin 47 (by decide +kernel) (by decide +kernel)
theorem it_J10 : Cond.initialized RJ10 ∈ zTs := zin 48 (by decide +kernel) (by decide +kernel)
theorem it_J9 : Cond.initialized RJ9 ∈ zTs := zin 49 (by decide +kernel) (by decide +kernel)
theorem cl_L_7 : Cond.classLink RL 7 RX6 ∈ zTs := zin 50 (by decide +kernel) (by decide +kernel)
theorem ia_X6 : Cond.instantiable RX6 8 ∈ zTs := zin 51 (by decide +kernel) (by decide +kernel)
theorem ml_L_9 : Cond.methodLink RL 9 yX6_init ∈ zTs := zin 52 (by decide +kernel) (by decide +kernel)
theorem im_X6_init : Cond.instanceMethod yX6_init ∈ zTs := zin 53 (by decide +kernel) (by decide +kernel)
theorem co_X6_init : Cond.code yX6_init cX6_init 1 none ∈ zTs := zin 54 (by decide +kernel) (by decide +kernel)
theorem ml_X6_1 : Cond.methodLink RX6 1 (⟨"java/lang/Object", "<init>", "()V"⟩ : MethodName) ∈ zTs := zin 55 (by decide +kernel) (by decide +kernel)
theorem im_java_lang_Object__init_ : Cond.instanceMethod (⟨"java/lang/Object", "<init>", "()V"⟩ : MethodName) ∈ zTs := zin 56 (by decide +kernel) (by decide +kernel)
theorem co_objInit : Cond.code Lib.objectInit ⟨#[0xb1]⟩ 1 none ∈ zTs := zin 57 (by decide +kernel) (by decide +kernel)
theorem cl_X6_7 : Cond.classLink RX6 7 RX3 ∈ zTs := zin 58 (by decide +kernel) (by decide +kernel)
theorem ia_X3 : Cond.instantiable RX3 5 ∈ zTs := zin 59 (by decide +kernel) (by decide +kernel)
theorem ml_X6_9 : Cond.methodLink RX6 9 yX3_init ∈ zTs := zin 60 (by decide +kernel) (by decide +kernel)
theorem im_X3_init : Cond.instanceMethod yX3_init ∈ zTs := zin 61 (by decide +kernel) (by decide +kernel)
theorem co_X3_init : Cond.code yX3_init cX3_init 1 none ∈ zTs := zin 62 (by decide +kernel) (by decide +kernel)
theorem ml_X3_3 : Cond.methodLink RX3 3 (⟨"java/lang/Object", "<init>", "()V"⟩ : MethodName) ∈ zTs := zin 63 (by decide +kernel) (by decide +kernel)
theorem fl_X3_9 : Cond.fieldLink RX3 9 "CutLetters$Pad" "signs" "[I" ∈ zTs := zin 64 (by decide +kernel) (by decide +kernel)
theorem fl_X0_43 : Cond.fieldLink RX0 43 "CutLetters$Pad" "signs" "[I" ∈ zTs := zin 65 (by decide +kernel) (by decide +kernel)
theorem fl_X1_39 : Cond.fieldLink RX1 39 "CutLetters$Pad" "signs" "[I" ∈ zTs := zin 66 (by decide +kernel) (by decide +kernel)
theorem fl_X3_15 : Cond.fieldLink RX3 15 "CutLetters$Pad" "count" "I" ∈ zTs := zin 67 (by decide +kernel) (by decide +kernel)
theorem fl_X0_28 : Cond.fieldLink RX0 28 "CutLetters$Pad" "count" "I" ∈ zTs := zin 68 (by decide +kernel) (by decide +kernel)
theorem fl_X6_52 : Cond.fieldLink RX6 52 "CutLetters$Pad" "count" "I" ∈ zTs := zin 69 (by decide +kernel) (by decide +kernel)
theorem fl_X1_32 : Cond.fieldLink RX1 32 "CutLetters$Pad" "letters" "I" ∈ zTs := zin 70 (by decide +kernel) (by decide +kernel)
theorem fl_X3_23 : Cond.fieldLink RX3 23 "CutLetters$Pad" "letters" "I" ∈ zTs := zin 71 (by decide +kernel) (by decide +kernel)
theorem fl_X1_36 : Cond.fieldLink RX1 36 "CutLetters$Pad" "kind" "I" ∈ zTs := zin 72 (by decide +kernel) (by decide +kernel)
theorem fl_X3_32 : Cond.fieldLink RX3 32 "CutLetters$Pad" "kind" "I" ∈ zTs := zin 73 (by decide +kernel) (by decide +kernel)
theorem fl_X1_48 : Cond.fieldLink RX1 48 "CutLetters$Pad" "cost" "I" ∈ zTs := zin 74 (by decide +kernel) (by decide +kernel)
theorem fl_X3_46 : Cond.fieldLink RX3 46 "CutLetters$Pad" "cost" "I" ∈ zTs := zin 75 (by decide +kernel) (by decide +kernel)
theorem ac_Jvm_ClassFile_FieldType_int : Cond.arrayClass Jvm.ClassFile.FieldType.int ∈ zTs := zin 87 (by decide +kernel) (by decide +kernel)
theorem cl_X6_16 : Cond.classLink RX6 16 RX0 ∈ zTs := zin 88 (by decide +kernel) (by decide +kernel)
theorem ia_X0 : Cond.instantiable RX0 5 ∈ zTs := zin 89 (by decide +kernel) (by decide +kernel)
theorem ml_X6_18 : Cond.methodLink RX6 18 yX0_init ∈ zTs := zin 90 (by decide +kernel) (by decide +kernel)
theorem im_X0_init : Cond.instanceMethod yX0_init ∈ zTs := zin 91 (by decide +kernel) (by decide +kernel)
theorem co_X0_init : Cond.code yX0_init cX0_init 1 none ∈ zTs := zin 92 (by decide +kernel) (by decide +kernel)
theorem ml_X0_3 : Cond.methodLink RX0 3 (⟨"java/lang/Object", "<init>", "()V"⟩ : MethodName) ∈ zTs := zin 93 (by decide +kernel) (by decide +kernel)
theorem cl_X0_9 : Cond.classLink RX0 9 RX1 ∈ zTs := zin 94 (by decide +kernel) (by decide +kernel)
theorem ia_X1 : Cond.instantiable RX1 5 ∈ zTs := zin 95 (by decide +kernel) (by decide +kernel)
theorem ml_X0_11 : Cond.methodLink RX0 11 yX1_init ∈ zTs := zin 96 (by decide +kernel) (by decide +kernel)
theorem im_X1_init : Cond.instanceMethod yX1_init ∈ zTs := zin 97 (by decide +kernel) (by decide +kernel)
theorem co_X1_init : Cond.code yX1_init cX1_init 1 none ∈ zTs := zin 98 (by decide +kernel) (by decide +kernel)
theorem ml_X1_3 : Cond.methodLink RX1 3 (⟨"java/lang/Object", "<init>", "()V"⟩ : MethodName) ∈ zTs := zin 99 (by decide +kernel) (by decide +kernel)
theorem fl_X1_9 : Cond.fieldLink RX1 9 "CutLetters$Dictionary" "letters" "[I" ∈ zTs := zin 100 (by decide +kernel) (by decide +kernel)
theorem fl_X1_15 : Cond.fieldLink RX1 15 "CutLetters$Dictionary" "lengths" "[I" ∈ zTs := zin 101 (by decide +kernel) (by decide +kernel)
theorem fl_X2_87 : Cond.fieldLink RX2 87 "CutLetters$Dictionary" "lengths" "[I" ∈ zTs := zin 102 (by decide +kernel) (by decide +kernel)
theorem fl_X1_18 : Cond.fieldLink RX1 18 "CutLetters$Dictionary" "kinds" "[I" ∈ zTs := zin 103 (by decide +kernel) (by decide +kernel)
theorem fl_X2_88 : Cond.fieldLink RX2 88 "CutLetters$Dictionary" "kinds" "[I" ∈ zTs := zin 104 (by decide +kernel) (by decide +kernel)
theorem fl_X1_21 : Cond.fieldLink RX1 21 "CutLetters$Dictionary" "costs" "[I" ∈ zTs := zin 105 (by decide +kernel) (by decide +kernel)
theorem fl_X2_97 : Cond.fieldLink RX2 97 "CutLetters$Dictionary" "costs" "[I" ∈ zTs := zin 106 (by decide +kernel) (by decide +kernel)
theorem fl_X1_24 : Cond.fieldLink RX1 24 "CutLetters$Dictionary" "count" "I" ∈ zTs := zin 107 (by decide +kernel) (by decide +kernel)
theorem fl_X2_77 : Cond.fieldLink RX2 77 "CutLetters$Dictionary" "count" "I" ∈ zTs := zin 108 (by decide +kernel) (by decide +kernel)
theorem fl_X6_86 : Cond.fieldLink RX6 86 "CutLetters$Dictionary" "count" "I" ∈ zTs := zin 109 (by decide +kernel) (by decide +kernel)
theorem fl_X0_12 : Cond.fieldLink RX0 12 "CutLetters$Book" "dictionary" "LCutLetters$Dictionary;" ∈ zTs := zin 121 (by decide +kernel) (by decide +kernel)
theorem fl_X2_73 : Cond.fieldLink RX2 73 "CutLetters$Book" "dictionary" "LCutLetters$Dictionary;" ∈ zTs := zin 122 (by decide +kernel) (by decide +kernel)
theorem fl_X6_66 : Cond.fieldLink RX6 66 "CutLetters$Book" "dictionary" "LCutLetters$Dictionary;" ∈ zTs := zin 123 (by decide +kernel) (by decide +kernel)
theorem fl_X0_18 : Cond.fieldLink RX0 18 "CutLetters$Book" "joins" "[I" ∈ zTs := zin 124 (by decide +kernel) (by decide +kernel)
theorem fl_X2_46 : Cond.fieldLink RX2 46 "CutLetters$Book" "joins" "[I" ∈ zTs := zin 125 (by decide +kernel) (by decide +kernel)
theorem fl_X6_102 : Cond.fieldLink RX6 102 "CutLetters$Book" "joins" "[I" ∈ zTs := zin 126 (by decide +kernel) (by decide +kernel)
theorem fl_X0_22 : Cond.fieldLink RX0 22 "CutLetters$Book" "rules" "[I" ∈ zTs := zin 127 (by decide +kernel) (by decide +kernel)
theorem fl_X2_67 : Cond.fieldLink RX2 67 "CutLetters$Book" "rules" "[I" ∈ zTs := zin 128 (by decide +kernel) (by decide +kernel)
theorem fl_X6_109 : Cond.fieldLink RX6 109 "CutLetters$Book" "rules" "[I" ∈ zTs := zin 129 (by decide +kernel) (by decide +kernel)
theorem fl_X0_25 : Cond.fieldLink RX0 25 "CutLetters$Book" "line" "[I" ∈ zTs := zin 130 (by decide +kernel) (by decide +kernel)
theorem fl_X5_44 : Cond.fieldLink RX5 44 "CutLetters$Book" "line" "[I" ∈ zTs := zin 131 (by decide +kernel) (by decide +kernel)
theorem fl_X2_80 : Cond.fieldLink RX2 80 "CutLetters$Book" "line" "[I" ∈ zTs := zin 132 (by decide +kernel) (by decide +kernel)
theorem fl_X6_173 : Cond.fieldLink RX6 173 "CutLetters$Book" "line" "[I" ∈ zTs := zin 133 (by decide +kernel) (by decide +kernel)
theorem fl_X2_39 : Cond.fieldLink RX2 39 "CutLetters$Book" "lineLength" "I" ∈ zTs := zin 134 (by decide +kernel) (by decide +kernel)
theorem fl_X0_40 : Cond.fieldLink RX0 40 "CutLetters$Book" "lineLength" "I" ∈ zTs := zin 135 (by decide +kernel) (by decide +kernel)
theorem fl_X6_95 : Cond.fieldLink RX6 95 "CutLetters$Book" "lineLength" "I" ∈ zTs := zin 136 (by decide +kernel) (by decide +kernel)
theorem cl_X6_27 : Cond.classLink RX6 27 RX2 ∈ zTs := zin 149 (by decide +kernel) (by decide +kernel)
theorem ia_X2 : Cond.instantiable RX2 11 ∈ zTs := zin 150 (by decide +kernel) (by decide +kernel)
theorem ml_X6_29 : Cond.methodLink RX6 29 yX2_init ∈ zTs := zin 151 (by decide +kernel) (by decide +kernel)
theorem im_X2_init : Cond.instanceMethod yX2_init ∈ zTs := zin 152 (by decide +kernel) (by decide +kernel)
theorem co_X2_init : Cond.code yX2_init cX2_init 1 none ∈ zTs := zin 153 (by decide +kernel) (by decide +kernel)
theorem ml_X2_3 : Cond.methodLink RX2 3 (⟨"java/lang/Object", "<init>", "()V"⟩ : MethodName) ∈ zTs := zin 154 (by decide +kernel) (by decide +kernel)
theorem fl_X2_45 : Cond.fieldLink RX2 45 "CutLetters$Net" "lineLength" "I" ∈ zTs := zin 155 (by decide +kernel) (by decide +kernel)
theorem fl_X4_31 : Cond.fieldLink RX4 31 "CutLetters$Net" "lineLength" "I" ∈ zTs := zin 156 (by decide +kernel) (by decide +kernel)
theorem fl_X2_53 : Cond.fieldLink RX2 53 "CutLetters$Net" "count" "I" ∈ zTs := zin 157 (by decide +kernel) (by decide +kernel)
theorem fl_X4_77 : Cond.fieldLink RX4 77 "CutLetters$Net" "count" "I" ∈ zTs := zin 158 (by decide +kernel) (by decide +kernel)
theorem fl_X6_119 : Cond.fieldLink RX6 119 "CutLetters$Net" "count" "I" ∈ zTs := zin 159 (by decide +kernel) (by decide +kernel)
theorem fl_X2_9 : Cond.fieldLink RX2 9 "CutLetters$Net" "places" "[I" ∈ zTs := zin 160 (by decide +kernel) (by decide +kernel)
theorem fl_X5_36 : Cond.fieldLink RX5 36 "CutLetters$Net" "places" "[I" ∈ zTs := zin 161 (by decide +kernel) (by decide +kernel)
theorem fl_X4_68 : Cond.fieldLink RX4 68 "CutLetters$Net" "places" "[I" ∈ zTs := zin 162 (by decide +kernel) (by decide +kernel)
theorem fl_X6_120 : Cond.fieldLink RX6 120 "CutLetters$Net" "places" "[I" ∈ zTs := zin 163 (by decide +kernel) (by decide +kernel)
theorem fl_X2_15 : Cond.fieldLink RX2 15 "CutLetters$Net" "lengths" "[I" ∈ zTs := zin 164 (by decide +kernel) (by decide +kernel)
theorem fl_X5_41 : Cond.fieldLink RX5 41 "CutLetters$Net" "lengths" "[I" ∈ zTs := zin 165 (by decide +kernel) (by decide +kernel)
theorem fl_X4_71 : Cond.fieldLink RX4 71 "CutLetters$Net" "lengths" "[I" ∈ zTs := zin 166 (by decide +kernel) (by decide +kernel)
theorem fl_X6_123 : Cond.fieldLink RX6 123 "CutLetters$Net" "lengths" "[I" ∈ zTs := zin 167 (by decide +kernel) (by decide +kernel)
theorem fl_X2_18 : Cond.fieldLink RX2 18 "CutLetters$Net" "kinds" "[I" ∈ zTs := zin 168 (by decide +kernel) (by decide +kernel)
theorem fl_X5_49 : Cond.fieldLink RX5 49 "CutLetters$Net" "kinds" "[I" ∈ zTs := zin 169 (by decide +kernel) (by decide +kernel)
theorem fl_X4_74 : Cond.fieldLink RX4 74 "CutLetters$Net" "kinds" "[I" ∈ zTs := zin 170 (by decide +kernel) (by decide +kernel)
theorem fl_X6_126 : Cond.fieldLink RX6 126 "CutLetters$Net" "kinds" "[I" ∈ zTs := zin 171 (by decide +kernel) (by decide +kernel)
theorem fl_X2_21 : Cond.fieldLink RX2 21 "CutLetters$Net" "costs" "[I" ∈ zTs := zin 172 (by decide +kernel) (by decide +kernel)
theorem fl_X4_53 : Cond.fieldLink RX4 53 "CutLetters$Net" "costs" "[I" ∈ zTs := zin 173 (by decide +kernel) (by decide +kernel)
theorem fl_X6_129 : Cond.fieldLink RX6 129 "CutLetters$Net" "costs" "[I" ∈ zTs := zin 174 (by decide +kernel) (by decide +kernel)
theorem fl_X2_24 : Cond.fieldLink RX2 24 "CutLetters$Net" "words" "[I" ∈ zTs := zin 175 (by decide +kernel) (by decide +kernel)
theorem fl_X6_132 : Cond.fieldLink RX6 132 "CutLetters$Net" "words" "[I" ∈ zTs := zin 176 (by decide +kernel) (by decide +kernel)
theorem fl_X2_27 : Cond.fieldLink RX2 27 "CutLetters$Net" "firsts" "[I" ∈ zTs := zin 177 (by decide +kernel) (by decide +kernel)
theorem fl_X4_46 : Cond.fieldLink RX4 46 "CutLetters$Net" "firsts" "[I" ∈ zTs := zin 178 (by decide +kernel) (by decide +kernel)
theorem fl_X2_30 : Cond.fieldLink RX2 30 "CutLetters$Net" "joins" "[I" ∈ zTs := zin 179 (by decide +kernel) (by decide +kernel)
theorem fl_X2_33 : Cond.fieldLink RX2 33 "CutLetters$Net" "slots" "[I" ∈ zTs := zin 180 (by decide +kernel) (by decide +kernel)
theorem fl_X2_36 : Cond.fieldLink RX2 36 "CutLetters$Net" "routes" "[I" ∈ zTs := zin 181 (by decide +kernel) (by decide +kernel)
theorem cl_X6_34 : Cond.classLink RX6 34 RX4 ∈ zTs := zin 205 (by decide +kernel) (by decide +kernel)
theorem ia_X4 : Cond.instantiable RX4 4 ∈ zTs := zin 206 (by decide +kernel) (by decide +kernel)
theorem ml_X6_36 : Cond.methodLink RX6 36 yX4_init ∈ zTs := zin 207 (by decide +kernel) (by decide +kernel)
theorem im_X4_init : Cond.instanceMethod yX4_init ∈ zTs := zin 208 (by decide +kernel) (by decide +kernel)
theorem co_X4_init : Cond.code yX4_init cX4_init 1 none ∈ zTs := zin 209 (by decide +kernel) (by decide +kernel)
theorem ml_X4_5 : Cond.methodLink RX4 5 (⟨"java/lang/Object", "<init>", "()V"⟩ : MethodName) ∈ zTs := zin 210 (by decide +kernel) (by decide +kernel)
theorem fl_X4_11 : Cond.fieldLink RX4 11 "CutLetters$Ranking" "before" "[I" ∈ zTs := zin 211 (by decide +kernel) (by decide +kernel)
theorem fl_X4_15 : Cond.fieldLink RX4 15 "CutLetters$Ranking" "counts" "[I" ∈ zTs := zin 212 (by decide +kernel) (by decide +kernel)
theorem fl_X4_18 : Cond.fieldLink RX4 18 "CutLetters$Ranking" "kept" "[I" ∈ zTs := zin 213 (by decide +kernel) (by decide +kernel)
theorem fl_X4_21 : Cond.fieldLink RX4 21 "CutLetters$Ranking" "followed" "[I" ∈ zTs := zin 214 (by decide +kernel) (by decide +kernel)
theorem fl_X5_29 : Cond.fieldLink RX5 29 "CutLetters$Ranking" "followed" "[I" ∈ zTs := zin 215 (by decide +kernel) (by decide +kernel)
theorem fl_X6_155 : Cond.fieldLink RX6 155 "CutLetters$Ranking" "followed" "[I" ∈ zTs := zin 216 (by decide +kernel) (by decide +kernel)
theorem cl_X6_41 : Cond.classLink RX6 41 RX5 ∈ zTs := zin 226 (by decide +kernel) (by decide +kernel)
theorem ia_X5 : Cond.instantiable RX5 2 ∈ zTs := zin 227 (by decide +kernel) (by decide +kernel)
theorem ml_X6_43 : Cond.methodLink RX6 43 yX5_init ∈ zTs := zin 228 (by decide +kernel) (by decide +kernel)
theorem im_X5_init : Cond.instanceMethod yX5_init ∈ zTs := zin 229 (by decide +kernel) (by decide +kernel)
theorem co_X5_init : Cond.code yX5_init cX5_init 1 none ∈ zTs := zin 230 (by decide +kernel) (by decide +kernel)
theorem ml_X5_3 : Cond.methodLink RX5 3 (⟨"java/lang/Object", "<init>", "()V"⟩ : MethodName) ∈ zTs := zin 231 (by decide +kernel) (by decide +kernel)
theorem fl_X5_9 : Cond.fieldLink RX5 9 "CutLetters$Writing" "signs" "[I" ∈ zTs := zin 232 (by decide +kernel) (by decide +kernel)
theorem fl_X6_166 : Cond.fieldLink RX6 166 "CutLetters$Writing" "signs" "[I" ∈ zTs := zin 233 (by decide +kernel) (by decide +kernel)
theorem fl_X5_15 : Cond.fieldLink RX5 15 "CutLetters$Writing" "count" "I" ∈ zTs := zin 234 (by decide +kernel) (by decide +kernel)
theorem fl_X6_165 : Cond.fieldLink RX6 165 "CutLetters$Writing" "count" "I" ∈ zTs := zin 235 (by decide +kernel) (by decide +kernel)
theorem fl_X6_10 : Cond.fieldLink RX6 10 "CutLetters" "pad" "LCutLetters$Pad;" ∈ zTs := zin 241 (by decide +kernel) (by decide +kernel)
theorem fl_X6_19 : Cond.fieldLink RX6 19 "CutLetters" "book" "LCutLetters$Book;" ∈ zTs := zin 242 (by decide +kernel) (by decide +kernel)
theorem fl_X6_23 : Cond.fieldLink RX6 23 "CutLetters" "images" "[LCutLetters$Book;" ∈ zTs := zin 243 (by decide +kernel) (by decide +kernel)
theorem fl_X6_30 : Cond.fieldLink RX6 30 "CutLetters" "net" "LCutLetters$Net;" ∈ zTs := zin 244 (by decide +kernel) (by decide +kernel)
theorem fl_X6_37 : Cond.fieldLink RX6 37 "CutLetters" "ranking" "LCutLetters$Ranking;" ∈ zTs := zin 245 (by decide +kernel) (by decide +kernel)
theorem fl_X6_44 : Cond.fieldLink RX6 44 "CutLetters" "writing" "LCutLetters$Writing;" ∈ zTs := zin 246 (by decide +kernel) (by decide +kernel)
theorem fl_X6_176 : Cond.fieldLink RX6 176 "CutLetters" "netStands" "Z" ∈ zTs := zin 247 (by decide +kernel) (by decide +kernel)
theorem fl_X6_180 : Cond.fieldLink RX6 180 "CutLetters" "rankingStands" "Z" ∈ zTs := zin 248 (by decide +kernel) (by decide +kernel)
theorem ml_L_13 : Cond.methodLink RL 13 yX6_say ∈ zTs := zin 266 (by decide +kernel) (by decide +kernel)
theorem im_X6_say : Cond.instanceMethod yX6_say ∈ zTs := zin 267 (by decide +kernel) (by decide +kernel)
theorem se_X6_say : Cond.selects RX6 yX6_say yX6_say ∈ zTs := zin 268 (by decide +kernel) (by decide +kernel)
theorem co_X6_say : Cond.code yX6_say cX6_say 2 (some .int) ∈ zTs := zin 269 (by decide +kernel) (by decide +kernel)
theorem ml_X6_48 : Cond.methodLink RX6 48 yX3_add ∈ zTs := zin 270 (by decide +kernel) (by decide +kernel)
theorem im_X3_add : Cond.instanceMethod yX3_add ∈ zTs := zin 271 (by decide +kernel) (by decide +kernel)
theorem se_X3_add : Cond.selects RX3 yX3_add yX3_add ∈ zTs := zin 272 (by decide +kernel) (by decide +kernel)
theorem co_X3_add : Cond.code yX3_add cX3_add 2 (some .boolean) ∈ zTs := zin 273 (by decide +kernel) (by decide +kernel)
theorem ml_L_18 : Cond.methodLink RL 18 yX6_wipe ∈ zTs := zin 274 (by decide +kernel) (by decide +kernel)
theorem im_X6_wipe : Cond.instanceMethod yX6_wipe ∈ zTs := zin 275 (by decide +kernel) (by decide +kernel)
theorem se_X6_wipe : Cond.selects RX6 yX6_wipe yX6_wipe ∈ zTs := zin 276 (by decide +kernel) (by decide +kernel)
theorem co_X6_wipe : Cond.code yX6_wipe cX6_wipe 2 (some .int) ∈ zTs := zin 277 (by decide +kernel) (by decide +kernel)
theorem ml_X6_56 : Cond.methodLink RX6 56 yX3_clear ∈ zTs := zin 278 (by decide +kernel) (by decide +kernel)
theorem im_X3_clear : Cond.instanceMethod yX3_clear ∈ zTs := zin 279 (by decide +kernel) (by decide +kernel)
theorem se_X3_clear : Cond.selects RX3 yX3_clear yX3_clear ∈ zTs := zin 280 (by decide +kernel) (by decide +kernel)
theorem co_X3_clear : Cond.code yX3_clear cX3_clear 1 none ∈ zTs := zin 281 (by decide +kernel) (by decide +kernel)
theorem ml_L_23 : Cond.methodLink RL 23 yX6_fault ∈ zTs := zin 282 (by decide +kernel) (by decide +kernel)
theorem im_X6_fault : Cond.instanceMethod yX6_fault ∈ zTs := zin 283 (by decide +kernel) (by decide +kernel)
theorem se_X6_fault : Cond.selects RX6 yX6_fault yX6_fault ∈ zTs := zin 284 (by decide +kernel) (by decide +kernel)
theorem co_X6_fault : Cond.code yX6_fault cX6_fault 2 (some .int) ∈ zTs := zin 285 (by decide +kernel) (by decide +kernel)
theorem ml_X6_59 : Cond.methodLink RX6 59 yX3_readWord ∈ zTs := zin 286 (by decide +kernel) (by decide +kernel)
theorem im_X3_readWord : Cond.instanceMethod yX3_readWord ∈ zTs := zin 287 (by decide +kernel) (by decide +kernel)
theorem se_X3_readWord : Cond.selects RX3 yX3_readWord yX3_readWord ∈ zTs := zin 288 (by decide +kernel) (by decide +kernel)
theorem co_X3_readWord : Cond.code yX3_readWord cX3_readWord 2 (some .int) ∈ zTs := zin 289 (by decide +kernel) (by decide +kernel)
theorem ml_X3_19 : Cond.methodLink RX3 19 yX3_leadingLetters ∈ zTs := zin 290 (by decide +kernel) (by decide +kernel)
theorem im_X3_leadingLetters : Cond.instanceMethod yX3_leadingLetters ∈ zTs := zin 292 (by decide +kernel) (by decide +kernel)
theorem co_X3_leadingLetters : Cond.code yX3_leadingLetters cX3_leadingLetters 3 (some .int) ∈ zTs := zin 293 (by decide +kernel) (by decide +kernel)
theorem ml_X3_26 : Cond.methodLink RX3 26 yX3_signAt ∈ zTs := zin 294 (by decide +kernel) (by decide +kernel)
theorem im_X3_signAt : Cond.instanceMethod yX3_signAt ∈ zTs := zin 296 (by decide +kernel) (by decide +kernel)
theorem co_X3_signAt : Cond.code yX3_signAt cX3_signAt 2 (some .int) ∈ zTs := zin 297 (by decide +kernel) (by decide +kernel)
theorem ml_X3_49 : Cond.methodLink RX3 49 yX3_isLetter ∈ zTs := zin 298 (by decide +kernel) (by decide +kernel)
theorem sm_X3_isLetter : Cond.static yX3_isLetter ∈ zTs := zin 299 (by decide +kernel) (by decide +kernel)
theorem co_X3_isLetter : Cond.code yX3_isLetter cX3_isLetter 1 (some .boolean) ∈ zTs := zin 300 (by decide +kernel) (by decide +kernel)
theorem ml_X3_29 : Cond.methodLink RX3 29 yX3_kindNamedAt ∈ zTs := zin 301 (by decide +kernel) (by decide +kernel)
theorem im_X3_kindNamedAt : Cond.instanceMethod yX3_kindNamedAt ∈ zTs := zin 303 (by decide +kernel) (by decide +kernel)
theorem co_X3_kindNamedAt : Cond.code yX3_kindNamedAt cX3_kindNamedAt 3 (some .int) ∈ zTs := zin 304 (by decide +kernel) (by decide +kernel)
theorem ml_X3_54 : Cond.methodLink RX3 54 yJ0_charAt_5068e ∈ zTs := zin 306 (by decide +kernel) (by decide +kernel)
theorem im_J0_charAt_5068e : Cond.instanceMethod yJ0_charAt_5068e ∈ zTs := zin 307 (by decide +kernel) (by decide +kernel)
theorem se_J0_charAt_5068e : Cond.selects RJ0 yJ0_charAt_5068e yJ0_charAt_5068e ∈ zTs := zin 308 (by decide +kernel) (by decide +kernel)
theorem co_J0_charAt_5068e : Cond.code yJ0_charAt_5068e cJ0_charAt_5068e 2 (some .char) ∈ zTs := zin 309 (by decide +kernel) (by decide +kernel)
theorem ml_J0_492 : Cond.methodLink RJ0 492 yJ0_isLatin1_aae02 ∈ zTs := zin 310 (by decide +kernel) (by decide +kernel)
theorem im_J0_isLatin1_aae02 : Cond.instanceMethod yJ0_isLatin1_aae02 ∈ zTs := zin 311 (by decide +kernel) (by decide +kernel)
theorem se_J0_isLatin1_aae02 : Cond.selects RJ0 yJ0_isLatin1_aae02 yJ0_isLatin1_aae02 ∈ zTs := zin 312 (by decide +kernel) (by decide +kernel)
theorem co_J0_isLatin1_aae02 : Cond.code yJ0_isLatin1_aae02 cJ0_isLatin1_aae02 1 (some .boolean) ∈ zTs := zin 313 (by decide +kernel) (by decide +kernel)
theorem fl_J0_38 : Cond.fieldLink RJ0 38 "java/lang/String" "COMPACT_STRINGS" "Z" ∈ zTs := zin 314 (by decide +kernel) (by decide +kernel)
theorem ml_J0_495 : Cond.methodLink RJ0 495 yJ1_charAt_3b067 ∈ zTs := zin 316 (by decide +kernel) (by decide +kernel)
theorem sm_J1_charAt_3b067 : Cond.static yJ1_charAt_3b067 ∈ zTs := zin 317 (by decide +kernel) (by decide +kernel)
theorem co_J1_charAt_3b067 : Cond.code yJ1_charAt_3b067 cJ1_charAt_3b067 2 (some .char) ∈ zTs := zin 318 (by decide +kernel) (by decide +kernel)
theorem ml_J1_9 : Cond.methodLink RJ1 9 yJ0_checkIndex_df160 ∈ zTs := zin 319 (by decide +kernel) (by decide +kernel)
theorem sm_J0_checkIndex_df160 : Cond.static yJ0_checkIndex_df160 ∈ zTs := zin 320 (by decide +kernel) (by decide +kernel)
theorem co_J0_checkIndex_df160 : Cond.code yJ0_checkIndex_df160 cJ0_checkIndex_df160 2 none ∈ zTs := zin 321 (by decide +kernel) (by decide +kernel)
theorem fl_J0_1053 : Cond.fieldLink RJ0 1053 "jdk/internal/util/Preconditions" "SIOOBE_FORMATTER" "Ljava/util/function/BiFunction;" ∈ zTs := zin 322 (by decide +kernel) (by decide +kernel)
theorem ml_J0_1059 : Cond.methodLink RJ0 1059 yJ3_checkIndex_8e157 ∈ zTs := zin 324 (by decide +kernel) (by decide +kernel)
theorem sm_J3_checkIndex_8e157 : Cond.static yJ3_checkIndex_8e157 ∈ zTs := zin 325 (by decide +kernel) (by decide +kernel)
theorem co_J3_checkIndex_8e157 : Cond.code yJ3_checkIndex_8e157 cJ3_checkIndex_8e157 3 (some .int) ∈ zTs := zin 326 (by decide +kernel) (by decide +kernel)
theorem ml_J0_498 : Cond.methodLink RJ0 498 yJ2_charAt_3b067 ∈ zTs := zin 327 (by decide +kernel) (by decide +kernel)
theorem sm_J2_charAt_3b067 : Cond.static yJ2_charAt_3b067 ∈ zTs := zin 328 (by decide +kernel) (by decide +kernel)
theorem co_J2_charAt_3b067 : Cond.code yJ2_charAt_3b067 cJ2_charAt_3b067 2 (some .char) ∈ zTs := zin 329 (by decide +kernel) (by decide +kernel)
theorem ml_J2_67 : Cond.methodLink RJ2 67 yJ2_checkIndex_2214a ∈ zTs := zin 330 (by decide +kernel) (by decide +kernel)
theorem sm_J2_checkIndex_2214a : Cond.static yJ2_checkIndex_2214a ∈ zTs := zin 331 (by decide +kernel) (by decide +kernel)
theorem co_J2_checkIndex_2214a : Cond.code yJ2_checkIndex_2214a cJ2_checkIndex_2214a 2 none ∈ zTs := zin 332 (by decide +kernel) (by decide +kernel)
theorem ml_J2_48 : Cond.methodLink RJ2 48 yJ2_length_9d52b ∈ zTs := zin 333 (by decide +kernel) (by decide +kernel)
theorem sm_J2_length_9d52b : Cond.static yJ2_length_9d52b ∈ zTs := zin 334 (by decide +kernel) (by decide +kernel)
theorem co_J2_length_9d52b : Cond.code yJ2_length_9d52b cJ2_length_9d52b 1 (some .int) ∈ zTs := zin 335 (by decide +kernel) (by decide +kernel)
theorem ml_J2_414 : Cond.methodLink RJ2 414 yJ0_checkIndex_df160 ∈ zTs := zin 336 (by decide +kernel) (by decide +kernel)
theorem ml_J2_71 : Cond.methodLink RJ2 71 yJ2_getChar_3b067 ∈ zTs := zin 337 (by decide +kernel) (by decide +kernel)
theorem sm_J2_getChar_3b067 : Cond.static yJ2_getChar_3b067 ∈ zTs := zin 338 (by decide +kernel) (by decide +kernel)
theorem co_J2_getChar_3b067 : Cond.code yJ2_getChar_3b067 cJ2_getChar_3b067 2 (some .char) ∈ zTs := zin 339 (by decide +kernel) (by decide +kernel)
theorem fl_J2_44 : Cond.fieldLink RJ2 44 "java/lang/StringUTF16" "$assertionsDisabled" "Z" ∈ zTs := zin 340 (by decide +kernel) (by decide +kernel)
theorem fl_J2_59 : Cond.fieldLink RJ2 59 "java/lang/StringUTF16" "HI_BYTE_SHIFT" "I" ∈ zTs := zin 342 (by decide +kernel) (by decide +kernel)
theorem fl_J2_63 : Cond.fieldLink RJ2 63 "java/lang/StringUTF16" "LO_BYTE_SHIFT" "I" ∈ zTs := zin 344 (by decide +kernel) (by decide +kernel)
theorem ml_X3_35 : Cond.methodLink RX3 35 yX3_nameStandsAt ∈ zTs := zin 346 (by decide +kernel) (by decide +kernel)
theorem im_X3_nameStandsAt : Cond.instanceMethod yX3_nameStandsAt ∈ zTs := zin 348 (by decide +kernel) (by decide +kernel)
theorem co_X3_nameStandsAt : Cond.code yX3_nameStandsAt cX3_nameStandsAt 4 (some .boolean) ∈ zTs := zin 349 (by decide +kernel) (by decide +kernel)
theorem ml_X3_39 : Cond.methodLink RX3 39 yX3_readCost ∈ zTs := zin 350 (by decide +kernel) (by decide +kernel)
theorem im_X3_readCost : Cond.instanceMethod yX3_readCost ∈ zTs := zin 352 (by decide +kernel) (by decide +kernel)
theorem co_X3_readCost : Cond.code yX3_readCost cX3_readCost 3 (some .int) ∈ zTs := zin 353 (by decide +kernel) (by decide +kernel)
theorem ml_X3_42 : Cond.methodLink RX3 42 yX3_isFigure ∈ zTs := zin 354 (by decide +kernel) (by decide +kernel)
theorem sm_X3_isFigure : Cond.static yX3_isFigure ∈ zTs := zin 355 (by decide +kernel) (by decide +kernel)
theorem co_X3_isFigure : Cond.code yX3_isFigure cX3_isFigure 1 (some .boolean) ∈ zTs := zin 356 (by decide +kernel) (by decide +kernel)
theorem ml_X6_63 : Cond.methodLink RX6 63 yX3_readLine ∈ zTs := zin 357 (by decide +kernel) (by decide +kernel)
theorem im_X3_readLine : Cond.instanceMethod yX3_readLine ∈ zTs := zin 358 (by decide +kernel) (by decide +kernel)
theorem se_X3_readLine : Cond.selects RX3 yX3_readLine yX3_readLine ∈ zTs := zin 359 (by decide +kernel) (by decide +kernel)
theorem co_X3_readLine : Cond.code yX3_readLine cX3_readLine 2 (some .int) ∈ zTs := zin 360 (by decide +kernel) (by decide +kernel)
theorem ac_Jvm_ClassFile_FieldType_byte : Cond.arrayClass Jvm.ClassFile.FieldType.byte ∈ zTs := zin 361 (by decide +kernel) (by decide +kernel)
theorem ml_L_27 : Cond.methodLink RL 27 yX6_learn ∈ zTs := zin 362 (by decide +kernel) (by decide +kernel)
theorem im_X6_learn : Cond.instanceMethod yX6_learn ∈ zTs := zin 363 (by decide +kernel) (by decide +kernel)
theorem se_X6_learn : Cond.selects RX6 yX6_learn yX6_learn ∈ zTs := zin 364 (by decide +kernel) (by decide +kernel)
theorem co_X6_learn : Cond.code yX6_learn cX6_learn 2 (some .int) ∈ zTs := zin 365 (by decide +kernel) (by decide +kernel)
theorem ml_X6_70 : Cond.methodLink RX6 70 yX1_put ∈ zTs := zin 366 (by decide +kernel) (by decide +kernel)
theorem im_X1_put : Cond.instanceMethod yX1_put ∈ zTs := zin 367 (by decide +kernel) (by decide +kernel)
theorem se_X1_put : Cond.selects RX1 yX1_put yX1_put ∈ zTs := zin 368 (by decide +kernel) (by decide +kernel)
theorem co_X1_put : Cond.code yX1_put cX1_put 3 (some .int) ∈ zTs := zin 369 (by decide +kernel) (by decide +kernel)
theorem ml_X1_28 : Cond.methodLink RX1 28 yX1_find ∈ zTs := zin 370 (by decide +kernel) (by decide +kernel)
theorem im_X1_find : Cond.instanceMethod yX1_find ∈ zTs := zin 372 (by decide +kernel) (by decide +kernel)
theorem co_X1_find : Cond.code yX1_find cX1_find 3 (some .int) ∈ zTs := zin 373 (by decide +kernel) (by decide +kernel)
theorem ml_X1_51 : Cond.methodLink RX1 51 yX1_standsAt ∈ zTs := zin 374 (by decide +kernel) (by decide +kernel)
theorem im_X1_standsAt : Cond.instanceMethod yX1_standsAt ∈ zTs := zin 375 (by decide +kernel) (by decide +kernel)
theorem se_X1_standsAt : Cond.selects RX1 yX1_standsAt yX1_standsAt ∈ zTs := zin 376 (by decide +kernel) (by decide +kernel)
theorem co_X1_standsAt : Cond.code yX1_standsAt cX1_standsAt 6 (some .boolean) ∈ zTs := zin 377 (by decide +kernel) (by decide +kernel)
theorem ml_X1_42 : Cond.methodLink RX1 42 (⟨"java/lang/System", "arraycopy", "(Ljava/lang/Object;ILjava/lang/Object;II)V"⟩ : MethodName) ∈ zTs := zin 378 (by decide +kernel) (by decide +kernel)
theorem sm_java_lang_System_arraycopy : Cond.static (⟨"java/lang/System", "arraycopy", "(Ljava/lang/Object;ILjava/lang/Object;II)V"⟩ : MethodName) ∈ zTs := zin 379 (by decide +kernel) (by decide +kernel)
theorem na_java_lang_System_arraycopy : Cond.native (⟨"java/lang/System", "arraycopy", "(Ljava/lang/Object;ILjava/lang/Object;II)V"⟩ : MethodName) ∈ zTs := zin 380 (by decide +kernel) (by decide +kernel)
theorem ml_X6_76 : Cond.methodLink RX6 76 yX6_somethingChanged ∈ zTs := zin 381 (by decide +kernel) (by decide +kernel)
theorem im_X6_somethingChanged : Cond.instanceMethod yX6_somethingChanged ∈ zTs := zin 383 (by decide +kernel) (by decide +kernel)
theorem co_X6_somethingChanged : Cond.code yX6_somethingChanged cX6_somethingChanged 1 none ∈ zTs := zin 384 (by decide +kernel) (by decide +kernel)
theorem ml_L_31 : Cond.methodLink RL 31 yX6_forget ∈ zTs := zin 385 (by decide +kernel) (by decide +kernel)
theorem im_X6_forget : Cond.instanceMethod yX6_forget ∈ zTs := zin 386 (by decide +kernel) (by decide +kernel)
theorem se_X6_forget : Cond.selects RX6 yX6_forget yX6_forget ∈ zTs := zin 387 (by decide +kernel) (by decide +kernel)
theorem co_X6_forget : Cond.code yX6_forget cX6_forget 2 (some .int) ∈ zTs := zin 388 (by decide +kernel) (by decide +kernel)
theorem ml_X6_79 : Cond.methodLink RX6 79 yX1_has ∈ zTs := zin 389 (by decide +kernel) (by decide +kernel)
theorem im_X1_has : Cond.instanceMethod yX1_has ∈ zTs := zin 390 (by decide +kernel) (by decide +kernel)
theorem se_X1_has : Cond.selects RX1 yX1_has yX1_has ∈ zTs := zin 391 (by decide +kernel) (by decide +kernel)
theorem co_X1_has : Cond.code yX1_has cX1_has 2 (some .boolean) ∈ zTs := zin 392 (by decide +kernel) (by decide +kernel)
theorem ml_X6_82 : Cond.methodLink RX6 82 yX1_remove ∈ zTs := zin 393 (by decide +kernel) (by decide +kernel)
theorem im_X1_remove : Cond.instanceMethod yX1_remove ∈ zTs := zin 394 (by decide +kernel) (by decide +kernel)
theorem se_X1_remove : Cond.selects RX1 yX1_remove yX1_remove ∈ zTs := zin 395 (by decide +kernel) (by decide +kernel)
theorem co_X1_remove : Cond.code yX1_remove cX1_remove 3 none ∈ zTs := zin 396 (by decide +kernel) (by decide +kernel)
theorem ml_L_35 : Cond.methodLink RL 35 yX6_word ∈ zTs := zin 397 (by decide +kernel) (by decide +kernel)
theorem im_X6_word : Cond.instanceMethod yX6_word ∈ zTs := zin 398 (by decide +kernel) (by decide +kernel)
theorem se_X6_word : Cond.selects RX6 yX6_word yX6_word ∈ zTs := zin 399 (by decide +kernel) (by decide +kernel)
theorem co_X6_word : Cond.code yX6_word cX6_word 3 (some .int) ∈ zTs := zin 400 (by decide +kernel) (by decide +kernel)
theorem ml_X6_87 : Cond.methodLink RX6 87 yX1_tell ∈ zTs := zin 401 (by decide +kernel) (by decide +kernel)
theorem im_X1_tell : Cond.instanceMethod yX1_tell ∈ zTs := zin 402 (by decide +kernel) (by decide +kernel)
theorem se_X1_tell : Cond.selects RX1 yX1_tell yX1_tell ∈ zTs := zin 403 (by decide +kernel) (by decide +kernel)
theorem co_X1_tell : Cond.code yX1_tell cX1_tell 4 (some .int) ∈ zTs := zin 404 (by decide +kernel) (by decide +kernel)
theorem ml_L_40 : Cond.methodLink RL 40 yX6_line ∈ zTs := zin 405 (by decide +kernel) (by decide +kernel)
theorem im_X6_line : Cond.instanceMethod yX6_line ∈ zTs := zin 406 (by decide +kernel) (by decide +kernel)
theorem se_X6_line : Cond.selects RX6 yX6_line yX6_line ∈ zTs := zin 407 (by decide +kernel) (by decide +kernel)
theorem co_X6_line : Cond.code yX6_line cX6_line 1 (some .int) ∈ zTs := zin 408 (by decide +kernel) (by decide +kernel)
theorem ml_X6_91 : Cond.methodLink RX6 91 yX0_takeLine ∈ zTs := zin 409 (by decide +kernel) (by decide +kernel)
theorem im_X0_takeLine : Cond.instanceMethod yX0_takeLine ∈ zTs := zin 410 (by decide +kernel) (by decide +kernel)
theorem se_X0_takeLine : Cond.selects RX0 yX0_takeLine yX0_takeLine ∈ zTs := zin 411 (by decide +kernel) (by decide +kernel)
theorem co_X0_takeLine : Cond.code yX0_takeLine cX0_takeLine 2 none ∈ zTs := zin 412 (by decide +kernel) (by decide +kernel)
theorem ml_X0_34 : Cond.methodLink RX0 34 yJ9_min_7cf53 ∈ zTs := zin 413 (by decide +kernel) (by decide +kernel)
theorem sm_J9_min_7cf53 : Cond.static yJ9_min_7cf53 ∈ zTs := zin 414 (by decide +kernel) (by decide +kernel)
theorem co_J9_min_7cf53 : Cond.code yJ9_min_7cf53 cJ9_min_7cf53 2 (some .int) ∈ zTs := zin 415 (by decide +kernel) (by decide +kernel)
theorem ml_X0_46 : Cond.methodLink RX0 46 (⟨"java/lang/System", "arraycopy", "(Ljava/lang/Object;ILjava/lang/Object;II)V"⟩ : MethodName) ∈ zTs := zin 416 (by decide +kernel) (by decide +kernel)
theorem ml_L_44 : Cond.methodLink RL 44 yX6_join ∈ zTs := zin 417 (by decide +kernel) (by decide +kernel)
theorem im_X6_join : Cond.instanceMethod yX6_join ∈ zTs := zin 418 (by decide +kernel) (by decide +kernel)
theorem se_X6_join : Cond.selects RX6 yX6_join yX6_join ∈ zTs := zin 419 (by decide +kernel) (by decide +kernel)
theorem co_X6_join : Cond.code yX6_join cX6_join 6 (some .int) ∈ zTs := zin 420 (by decide +kernel) (by decide +kernel)
theorem ml_X6_98 : Cond.methodLink RX6 98 yX6_isJoin ∈ zTs := zin 421 (by decide +kernel) (by decide +kernel)
theorem sm_X6_isJoin : Cond.static yX6_isJoin ∈ zTs := zin 422 (by decide +kernel) (by decide +kernel)
theorem co_X6_isJoin : Cond.code yX6_isJoin cX6_isJoin 2 (some .boolean) ∈ zTs := zin 423 (by decide +kernel) (by decide +kernel)
theorem ml_L_49 : Cond.methodLink RL 49 yX6_rule ∈ zTs := zin 424 (by decide +kernel) (by decide +kernel)
theorem im_X6_rule : Cond.instanceMethod yX6_rule ∈ zTs := zin 425 (by decide +kernel) (by decide +kernel)
theorem se_X6_rule : Cond.selects RX6 yX6_rule yX6_rule ∈ zTs := zin 426 (by decide +kernel) (by decide +kernel)
theorem co_X6_rule : Cond.code yX6_rule cX6_rule 4 (some .int) ∈ zTs := zin 427 (by decide +kernel) (by decide +kernel)
theorem fl_X6_106 : Cond.fieldLink RX6 106 "CutLetters" "RULE_LIMITS" "[I" ∈ zTs := zin 428 (by decide +kernel) (by decide +kernel)
theorem ml_L_53 : Cond.methodLink RL 53 yX6_pieces ∈ zTs := zin 430 (by decide +kernel) (by decide +kernel)
theorem im_X6_pieces : Cond.instanceMethod yX6_pieces ∈ zTs := zin 431 (by decide +kernel) (by decide +kernel)
theorem se_X6_pieces : Cond.selects RX6 yX6_pieces yX6_pieces ∈ zTs := zin 432 (by decide +kernel) (by decide +kernel)
theorem co_X6_pieces : Cond.code yX6_pieces cX6_pieces 1 (some .int) ∈ zTs := zin 433 (by decide +kernel) (by decide +kernel)
theorem ml_X6_112 : Cond.methodLink RX6 112 yX6_hasLine ∈ zTs := zin 434 (by decide +kernel) (by decide +kernel)
theorem im_X6_hasLine : Cond.instanceMethod yX6_hasLine ∈ zTs := zin 436 (by decide +kernel) (by decide +kernel)
theorem co_X6_hasLine : Cond.code yX6_hasLine cX6_hasLine 1 (some .boolean) ∈ zTs := zin 437 (by decide +kernel) (by decide +kernel)
theorem ml_X6_116 : Cond.methodLink RX6 116 yX6_makeNet ∈ zTs := zin 438 (by decide +kernel) (by decide +kernel)
theorem im_X6_makeNet : Cond.instanceMethod yX6_makeNet ∈ zTs := zin 440 (by decide +kernel) (by decide +kernel)
theorem co_X6_makeNet : Cond.code yX6_makeNet cX6_makeNet 1 none ∈ zTs := zin 441 (by decide +kernel) (by decide +kernel)
theorem ml_X6_183 : Cond.methodLink RX6 183 yX2_make ∈ zTs := zin 442 (by decide +kernel) (by decide +kernel)
theorem im_X2_make : Cond.instanceMethod yX2_make ∈ zTs := zin 443 (by decide +kernel) (by decide +kernel)
theorem se_X2_make : Cond.selects RX2 yX2_make yX2_make ∈ zTs := zin 444 (by decide +kernel) (by decide +kernel)
theorem co_X2_make : Cond.code yX2_make cX2_make 3 none ∈ zTs := zin 445 (by decide +kernel) (by decide +kernel)
theorem ml_X2_47 : Cond.methodLink RX2 47 (⟨"java/lang/System", "arraycopy", "(Ljava/lang/Object;ILjava/lang/Object;II)V"⟩ : MethodName) ∈ zTs := zin 446 (by decide +kernel) (by decide +kernel)
theorem ml_X2_56 : Cond.methodLink RX2 56 yX2_fillSlots ∈ zTs := zin 447 (by decide +kernel) (by decide +kernel)
theorem im_X2_fillSlots : Cond.instanceMethod yX2_fillSlots ∈ zTs := zin 449 (by decide +kernel) (by decide +kernel)
theorem co_X2_fillSlots : Cond.code yX2_fillSlots cX2_fillSlots 5 none ∈ zTs := zin 450 (by decide +kernel) (by decide +kernel)
theorem ml_X2_63 : Cond.methodLink RX2 63 yX2_fillWords ∈ zTs := zin 451 (by decide +kernel) (by decide +kernel)
theorem im_X2_fillWords : Cond.instanceMethod yX2_fillWords ∈ zTs := zin 453 (by decide +kernel) (by decide +kernel)
theorem co_X2_fillWords : Cond.code yX2_fillWords cX2_fillWords 6 (some .boolean) ∈ zTs := zin 454 (by decide +kernel) (by decide +kernel)
theorem ml_X2_83 : Cond.methodLink RX2 83 yX1_standsAt ∈ zTs := zin 455 (by decide +kernel) (by decide +kernel)
theorem ml_X2_70 : Cond.methodLink RX2 70 yX2_fillWild ∈ zTs := zin 456 (by decide +kernel) (by decide +kernel)
theorem im_X2_fillWild : Cond.instanceMethod yX2_fillWild ∈ zTs := zin 458 (by decide +kernel) (by decide +kernel)
theorem co_X2_fillWild : Cond.code yX2_fillWild cX2_fillWild 5 none ∈ zTs := zin 459 (by decide +kernel) (by decide +kernel)
theorem ml_X2_89 : Cond.methodLink RX2 89 yX0_runLength ∈ zTs := zin 460 (by decide +kernel) (by decide +kernel)
theorem im_X0_runLength : Cond.instanceMethod yX0_runLength ∈ zTs := zin 461 (by decide +kernel) (by decide +kernel)
theorem se_X0_runLength : Cond.selects RX0 yX0_runLength yX0_runLength ∈ zTs := zin 462 (by decide +kernel) (by decide +kernel)
theorem co_X0_runLength : Cond.code yX0_runLength cX0_runLength 4 (some .int) ∈ zTs := zin 463 (by decide +kernel) (by decide +kernel)
theorem ml_X0_52 : Cond.methodLink RX0 52 yX0_classOf ∈ zTs := zin 464 (by decide +kernel) (by decide +kernel)
theorem sm_X0_classOf : Cond.static yX0_classOf ∈ zTs := zin 465 (by decide +kernel) (by decide +kernel)
theorem co_X0_classOf : Cond.code yX0_classOf cX0_classOf 1 (some .int) ∈ zTs := zin 466 (by decide +kernel) (by decide +kernel)
theorem ml_X2_60 : Cond.methodLink RX2 60 yX2_addSlots ∈ zTs := zin 467 (by decide +kernel) (by decide +kernel)
theorem im_X2_addSlots : Cond.instanceMethod yX2_addSlots ∈ zTs := zin 469 (by decide +kernel) (by decide +kernel)
theorem co_X2_addSlots : Cond.code yX2_addSlots cX2_addSlots 4 none ∈ zTs := zin 470 (by decide +kernel) (by decide +kernel)
theorem ml_X2_93 : Cond.methodLink RX2 93 yX2_add ∈ zTs := zin 471 (by decide +kernel) (by decide +kernel)
theorem im_X2_add : Cond.instanceMethod yX2_add ∈ zTs := zin 473 (by decide +kernel) (by decide +kernel)
theorem co_X2_add : Cond.code yX2_add cX2_add 6 none ∈ zTs := zin 474 (by decide +kernel) (by decide +kernel)
theorem ml_L_57 : Cond.methodLink RL 57 yX6_piece ∈ zTs := zin 475 (by decide +kernel) (by decide +kernel)
theorem im_X6_piece : Cond.instanceMethod yX6_piece ∈ zTs := zin 476 (by decide +kernel) (by decide +kernel)
theorem se_X6_piece : Cond.selects RX6 yX6_piece yX6_piece ∈ zTs := zin 477 (by decide +kernel) (by decide +kernel)
theorem co_X6_piece : Cond.code yX6_piece cX6_piece 3 (some .int) ∈ zTs := zin 478 (by decide +kernel) (by decide +kernel)
theorem ml_X6_135 : Cond.methodLink RX6 135 yX6_makeRanking ∈ zTs := zin 479 (by decide +kernel) (by decide +kernel)
theorem im_X6_makeRanking : Cond.instanceMethod yX6_makeRanking ∈ zTs := zin 481 (by decide +kernel) (by decide +kernel)
theorem co_X6_makeRanking : Cond.code yX6_makeRanking cX6_makeRanking 1 none ∈ zTs := zin 482 (by decide +kernel) (by decide +kernel)
theorem ml_X6_186 : Cond.methodLink RX6 186 yX4_make ∈ zTs := zin 483 (by decide +kernel) (by decide +kernel)
theorem im_X4_make : Cond.instanceMethod yX4_make ∈ zTs := zin 484 (by decide +kernel) (by decide +kernel)
theorem se_X4_make : Cond.selects RX4 yX4_make yX4_make ∈ zTs := zin 485 (by decide +kernel) (by decide +kernel)
theorem co_X4_make : Cond.code yX4_make cX4_make 4 none ∈ zTs := zin 486 (by decide +kernel) (by decide +kernel)
theorem ml_X4_24 : Cond.methodLink RX4 24 yX4_reachSpots ∈ zTs := zin 487 (by decide +kernel) (by decide +kernel)
theorem im_X4_reachSpots : Cond.instanceMethod yX4_reachSpots ∈ zTs := zin 489 (by decide +kernel) (by decide +kernel)
theorem co_X4_reachSpots : Cond.code yX4_reachSpots cX4_reachSpots 4 none ∈ zTs := zin 490 (by decide +kernel) (by decide +kernel)
theorem cn_X4_45 : Cond.constant RX4 45 (1000000) ∈ zTs := zin 491 (by decide +kernel) (by decide +kernel)
theorem ml_X4_60 : Cond.methodLink RX4 60 yX4_spotBehind ∈ zTs := zin 492 (by decide +kernel) (by decide +kernel)
theorem sm_X4_spotBehind : Cond.static yX4_spotBehind ∈ zTs := zin 493 (by decide +kernel) (by decide +kernel)
theorem co_X4_spotBehind : Cond.code yX4_spotBehind cX4_spotBehind 2 (some .int) ∈ zTs := zin 494 (by decide +kernel) (by decide +kernel)
theorem ml_X4_80 : Cond.methodLink RX4 80 yX4_leastUpTo ∈ zTs := zin 495 (by decide +kernel) (by decide +kernel)
theorem im_X4_leastUpTo : Cond.instanceMethod yX4_leastUpTo ∈ zTs := zin 497 (by decide +kernel) (by decide +kernel)
theorem co_X4_leastUpTo : Cond.code yX4_leastUpTo cX4_leastUpTo 6 (some .int) ∈ zTs := zin 498 (by decide +kernel) (by decide +kernel)
theorem ml_X4_49 : Cond.methodLink RX4 49 yX2_joinBefore ∈ zTs := zin 499 (by decide +kernel) (by decide +kernel)
theorem im_X2_joinBefore : Cond.instanceMethod yX2_joinBefore ∈ zTs := zin 500 (by decide +kernel) (by decide +kernel)
theorem se_X2_joinBefore : Cond.selects RX2 yX2_joinBefore yX2_joinBefore ∈ zTs := zin 501 (by decide +kernel) (by decide +kernel)
theorem co_X2_joinBefore : Cond.code yX2_joinBefore cX2_joinBefore 3 (some .int) ∈ zTs := zin 502 (by decide +kernel) (by decide +kernel)
theorem ml_X4_83 : Cond.methodLink RX4 83 yJ9_min_7cf53 ∈ zTs := zin 503 (by decide +kernel) (by decide +kernel)
theorem ml_X4_28 : Cond.methodLink RX4 28 yX4_rankEnds ∈ zTs := zin 504 (by decide +kernel) (by decide +kernel)
theorem im_X4_rankEnds : Cond.instanceMethod yX4_rankEnds ∈ zTs := zin 506 (by decide +kernel) (by decide +kernel)
theorem co_X4_rankEnds : Cond.code yX4_rankEnds cX4_rankEnds 4 none ∈ zTs := zin 507 (by decide +kernel) (by decide +kernel)
theorem ml_X4_41 : Cond.methodLink RX4 41 yX2_joinAtEnd ∈ zTs := zin 508 (by decide +kernel) (by decide +kernel)
theorem im_X2_joinAtEnd : Cond.instanceMethod yX2_joinAtEnd ∈ zTs := zin 509 (by decide +kernel) (by decide +kernel)
theorem se_X2_joinAtEnd : Cond.selects RX2 yX2_joinAtEnd yX2_joinAtEnd ∈ zTs := zin 510 (by decide +kernel) (by decide +kernel)
theorem co_X2_joinAtEnd : Cond.code yX2_joinAtEnd cX2_joinAtEnd 2 (some .int) ∈ zTs := zin 511 (by decide +kernel) (by decide +kernel)
theorem ml_X4_37 : Cond.methodLink RX4 37 yX4_rankSpot ∈ zTs := zin 512 (by decide +kernel) (by decide +kernel)
theorem im_X4_rankSpot : Cond.instanceMethod yX4_rankSpot ∈ zTs := zin 514 (by decide +kernel) (by decide +kernel)
theorem co_X4_rankSpot : Cond.code yX4_rankSpot cX4_rankSpot 6 none ∈ zTs := zin 515 (by decide +kernel) (by decide +kernel)
theorem ml_X4_56 : Cond.methodLink RX4 56 yX4_offerWays ∈ zTs := zin 516 (by decide +kernel) (by decide +kernel)
theorem im_X4_offerWays : Cond.instanceMethod yX4_offerWays ∈ zTs := zin 518 (by decide +kernel) (by decide +kernel)
theorem co_X4_offerWays : Cond.code yX4_offerWays cX4_offerWays 10 none ∈ zTs := zin 519 (by decide +kernel) (by decide +kernel)
theorem ml_X4_64 : Cond.methodLink RX4 64 yX4_offer ∈ zTs := zin 520 (by decide +kernel) (by decide +kernel)
theorem im_X4_offer : Cond.instanceMethod yX4_offer ∈ zTs := zin 522 (by decide +kernel) (by decide +kernel)
theorem co_X4_offer : Cond.code yX4_offer cX4_offer 5 (some .boolean) ∈ zTs := zin 523 (by decide +kernel) (by decide +kernel)
theorem ml_X6_138 : Cond.methodLink RX6 138 yX4_leastWith ∈ zTs := zin 524 (by decide +kernel) (by decide +kernel)
theorem im_X4_leastWith : Cond.instanceMethod yX4_leastWith ∈ zTs := zin 525 (by decide +kernel) (by decide +kernel)
theorem se_X4_leastWith : Cond.selects RX4 yX4_leastWith yX4_leastWith ∈ zTs := zin 526 (by decide +kernel) (by decide +kernel)
theorem co_X4_leastWith : Cond.code yX4_leastWith cX4_leastWith 5 (some .int) ∈ zTs := zin 527 (by decide +kernel) (by decide +kernel)
theorem ml_L_61 : Cond.methodLink RL 61 yX6_ways ∈ zTs := zin 528 (by decide +kernel) (by decide +kernel)
theorem im_X6_ways : Cond.instanceMethod yX6_ways ∈ zTs := zin 529 (by decide +kernel) (by decide +kernel)
theorem se_X6_ways : Cond.selects RX6 yX6_ways yX6_ways ∈ zTs := zin 530 (by decide +kernel) (by decide +kernel)
theorem co_X6_ways : Cond.code yX6_ways cX6_ways 1 (some .int) ∈ zTs := zin 531 (by decide +kernel) (by decide +kernel)
theorem ml_X6_142 : Cond.methodLink RX6 142 yX2_countWays ∈ zTs := zin 532 (by decide +kernel) (by decide +kernel)
theorem im_X2_countWays : Cond.instanceMethod yX2_countWays ∈ zTs := zin 533 (by decide +kernel) (by decide +kernel)
theorem se_X2_countWays : Cond.selects RX2 yX2_countWays yX2_countWays ∈ zTs := zin 534 (by decide +kernel) (by decide +kernel)
theorem co_X2_countWays : Cond.code yX2_countWays cX2_countWays 3 (some .int) ∈ zTs := zin 535 (by decide +kernel) (by decide +kernel)
theorem cn_X2_98 : Cond.constant RX2 98 (1000003) ∈ zTs := zin 536 (by decide +kernel) (by decide +kernel)
theorem ml_L_65 : Cond.methodLink RL 65 yX6_cutting ∈ zTs := zin 537 (by decide +kernel) (by decide +kernel)
theorem im_X6_cutting : Cond.instanceMethod yX6_cutting ∈ zTs := zin 538 (by decide +kernel) (by decide +kernel)
theorem se_X6_cutting : Cond.selects RX6 yX6_cutting yX6_cutting ∈ zTs := zin 539 (by decide +kernel) (by decide +kernel)
theorem co_X6_cutting : Cond.code yX6_cutting cX6_cutting 4 (some .int) ∈ zTs := zin 540 (by decide +kernel) (by decide +kernel)
theorem ml_X6_145 : Cond.methodLink RX6 145 yX4_cuttings ∈ zTs := zin 541 (by decide +kernel) (by decide +kernel)
theorem im_X4_cuttings : Cond.instanceMethod yX4_cuttings ∈ zTs := zin 542 (by decide +kernel) (by decide +kernel)
theorem se_X4_cuttings : Cond.selects RX4 yX4_cuttings yX4_cuttings ∈ zTs := zin 543 (by decide +kernel) (by decide +kernel)
theorem co_X4_cuttings : Cond.code yX4_cuttings cX4_cuttings 1 (some .int) ∈ zTs := zin 544 (by decide +kernel) (by decide +kernel)
theorem ml_X6_148 : Cond.methodLink RX6 148 yX4_costOf ∈ zTs := zin 545 (by decide +kernel) (by decide +kernel)
theorem im_X4_costOf : Cond.instanceMethod yX4_costOf ∈ zTs := zin 546 (by decide +kernel) (by decide +kernel)
theorem se_X4_costOf : Cond.selects RX4 yX4_costOf yX4_costOf ∈ zTs := zin 547 (by decide +kernel) (by decide +kernel)
theorem co_X4_costOf : Cond.code yX4_costOf cX4_costOf 2 (some .int) ∈ zTs := zin 548 (by decide +kernel) (by decide +kernel)
theorem ml_X6_152 : Cond.methodLink RX6 152 yX4_follow ∈ zTs := zin 549 (by decide +kernel) (by decide +kernel)
theorem im_X4_follow : Cond.instanceMethod yX4_follow ∈ zTs := zin 550 (by decide +kernel) (by decide +kernel)
theorem se_X4_follow : Cond.selects RX4 yX4_follow yX4_follow ∈ zTs := zin 551 (by decide +kernel) (by decide +kernel)
theorem co_X4_follow : Cond.code yX4_follow cX4_follow 9 (some .int) ∈ zTs := zin 552 (by decide +kernel) (by decide +kernel)
theorem ml_L_69 : Cond.methodLink RL 69 yX6_sure ∈ zTs := zin 553 (by decide +kernel) (by decide +kernel)
theorem im_X6_sure : Cond.instanceMethod yX6_sure ∈ zTs := zin 554 (by decide +kernel) (by decide +kernel)
theorem se_X6_sure : Cond.selects RX6 yX6_sure yX6_sure ∈ zTs := zin 555 (by decide +kernel) (by decide +kernel)
theorem co_X6_sure : Cond.code yX6_sure cX6_sure 2 (some .int) ∈ zTs := zin 556 (by decide +kernel) (by decide +kernel)
theorem ml_X6_158 : Cond.methodLink RX6 158 yX4_surePlaces ∈ zTs := zin 557 (by decide +kernel) (by decide +kernel)
theorem im_X4_surePlaces : Cond.instanceMethod yX4_surePlaces ∈ zTs := zin 558 (by decide +kernel) (by decide +kernel)
theorem se_X4_surePlaces : Cond.selects RX4 yX4_surePlaces yX4_surePlaces ∈ zTs := zin 559 (by decide +kernel) (by decide +kernel)
theorem co_X4_surePlaces : Cond.code yX4_surePlaces cX4_surePlaces 10 (some .int) ∈ zTs := zin 560 (by decide +kernel) (by decide +kernel)
theorem ml_X4_88 : Cond.methodLink RX4 88 yX4_costOf ∈ zTs := zin 561 (by decide +kernel) (by decide +kernel)
theorem ml_X4_91 : Cond.methodLink RX4 91 yX4_leastWith ∈ zTs := zin 562 (by decide +kernel) (by decide +kernel)
theorem ml_L_73 : Cond.methodLink RL 73 yX6_sign ∈ zTs := zin 563 (by decide +kernel) (by decide +kernel)
theorem im_X6_sign : Cond.instanceMethod yX6_sign ∈ zTs := zin 564 (by decide +kernel) (by decide +kernel)
theorem se_X6_sign : Cond.selects RX6 yX6_sign yX6_sign ∈ zTs := zin 565 (by decide +kernel) (by decide +kernel)
theorem co_X6_sign : Cond.code yX6_sign cX6_sign 3 (some .int) ∈ zTs := zin 566 (by decide +kernel) (by decide +kernel)
theorem ml_X6_161 : Cond.methodLink RX6 161 yX5_write ∈ zTs := zin 567 (by decide +kernel) (by decide +kernel)
theorem im_X5_write : Cond.instanceMethod yX5_write ∈ zTs := zin 568 (by decide +kernel) (by decide +kernel)
theorem se_X5_write : Cond.selects RX5 yX5_write yX5_write ∈ zTs := zin 569 (by decide +kernel) (by decide +kernel)
theorem co_X5_write : Cond.code yX5_write cX5_write 7 none ∈ zTs := zin 570 (by decide +kernel) (by decide +kernel)
theorem ml_X5_19 : Cond.methodLink RX5 19 yX4_follow ∈ zTs := zin 571 (by decide +kernel) (by decide +kernel)
theorem ml_X5_25 : Cond.methodLink RX5 25 yX5_add ∈ zTs := zin 572 (by decide +kernel) (by decide +kernel)
theorem im_X5_add : Cond.instanceMethod yX5_add ∈ zTs := zin 574 (by decide +kernel) (by decide +kernel)
theorem co_X5_add : Cond.code yX5_add cX5_add 2 none ∈ zTs := zin 575 (by decide +kernel) (by decide +kernel)
theorem ml_X5_32 : Cond.methodLink RX5 32 yX5_writePiece ∈ zTs := zin 576 (by decide +kernel) (by decide +kernel)
theorem im_X5_writePiece : Cond.instanceMethod yX5_writePiece ∈ zTs := zin 578 (by decide +kernel) (by decide +kernel)
theorem co_X5_writePiece : Cond.code yX5_writePiece cX5_writePiece 6 none ∈ zTs := zin 579 (by decide +kernel) (by decide +kernel)
theorem ml_L_77 : Cond.methodLink RL 77 yX6_image ∈ zTs := zin 580 (by decide +kernel) (by decide +kernel)
theorem im_X6_image : Cond.instanceMethod yX6_image ∈ zTs := zin 581 (by decide +kernel) (by decide +kernel)
theorem se_X6_image : Cond.selects RX6 yX6_image yX6_image ∈ zTs := zin 582 (by decide +kernel) (by decide +kernel)
theorem co_X6_image : Cond.code yX6_image cX6_image 3 (some .int) ∈ zTs := zin 583 (by decide +kernel) (by decide +kernel)
theorem ml_X6_169 : Cond.methodLink RX6 169 yX0_copy ∈ zTs := zin 584 (by decide +kernel) (by decide +kernel)
theorem im_X0_copy : Cond.instanceMethod yX0_copy ∈ zTs := zin 585 (by decide +kernel) (by decide +kernel)
theorem se_X0_copy : Cond.selects RX0 yX0_copy yX0_copy ∈ zTs := zin 586 (by decide +kernel) (by decide +kernel)
theorem co_X0_copy : Cond.code yX0_copy cX0_copy 2 none ∈ zTs := zin 587 (by decide +kernel) (by decide +kernel)
theorem ml_X0_56 : Cond.methodLink RX0 56 yX1_copy ∈ zTs := zin 588 (by decide +kernel) (by decide +kernel)
theorem im_X1_copy : Cond.instanceMethod yX1_copy ∈ zTs := zin 589 (by decide +kernel) (by decide +kernel)
theorem se_X1_copy : Cond.selects RX1 yX1_copy yX1_copy ∈ zTs := zin 590 (by decide +kernel) (by decide +kernel)
theorem co_X1_copy : Cond.code yX1_copy cX1_copy 2 none ∈ zTs := zin 591 (by decide +kernel) (by decide +kernel)
theorem ml_L_81 : Cond.methodLink RL 81 yX6_restore ∈ zTs := zin 592 (by decide +kernel) (by decide +kernel)
theorem im_X6_restore : Cond.instanceMethod yX6_restore ∈ zTs := zin 593 (by decide +kernel) (by decide +kernel)
theorem se_X6_restore : Cond.selects RX6 yX6_restore yX6_restore ∈ zTs := zin 594 (by decide +kernel) (by decide +kernel)
theorem co_X6_restore : Cond.code yX6_restore cX6_restore 3 (some .int) ∈ zTs := zin 595 (by decide +kernel) (by decide +kernel)
theorem ml_L_85 : Cond.methodLink RL 85 yX6_told ∈ zTs := zin 596 (by decide +kernel) (by decide +kernel)
theorem im_X6_told : Cond.instanceMethod yX6_told ∈ zTs := zin 597 (by decide +kernel) (by decide +kernel)
theorem se_X6_told : Cond.selects RX6 yX6_told yX6_told ∈ zTs := zin 598 (by decide +kernel) (by decide +kernel)
theorem co_X6_told : Cond.code yX6_told cX6_told 2 (some .int) ∈ zTs := zin 599 (by decide +kernel) (by decide +kernel)
theorem cl_L_10 : Cond.classLink RL 10 RX7 ∈ zTs := zin 600 (by decide +kernel) (by decide +kernel)
theorem ia_X7 : Cond.instantiable RX7 28 ∈ zTs := zin 601 (by decide +kernel) (by decide +kernel)
theorem ml_L_12 : Cond.methodLink RL 12 yX7_init ∈ zTs := zin 602 (by decide +kernel) (by decide +kernel)
theorem im_X7_init : Cond.instanceMethod yX7_init ∈ zTs := zin 603 (by decide +kernel) (by decide +kernel)
theorem co_X7_init : Cond.code yX7_init cX7_init 1 none ∈ zTs := zin 604 (by decide +kernel) (by decide +kernel)
theorem ml_X7_1 : Cond.methodLink RX7 1 (⟨"java/lang/Object", "<init>", "()V"⟩ : MethodName) ∈ zTs := zin 605 (by decide +kernel) (by decide +kernel)
theorem fl_X7_7 : Cond.fieldLink RX7 7 "CutLettersModel" "letters" "[I" ∈ zTs := zin 606 (by decide +kernel) (by decide +kernel)
theorem fl_X7_13 : Cond.fieldLink RX7 13 "CutLettersModel" "size" "[I" ∈ zTs := zin 607 (by decide +kernel) (by decide +kernel)
theorem fl_X7_16 : Cond.fieldLink RX7 16 "CutLettersModel" "kind" "[I" ∈ zTs := zin 608 (by decide +kernel) (by decide +kernel)
theorem fl_X7_19 : Cond.fieldLink RX7 19 "CutLettersModel" "cost" "[I" ∈ zTs := zin 609 (by decide +kernel) (by decide +kernel)
theorem fl_X7_106 : Cond.fieldLink RX7 106 "CutLettersModel" "words" "I" ∈ zTs := zin 610 (by decide +kernel) (by decide +kernel)
theorem fl_X7_22 : Cond.fieldLink RX7 22 "CutLettersModel" "joins" "[I" ∈ zTs := zin 611 (by decide +kernel) (by decide +kernel)
theorem fl_X7_25 : Cond.fieldLink RX7 25 "CutLettersModel" "rules" "[I" ∈ zTs := zin 612 (by decide +kernel) (by decide +kernel)
theorem fl_X7_28 : Cond.fieldLink RX7 28 "CutLettersModel" "line" "[I" ∈ zTs := zin 613 (by decide +kernel) (by decide +kernel)
theorem fl_X7_109 : Cond.fieldLink RX7 109 "CutLettersModel" "long1" "I" ∈ zTs := zin 614 (by decide +kernel) (by decide +kernel)
theorem fl_X7_78 : Cond.fieldLink RX7 78 "CutLettersModel" "signs" "I" ∈ zTs := zin 615 (by decide +kernel) (by decide +kernel)
theorem fl_X7_31 : Cond.fieldLink RX7 31 "CutLettersModel" "pad" "[I" ∈ zTs := zin 616 (by decide +kernel) (by decide +kernel)
theorem fl_X7_86 : Cond.fieldLink RX7 86 "CutLettersModel" "readSize" "I" ∈ zTs := zin 617 (by decide +kernel) (by decide +kernel)
theorem fl_X7_89 : Cond.fieldLink RX7 89 "CutLettersModel" "readKind" "I" ∈ zTs := zin 618 (by decide +kernel) (by decide +kernel)
theorem fl_X7_96 : Cond.fieldLink RX7 96 "CutLettersModel" "readCost" "I" ∈ zTs := zin 619 (by decide +kernel) (by decide +kernel)
theorem fl_X7_34 : Cond.fieldLink RX7 34 "CutLettersModel" "place" "[I" ∈ zTs := zin 620 (by decide +kernel) (by decide +kernel)
theorem fl_X7_37 : Cond.fieldLink RX7 37 "CutLettersModel" "length" "[I" ∈ zTs := zin 621 (by decide +kernel) (by decide +kernel)
theorem fl_X7_40 : Cond.fieldLink RX7 40 "CutLettersModel" "sort" "[I" ∈ zTs := zin 622 (by decide +kernel) (by decide +kernel)
theorem fl_X7_43 : Cond.fieldLink RX7 43 "CutLettersModel" "price" "[I" ∈ zTs := zin 623 (by decide +kernel) (by decide +kernel)
theorem fl_X7_46 : Cond.fieldLink RX7 46 "CutLettersModel" "of" "[I" ∈ zTs := zin 624 (by decide +kernel) (by decide +kernel)
theorem fl_X7_49 : Cond.fieldLink RX7 49 "CutLettersModel" "begins" "[I" ∈ zTs := zin 625 (by decide +kernel) (by decide +kernel)
theorem fl_X7_112 : Cond.fieldLink RX7 112 "CutLettersModel" "many" "I" ∈ zTs := zin 626 (by decide +kernel) (by decide +kernel)
theorem fl_X7_52 : Cond.fieldLink RX7 52 "CutLettersModel" "rowCost" "[I" ∈ zTs := zin 627 (by decide +kernel) (by decide +kernel)
theorem fl_X7_55 : Cond.fieldLink RX7 55 "CutLettersModel" "rowNext" "[I" ∈ zTs := zin 628 (by decide +kernel) (by decide +kernel)
theorem fl_X7_58 : Cond.fieldLink RX7 58 "CutLettersModel" "rows" "[I" ∈ zTs := zin 629 (by decide +kernel) (by decide +kernel)
theorem fl_X7_61 : Cond.fieldLink RX7 61 "CutLettersModel" "ahead" "[I" ∈ zTs := zin 630 (by decide +kernel) (by decide +kernel)
theorem fl_X7_64 : Cond.fieldLink RX7 64 "CutLettersModel" "waysTo" "[I" ∈ zTs := zin 631 (by decide +kernel) (by decide +kernel)
theorem fl_X7_67 : Cond.fieldLink RX7 67 "CutLettersModel" "image" "[I" ∈ zTs := zin 632 (by decide +kernel) (by decide +kernel)
theorem fl_X7_70 : Cond.fieldLink RX7 70 "CutLettersModel" "isKept" "[Z" ∈ zTs := zin 633 (by decide +kernel) (by decide +kernel)
theorem ac_Jvm_ClassFile_FieldType_boolean : Cond.arrayClass Jvm.ClassFile.FieldType.boolean ∈ zTs := zin 691 (by decide +kernel) (by decide +kernel)
theorem ml_L_17 : Cond.methodLink RL 17 yX7_say ∈ zTs := zin 692 (by decide +kernel) (by decide +kernel)
theorem im_X7_say : Cond.instanceMethod yX7_say ∈ zTs := zin 693 (by decide +kernel) (by decide +kernel)
theorem se_X7_say : Cond.selects RX7 yX7_say yX7_say ∈ zTs := zin 694 (by decide +kernel) (by decide +kernel)
theorem co_X7_say : Cond.code yX7_say cX7_say 2 (some .int) ∈ zTs := zin 695 (by decide +kernel) (by decide +kernel)
theorem ml_X7_74 : Cond.methodLink RX7 74 yX7_in ∈ zTs := zin 696 (by decide +kernel) (by decide +kernel)
theorem sm_X7_in : Cond.static yX7_in ∈ zTs := zin 697 (by decide +kernel) (by decide +kernel)
theorem co_X7_in : Cond.code yX7_in cX7_in 3 (some .boolean) ∈ zTs := zin 698 (by decide +kernel) (by decide +kernel)
theorem ml_L_22 : Cond.methodLink RL 22 yX7_wipe ∈ zTs := zin 699 (by decide +kernel) (by decide +kernel)
theorem im_X7_wipe : Cond.instanceMethod yX7_wipe ∈ zTs := zin 700 (by decide +kernel) (by decide +kernel)
theorem se_X7_wipe : Cond.selects RX7 yX7_wipe yX7_wipe ∈ zTs := zin 701 (by decide +kernel) (by decide +kernel)
theorem co_X7_wipe : Cond.code yX7_wipe cX7_wipe 2 (some .int) ∈ zTs := zin 702 (by decide +kernel) (by decide +kernel)
theorem ml_L_26 : Cond.methodLink RL 26 yX7_fault ∈ zTs := zin 703 (by decide +kernel) (by decide +kernel)
theorem im_X7_fault : Cond.instanceMethod yX7_fault ∈ zTs := zin 704 (by decide +kernel) (by decide +kernel)
theorem se_X7_fault : Cond.selects RX7 yX7_fault yX7_fault ∈ zTs := zin 705 (by decide +kernel) (by decide +kernel)
theorem co_X7_fault : Cond.code yX7_fault cX7_fault 2 (some .int) ∈ zTs := zin 706 (by decide +kernel) (by decide +kernel)
theorem ml_X7_99 : Cond.methodLink RX7 99 yX7_wordFault ∈ zTs := zin 707 (by decide +kernel) (by decide +kernel)
theorem im_X7_wordFault : Cond.instanceMethod yX7_wordFault ∈ zTs := zin 709 (by decide +kernel) (by decide +kernel)
theorem co_X7_wordFault : Cond.code yX7_wordFault cX7_wordFault 4 (some .int) ∈ zTs := zin 710 (by decide +kernel) (by decide +kernel)
theorem ml_X7_82 : Cond.methodLink RX7 82 yX7_isLetter ∈ zTs := zin 711 (by decide +kernel) (by decide +kernel)
theorem sm_X7_isLetter : Cond.static yX7_isLetter ∈ zTs := zin 712 (by decide +kernel) (by decide +kernel)
theorem co_X7_isLetter : Cond.code yX7_isLetter cX7_isLetter 1 (some .boolean) ∈ zTs := zin 713 (by decide +kernel) (by decide +kernel)
theorem ml_X7_92 : Cond.methodLink RX7 92 yX7_name ∈ zTs := zin 714 (by decide +kernel) (by decide +kernel)
theorem sm_X7_name : Cond.static yX7_name ∈ zTs := zin 715 (by decide +kernel) (by decide +kernel)
theorem co_X7_name : Cond.code yX7_name cX7_name 2 (some .int) ∈ zTs := zin 716 (by decide +kernel) (by decide +kernel)
theorem ml_X7_103 : Cond.methodLink RX7 103 yX7_lineFault ∈ zTs := zin 717 (by decide +kernel) (by decide +kernel)
theorem im_X7_lineFault : Cond.instanceMethod yX7_lineFault ∈ zTs := zin 719 (by decide +kernel) (by decide +kernel)
theorem co_X7_lineFault : Cond.code yX7_lineFault cX7_lineFault 2 (some .int) ∈ zTs := zin 720 (by decide +kernel) (by decide +kernel)
theorem ml_L_30 : Cond.methodLink RL 30 yX7_learn ∈ zTs := zin 721 (by decide +kernel) (by decide +kernel)
theorem im_X7_learn : Cond.instanceMethod yX7_learn ∈ zTs := zin 722 (by decide +kernel) (by decide +kernel)
theorem se_X7_learn : Cond.selects RX7 yX7_learn yX7_learn ∈ zTs := zin 723 (by decide +kernel) (by decide +kernel)
theorem co_X7_learn : Cond.code yX7_learn cX7_learn 5 (some .int) ∈ zTs := zin 724 (by decide +kernel) (by decide +kernel)
theorem ml_L_34 : Cond.methodLink RL 34 yX7_forget ∈ zTs := zin 725 (by decide +kernel) (by decide +kernel)
theorem im_X7_forget : Cond.instanceMethod yX7_forget ∈ zTs := zin 726 (by decide +kernel) (by decide +kernel)
theorem se_X7_forget : Cond.selects RX7 yX7_forget yX7_forget ∈ zTs := zin 727 (by decide +kernel) (by decide +kernel)
theorem co_X7_forget : Cond.code yX7_forget cX7_forget 4 (some .int) ∈ zTs := zin 728 (by decide +kernel) (by decide +kernel)
theorem ml_L_39 : Cond.methodLink RL 39 yX7_word ∈ zTs := zin 729 (by decide +kernel) (by decide +kernel)
theorem im_X7_word : Cond.instanceMethod yX7_word ∈ zTs := zin 730 (by decide +kernel) (by decide +kernel)
theorem se_X7_word : Cond.selects RX7 yX7_word yX7_word ∈ zTs := zin 731 (by decide +kernel) (by decide +kernel)
theorem co_X7_word : Cond.code yX7_word cX7_word 3 (some .int) ∈ zTs := zin 732 (by decide +kernel) (by decide +kernel)
theorem ml_L_43 : Cond.methodLink RL 43 yX7_line ∈ zTs := zin 733 (by decide +kernel) (by decide +kernel)
theorem im_X7_line : Cond.instanceMethod yX7_line ∈ zTs := zin 734 (by decide +kernel) (by decide +kernel)
theorem se_X7_line : Cond.selects RX7 yX7_line yX7_line ∈ zTs := zin 735 (by decide +kernel) (by decide +kernel)
theorem co_X7_line : Cond.code yX7_line cX7_line 2 (some .int) ∈ zTs := zin 736 (by decide +kernel) (by decide +kernel)
theorem ml_L_48 : Cond.methodLink RL 48 yX7_join ∈ zTs := zin 737 (by decide +kernel) (by decide +kernel)
theorem im_X7_join : Cond.instanceMethod yX7_join ∈ zTs := zin 738 (by decide +kernel) (by decide +kernel)
theorem se_X7_join : Cond.selects RX7 yX7_join yX7_join ∈ zTs := zin 739 (by decide +kernel) (by decide +kernel)
theorem co_X7_join : Cond.code yX7_join cX7_join 5 (some .int) ∈ zTs := zin 740 (by decide +kernel) (by decide +kernel)
theorem ml_L_52 : Cond.methodLink RL 52 yX7_rule ∈ zTs := zin 741 (by decide +kernel) (by decide +kernel)
theorem im_X7_rule : Cond.instanceMethod yX7_rule ∈ zTs := zin 742 (by decide +kernel) (by decide +kernel)
theorem se_X7_rule : Cond.selects RX7 yX7_rule yX7_rule ∈ zTs := zin 743 (by decide +kernel) (by decide +kernel)
theorem co_X7_rule : Cond.code yX7_rule cX7_rule 4 (some .int) ∈ zTs := zin 744 (by decide +kernel) (by decide +kernel)
theorem ml_L_56 : Cond.methodLink RL 56 yX7_pieces ∈ zTs := zin 745 (by decide +kernel) (by decide +kernel)
theorem im_X7_pieces : Cond.instanceMethod yX7_pieces ∈ zTs := zin 746 (by decide +kernel) (by decide +kernel)
theorem se_X7_pieces : Cond.selects RX7 yX7_pieces yX7_pieces ∈ zTs := zin 747 (by decide +kernel) (by decide +kernel)
theorem co_X7_pieces : Cond.code yX7_pieces cX7_pieces 1 (some .int) ∈ zTs := zin 748 (by decide +kernel) (by decide +kernel)
theorem ml_X7_127 : Cond.methodLink RX7 127 yX7_layPieces ∈ zTs := zin 749 (by decide +kernel) (by decide +kernel)
theorem im_X7_layPieces : Cond.instanceMethod yX7_layPieces ∈ zTs := zin 751 (by decide +kernel) (by decide +kernel)
theorem co_X7_layPieces : Cond.code yX7_layPieces cX7_layPieces 8 none ∈ zTs := zin 752 (by decide +kernel) (by decide +kernel)
theorem ml_X7_115 : Cond.methodLink RX7 115 yX7_classOf ∈ zTs := zin 753 (by decide +kernel) (by decide +kernel)
theorem sm_X7_classOf : Cond.static yX7_classOf ∈ zTs := zin 754 (by decide +kernel) (by decide +kernel)
theorem co_X7_classOf : Cond.code yX7_classOf cX7_classOf 1 (some .int) ∈ zTs := zin 755 (by decide +kernel) (by decide +kernel)
theorem ml_X7_119 : Cond.methodLink RX7 119 yX7_stands ∈ zTs := zin 756 (by decide +kernel) (by decide +kernel)
theorem im_X7_stands : Cond.instanceMethod yX7_stands ∈ zTs := zin 758 (by decide +kernel) (by decide +kernel)
theorem co_X7_stands : Cond.code yX7_stands cX7_stands 5 (some .boolean) ∈ zTs := zin 759 (by decide +kernel) (by decide +kernel)
theorem ml_X7_123 : Cond.methodLink RX7 123 yX7_put ∈ zTs := zin 760 (by decide +kernel) (by decide +kernel)
theorem im_X7_put : Cond.instanceMethod yX7_put ∈ zTs := zin 762 (by decide +kernel) (by decide +kernel)
theorem co_X7_put : Cond.code yX7_put cX7_put 6 none ∈ zTs := zin 763 (by decide +kernel) (by decide +kernel)
theorem ml_L_60 : Cond.methodLink RL 60 yX7_piece ∈ zTs := zin 764 (by decide +kernel) (by decide +kernel)
theorem im_X7_piece : Cond.instanceMethod yX7_piece ∈ zTs := zin 765 (by decide +kernel) (by decide +kernel)
theorem se_X7_piece : Cond.selects RX7 yX7_piece yX7_piece ∈ zTs := zin 766 (by decide +kernel) (by decide +kernel)
theorem co_X7_piece : Cond.code yX7_piece cX7_piece 3 (some .int) ∈ zTs := zin 767 (by decide +kernel) (by decide +kernel)
theorem ml_X7_136 : Cond.methodLink RX7 136 yX7_layRows ∈ zTs := zin 768 (by decide +kernel) (by decide +kernel)
theorem im_X7_layRows : Cond.instanceMethod yX7_layRows ∈ zTs := zin 770 (by decide +kernel) (by decide +kernel)
theorem co_X7_layRows : Cond.code yX7_layRows cX7_layRows 13 none ∈ zTs := zin 771 (by decide +kernel) (by decide +kernel)
theorem ml_X7_130 : Cond.methodLink RX7 130 yX7_behind ∈ zTs := zin 772 (by decide +kernel) (by decide +kernel)
theorem im_X7_behind : Cond.instanceMethod yX7_behind ∈ zTs := zin 774 (by decide +kernel) (by decide +kernel)
theorem co_X7_behind : Cond.code yX7_behind cX7_behind 2 (some .int) ∈ zTs := zin 775 (by decide +kernel) (by decide +kernel)
theorem ml_X7_133 : Cond.methodLink RX7 133 yX7_joinOf ∈ zTs := zin 776 (by decide +kernel) (by decide +kernel)
theorem im_X7_joinOf : Cond.instanceMethod yX7_joinOf ∈ zTs := zin 778 (by decide +kernel) (by decide +kernel)
theorem co_X7_joinOf : Cond.code yX7_joinOf cX7_joinOf 3 (some .int) ∈ zTs := zin 779 (by decide +kernel) (by decide +kernel)
theorem ml_X7_139 : Cond.methodLink RX7 139 yX7_leastOf ∈ zTs := zin 780 (by decide +kernel) (by decide +kernel)
theorem im_X7_leastOf : Cond.instanceMethod yX7_leastOf ∈ zTs := zin 782 (by decide +kernel) (by decide +kernel)
theorem co_X7_leastOf : Cond.code yX7_leastOf cX7_leastOf 5 (some .int) ∈ zTs := zin 783 (by decide +kernel) (by decide +kernel)
theorem ml_L_64 : Cond.methodLink RL 64 yX7_ways ∈ zTs := zin 784 (by decide +kernel) (by decide +kernel)
theorem im_X7_ways : Cond.instanceMethod yX7_ways ∈ zTs := zin 785 (by decide +kernel) (by decide +kernel)
theorem se_X7_ways : Cond.selects RX7 yX7_ways yX7_ways ∈ zTs := zin 786 (by decide +kernel) (by decide +kernel)
theorem co_X7_ways : Cond.code yX7_ways cX7_ways 3 (some .int) ∈ zTs := zin 787 (by decide +kernel) (by decide +kernel)
theorem cn_X7_142 : Cond.constant RX7 142 (1000003) ∈ zTs := zin 788 (by decide +kernel) (by decide +kernel)
theorem ml_L_68 : Cond.methodLink RL 68 yX7_cutting ∈ zTs := zin 789 (by decide +kernel) (by decide +kernel)
theorem im_X7_cutting : Cond.instanceMethod yX7_cutting ∈ zTs := zin 790 (by decide +kernel) (by decide +kernel)
theorem se_X7_cutting : Cond.selects RX7 yX7_cutting yX7_cutting ∈ zTs := zin 791 (by decide +kernel) (by decide +kernel)
theorem co_X7_cutting : Cond.code yX7_cutting cX7_cutting 6 (some .int) ∈ zTs := zin 792 (by decide +kernel) (by decide +kernel)
theorem ml_X7_143 : Cond.methodLink RX7 143 yX7_cuttingOf ∈ zTs := zin 793 (by decide +kernel) (by decide +kernel)
theorem im_X7_cuttingOf : Cond.instanceMethod yX7_cuttingOf ∈ zTs := zin 795 (by decide +kernel) (by decide +kernel)
theorem co_X7_cuttingOf : Cond.code yX7_cuttingOf cX7_cuttingOf 12 (some .int) ∈ zTs := zin 796 (by decide +kernel) (by decide +kernel)
theorem ml_X7_146 : Cond.methodLink RX7 146 yX7_costOf ∈ zTs := zin 797 (by decide +kernel) (by decide +kernel)
theorem im_X7_costOf : Cond.instanceMethod yX7_costOf ∈ zTs := zin 799 (by decide +kernel) (by decide +kernel)
theorem co_X7_costOf : Cond.code yX7_costOf cX7_costOf 2 (some .int) ∈ zTs := zin 800 (by decide +kernel) (by decide +kernel)
theorem ml_X7_149 : Cond.methodLink RX7 149 yX7_next ∈ zTs := zin 801 (by decide +kernel) (by decide +kernel)
theorem im_X7_next : Cond.instanceMethod yX7_next ∈ zTs := zin 803 (by decide +kernel) (by decide +kernel)
theorem co_X7_next : Cond.code yX7_next cX7_next 2 (some .int) ∈ zTs := zin 804 (by decide +kernel) (by decide +kernel)
theorem ml_L_72 : Cond.methodLink RL 72 yX7_sure ∈ zTs := zin 805 (by decide +kernel) (by decide +kernel)
theorem im_X7_sure : Cond.instanceMethod yX7_sure ∈ zTs := zin 806 (by decide +kernel) (by decide +kernel)
theorem se_X7_sure : Cond.selects RX7 yX7_sure yX7_sure ∈ zTs := zin 807 (by decide +kernel) (by decide +kernel)
theorem co_X7_sure : Cond.code yX7_sure cX7_sure 8 (some .int) ∈ zTs := zin 808 (by decide +kernel) (by decide +kernel)
theorem ml_L_76 : Cond.methodLink RL 76 yX7_sign ∈ zTs := zin 809 (by decide +kernel) (by decide +kernel)
theorem im_X7_sign : Cond.instanceMethod yX7_sign ∈ zTs := zin 810 (by decide +kernel) (by decide +kernel)
theorem se_X7_sign : Cond.selects RX7 yX7_sign yX7_sign ∈ zTs := zin 811 (by decide +kernel) (by decide +kernel)
theorem co_X7_sign : Cond.code yX7_sign cX7_sign 9 (some .int) ∈ zTs := zin 812 (by decide +kernel) (by decide +kernel)
theorem ml_L_80 : Cond.methodLink RL 80 yX7_image ∈ zTs := zin 813 (by decide +kernel) (by decide +kernel)
theorem im_X7_image : Cond.instanceMethod yX7_image ∈ zTs := zin 814 (by decide +kernel) (by decide +kernel)
theorem se_X7_image : Cond.selects RX7 yX7_image yX7_image ∈ zTs := zin 815 (by decide +kernel) (by decide +kernel)
theorem co_X7_image : Cond.code yX7_image cX7_image 4 (some .int) ∈ zTs := zin 816 (by decide +kernel) (by decide +kernel)
theorem ml_L_84 : Cond.methodLink RL 84 yX7_restore ∈ zTs := zin 817 (by decide +kernel) (by decide +kernel)
theorem im_X7_restore : Cond.instanceMethod yX7_restore ∈ zTs := zin 818 (by decide +kernel) (by decide +kernel)
theorem se_X7_restore : Cond.selects RX7 yX7_restore yX7_restore ∈ zTs := zin 819 (by decide +kernel) (by decide +kernel)
theorem co_X7_restore : Cond.code yX7_restore cX7_restore 4 (some .int) ∈ zTs := zin 820 (by decide +kernel) (by decide +kernel)
theorem ml_L_88 : Cond.methodLink RL 88 yX7_told ∈ zTs := zin 821 (by decide +kernel) (by decide +kernel)
theorem im_X7_told : Cond.instanceMethod yX7_told ∈ zTs := zin 822 (by decide +kernel) (by decide +kernel)
theorem se_X7_told : Cond.selects RX7 yX7_told yX7_told ∈ zTs := zin 823 (by decide +kernel) (by decide +kernel)
theorem co_X7_told : Cond.code yX7_told cX7_told 2 (some .int) ∈ zTs := zin 824 (by decide +kernel) (by decide +kernel)
theorem fl_J0_15 : Cond.fieldLink RJ0 15 "java/lang/String" "coder" "B" ∈ zTs := zin 825 (by decide +kernel) (by decide +kernel)
theorem fl_J0_9 : Cond.fieldLink RJ0 9 "java/lang/String" "value" "[B" ∈ zTs := zin 826 (by decide +kernel) (by decide +kernel)
theorem se_X3_leadingLetters : Cond.selects RX3 yX3_leadingLetters yX3_leadingLetters ∈ zTs := zin 0 (by decide +kernel) (by decide +kernel)
theorem se_X3_signAt : Cond.selects RX3 yX3_signAt yX3_signAt ∈ zTs := zin 1 (by decide +kernel) (by decide +kernel)
theorem se_X3_kindNamedAt : Cond.selects RX3 yX3_kindNamedAt yX3_kindNamedAt ∈ zTs := zin 2 (by decide +kernel) (by decide +kernel)
theorem se_X3_nameStandsAt : Cond.selects RX3 yX3_nameStandsAt yX3_nameStandsAt ∈ zTs := zin 3 (by decide +kernel) (by decide +kernel)
theorem se_X3_readCost : Cond.selects RX3 yX3_readCost yX3_readCost ∈ zTs := zin 4 (by decide +kernel) (by decide +kernel)
theorem se_X1_find : Cond.selects RX1 yX1_find yX1_find ∈ zTs := zin 5 (by decide +kernel) (by decide +kernel)
theorem se_X6_somethingChanged : Cond.selects RX6 yX6_somethingChanged yX6_somethingChanged ∈ zTs := zin 6 (by decide +kernel) (by decide +kernel)
theorem se_X6_hasLine : Cond.selects RX6 yX6_hasLine yX6_hasLine ∈ zTs := zin 7 (by decide +kernel) (by decide +kernel)
theorem se_X6_makeNet : Cond.selects RX6 yX6_makeNet yX6_makeNet ∈ zTs := zin 8 (by decide +kernel) (by decide +kernel)
theorem se_X2_fillSlots : Cond.selects RX2 yX2_fillSlots yX2_fillSlots ∈ zTs := zin 9 (by decide +kernel) (by decide +kernel)
theorem se_X2_fillWords : Cond.selects RX2 yX2_fillWords yX2_fillWords ∈ zTs := zin 10 (by decide +kernel) (by decide +kernel)
theorem se_X2_fillWild : Cond.selects RX2 yX2_fillWild yX2_fillWild ∈ zTs := zin 11 (by decide +kernel) (by decide +kernel)
theorem se_X2_addSlots : Cond.selects RX2 yX2_addSlots yX2_addSlots ∈ zTs := zin 12 (by decide +kernel) (by decide +kernel)
theorem se_X2_add : Cond.selects RX2 yX2_add yX2_add ∈ zTs := zin 13 (by decide +kernel) (by decide +kernel)
theorem se_X6_makeRanking : Cond.selects RX6 yX6_makeRanking yX6_makeRanking ∈ zTs := zin 14 (by decide +kernel) (by decide +kernel)
theorem se_X4_reachSpots : Cond.selects RX4 yX4_reachSpots yX4_reachSpots ∈ zTs := zin 15 (by decide +kernel) (by decide +kernel)
theorem se_X4_leastUpTo : Cond.selects RX4 yX4_leastUpTo yX4_leastUpTo ∈ zTs := zin 16 (by decide +kernel) (by decide +kernel)
theorem se_X4_rankEnds : Cond.selects RX4 yX4_rankEnds yX4_rankEnds ∈ zTs := zin 17 (by decide +kernel) (by decide +kernel)
theorem se_X4_rankSpot : Cond.selects RX4 yX4_rankSpot yX4_rankSpot ∈ zTs := zin 18 (by decide +kernel) (by decide +kernel)
theorem se_X4_offerWays : Cond.selects RX4 yX4_offerWays yX4_offerWays ∈ zTs := zin 19 (by decide +kernel) (by decide +kernel)
theorem se_X4_offer : Cond.selects RX4 yX4_offer yX4_offer ∈ zTs := zin 20 (by decide +kernel) (by decide +kernel)
theorem se_X5_add : Cond.selects RX5 yX5_add yX5_add ∈ zTs := zin 21 (by decide +kernel) (by decide +kernel)
theorem se_X5_writePiece : Cond.selects RX5 yX5_writePiece yX5_writePiece ∈ zTs := zin 22 (by decide +kernel) (by decide +kernel)
theorem se_X7_wordFault : Cond.selects RX7 yX7_wordFault yX7_wordFault ∈ zTs := zin 23 (by decide +kernel) (by decide +kernel)
theorem se_X7_lineFault : Cond.selects RX7 yX7_lineFault yX7_lineFault ∈ zTs := zin 24 (by decide +kernel) (by decide +kernel)
theorem se_X7_layPieces : Cond.selects RX7 yX7_layPieces yX7_layPieces ∈ zTs := zin 25 (by decide +kernel) (by decide +kernel)
theorem se_X7_stands : Cond.selects RX7 yX7_stands yX7_stands ∈ zTs := zin 26 (by decide +kernel) (by decide +kernel)
theorem se_X7_put : Cond.selects RX7 yX7_put yX7_put ∈ zTs := zin 27 (by decide +kernel) (by decide +kernel)
theorem se_X7_layRows : Cond.selects RX7 yX7_layRows yX7_layRows ∈ zTs := zin 28 (by decide +kernel) (by decide +kernel)
theorem se_X7_behind : Cond.selects RX7 yX7_behind yX7_behind ∈ zTs := zin 29 (by decide +kernel) (by decide +kernel)
theorem se_X7_joinOf : Cond.selects RX7 yX7_joinOf yX7_joinOf ∈ zTs := zin 30 (by decide +kernel) (by decide +kernel)
theorem se_X7_leastOf : Cond.selects RX7 yX7_leastOf yX7_leastOf ∈ zTs := zin 31 (by decide +kernel) (by decide +kernel)
theorem se_X7_cuttingOf : Cond.selects RX7 yX7_cuttingOf yX7_cuttingOf ∈ zTs := zin 32 (by decide +kernel) (by decide +kernel)
theorem se_X7_costOf : Cond.selects RX7 yX7_costOf yX7_costOf ∈ zTs := zin 33 (by decide +kernel) (by decide +kernel)
theorem se_X7_next : Cond.selects RX7 yX7_next yX7_next ∈ zTs := zin 34 (by decide +kernel) (by decide +kernel)
end
section
theorem dX0_init_0 : decode cX0_init 0 = .ok (.aload_n 0, 1) := by decide +kernel
theorem dX0_init_1 : decode cX0_init 1 = .ok (.invokespecial 3, 3) := by decide +kernel
theorem dX0_init_4 : decode cX0_init 4 = .ok (.aload_n 0, 1) := by decide +kernel
theorem dX0_init_5 : decode cX0_init 5 = .ok (.new 9, 3) := by decide +kernel
theorem dX0_init_8 : decode cX0_init 8 = .ok (.dup, 1) := by decide +kernel
theorem dX0_init_9 : decode cX0_init 9 = .ok (.invokespecial 11, 3) := by decide +kernel
theorem dX0_init_12 : decode cX0_init 12 = .ok (.putfield 12, 3) := by decide +kernel
theorem dX0_init_15 : decode cX0_init 15 = .ok (.aload_n 0, 1) := by decide +kernel
theorem dX0_init_16 : decode cX0_init 16 = .ok (.bipush 25, 2) := by decide +kernel
theorem dX0_init_18 : decode cX0_init 18 = .ok (.newarray .int, 2) := by decide +kernel
theorem dX0_init_20 : decode cX0_init 20 = .ok (.putfield 18, 3) := by decide +kernel
theorem dX0_init_23 : decode cX0_init 23 = .ok (.aload_n 0, 1) := by decide +kernel
theorem dX0_init_24 : decode cX0_init 24 = .ok (.iconst 4, 1) := by decide +kernel
theorem dX0_init_25 : decode cX0_init 25 = .ok (.newarray .int, 2) := by decide +kernel
theorem dX0_init_27 : decode cX0_init 27 = .ok (.dup, 1) := by decide +kernel
theorem dX0_init_28 : decode cX0_init 28 = .ok (.iconst 0, 1) := by decide +kernel
theorem dX0_init_29 : decode cX0_init 29 = .ok (.iconst 0, 1) := by decide +kernel
theorem dX0_init_30 : decode cX0_init 30 = .ok (.iastore, 1) := by decide +kernel
theorem dX0_init_31 : decode cX0_init 31 = .ok (.dup, 1) := by decide +kernel
theorem dX0_init_32 : decode cX0_init 32 = .ok (.iconst 1, 1) := by decide +kernel
theorem dX0_init_33 : decode cX0_init 33 = .ok (.bipush 50, 2) := by decide +kernel
theorem dX0_init_35 : decode cX0_init 35 = .ok (.iastore, 1) := by decide +kernel
theorem dX0_init_36 : decode cX0_init 36 = .ok (.dup, 1) := by decide +kernel
theorem dX0_init_37 : decode cX0_init 37 = .ok (.iconst 2, 1) := by decide +kernel
theorem dX0_init_38 : decode cX0_init 38 = .ok (.bipush 10, 2) := by decide +kernel
theorem dX0_init_40 : decode cX0_init 40 = .ok (.iastore, 1) := by decide +kernel
theorem dX0_init_41 : decode cX0_init 41 = .ok (.dup, 1) := by decide +kernel
theorem dX0_init_42 : decode cX0_init 42 = .ok (.iconst 3, 1) := by decide +kernel
theorem dX0_init_43 : decode cX0_init 43 = .ok (.iconst 1, 1) := by decide +kernel
theorem dX0_init_44 : decode cX0_init 44 = .ok (.iastore, 1) := by decide +kernel
theorem dX0_init_45 : decode cX0_init 45 = .ok (.putfield 22, 3) := by decide +kernel
theorem dX0_init_48 : decode cX0_init 48 = .ok (.aload_n 0, 1) := by decide +kernel
theorem dX0_init_49 : decode cX0_init 49 = .ok (.bipush 24, 2) := by decide +kernel
theorem dX0_init_51 : decode cX0_init 51 = .ok (.newarray .int, 2) := by decide +kernel
theorem dX0_init_53 : decode cX0_init 53 = .ok (.putfield 25, 3) := by decide +kernel
theorem dX0_init_56 : decode cX0_init 56 = .ok (.return_, 1) := by decide +kernel
theorem dX0_takeLine_0 : decode cX0_takeLine 0 = .ok (.aload_n 0, 1) := by decide +kernel
theorem dX0_takeLine_1 : decode cX0_takeLine 1 = .ok (.aload_n 1, 1) := by decide +kernel
theorem dX0_takeLine_2 : decode cX0_takeLine 2 = .ok (.getfield 28, 3) := by decide +kernel
theorem dX0_takeLine_5 : decode cX0_takeLine 5 = .ok (.bipush 24, 2) := by decide +kernel
theorem dX0_takeLine_7 : decode cX0_takeLine 7 = .ok (.invokestatic 34, 3) := by decide +kernel
theorem dX0_takeLine_10 : decode cX0_takeLine 10 = .ok (.putfield 40, 3) := by decide +kernel
theorem dX0_takeLine_13 : decode cX0_takeLine 13 = .ok (.aload_n 1, 1) := by decide +kernel
theorem dX0_takeLine_14 : decode cX0_takeLine 14 = .ok (.getfield 43, 3) := by decide +kernel
theorem dX0_takeLine_17 : decode cX0_takeLine 17 = .ok (.iconst 0, 1) := by decide +kernel
theorem dX0_takeLine_18 : decode cX0_takeLine 18 = .ok (.aload_n 0, 1) := by decide +kernel
theorem dX0_takeLine_19 : decode cX0_takeLine 19 = .ok (.getfield 25, 3) := by decide +kernel
theorem dX0_takeLine_22 : decode cX0_takeLine 22 = .ok (.iconst 0, 1) := by decide +kernel
theorem dX0_takeLine_23 : decode cX0_takeLine 23 = .ok (.aload_n 0, 1) := by decide +kernel
theorem dX0_takeLine_24 : decode cX0_takeLine 24 = .ok (.getfield 40, 3) := by decide +kernel
theorem dX0_takeLine_27 : decode cX0_takeLine 27 = .ok (.invokestatic 46, 3) := by decide +kernel
theorem dX0_takeLine_30 : decode cX0_takeLine 30 = .ok (.return_, 1) := by decide +kernel
theorem dX0_runLength_0 : decode cX0_runLength 0 = .ok (.aload_n 0, 1) := by decide +kernel
theorem dX0_runLength_1 : decode cX0_runLength 1 = .ok (.getfield 40, 3) := by decide +kernel
theorem dX0_runLength_4 : decode cX0_runLength 4 = .ok (.iload_n 1, 1) := by decide +kernel
theorem dX0_runLength_5 : decode cX0_runLength 5 = .ok (.bipush 6, 2) := by decide +kernel
theorem dX0_runLength_7 : decode cX0_runLength 7 = .ok (.iadd, 1) := by decide +kernel
theorem dX0_runLength_8 : decode cX0_runLength 8 = .ok (.invokestatic 34, 3) := by decide +kernel
theorem dX0_runLength_11 : decode cX0_runLength 11 = .ok (.istore_n 2, 1) := by decide +kernel
theorem dX0_runLength_12 : decode cX0_runLength 12 = .ok (.iload_n 1, 1) := by decide +kernel
theorem dX0_runLength_13 : decode cX0_runLength 13 = .ok (.istore_n 3, 1) := by decide +kernel
theorem dX0_runLength_14 : decode cX0_runLength 14 = .ok (.iload_n 3, 1) := by decide +kernel
theorem dX0_runLength_15 : decode cX0_runLength 15 = .ok (.iload_n 2, 1) := by decide +kernel
theorem dX0_runLength_16 : decode cX0_runLength 16 = .ok (.if_icmp .ge 30, 3) := by decide +kernel
theorem dX0_runLength_19 : decode cX0_runLength 19 = .ok (.aload_n 0, 1) := by decide +kernel
theorem dX0_runLength_20 : decode cX0_runLength 20 = .ok (.getfield 25, 3) := by decide +kernel
theorem dX0_runLength_23 : decode cX0_runLength 23 = .ok (.iload_n 3, 1) := by decide +kernel
theorem dX0_runLength_24 : decode cX0_runLength 24 = .ok (.iaload, 1) := by decide +kernel
theorem dX0_runLength_25 : decode cX0_runLength 25 = .ok (.invokestatic 52, 3) := by decide +kernel
theorem dX0_runLength_28 : decode cX0_runLength 28 = .ok (.aload_n 0, 1) := by decide +kernel
theorem dX0_runLength_29 : decode cX0_runLength 29 = .ok (.getfield 25, 3) := by decide +kernel
theorem dX0_runLength_32 : decode cX0_runLength 32 = .ok (.iload_n 1, 1) := by decide +kernel
theorem dX0_runLength_33 : decode cX0_runLength 33 = .ok (.iaload, 1) := by decide +kernel
theorem dX0_runLength_34 : decode cX0_runLength 34 = .ok (.invokestatic 52, 3) := by decide +kernel
theorem dX0_runLength_37 : decode cX0_runLength 37 = .ok (.if_icmp .ne 9, 3) := by decide +kernel
theorem dX0_runLength_40 : decode cX0_runLength 40 = .ok (.iinc 3 1, 3) := by decide +kernel
theorem dX0_runLength_43 : decode cX0_runLength 43 = .ok (.goto (-29), 3) := by decide +kernel
theorem dX0_runLength_46 : decode cX0_runLength 46 = .ok (.iload_n 3, 1) := by decide +kernel
theorem dX0_runLength_47 : decode cX0_runLength 47 = .ok (.iload_n 1, 1) := by decide +kernel
theorem dX0_runLength_48 : decode cX0_runLength 48 = .ok (.isub, 1) := by decide +kernel
theorem dX0_runLength_49 : decode cX0_runLength 49 = .ok (.ireturn, 1) := by decide +kernel
theorem dX0_classOf_0 : decode cX0_classOf 0 = .ok (.iload_n 0, 1) := by decide +kernel
theorem dX0_classOf_1 : decode cX0_classOf 1 = .ok (.bipush 97, 2) := by decide +kernel
theorem dX0_classOf_3 : decode cX0_classOf 3 = .ok (.if_icmp .eq 9, 3) := by decide +kernel
theorem dX0_classOf_6 : decode cX0_classOf 6 = .ok (.iload_n 0, 1) := by decide +kernel
theorem dX0_classOf_7 : decode cX0_classOf 7 = .ok (.bipush 101, 2) := by decide +kernel
theorem dX0_classOf_9 : decode cX0_classOf 9 = .ok (.if_icmp .ne 7, 3) := by decide +kernel
theorem dX0_classOf_12 : decode cX0_classOf 12 = .ok (.iconst 0, 1) := by decide +kernel
theorem dX0_classOf_13 : decode cX0_classOf 13 = .ok (.goto 4, 3) := by decide +kernel
theorem dX0_classOf_16 : decode cX0_classOf 16 = .ok (.iconst 1, 1) := by decide +kernel
theorem dX0_classOf_17 : decode cX0_classOf 17 = .ok (.ireturn, 1) := by decide +kernel
theorem dX0_copy_0 : decode cX0_copy 0 = .ok (.aload_n 0, 1) := by decide +kernel
theorem dX0_copy_1 : decode cX0_copy 1 = .ok (.getfield 12, 3) := by decide +kernel
theorem dX0_copy_4 : decode cX0_copy 4 = .ok (.aload_n 1, 1) := by decide +kernel
theorem dX0_copy_5 : decode cX0_copy 5 = .ok (.getfield 12, 3) := by decide +kernel
theorem dX0_copy_8 : decode cX0_copy 8 = .ok (.invokevirtual 56, 3) := by decide +kernel
theorem dX0_copy_11 : decode cX0_copy 11 = .ok (.aload_n 1, 1) := by decide +kernel
theorem dX0_copy_12 : decode cX0_copy 12 = .ok (.getfield 18, 3) := by decide +kernel
theorem dX0_copy_15 : decode cX0_copy 15 = .ok (.iconst 0, 1) := by decide +kernel
theorem dX0_copy_16 : decode cX0_copy 16 = .ok (.aload_n 0, 1) := by decide +kernel
theorem dX0_copy_17 : decode cX0_copy 17 = .ok (.getfield 18, 3) := by decide +kernel
theorem dX0_copy_20 : decode cX0_copy 20 = .ok (.iconst 0, 1) := by decide +kernel
theorem dX0_copy_21 : decode cX0_copy 21 = .ok (.bipush 25, 2) := by decide +kernel
theorem dX0_copy_23 : decode cX0_copy 23 = .ok (.invokestatic 46, 3) := by decide +kernel
theorem dX0_copy_26 : decode cX0_copy 26 = .ok (.aload_n 1, 1) := by decide +kernel
theorem dX0_copy_27 : decode cX0_copy 27 = .ok (.getfield 22, 3) := by decide +kernel
theorem dX0_copy_30 : decode cX0_copy 30 = .ok (.iconst 0, 1) := by decide +kernel
theorem dX0_copy_31 : decode cX0_copy 31 = .ok (.aload_n 0, 1) := by decide +kernel
theorem dX0_copy_32 : decode cX0_copy 32 = .ok (.getfield 22, 3) := by decide +kernel
theorem dX0_copy_35 : decode cX0_copy 35 = .ok (.iconst 0, 1) := by decide +kernel
theorem dX0_copy_36 : decode cX0_copy 36 = .ok (.iconst 4, 1) := by decide +kernel
theorem dX0_copy_37 : decode cX0_copy 37 = .ok (.invokestatic 46, 3) := by decide +kernel
theorem dX0_copy_40 : decode cX0_copy 40 = .ok (.aload_n 1, 1) := by decide +kernel
theorem dX0_copy_41 : decode cX0_copy 41 = .ok (.getfield 25, 3) := by decide +kernel
theorem dX0_copy_44 : decode cX0_copy 44 = .ok (.iconst 0, 1) := by decide +kernel
theorem dX0_copy_45 : decode cX0_copy 45 = .ok (.aload_n 0, 1) := by decide +kernel
theorem dX0_copy_46 : decode cX0_copy 46 = .ok (.getfield 25, 3) := by decide +kernel
theorem dX0_copy_49 : decode cX0_copy 49 = .ok (.iconst 0, 1) := by decide +kernel
theorem dX0_copy_50 : decode cX0_copy 50 = .ok (.bipush 24, 2) := by decide +kernel
theorem dX0_copy_52 : decode cX0_copy 52 = .ok (.invokestatic 46, 3) := by decide +kernel
theorem dX0_copy_55 : decode cX0_copy 55 = .ok (.aload_n 0, 1) := by decide +kernel
theorem dX0_copy_56 : decode cX0_copy 56 = .ok (.aload_n 1, 1) := by decide +kernel
theorem dX0_copy_57 : decode cX0_copy 57 = .ok (.getfield 40, 3) := by decide +kernel
theorem dX0_copy_60 : decode cX0_copy 60 = .ok (.putfield 40, 3) := by decide +kernel
theorem dX0_copy_63 : decode cX0_copy 63 = .ok (.return_, 1) := by decide +kernel
theorem dX1_init_0 : decode cX1_init 0 = .ok (.aload_n 0, 1) := by decide +kernel
theorem dX1_init_1 : decode cX1_init 1 = .ok (.invokespecial 3, 3) := by decide +kernel
theorem dX1_init_4 : decode cX1_init 4 = .ok (.aload_n 0, 1) := by decide +kernel
theorem dX1_init_5 : decode cX1_init 5 = .ok (.bipush 96, 2) := by decide +kernel
theorem dX1_init_7 : decode cX1_init 7 = .ok (.newarray .int, 2) := by decide +kernel
theorem dX1_init_9 : decode cX1_init 9 = .ok (.putfield 9, 3) := by decide +kernel
theorem dX1_init_12 : decode cX1_init 12 = .ok (.aload_n 0, 1) := by decide +kernel
theorem dX1_init_13 : decode cX1_init 13 = .ok (.bipush 16, 2) := by decide +kernel
theorem dX1_init_15 : decode cX1_init 15 = .ok (.newarray .int, 2) := by decide +kernel
theorem dX1_init_17 : decode cX1_init 17 = .ok (.putfield 15, 3) := by decide +kernel
theorem dX1_init_20 : decode cX1_init 20 = .ok (.aload_n 0, 1) := by decide +kernel
theorem dX1_init_21 : decode cX1_init 21 = .ok (.bipush 16, 2) := by decide +kernel
theorem dX1_init_23 : decode cX1_init 23 = .ok (.newarray .int, 2) := by decide +kernel
theorem dX1_init_25 : decode cX1_init 25 = .ok (.putfield 18, 3) := by decide +kernel
theorem dX1_init_28 : decode cX1_init 28 = .ok (.aload_n 0, 1) := by decide +kernel
theorem dX1_init_29 : decode cX1_init 29 = .ok (.bipush 16, 2) := by decide +kernel
theorem dX1_init_31 : decode cX1_init 31 = .ok (.newarray .int, 2) := by decide +kernel
theorem dX1_init_33 : decode cX1_init 33 = .ok (.putfield 21, 3) := by decide +kernel
theorem dX1_init_36 : decode cX1_init 36 = .ok (.return_, 1) := by decide +kernel
theorem dX1_has_0 : decode cX1_has 0 = .ok (.iload_n 1, 1) := by decide +kernel
theorem dX1_has_1 : decode cX1_has 1 = .ok (.ifCond .lt 21, 3) := by decide +kernel
theorem dX1_has_4 : decode cX1_has 4 = .ok (.iload_n 1, 1) := by decide +kernel
theorem dX1_has_5 : decode cX1_has 5 = .ok (.aload_n 0, 1) := by decide +kernel
theorem dX1_has_6 : decode cX1_has 6 = .ok (.getfield 24, 3) := by decide +kernel
theorem dX1_has_9 : decode cX1_has 9 = .ok (.if_icmp .ge 13, 3) := by decide +kernel
theorem dX1_has_12 : decode cX1_has 12 = .ok (.iload_n 1, 1) := by decide +kernel
theorem dX1_has_13 : decode cX1_has 13 = .ok (.bipush 16, 2) := by decide +kernel
theorem dX1_has_15 : decode cX1_has 15 = .ok (.if_icmp .ge 7, 3) := by decide +kernel
theorem dX1_has_18 : decode cX1_has 18 = .ok (.iconst 1, 1) := by decide +kernel
theorem dX1_has_19 : decode cX1_has 19 = .ok (.goto 4, 3) := by decide +kernel
theorem dX1_has_22 : decode cX1_has 22 = .ok (.iconst 0, 1) := by decide +kernel
theorem dX1_has_23 : decode cX1_has 23 = .ok (.ireturn, 1) := by decide +kernel
theorem dX1_put_0 : decode cX1_put 0 = .ok (.aload_n 0, 1) := by decide +kernel
theorem dX1_put_1 : decode cX1_put 1 = .ok (.aload_n 1, 1) := by decide +kernel
theorem dX1_put_2 : decode cX1_put 2 = .ok (.invokevirtual 28, 3) := by decide +kernel
theorem dX1_put_5 : decode cX1_put 5 = .ok (.istore_n 2, 1) := by decide +kernel
theorem dX1_put_6 : decode cX1_put 6 = .ok (.iload_n 2, 1) := by decide +kernel
theorem dX1_put_7 : decode cX1_put 7 = .ok (.bipush (-6), 2) := by decide +kernel
theorem dX1_put_9 : decode cX1_put 9 = .ok (.if_icmp .ne 70, 3) := by decide +kernel
theorem dX1_put_12 : decode cX1_put 12 = .ok (.aload_n 0, 1) := by decide +kernel
theorem dX1_put_13 : decode cX1_put 13 = .ok (.getfield 24, 3) := by decide +kernel
theorem dX1_put_16 : decode cX1_put 16 = .ok (.bipush 16, 2) := by decide +kernel
theorem dX1_put_18 : decode cX1_put 18 = .ok (.if_icmp .lt 6, 3) := by decide +kernel
theorem dX1_put_21 : decode cX1_put 21 = .ok (.bipush (-4), 2) := by decide +kernel
theorem dX1_put_23 : decode cX1_put 23 = .ok (.ireturn, 1) := by decide +kernel
theorem dX1_put_24 : decode cX1_put 24 = .ok (.aload_n 0, 1) := by decide +kernel
theorem dX1_put_25 : decode cX1_put 25 = .ok (.getfield 24, 3) := by decide +kernel
theorem dX1_put_28 : decode cX1_put 28 = .ok (.istore_n 2, 1) := by decide +kernel
theorem dX1_put_29 : decode cX1_put 29 = .ok (.aload_n 0, 1) := by decide +kernel
theorem dX1_put_30 : decode cX1_put 30 = .ok (.dup, 1) := by decide +kernel
theorem dX1_put_31 : decode cX1_put 31 = .ok (.getfield 24, 3) := by decide +kernel
theorem dX1_put_34 : decode cX1_put 34 = .ok (.iconst 1, 1) := by decide +kernel
theorem dX1_put_35 : decode cX1_put 35 = .ok (.iadd, 1) := by decide +kernel
theorem dX1_put_36 : decode cX1_put 36 = .ok (.putfield 24, 3) := by decide +kernel
theorem dX1_put_39 : decode cX1_put 39 = .ok (.aload_n 0, 1) := by decide +kernel
theorem dX1_put_40 : decode cX1_put 40 = .ok (.getfield 15, 3) := by decide +kernel
theorem dX1_put_43 : decode cX1_put 43 = .ok (.iload_n 2, 1) := by decide +kernel
theorem dX1_put_44 : decode cX1_put 44 = .ok (.aload_n 1, 1) := by decide +kernel
theorem dX1_put_45 : decode cX1_put 45 = .ok (.getfield 32, 3) := by decide +kernel
theorem dX1_put_48 : decode cX1_put 48 = .ok (.iastore, 1) := by decide +kernel
theorem dX1_put_49 : decode cX1_put 49 = .ok (.aload_n 0, 1) := by decide +kernel
theorem dX1_put_50 : decode cX1_put 50 = .ok (.getfield 18, 3) := by decide +kernel
theorem dX1_put_53 : decode cX1_put 53 = .ok (.iload_n 2, 1) := by decide +kernel
theorem dX1_put_54 : decode cX1_put 54 = .ok (.aload_n 1, 1) := by decide +kernel
theorem dX1_put_55 : decode cX1_put 55 = .ok (.getfield 36, 3) := by decide +kernel
theorem dX1_put_58 : decode cX1_put 58 = .ok (.iastore, 1) := by decide +kernel
theorem dX1_put_59 : decode cX1_put 59 = .ok (.aload_n 1, 1) := by decide +kernel
theorem dX1_put_60 : decode cX1_put 60 = .ok (.getfield 39, 3) := by decide +kernel
theorem dX1_put_63 : decode cX1_put 63 = .ok (.iconst 0, 1) := by decide +kernel
theorem dX1_put_64 : decode cX1_put 64 = .ok (.aload_n 0, 1) := by decide +kernel
theorem dX1_put_65 : decode cX1_put 65 = .ok (.getfield 9, 3) := by decide +kernel
theorem dX1_put_68 : decode cX1_put 68 = .ok (.iload_n 2, 1) := by decide +kernel
theorem dX1_put_69 : decode cX1_put 69 = .ok (.bipush 6, 2) := by decide +kernel
theorem dX1_put_71 : decode cX1_put 71 = .ok (.imul, 1) := by decide +kernel
theorem dX1_put_72 : decode cX1_put 72 = .ok (.aload_n 1, 1) := by decide +kernel
theorem dX1_put_73 : decode cX1_put 73 = .ok (.getfield 32, 3) := by decide +kernel
theorem dX1_put_76 : decode cX1_put 76 = .ok (.invokestatic 42, 3) := by decide +kernel
theorem dX1_put_79 : decode cX1_put 79 = .ok (.aload_n 0, 1) := by decide +kernel
theorem dX1_put_80 : decode cX1_put 80 = .ok (.getfield 21, 3) := by decide +kernel
theorem dX1_put_83 : decode cX1_put 83 = .ok (.iload_n 2, 1) := by decide +kernel
theorem dX1_put_84 : decode cX1_put 84 = .ok (.aload_n 1, 1) := by decide +kernel
theorem dX1_put_85 : decode cX1_put 85 = .ok (.getfield 48, 3) := by decide +kernel
theorem dX1_put_88 : decode cX1_put 88 = .ok (.iastore, 1) := by decide +kernel
theorem dX1_put_89 : decode cX1_put 89 = .ok (.iload_n 2, 1) := by decide +kernel
theorem dX1_put_90 : decode cX1_put 90 = .ok (.ireturn, 1) := by decide +kernel
theorem dX1_find_0 : decode cX1_find 0 = .ok (.iconst 0, 1) := by decide +kernel
theorem dX1_find_1 : decode cX1_find 1 = .ok (.istore_n 2, 1) := by decide +kernel
theorem dX1_find_2 : decode cX1_find 2 = .ok (.iload_n 2, 1) := by decide +kernel
theorem dX1_find_3 : decode cX1_find 3 = .ok (.aload_n 0, 1) := by decide +kernel
theorem dX1_find_4 : decode cX1_find 4 = .ok (.getfield 24, 3) := by decide +kernel
theorem dX1_find_7 : decode cX1_find 7 = .ok (.if_icmp .ge 54, 3) := by decide +kernel
theorem dX1_find_10 : decode cX1_find 10 = .ok (.aload_n 0, 1) := by decide +kernel
theorem dX1_find_11 : decode cX1_find 11 = .ok (.getfield 15, 3) := by decide +kernel
theorem dX1_find_14 : decode cX1_find 14 = .ok (.iload_n 2, 1) := by decide +kernel
theorem dX1_find_15 : decode cX1_find 15 = .ok (.iaload, 1) := by decide +kernel
theorem dX1_find_16 : decode cX1_find 16 = .ok (.aload_n 1, 1) := by decide +kernel
theorem dX1_find_17 : decode cX1_find 17 = .ok (.getfield 32, 3) := by decide +kernel
theorem dX1_find_20 : decode cX1_find 20 = .ok (.if_icmp .ne 35, 3) := by decide +kernel
theorem dX1_find_23 : decode cX1_find 23 = .ok (.aload_n 0, 1) := by decide +kernel
theorem dX1_find_24 : decode cX1_find 24 = .ok (.getfield 18, 3) := by decide +kernel
theorem dX1_find_27 : decode cX1_find 27 = .ok (.iload_n 2, 1) := by decide +kernel
theorem dX1_find_28 : decode cX1_find 28 = .ok (.iaload, 1) := by decide +kernel
theorem dX1_find_29 : decode cX1_find 29 = .ok (.aload_n 1, 1) := by decide +kernel
theorem dX1_find_30 : decode cX1_find 30 = .ok (.getfield 36, 3) := by decide +kernel
theorem dX1_find_33 : decode cX1_find 33 = .ok (.if_icmp .ne 22, 3) := by decide +kernel
theorem dX1_find_36 : decode cX1_find 36 = .ok (.aload_n 0, 1) := by decide +kernel
theorem dX1_find_37 : decode cX1_find 37 = .ok (.iload_n 2, 1) := by decide +kernel
theorem dX1_find_38 : decode cX1_find 38 = .ok (.aload_n 1, 1) := by decide +kernel
theorem dX1_find_39 : decode cX1_find 39 = .ok (.getfield 39, 3) := by decide +kernel
theorem dX1_find_42 : decode cX1_find 42 = .ok (.iconst 0, 1) := by decide +kernel
theorem dX1_find_43 : decode cX1_find 43 = .ok (.aload_n 1, 1) := by decide +kernel
theorem dX1_find_44 : decode cX1_find 44 = .ok (.getfield 32, 3) := by decide +kernel
theorem dX1_find_47 : decode cX1_find 47 = .ok (.invokevirtual 51, 3) := by decide +kernel
theorem dX1_find_50 : decode cX1_find 50 = .ok (.ifCond .eq 5, 3) := by decide +kernel
theorem dX1_find_53 : decode cX1_find 53 = .ok (.iload_n 2, 1) := by decide +kernel
theorem dX1_find_54 : decode cX1_find 54 = .ok (.ireturn, 1) := by decide +kernel
theorem dX1_find_55 : decode cX1_find 55 = .ok (.iinc 2 1, 3) := by decide +kernel
theorem dX1_find_58 : decode cX1_find 58 = .ok (.goto (-56), 3) := by decide +kernel
theorem dX1_find_61 : decode cX1_find 61 = .ok (.bipush (-6), 2) := by decide +kernel
theorem dX1_find_63 : decode cX1_find 63 = .ok (.ireturn, 1) := by decide +kernel
theorem dX1_standsAt_0 : decode cX1_standsAt 0 = .ok (.aload_n 0, 1) := by decide +kernel
theorem dX1_standsAt_1 : decode cX1_standsAt 1 = .ok (.getfield 15, 3) := by decide +kernel
theorem dX1_standsAt_4 : decode cX1_standsAt 4 = .ok (.iload_n 1, 1) := by decide +kernel
theorem dX1_standsAt_5 : decode cX1_standsAt 5 = .ok (.iaload, 1) := by decide +kernel
theorem dX1_standsAt_6 : decode cX1_standsAt 6 = .ok (.iload 4, 2) := by decide +kernel
theorem dX1_standsAt_8 : decode cX1_standsAt 8 = .ok (.iload_n 3, 1) := by decide +kernel
theorem dX1_standsAt_9 : decode cX1_standsAt 9 = .ok (.isub, 1) := by decide +kernel
theorem dX1_standsAt_10 : decode cX1_standsAt 10 = .ok (.if_icmp .le 5, 3) := by decide +kernel
theorem dX1_standsAt_13 : decode cX1_standsAt 13 = .ok (.iconst 0, 1) := by decide +kernel
theorem dX1_standsAt_14 : decode cX1_standsAt 14 = .ok (.ireturn, 1) := by decide +kernel
theorem dX1_standsAt_15 : decode cX1_standsAt 15 = .ok (.iconst 0, 1) := by decide +kernel
theorem dX1_standsAt_16 : decode cX1_standsAt 16 = .ok (.istore 5, 2) := by decide +kernel
theorem dX1_standsAt_18 : decode cX1_standsAt 18 = .ok (.iload 5, 2) := by decide +kernel
theorem dX1_standsAt_20 : decode cX1_standsAt 20 = .ok (.aload_n 0, 1) := by decide +kernel
theorem dX1_standsAt_21 : decode cX1_standsAt 21 = .ok (.getfield 15, 3) := by decide +kernel
theorem dX1_standsAt_24 : decode cX1_standsAt 24 = .ok (.iload_n 1, 1) := by decide +kernel
theorem dX1_standsAt_25 : decode cX1_standsAt 25 = .ok (.iaload, 1) := by decide +kernel
theorem dX1_standsAt_26 : decode cX1_standsAt 26 = .ok (.if_icmp .ge 32, 3) := by decide +kernel
theorem dX1_standsAt_29 : decode cX1_standsAt 29 = .ok (.aload_n 0, 1) := by decide +kernel
theorem dX1_standsAt_30 : decode cX1_standsAt 30 = .ok (.getfield 9, 3) := by decide +kernel
theorem dX1_standsAt_33 : decode cX1_standsAt 33 = .ok (.iload_n 1, 1) := by decide +kernel
theorem dX1_standsAt_34 : decode cX1_standsAt 34 = .ok (.bipush 6, 2) := by decide +kernel
theorem dX1_standsAt_36 : decode cX1_standsAt 36 = .ok (.imul, 1) := by decide +kernel
theorem dX1_standsAt_37 : decode cX1_standsAt 37 = .ok (.iload 5, 2) := by decide +kernel
theorem dX1_standsAt_39 : decode cX1_standsAt 39 = .ok (.iadd, 1) := by decide +kernel
theorem dX1_standsAt_40 : decode cX1_standsAt 40 = .ok (.iaload, 1) := by decide +kernel
theorem dX1_standsAt_41 : decode cX1_standsAt 41 = .ok (.aload_n 2, 1) := by decide +kernel
theorem dX1_standsAt_42 : decode cX1_standsAt 42 = .ok (.iload_n 3, 1) := by decide +kernel
theorem dX1_standsAt_43 : decode cX1_standsAt 43 = .ok (.iload 5, 2) := by decide +kernel
theorem dX1_standsAt_45 : decode cX1_standsAt 45 = .ok (.iadd, 1) := by decide +kernel
theorem dX1_standsAt_46 : decode cX1_standsAt 46 = .ok (.iaload, 1) := by decide +kernel
theorem dX1_standsAt_47 : decode cX1_standsAt 47 = .ok (.if_icmp .eq 5, 3) := by decide +kernel
theorem dX1_standsAt_50 : decode cX1_standsAt 50 = .ok (.iconst 0, 1) := by decide +kernel
theorem dX1_standsAt_51 : decode cX1_standsAt 51 = .ok (.ireturn, 1) := by decide +kernel
theorem dX1_standsAt_52 : decode cX1_standsAt 52 = .ok (.iinc 5 1, 3) := by decide +kernel
theorem dX1_standsAt_55 : decode cX1_standsAt 55 = .ok (.goto (-37), 3) := by decide +kernel
theorem dX1_standsAt_58 : decode cX1_standsAt 58 = .ok (.iconst 1, 1) := by decide +kernel
theorem dX1_standsAt_59 : decode cX1_standsAt 59 = .ok (.ireturn, 1) := by decide +kernel
theorem dX1_remove_0 : decode cX1_remove 0 = .ok (.aload_n 0, 1) := by decide +kernel
theorem dX1_remove_1 : decode cX1_remove 1 = .ok (.getfield 24, 3) := by decide +kernel
theorem dX1_remove_4 : decode cX1_remove 4 = .ok (.iload_n 1, 1) := by decide +kernel
theorem dX1_remove_5 : decode cX1_remove 5 = .ok (.isub, 1) := by decide +kernel
theorem dX1_remove_6 : decode cX1_remove 6 = .ok (.iconst 1, 1) := by decide +kernel
theorem dX1_remove_7 : decode cX1_remove 7 = .ok (.isub, 1) := by decide +kernel
theorem dX1_remove_8 : decode cX1_remove 8 = .ok (.istore_n 2, 1) := by decide +kernel
theorem dX1_remove_9 : decode cX1_remove 9 = .ok (.aload_n 0, 1) := by decide +kernel
theorem dX1_remove_10 : decode cX1_remove 10 = .ok (.getfield 9, 3) := by decide +kernel
theorem dX1_remove_13 : decode cX1_remove 13 = .ok (.iload_n 1, 1) := by decide +kernel
theorem dX1_remove_14 : decode cX1_remove 14 = .ok (.iconst 1, 1) := by decide +kernel
theorem dX1_remove_15 : decode cX1_remove 15 = .ok (.iadd, 1) := by decide +kernel
theorem dX1_remove_16 : decode cX1_remove 16 = .ok (.bipush 6, 2) := by decide +kernel
theorem dX1_remove_18 : decode cX1_remove 18 = .ok (.imul, 1) := by decide +kernel
theorem dX1_remove_19 : decode cX1_remove 19 = .ok (.aload_n 0, 1) := by decide +kernel
theorem dX1_remove_20 : decode cX1_remove 20 = .ok (.getfield 9, 3) := by decide +kernel
theorem dX1_remove_23 : decode cX1_remove 23 = .ok (.iload_n 1, 1) := by decide +kernel
theorem dX1_remove_24 : decode cX1_remove 24 = .ok (.bipush 6, 2) := by decide +kernel
theorem dX1_remove_26 : decode cX1_remove 26 = .ok (.imul, 1) := by decide +kernel
theorem dX1_remove_27 : decode cX1_remove 27 = .ok (.iload_n 2, 1) := by decide +kernel
theorem dX1_remove_28 : decode cX1_remove 28 = .ok (.bipush 6, 2) := by decide +kernel
theorem dX1_remove_30 : decode cX1_remove 30 = .ok (.imul, 1) := by decide +kernel
theorem dX1_remove_31 : decode cX1_remove 31 = .ok (.invokestatic 42, 3) := by decide +kernel
theorem dX1_remove_34 : decode cX1_remove 34 = .ok (.aload_n 0, 1) := by decide +kernel
theorem dX1_remove_35 : decode cX1_remove 35 = .ok (.getfield 15, 3) := by decide +kernel
theorem dX1_remove_38 : decode cX1_remove 38 = .ok (.iload_n 1, 1) := by decide +kernel
theorem dX1_remove_39 : decode cX1_remove 39 = .ok (.iconst 1, 1) := by decide +kernel
theorem dX1_remove_40 : decode cX1_remove 40 = .ok (.iadd, 1) := by decide +kernel
theorem dX1_remove_41 : decode cX1_remove 41 = .ok (.aload_n 0, 1) := by decide +kernel
theorem dX1_remove_42 : decode cX1_remove 42 = .ok (.getfield 15, 3) := by decide +kernel
theorem dX1_remove_45 : decode cX1_remove 45 = .ok (.iload_n 1, 1) := by decide +kernel
theorem dX1_remove_46 : decode cX1_remove 46 = .ok (.iload_n 2, 1) := by decide +kernel
theorem dX1_remove_47 : decode cX1_remove 47 = .ok (.invokestatic 42, 3) := by decide +kernel
theorem dX1_remove_50 : decode cX1_remove 50 = .ok (.aload_n 0, 1) := by decide +kernel
theorem dX1_remove_51 : decode cX1_remove 51 = .ok (.getfield 18, 3) := by decide +kernel
theorem dX1_remove_54 : decode cX1_remove 54 = .ok (.iload_n 1, 1) := by decide +kernel
theorem dX1_remove_55 : decode cX1_remove 55 = .ok (.iconst 1, 1) := by decide +kernel
theorem dX1_remove_56 : decode cX1_remove 56 = .ok (.iadd, 1) := by decide +kernel
theorem dX1_remove_57 : decode cX1_remove 57 = .ok (.aload_n 0, 1) := by decide +kernel
theorem dX1_remove_58 : decode cX1_remove 58 = .ok (.getfield 18, 3) := by decide +kernel
theorem dX1_remove_61 : decode cX1_remove 61 = .ok (.iload_n 1, 1) := by decide +kernel
theorem dX1_remove_62 : decode cX1_remove 62 = .ok (.iload_n 2, 1) := by decide +kernel
theorem dX1_remove_63 : decode cX1_remove 63 = .ok (.invokestatic 42, 3) := by decide +kernel
theorem dX1_remove_66 : decode cX1_remove 66 = .ok (.aload_n 0, 1) := by decide +kernel
theorem dX1_remove_67 : decode cX1_remove 67 = .ok (.getfield 21, 3) := by decide +kernel
theorem dX1_remove_70 : decode cX1_remove 70 = .ok (.iload_n 1, 1) := by decide +kernel
theorem dX1_remove_71 : decode cX1_remove 71 = .ok (.iconst 1, 1) := by decide +kernel
theorem dX1_remove_72 : decode cX1_remove 72 = .ok (.iadd, 1) := by decide +kernel
theorem dX1_remove_73 : decode cX1_remove 73 = .ok (.aload_n 0, 1) := by decide +kernel
theorem dX1_remove_74 : decode cX1_remove 74 = .ok (.getfield 21, 3) := by decide +kernel
theorem dX1_remove_77 : decode cX1_remove 77 = .ok (.iload_n 1, 1) := by decide +kernel
theorem dX1_remove_78 : decode cX1_remove 78 = .ok (.iload_n 2, 1) := by decide +kernel
theorem dX1_remove_79 : decode cX1_remove 79 = .ok (.invokestatic 42, 3) := by decide +kernel
theorem dX1_remove_82 : decode cX1_remove 82 = .ok (.aload_n 0, 1) := by decide +kernel
theorem dX1_remove_83 : decode cX1_remove 83 = .ok (.dup, 1) := by decide +kernel
theorem dX1_remove_84 : decode cX1_remove 84 = .ok (.getfield 24, 3) := by decide +kernel
theorem dX1_remove_87 : decode cX1_remove 87 = .ok (.iconst 1, 1) := by decide +kernel
theorem dX1_remove_88 : decode cX1_remove 88 = .ok (.isub, 1) := by decide +kernel
theorem dX1_remove_89 : decode cX1_remove 89 = .ok (.putfield 24, 3) := by decide +kernel
theorem dX1_remove_92 : decode cX1_remove 92 = .ok (.return_, 1) := by decide +kernel
theorem dX1_tell_0 : decode cX1_tell 0 = .ok (.iload_n 2, 1) := by decide +kernel
theorem dX1_tell_1 : decode cX1_tell 1 = .ok (.tableswitch 48 0 2 #[27, 34, 41], 27) := by decide +kernel
theorem dX1_tell_28 : decode cX1_tell 28 = .ok (.aload_n 0, 1) := by decide +kernel
theorem dX1_tell_29 : decode cX1_tell 29 = .ok (.getfield 15, 3) := by decide +kernel
theorem dX1_tell_32 : decode cX1_tell 32 = .ok (.iload_n 1, 1) := by decide +kernel
theorem dX1_tell_33 : decode cX1_tell 33 = .ok (.iaload, 1) := by decide +kernel
theorem dX1_tell_34 : decode cX1_tell 34 = .ok (.ireturn, 1) := by decide +kernel
theorem dX1_tell_35 : decode cX1_tell 35 = .ok (.aload_n 0, 1) := by decide +kernel
theorem dX1_tell_36 : decode cX1_tell 36 = .ok (.getfield 18, 3) := by decide +kernel
theorem dX1_tell_39 : decode cX1_tell 39 = .ok (.iload_n 1, 1) := by decide +kernel
theorem dX1_tell_40 : decode cX1_tell 40 = .ok (.iaload, 1) := by decide +kernel
theorem dX1_tell_41 : decode cX1_tell 41 = .ok (.ireturn, 1) := by decide +kernel
theorem dX1_tell_42 : decode cX1_tell 42 = .ok (.aload_n 0, 1) := by decide +kernel
theorem dX1_tell_43 : decode cX1_tell 43 = .ok (.getfield 21, 3) := by decide +kernel
theorem dX1_tell_46 : decode cX1_tell 46 = .ok (.iload_n 1, 1) := by decide +kernel
theorem dX1_tell_47 : decode cX1_tell 47 = .ok (.iaload, 1) := by decide +kernel
theorem dX1_tell_48 : decode cX1_tell 48 = .ok (.ireturn, 1) := by decide +kernel
theorem dX1_tell_49 : decode cX1_tell 49 = .ok (.iload_n 2, 1) := by decide +kernel
theorem dX1_tell_50 : decode cX1_tell 50 = .ok (.iconst 3, 1) := by decide +kernel
theorem dX1_tell_51 : decode cX1_tell 51 = .ok (.isub, 1) := by decide +kernel
theorem dX1_tell_52 : decode cX1_tell 52 = .ok (.istore_n 3, 1) := by decide +kernel
theorem dX1_tell_53 : decode cX1_tell 53 = .ok (.iload_n 3, 1) := by decide +kernel
theorem dX1_tell_54 : decode cX1_tell 54 = .ok (.ifCond .lt 27, 3) := by decide +kernel
theorem dX1_tell_57 : decode cX1_tell 57 = .ok (.iload_n 3, 1) := by decide +kernel
theorem dX1_tell_58 : decode cX1_tell 58 = .ok (.aload_n 0, 1) := by decide +kernel
theorem dX1_tell_59 : decode cX1_tell 59 = .ok (.getfield 15, 3) := by decide +kernel
theorem dX1_tell_62 : decode cX1_tell 62 = .ok (.iload_n 1, 1) := by decide +kernel
theorem dX1_tell_63 : decode cX1_tell 63 = .ok (.iaload, 1) := by decide +kernel
theorem dX1_tell_64 : decode cX1_tell 64 = .ok (.if_icmp .ge 17, 3) := by decide +kernel
theorem dX1_tell_67 : decode cX1_tell 67 = .ok (.aload_n 0, 1) := by decide +kernel
theorem dX1_tell_68 : decode cX1_tell 68 = .ok (.getfield 9, 3) := by decide +kernel
theorem dX1_tell_71 : decode cX1_tell 71 = .ok (.iload_n 1, 1) := by decide +kernel
theorem dX1_tell_72 : decode cX1_tell 72 = .ok (.bipush 6, 2) := by decide +kernel
theorem dX1_tell_74 : decode cX1_tell 74 = .ok (.imul, 1) := by decide +kernel
theorem dX1_tell_75 : decode cX1_tell 75 = .ok (.iload_n 3, 1) := by decide +kernel
theorem dX1_tell_76 : decode cX1_tell 76 = .ok (.iadd, 1) := by decide +kernel
theorem dX1_tell_77 : decode cX1_tell 77 = .ok (.iaload, 1) := by decide +kernel
theorem dX1_tell_78 : decode cX1_tell 78 = .ok (.goto 5, 3) := by decide +kernel
theorem dX1_tell_81 : decode cX1_tell 81 = .ok (.bipush (-6), 2) := by decide +kernel
theorem dX1_tell_83 : decode cX1_tell 83 = .ok (.ireturn, 1) := by decide +kernel
theorem dX1_copy_0 : decode cX1_copy 0 = .ok (.aload_n 1, 1) := by decide +kernel
theorem dX1_copy_1 : decode cX1_copy 1 = .ok (.getfield 9, 3) := by decide +kernel
theorem dX1_copy_4 : decode cX1_copy 4 = .ok (.iconst 0, 1) := by decide +kernel
theorem dX1_copy_5 : decode cX1_copy 5 = .ok (.aload_n 0, 1) := by decide +kernel
theorem dX1_copy_6 : decode cX1_copy 6 = .ok (.getfield 9, 3) := by decide +kernel
theorem dX1_copy_9 : decode cX1_copy 9 = .ok (.iconst 0, 1) := by decide +kernel
theorem dX1_copy_10 : decode cX1_copy 10 = .ok (.bipush 96, 2) := by decide +kernel
theorem dX1_copy_12 : decode cX1_copy 12 = .ok (.invokestatic 42, 3) := by decide +kernel
theorem dX1_copy_15 : decode cX1_copy 15 = .ok (.aload_n 1, 1) := by decide +kernel
theorem dX1_copy_16 : decode cX1_copy 16 = .ok (.getfield 15, 3) := by decide +kernel
theorem dX1_copy_19 : decode cX1_copy 19 = .ok (.iconst 0, 1) := by decide +kernel
theorem dX1_copy_20 : decode cX1_copy 20 = .ok (.aload_n 0, 1) := by decide +kernel
theorem dX1_copy_21 : decode cX1_copy 21 = .ok (.getfield 15, 3) := by decide +kernel
theorem dX1_copy_24 : decode cX1_copy 24 = .ok (.iconst 0, 1) := by decide +kernel
theorem dX1_copy_25 : decode cX1_copy 25 = .ok (.bipush 16, 2) := by decide +kernel
theorem dX1_copy_27 : decode cX1_copy 27 = .ok (.invokestatic 42, 3) := by decide +kernel
theorem dX1_copy_30 : decode cX1_copy 30 = .ok (.aload_n 1, 1) := by decide +kernel
theorem dX1_copy_31 : decode cX1_copy 31 = .ok (.getfield 18, 3) := by decide +kernel
theorem dX1_copy_34 : decode cX1_copy 34 = .ok (.iconst 0, 1) := by decide +kernel
theorem dX1_copy_35 : decode cX1_copy 35 = .ok (.aload_n 0, 1) := by decide +kernel
theorem dX1_copy_36 : decode cX1_copy 36 = .ok (.getfield 18, 3) := by decide +kernel
theorem dX1_copy_39 : decode cX1_copy 39 = .ok (.iconst 0, 1) := by decide +kernel
theorem dX1_copy_40 : decode cX1_copy 40 = .ok (.bipush 16, 2) := by decide +kernel
theorem dX1_copy_42 : decode cX1_copy 42 = .ok (.invokestatic 42, 3) := by decide +kernel
theorem dX1_copy_45 : decode cX1_copy 45 = .ok (.aload_n 1, 1) := by decide +kernel
theorem dX1_copy_46 : decode cX1_copy 46 = .ok (.getfield 21, 3) := by decide +kernel
theorem dX1_copy_49 : decode cX1_copy 49 = .ok (.iconst 0, 1) := by decide +kernel
theorem dX1_copy_50 : decode cX1_copy 50 = .ok (.aload_n 0, 1) := by decide +kernel
theorem dX1_copy_51 : decode cX1_copy 51 = .ok (.getfield 21, 3) := by decide +kernel
theorem dX1_copy_54 : decode cX1_copy 54 = .ok (.iconst 0, 1) := by decide +kernel
theorem dX1_copy_55 : decode cX1_copy 55 = .ok (.bipush 16, 2) := by decide +kernel
theorem dX1_copy_57 : decode cX1_copy 57 = .ok (.invokestatic 42, 3) := by decide +kernel
theorem dX1_copy_60 : decode cX1_copy 60 = .ok (.aload_n 0, 1) := by decide +kernel
theorem dX1_copy_61 : decode cX1_copy 61 = .ok (.aload_n 1, 1) := by decide +kernel
theorem dX1_copy_62 : decode cX1_copy 62 = .ok (.getfield 24, 3) := by decide +kernel
theorem dX1_copy_65 : decode cX1_copy 65 = .ok (.putfield 24, 3) := by decide +kernel
theorem dX1_copy_68 : decode cX1_copy 68 = .ok (.return_, 1) := by decide +kernel
theorem dX2_init_0 : decode cX2_init 0 = .ok (.aload_n 0, 1) := by decide +kernel
theorem dX2_init_1 : decode cX2_init 1 = .ok (.invokespecial 3, 3) := by decide +kernel
theorem dX2_init_4 : decode cX2_init 4 = .ok (.aload_n 0, 1) := by decide +kernel
theorem dX2_init_5 : decode cX2_init 5 = .ok (.sipush 480, 3) := by decide +kernel
theorem dX2_init_8 : decode cX2_init 8 = .ok (.newarray .int, 2) := by decide +kernel
theorem dX2_init_10 : decode cX2_init 10 = .ok (.putfield 9, 3) := by decide +kernel
theorem dX2_init_13 : decode cX2_init 13 = .ok (.aload_n 0, 1) := by decide +kernel
theorem dX2_init_14 : decode cX2_init 14 = .ok (.sipush 480, 3) := by decide +kernel
theorem dX2_init_17 : decode cX2_init 17 = .ok (.newarray .int, 2) := by decide +kernel
theorem dX2_init_19 : decode cX2_init 19 = .ok (.putfield 15, 3) := by decide +kernel
theorem dX2_init_22 : decode cX2_init 22 = .ok (.aload_n 0, 1) := by decide +kernel
theorem dX2_init_23 : decode cX2_init 23 = .ok (.sipush 480, 3) := by decide +kernel
theorem dX2_init_26 : decode cX2_init 26 = .ok (.newarray .int, 2) := by decide +kernel
theorem dX2_init_28 : decode cX2_init 28 = .ok (.putfield 18, 3) := by decide +kernel
theorem dX2_init_31 : decode cX2_init 31 = .ok (.aload_n 0, 1) := by decide +kernel
theorem dX2_init_32 : decode cX2_init 32 = .ok (.sipush 480, 3) := by decide +kernel
theorem dX2_init_35 : decode cX2_init 35 = .ok (.newarray .int, 2) := by decide +kernel
theorem dX2_init_37 : decode cX2_init 37 = .ok (.putfield 21, 3) := by decide +kernel
theorem dX2_init_40 : decode cX2_init 40 = .ok (.aload_n 0, 1) := by decide +kernel
theorem dX2_init_41 : decode cX2_init 41 = .ok (.sipush 480, 3) := by decide +kernel
theorem dX2_init_44 : decode cX2_init 44 = .ok (.newarray .int, 2) := by decide +kernel
theorem dX2_init_46 : decode cX2_init 46 = .ok (.putfield 24, 3) := by decide +kernel
theorem dX2_init_49 : decode cX2_init 49 = .ok (.aload_n 0, 1) := by decide +kernel
theorem dX2_init_50 : decode cX2_init 50 = .ok (.bipush 25, 2) := by decide +kernel
theorem dX2_init_52 : decode cX2_init 52 = .ok (.newarray .int, 2) := by decide +kernel
theorem dX2_init_54 : decode cX2_init 54 = .ok (.putfield 27, 3) := by decide +kernel
theorem dX2_init_57 : decode cX2_init 57 = .ok (.aload_n 0, 1) := by decide +kernel
theorem dX2_init_58 : decode cX2_init 58 = .ok (.bipush 25, 2) := by decide +kernel
theorem dX2_init_60 : decode cX2_init 60 = .ok (.newarray .int, 2) := by decide +kernel
theorem dX2_init_62 : decode cX2_init 62 = .ok (.putfield 30, 3) := by decide +kernel
theorem dX2_init_65 : decode cX2_init 65 = .ok (.aload_n 0, 1) := by decide +kernel
theorem dX2_init_66 : decode cX2_init 66 = .ok (.bipush 28, 2) := by decide +kernel
theorem dX2_init_68 : decode cX2_init 68 = .ok (.newarray .int, 2) := by decide +kernel
theorem dX2_init_70 : decode cX2_init 70 = .ok (.putfield 33, 3) := by decide +kernel
theorem dX2_init_73 : decode cX2_init 73 = .ok (.aload_n 0, 1) := by decide +kernel
theorem dX2_init_74 : decode cX2_init 74 = .ok (.bipush 25, 2) := by decide +kernel
theorem dX2_init_76 : decode cX2_init 76 = .ok (.newarray .int, 2) := by decide +kernel
theorem dX2_init_78 : decode cX2_init 78 = .ok (.putfield 36, 3) := by decide +kernel
theorem dX2_init_81 : decode cX2_init 81 = .ok (.return_, 1) := by decide +kernel
theorem dX2_make_0 : decode cX2_make 0 = .ok (.aload_n 0, 1) := by decide +kernel
theorem dX2_make_1 : decode cX2_make 1 = .ok (.aload_n 1, 1) := by decide +kernel
theorem dX2_make_2 : decode cX2_make 2 = .ok (.getfield 39, 3) := by decide +kernel
theorem dX2_make_5 : decode cX2_make 5 = .ok (.putfield 45, 3) := by decide +kernel
theorem dX2_make_8 : decode cX2_make 8 = .ok (.aload_n 1, 1) := by decide +kernel
theorem dX2_make_9 : decode cX2_make 9 = .ok (.getfield 46, 3) := by decide +kernel
theorem dX2_make_12 : decode cX2_make 12 = .ok (.iconst 0, 1) := by decide +kernel
theorem dX2_make_13 : decode cX2_make 13 = .ok (.aload_n 0, 1) := by decide +kernel
theorem dX2_make_14 : decode cX2_make 14 = .ok (.getfield 30, 3) := by decide +kernel
theorem dX2_make_17 : decode cX2_make 17 = .ok (.iconst 0, 1) := by decide +kernel
theorem dX2_make_18 : decode cX2_make 18 = .ok (.bipush 25, 2) := by decide +kernel
theorem dX2_make_20 : decode cX2_make 20 = .ok (.invokestatic 47, 3) := by decide +kernel
theorem dX2_make_23 : decode cX2_make 23 = .ok (.aload_n 0, 1) := by decide +kernel
theorem dX2_make_24 : decode cX2_make 24 = .ok (.iconst 0, 1) := by decide +kernel
theorem dX2_make_25 : decode cX2_make 25 = .ok (.putfield 53, 3) := by decide +kernel
theorem dX2_make_28 : decode cX2_make 28 = .ok (.iconst 0, 1) := by decide +kernel
theorem dX2_make_29 : decode cX2_make 29 = .ok (.istore_n 2, 1) := by decide +kernel
theorem dX2_make_30 : decode cX2_make 30 = .ok (.iload_n 2, 1) := by decide +kernel
theorem dX2_make_31 : decode cX2_make 31 = .ok (.aload_n 0, 1) := by decide +kernel
theorem dX2_make_32 : decode cX2_make 32 = .ok (.getfield 45, 3) := by decide +kernel
theorem dX2_make_35 : decode cX2_make 35 = .ok (.if_icmp .ge 31, 3) := by decide +kernel
theorem dX2_make_38 : decode cX2_make 38 = .ok (.aload_n 0, 1) := by decide +kernel
theorem dX2_make_39 : decode cX2_make 39 = .ok (.getfield 27, 3) := by decide +kernel
theorem dX2_make_42 : decode cX2_make 42 = .ok (.iload_n 2, 1) := by decide +kernel
theorem dX2_make_43 : decode cX2_make 43 = .ok (.aload_n 0, 1) := by decide +kernel
theorem dX2_make_44 : decode cX2_make 44 = .ok (.getfield 53, 3) := by decide +kernel
theorem dX2_make_47 : decode cX2_make 47 = .ok (.iastore, 1) := by decide +kernel
theorem dX2_make_48 : decode cX2_make 48 = .ok (.aload_n 0, 1) := by decide +kernel
theorem dX2_make_49 : decode cX2_make 49 = .ok (.aload_n 1, 1) := by decide +kernel
theorem dX2_make_50 : decode cX2_make 50 = .ok (.iload_n 2, 1) := by decide +kernel
theorem dX2_make_51 : decode cX2_make 51 = .ok (.invokevirtual 56, 3) := by decide +kernel
theorem dX2_make_54 : decode cX2_make 54 = .ok (.aload_n 0, 1) := by decide +kernel
theorem dX2_make_55 : decode cX2_make 55 = .ok (.aload_n 1, 1) := by decide +kernel
theorem dX2_make_56 : decode cX2_make 56 = .ok (.iload_n 2, 1) := by decide +kernel
theorem dX2_make_57 : decode cX2_make 57 = .ok (.invokevirtual 60, 3) := by decide +kernel
theorem dX2_make_60 : decode cX2_make 60 = .ok (.iinc 2 1, 3) := by decide +kernel
theorem dX2_make_63 : decode cX2_make 63 = .ok (.goto (-33), 3) := by decide +kernel
theorem dX2_make_66 : decode cX2_make 66 = .ok (.aload_n 0, 1) := by decide +kernel
theorem dX2_make_67 : decode cX2_make 67 = .ok (.getfield 27, 3) := by decide +kernel
theorem dX2_make_70 : decode cX2_make 70 = .ok (.aload_n 0, 1) := by decide +kernel
theorem dX2_make_71 : decode cX2_make 71 = .ok (.getfield 45, 3) := by decide +kernel
theorem dX2_make_74 : decode cX2_make 74 = .ok (.aload_n 0, 1) := by decide +kernel
theorem dX2_make_75 : decode cX2_make 75 = .ok (.getfield 53, 3) := by decide +kernel
theorem dX2_make_78 : decode cX2_make 78 = .ok (.iastore, 1) := by decide +kernel
theorem dX2_make_79 : decode cX2_make 79 = .ok (.return_, 1) := by decide +kernel
theorem dX2_fillSlots_0 : decode cX2_fillSlots 0 = .ok (.iconst 0, 1) := by decide +kernel
theorem dX2_fillSlots_1 : decode cX2_fillSlots 1 = .ok (.istore_n 3, 1) := by decide +kernel
theorem dX2_fillSlots_2 : decode cX2_fillSlots 2 = .ok (.iload_n 3, 1) := by decide +kernel
theorem dX2_fillSlots_3 : decode cX2_fillSlots 3 = .ok (.aload_n 0, 1) := by decide +kernel
theorem dX2_fillSlots_4 : decode cX2_fillSlots 4 = .ok (.getfield 33, 3) := by decide +kernel
theorem dX2_fillSlots_7 : decode cX2_fillSlots 7 = .ok (.arraylength, 1) := by decide +kernel
theorem dX2_fillSlots_8 : decode cX2_fillSlots 8 = .ok (.if_icmp .ge 16, 3) := by decide +kernel
theorem dX2_fillSlots_11 : decode cX2_fillSlots 11 = .ok (.aload_n 0, 1) := by decide +kernel
theorem dX2_fillSlots_12 : decode cX2_fillSlots 12 = .ok (.getfield 33, 3) := by decide +kernel
theorem dX2_fillSlots_15 : decode cX2_fillSlots 15 = .ok (.iload_n 3, 1) := by decide +kernel
theorem dX2_fillSlots_16 : decode cX2_fillSlots 16 = .ok (.iconst (-1), 1) := by decide +kernel
theorem dX2_fillSlots_17 : decode cX2_fillSlots 17 = .ok (.iastore, 1) := by decide +kernel
theorem dX2_fillSlots_18 : decode cX2_fillSlots 18 = .ok (.iinc 3 1, 3) := by decide +kernel
theorem dX2_fillSlots_21 : decode cX2_fillSlots 21 = .ok (.goto (-19), 3) := by decide +kernel
theorem dX2_fillSlots_24 : decode cX2_fillSlots 24 = .ok (.aload_n 0, 1) := by decide +kernel
theorem dX2_fillSlots_25 : decode cX2_fillSlots 25 = .ok (.aload_n 1, 1) := by decide +kernel
theorem dX2_fillSlots_26 : decode cX2_fillSlots 26 = .ok (.iload_n 2, 1) := by decide +kernel
theorem dX2_fillSlots_27 : decode cX2_fillSlots 27 = .ok (.invokevirtual 63, 3) := by decide +kernel
theorem dX2_fillSlots_30 : decode cX2_fillSlots 30 = .ok (.istore_n 3, 1) := by decide +kernel
theorem dX2_fillSlots_31 : decode cX2_fillSlots 31 = .ok (.aload_n 1, 1) := by decide +kernel
theorem dX2_fillSlots_32 : decode cX2_fillSlots 32 = .ok (.getfield 67, 3) := by decide +kernel
theorem dX2_fillSlots_35 : decode cX2_fillSlots 35 = .ok (.iconst 0, 1) := by decide +kernel
theorem dX2_fillSlots_36 : decode cX2_fillSlots 36 = .ok (.iaload, 1) := by decide +kernel
theorem dX2_fillSlots_37 : decode cX2_fillSlots 37 = .ok (.istore 4, 2) := by decide +kernel
theorem dX2_fillSlots_39 : decode cX2_fillSlots 39 = .ok (.iload 4, 2) := by decide +kernel
theorem dX2_fillSlots_41 : decode cX2_fillSlots 41 = .ok (.iconst 2, 1) := by decide +kernel
theorem dX2_fillSlots_42 : decode cX2_fillSlots 42 = .ok (.if_icmp .eq 18, 3) := by decide +kernel
theorem dX2_fillSlots_45 : decode cX2_fillSlots 45 = .ok (.iload 4, 2) := by decide +kernel
theorem dX2_fillSlots_47 : decode cX2_fillSlots 47 = .ok (.ifCond .ne 7, 3) := by decide +kernel
theorem dX2_fillSlots_50 : decode cX2_fillSlots 50 = .ok (.iload_n 3, 1) := by decide +kernel
theorem dX2_fillSlots_51 : decode cX2_fillSlots 51 = .ok (.ifCond .ne 9, 3) := by decide +kernel
theorem dX2_fillSlots_54 : decode cX2_fillSlots 54 = .ok (.aload_n 0, 1) := by decide +kernel
theorem dX2_fillSlots_55 : decode cX2_fillSlots 55 = .ok (.aload_n 1, 1) := by decide +kernel
theorem dX2_fillSlots_56 : decode cX2_fillSlots 56 = .ok (.iload_n 2, 1) := by decide +kernel
theorem dX2_fillSlots_57 : decode cX2_fillSlots 57 = .ok (.invokevirtual 70, 3) := by decide +kernel
theorem dX2_fillSlots_60 : decode cX2_fillSlots 60 = .ok (.return_, 1) := by decide +kernel
theorem dX2_fillWords_0 : decode cX2_fillWords 0 = .ok (.aload_n 1, 1) := by decide +kernel
theorem dX2_fillWords_1 : decode cX2_fillWords 1 = .ok (.getfield 73, 3) := by decide +kernel
theorem dX2_fillWords_4 : decode cX2_fillWords 4 = .ok (.astore_n 3, 1) := by decide +kernel
theorem dX2_fillWords_5 : decode cX2_fillWords 5 = .ok (.iconst 0, 1) := by decide +kernel
theorem dX2_fillWords_6 : decode cX2_fillWords 6 = .ok (.istore 4, 2) := by decide +kernel
theorem dX2_fillWords_8 : decode cX2_fillWords 8 = .ok (.iconst 0, 1) := by decide +kernel
theorem dX2_fillWords_9 : decode cX2_fillWords 9 = .ok (.istore 5, 2) := by decide +kernel
theorem dX2_fillWords_11 : decode cX2_fillWords 11 = .ok (.iload 5, 2) := by decide +kernel
theorem dX2_fillWords_13 : decode cX2_fillWords 13 = .ok (.aload_n 3, 1) := by decide +kernel
theorem dX2_fillWords_14 : decode cX2_fillWords 14 = .ok (.getfield 77, 3) := by decide +kernel
theorem dX2_fillWords_17 : decode cX2_fillWords 17 = .ok (.if_icmp .ge 54, 3) := by decide +kernel
theorem dX2_fillWords_20 : decode cX2_fillWords 20 = .ok (.aload_n 3, 1) := by decide +kernel
theorem dX2_fillWords_21 : decode cX2_fillWords 21 = .ok (.iload 5, 2) := by decide +kernel
theorem dX2_fillWords_23 : decode cX2_fillWords 23 = .ok (.aload_n 1, 1) := by decide +kernel
theorem dX2_fillWords_24 : decode cX2_fillWords 24 = .ok (.getfield 80, 3) := by decide +kernel
theorem dX2_fillWords_27 : decode cX2_fillWords 27 = .ok (.iload_n 2, 1) := by decide +kernel
theorem dX2_fillWords_28 : decode cX2_fillWords 28 = .ok (.aload_n 1, 1) := by decide +kernel
theorem dX2_fillWords_29 : decode cX2_fillWords 29 = .ok (.getfield 39, 3) := by decide +kernel
theorem dX2_fillWords_32 : decode cX2_fillWords 32 = .ok (.invokevirtual 83, 3) := by decide +kernel
theorem dX2_fillWords_35 : decode cX2_fillWords 35 = .ok (.ifCond .eq 30, 3) := by decide +kernel
theorem dX2_fillWords_38 : decode cX2_fillWords 38 = .ok (.aload_n 0, 1) := by decide +kernel
theorem dX2_fillWords_39 : decode cX2_fillWords 39 = .ok (.getfield 33, 3) := by decide +kernel
theorem dX2_fillWords_42 : decode cX2_fillWords 42 = .ok (.aload_n 3, 1) := by decide +kernel
theorem dX2_fillWords_43 : decode cX2_fillWords 43 = .ok (.getfield 87, 3) := by decide +kernel
theorem dX2_fillWords_46 : decode cX2_fillWords 46 = .ok (.iload 5, 2) := by decide +kernel
theorem dX2_fillWords_48 : decode cX2_fillWords 48 = .ok (.iaload, 1) := by decide +kernel
theorem dX2_fillWords_49 : decode cX2_fillWords 49 = .ok (.iconst 4, 1) := by decide +kernel
theorem dX2_fillWords_50 : decode cX2_fillWords 50 = .ok (.imul, 1) := by decide +kernel
theorem dX2_fillWords_51 : decode cX2_fillWords 51 = .ok (.aload_n 3, 1) := by decide +kernel
theorem dX2_fillWords_52 : decode cX2_fillWords 52 = .ok (.getfield 88, 3) := by decide +kernel
theorem dX2_fillWords_55 : decode cX2_fillWords 55 = .ok (.iload 5, 2) := by decide +kernel
theorem dX2_fillWords_57 : decode cX2_fillWords 57 = .ok (.iaload, 1) := by decide +kernel
theorem dX2_fillWords_58 : decode cX2_fillWords 58 = .ok (.iadd, 1) := by decide +kernel
theorem dX2_fillWords_59 : decode cX2_fillWords 59 = .ok (.iload 5, 2) := by decide +kernel
theorem dX2_fillWords_61 : decode cX2_fillWords 61 = .ok (.iastore, 1) := by decide +kernel
theorem dX2_fillWords_62 : decode cX2_fillWords 62 = .ok (.iconst 1, 1) := by decide +kernel
theorem dX2_fillWords_63 : decode cX2_fillWords 63 = .ok (.istore 4, 2) := by decide +kernel
theorem dX2_fillWords_65 : decode cX2_fillWords 65 = .ok (.iinc 5 1, 3) := by decide +kernel
theorem dX2_fillWords_68 : decode cX2_fillWords 68 = .ok (.goto (-57), 3) := by decide +kernel
theorem dX2_fillWords_71 : decode cX2_fillWords 71 = .ok (.iload 4, 2) := by decide +kernel
theorem dX2_fillWords_73 : decode cX2_fillWords 73 = .ok (.ireturn, 1) := by decide +kernel
theorem dX2_fillWild_0 : decode cX2_fillWild 0 = .ok (.aload_n 1, 1) := by decide +kernel
theorem dX2_fillWild_1 : decode cX2_fillWild 1 = .ok (.iload_n 2, 1) := by decide +kernel
theorem dX2_fillWild_2 : decode cX2_fillWild 2 = .ok (.invokevirtual 89, 3) := by decide +kernel
theorem dX2_fillWild_5 : decode cX2_fillWild 5 = .ok (.istore_n 3, 1) := by decide +kernel
theorem dX2_fillWild_6 : decode cX2_fillWild 6 = .ok (.aload_n 0, 1) := by decide +kernel
theorem dX2_fillWild_7 : decode cX2_fillWild 7 = .ok (.getfield 33, 3) := by decide +kernel
theorem dX2_fillWild_10 : decode cX2_fillWild 10 = .ok (.iload_n 3, 1) := by decide +kernel
theorem dX2_fillWild_11 : decode cX2_fillWild 11 = .ok (.iconst 4, 1) := by decide +kernel
theorem dX2_fillWild_12 : decode cX2_fillWild 12 = .ok (.imul, 1) := by decide +kernel
theorem dX2_fillWild_13 : decode cX2_fillWild 13 = .ok (.iconst 3, 1) := by decide +kernel
theorem dX2_fillWild_14 : decode cX2_fillWild 14 = .ok (.iadd, 1) := by decide +kernel
theorem dX2_fillWild_15 : decode cX2_fillWild 15 = .ok (.bipush (-6), 2) := by decide +kernel
theorem dX2_fillWild_17 : decode cX2_fillWild 17 = .ok (.iastore, 1) := by decide +kernel
theorem dX2_fillWild_18 : decode cX2_fillWild 18 = .ok (.iconst 1, 1) := by decide +kernel
theorem dX2_fillWild_19 : decode cX2_fillWild 19 = .ok (.istore 4, 2) := by decide +kernel
theorem dX2_fillWild_21 : decode cX2_fillWild 21 = .ok (.iload 4, 2) := by decide +kernel
theorem dX2_fillWild_23 : decode cX2_fillWild 23 = .ok (.aload_n 1, 1) := by decide +kernel
theorem dX2_fillWild_24 : decode cX2_fillWild 24 = .ok (.getfield 67, 3) := by decide +kernel
theorem dX2_fillWild_27 : decode cX2_fillWild 27 = .ok (.iconst 3, 1) := by decide +kernel
theorem dX2_fillWild_28 : decode cX2_fillWild 28 = .ok (.iaload, 1) := by decide +kernel
theorem dX2_fillWild_29 : decode cX2_fillWild 29 = .ok (.if_icmp .gt 28, 3) := by decide +kernel
theorem dX2_fillWild_32 : decode cX2_fillWild 32 = .ok (.iload 4, 2) := by decide +kernel
theorem dX2_fillWild_34 : decode cX2_fillWild 34 = .ok (.iload_n 3, 1) := by decide +kernel
theorem dX2_fillWild_35 : decode cX2_fillWild 35 = .ok (.if_icmp .ge 22, 3) := by decide +kernel
theorem dX2_fillWild_38 : decode cX2_fillWild 38 = .ok (.aload_n 0, 1) := by decide +kernel
theorem dX2_fillWild_39 : decode cX2_fillWild 39 = .ok (.getfield 33, 3) := by decide +kernel
theorem dX2_fillWild_42 : decode cX2_fillWild 42 = .ok (.iload 4, 2) := by decide +kernel
theorem dX2_fillWild_44 : decode cX2_fillWild 44 = .ok (.iconst 4, 1) := by decide +kernel
theorem dX2_fillWild_45 : decode cX2_fillWild 45 = .ok (.imul, 1) := by decide +kernel
theorem dX2_fillWild_46 : decode cX2_fillWild 46 = .ok (.iconst 3, 1) := by decide +kernel
theorem dX2_fillWild_47 : decode cX2_fillWild 47 = .ok (.iadd, 1) := by decide +kernel
theorem dX2_fillWild_48 : decode cX2_fillWild 48 = .ok (.bipush (-6), 2) := by decide +kernel
theorem dX2_fillWild_50 : decode cX2_fillWild 50 = .ok (.iastore, 1) := by decide +kernel
theorem dX2_fillWild_51 : decode cX2_fillWild 51 = .ok (.iinc 4 1, 3) := by decide +kernel
theorem dX2_fillWild_54 : decode cX2_fillWild 54 = .ok (.goto (-33), 3) := by decide +kernel
theorem dX2_fillWild_57 : decode cX2_fillWild 57 = .ok (.return_, 1) := by decide +kernel
theorem dX2_addSlots_0 : decode cX2_addSlots 0 = .ok (.iconst 0, 1) := by decide +kernel
theorem dX2_addSlots_1 : decode cX2_addSlots 1 = .ok (.istore_n 3, 1) := by decide +kernel
theorem dX2_addSlots_2 : decode cX2_addSlots 2 = .ok (.iload_n 3, 1) := by decide +kernel
theorem dX2_addSlots_3 : decode cX2_addSlots 3 = .ok (.aload_n 0, 1) := by decide +kernel
theorem dX2_addSlots_4 : decode cX2_addSlots 4 = .ok (.getfield 33, 3) := by decide +kernel
theorem dX2_addSlots_7 : decode cX2_addSlots 7 = .ok (.arraylength, 1) := by decide +kernel
theorem dX2_addSlots_8 : decode cX2_addSlots 8 = .ok (.if_icmp .ge 36, 3) := by decide +kernel
theorem dX2_addSlots_11 : decode cX2_addSlots 11 = .ok (.aload_n 0, 1) := by decide +kernel
theorem dX2_addSlots_12 : decode cX2_addSlots 12 = .ok (.getfield 33, 3) := by decide +kernel
theorem dX2_addSlots_15 : decode cX2_addSlots 15 = .ok (.iload_n 3, 1) := by decide +kernel
theorem dX2_addSlots_16 : decode cX2_addSlots 16 = .ok (.iaload, 1) := by decide +kernel
theorem dX2_addSlots_17 : decode cX2_addSlots 17 = .ok (.iconst (-1), 1) := by decide +kernel
theorem dX2_addSlots_18 : decode cX2_addSlots 18 = .ok (.if_icmp .eq 20, 3) := by decide +kernel
theorem dX2_addSlots_21 : decode cX2_addSlots 21 = .ok (.aload_n 0, 1) := by decide +kernel
theorem dX2_addSlots_22 : decode cX2_addSlots 22 = .ok (.getfield 53, 3) := by decide +kernel
theorem dX2_addSlots_25 : decode cX2_addSlots 25 = .ok (.sipush 480, 3) := by decide +kernel
theorem dX2_addSlots_28 : decode cX2_addSlots 28 = .ok (.if_icmp .ge 10, 3) := by decide +kernel
theorem dX2_addSlots_31 : decode cX2_addSlots 31 = .ok (.aload_n 0, 1) := by decide +kernel
theorem dX2_addSlots_32 : decode cX2_addSlots 32 = .ok (.aload_n 1, 1) := by decide +kernel
theorem dX2_addSlots_33 : decode cX2_addSlots 33 = .ok (.iload_n 2, 1) := by decide +kernel
theorem dX2_addSlots_34 : decode cX2_addSlots 34 = .ok (.iload_n 3, 1) := by decide +kernel
theorem dX2_addSlots_35 : decode cX2_addSlots 35 = .ok (.invokevirtual 93, 3) := by decide +kernel
theorem dX2_addSlots_38 : decode cX2_addSlots 38 = .ok (.iinc 3 1, 3) := by decide +kernel
theorem dX2_addSlots_41 : decode cX2_addSlots 41 = .ok (.goto (-39), 3) := by decide +kernel
theorem dX2_addSlots_44 : decode cX2_addSlots 44 = .ok (.return_, 1) := by decide +kernel
theorem dX2_add_0 : decode cX2_add 0 = .ok (.aload_n 0, 1) := by decide +kernel
theorem dX2_add_1 : decode cX2_add 1 = .ok (.getfield 33, 3) := by decide +kernel
theorem dX2_add_4 : decode cX2_add 4 = .ok (.iload_n 3, 1) := by decide +kernel
theorem dX2_add_5 : decode cX2_add 5 = .ok (.iaload, 1) := by decide +kernel
theorem dX2_add_6 : decode cX2_add 6 = .ok (.istore 4, 2) := by decide +kernel
theorem dX2_add_8 : decode cX2_add 8 = .ok (.iload_n 3, 1) := by decide +kernel
theorem dX2_add_9 : decode cX2_add 9 = .ok (.iconst 4, 1) := by decide +kernel
theorem dX2_add_10 : decode cX2_add 10 = .ok (.idiv, 1) := by decide +kernel
theorem dX2_add_11 : decode cX2_add 11 = .ok (.istore 5, 2) := by decide +kernel
theorem dX2_add_13 : decode cX2_add 13 = .ok (.aload_n 0, 1) := by decide +kernel
theorem dX2_add_14 : decode cX2_add 14 = .ok (.getfield 9, 3) := by decide +kernel
theorem dX2_add_17 : decode cX2_add 17 = .ok (.aload_n 0, 1) := by decide +kernel
theorem dX2_add_18 : decode cX2_add 18 = .ok (.getfield 53, 3) := by decide +kernel
theorem dX2_add_21 : decode cX2_add 21 = .ok (.iload_n 2, 1) := by decide +kernel
theorem dX2_add_22 : decode cX2_add 22 = .ok (.iastore, 1) := by decide +kernel
theorem dX2_add_23 : decode cX2_add 23 = .ok (.aload_n 0, 1) := by decide +kernel
theorem dX2_add_24 : decode cX2_add 24 = .ok (.getfield 15, 3) := by decide +kernel
theorem dX2_add_27 : decode cX2_add 27 = .ok (.aload_n 0, 1) := by decide +kernel
theorem dX2_add_28 : decode cX2_add 28 = .ok (.getfield 53, 3) := by decide +kernel
theorem dX2_add_31 : decode cX2_add 31 = .ok (.iload 5, 2) := by decide +kernel
theorem dX2_add_33 : decode cX2_add 33 = .ok (.iastore, 1) := by decide +kernel
theorem dX2_add_34 : decode cX2_add 34 = .ok (.aload_n 0, 1) := by decide +kernel
theorem dX2_add_35 : decode cX2_add 35 = .ok (.getfield 18, 3) := by decide +kernel
theorem dX2_add_38 : decode cX2_add 38 = .ok (.aload_n 0, 1) := by decide +kernel
theorem dX2_add_39 : decode cX2_add 39 = .ok (.getfield 53, 3) := by decide +kernel
theorem dX2_add_42 : decode cX2_add 42 = .ok (.iload_n 3, 1) := by decide +kernel
theorem dX2_add_43 : decode cX2_add 43 = .ok (.iconst 4, 1) := by decide +kernel
theorem dX2_add_44 : decode cX2_add 44 = .ok (.irem, 1) := by decide +kernel
theorem dX2_add_45 : decode cX2_add 45 = .ok (.iastore, 1) := by decide +kernel
theorem dX2_add_46 : decode cX2_add 46 = .ok (.aload_n 0, 1) := by decide +kernel
theorem dX2_add_47 : decode cX2_add 47 = .ok (.getfield 24, 3) := by decide +kernel
theorem dX2_add_50 : decode cX2_add 50 = .ok (.aload_n 0, 1) := by decide +kernel
theorem dX2_add_51 : decode cX2_add 51 = .ok (.getfield 53, 3) := by decide +kernel
theorem dX2_add_54 : decode cX2_add 54 = .ok (.iload 4, 2) := by decide +kernel
theorem dX2_add_56 : decode cX2_add 56 = .ok (.iastore, 1) := by decide +kernel
theorem dX2_add_57 : decode cX2_add 57 = .ok (.aload_n 0, 1) := by decide +kernel
theorem dX2_add_58 : decode cX2_add 58 = .ok (.getfield 21, 3) := by decide +kernel
theorem dX2_add_61 : decode cX2_add 61 = .ok (.aload_n 0, 1) := by decide +kernel
theorem dX2_add_62 : decode cX2_add 62 = .ok (.getfield 53, 3) := by decide +kernel
theorem dX2_add_65 : decode cX2_add 65 = .ok (.iload 4, 2) := by decide +kernel
theorem dX2_add_67 : decode cX2_add 67 = .ok (.bipush (-6), 2) := by decide +kernel
theorem dX2_add_69 : decode cX2_add 69 = .ok (.if_icmp .ne 22, 3) := by decide +kernel
theorem dX2_add_72 : decode cX2_add 72 = .ok (.aload_n 1, 1) := by decide +kernel
theorem dX2_add_73 : decode cX2_add 73 = .ok (.getfield 67, 3) := by decide +kernel
theorem dX2_add_76 : decode cX2_add 76 = .ok (.iconst 1, 1) := by decide +kernel
theorem dX2_add_77 : decode cX2_add 77 = .ok (.iaload, 1) := by decide +kernel
theorem dX2_add_78 : decode cX2_add 78 = .ok (.aload_n 1, 1) := by decide +kernel
theorem dX2_add_79 : decode cX2_add 79 = .ok (.getfield 67, 3) := by decide +kernel
theorem dX2_add_82 : decode cX2_add 82 = .ok (.iconst 2, 1) := by decide +kernel
theorem dX2_add_83 : decode cX2_add 83 = .ok (.iaload, 1) := by decide +kernel
theorem dX2_add_84 : decode cX2_add 84 = .ok (.iload 5, 2) := by decide +kernel
theorem dX2_add_86 : decode cX2_add 86 = .ok (.imul, 1) := by decide +kernel
theorem dX2_add_87 : decode cX2_add 87 = .ok (.iadd, 1) := by decide +kernel
theorem dX2_add_88 : decode cX2_add 88 = .ok (.goto 13, 3) := by decide +kernel
theorem dX2_add_91 : decode cX2_add 91 = .ok (.aload_n 1, 1) := by decide +kernel
theorem dX2_add_92 : decode cX2_add 92 = .ok (.getfield 73, 3) := by decide +kernel
theorem dX2_add_95 : decode cX2_add 95 = .ok (.getfield 97, 3) := by decide +kernel
theorem dX2_add_98 : decode cX2_add 98 = .ok (.iload 4, 2) := by decide +kernel
theorem dX2_add_100 : decode cX2_add 100 = .ok (.iaload, 1) := by decide +kernel
theorem dX2_add_101 : decode cX2_add 101 = .ok (.iastore, 1) := by decide +kernel
theorem dX2_add_102 : decode cX2_add 102 = .ok (.aload_n 0, 1) := by decide +kernel
theorem dX2_add_103 : decode cX2_add 103 = .ok (.dup, 1) := by decide +kernel
theorem dX2_add_104 : decode cX2_add 104 = .ok (.getfield 53, 3) := by decide +kernel
theorem dX2_add_107 : decode cX2_add 107 = .ok (.iconst 1, 1) := by decide +kernel
theorem dX2_add_108 : decode cX2_add 108 = .ok (.iadd, 1) := by decide +kernel
theorem dX2_add_109 : decode cX2_add 109 = .ok (.putfield 53, 3) := by decide +kernel
theorem dX2_add_112 : decode cX2_add 112 = .ok (.return_, 1) := by decide +kernel
theorem dX2_joinBefore_0 : decode cX2_joinBefore 0 = .ok (.aload_n 0, 1) := by decide +kernel
theorem dX2_joinBefore_1 : decode cX2_joinBefore 1 = .ok (.getfield 30, 3) := by decide +kernel
theorem dX2_joinBefore_4 : decode cX2_joinBefore 4 = .ok (.iload_n 1, 1) := by decide +kernel
theorem dX2_joinBefore_5 : decode cX2_joinBefore 5 = .ok (.iconst 5, 1) := by decide +kernel
theorem dX2_joinBefore_6 : decode cX2_joinBefore 6 = .ok (.imul, 1) := by decide +kernel
theorem dX2_joinBefore_7 : decode cX2_joinBefore 7 = .ok (.aload_n 0, 1) := by decide +kernel
theorem dX2_joinBefore_8 : decode cX2_joinBefore 8 = .ok (.getfield 18, 3) := by decide +kernel
theorem dX2_joinBefore_11 : decode cX2_joinBefore 11 = .ok (.iload_n 2, 1) := by decide +kernel
theorem dX2_joinBefore_12 : decode cX2_joinBefore 12 = .ok (.iaload, 1) := by decide +kernel
theorem dX2_joinBefore_13 : decode cX2_joinBefore 13 = .ok (.iadd, 1) := by decide +kernel
theorem dX2_joinBefore_14 : decode cX2_joinBefore 14 = .ok (.iaload, 1) := by decide +kernel
theorem dX2_joinBefore_15 : decode cX2_joinBefore 15 = .ok (.ireturn, 1) := by decide +kernel
theorem dX2_joinAtEnd_0 : decode cX2_joinAtEnd 0 = .ok (.aload_n 0, 1) := by decide +kernel
theorem dX2_joinAtEnd_1 : decode cX2_joinAtEnd 1 = .ok (.getfield 30, 3) := by decide +kernel
theorem dX2_joinAtEnd_4 : decode cX2_joinAtEnd 4 = .ok (.iload_n 1, 1) := by decide +kernel
theorem dX2_joinAtEnd_5 : decode cX2_joinAtEnd 5 = .ok (.iconst 5, 1) := by decide +kernel
theorem dX2_joinAtEnd_6 : decode cX2_joinAtEnd 6 = .ok (.imul, 1) := by decide +kernel
theorem dX2_joinAtEnd_7 : decode cX2_joinAtEnd 7 = .ok (.iconst 4, 1) := by decide +kernel
theorem dX2_joinAtEnd_8 : decode cX2_joinAtEnd 8 = .ok (.iadd, 1) := by decide +kernel
theorem dX2_joinAtEnd_9 : decode cX2_joinAtEnd 9 = .ok (.iaload, 1) := by decide +kernel
theorem dX2_joinAtEnd_10 : decode cX2_joinAtEnd 10 = .ok (.ireturn, 1) := by decide +kernel
theorem dX2_countWays_0 : decode cX2_countWays 0 = .ok (.iconst 0, 1) := by decide +kernel
theorem dX2_countWays_1 : decode cX2_countWays 1 = .ok (.istore_n 1, 1) := by decide +kernel
theorem dX2_countWays_2 : decode cX2_countWays 2 = .ok (.iload_n 1, 1) := by decide +kernel
theorem dX2_countWays_3 : decode cX2_countWays 3 = .ok (.aload_n 0, 1) := by decide +kernel
theorem dX2_countWays_4 : decode cX2_countWays 4 = .ok (.getfield 45, 3) := by decide +kernel
theorem dX2_countWays_7 : decode cX2_countWays 7 = .ok (.if_icmp .ge 16, 3) := by decide +kernel
theorem dX2_countWays_10 : decode cX2_countWays 10 = .ok (.aload_n 0, 1) := by decide +kernel
theorem dX2_countWays_11 : decode cX2_countWays 11 = .ok (.getfield 36, 3) := by decide +kernel
theorem dX2_countWays_14 : decode cX2_countWays 14 = .ok (.iload_n 1, 1) := by decide +kernel
theorem dX2_countWays_15 : decode cX2_countWays 15 = .ok (.iconst 0, 1) := by decide +kernel
theorem dX2_countWays_16 : decode cX2_countWays 16 = .ok (.iastore, 1) := by decide +kernel
theorem dX2_countWays_17 : decode cX2_countWays 17 = .ok (.iinc 1 1, 3) := by decide +kernel
theorem dX2_countWays_20 : decode cX2_countWays 20 = .ok (.goto (-18), 3) := by decide +kernel
theorem dX2_countWays_23 : decode cX2_countWays 23 = .ok (.aload_n 0, 1) := by decide +kernel
theorem dX2_countWays_24 : decode cX2_countWays 24 = .ok (.getfield 36, 3) := by decide +kernel
theorem dX2_countWays_27 : decode cX2_countWays 27 = .ok (.aload_n 0, 1) := by decide +kernel
theorem dX2_countWays_28 : decode cX2_countWays 28 = .ok (.getfield 45, 3) := by decide +kernel
theorem dX2_countWays_31 : decode cX2_countWays 31 = .ok (.iconst 1, 1) := by decide +kernel
theorem dX2_countWays_32 : decode cX2_countWays 32 = .ok (.iastore, 1) := by decide +kernel
theorem dX2_countWays_33 : decode cX2_countWays 33 = .ok (.aload_n 0, 1) := by decide +kernel
theorem dX2_countWays_34 : decode cX2_countWays 34 = .ok (.getfield 53, 3) := by decide +kernel
theorem dX2_countWays_37 : decode cX2_countWays 37 = .ok (.iconst 1, 1) := by decide +kernel
theorem dX2_countWays_38 : decode cX2_countWays 38 = .ok (.isub, 1) := by decide +kernel
theorem dX2_countWays_39 : decode cX2_countWays 39 = .ok (.istore_n 1, 1) := by decide +kernel
theorem dX2_countWays_40 : decode cX2_countWays 40 = .ok (.iload_n 1, 1) := by decide +kernel
theorem dX2_countWays_41 : decode cX2_countWays 41 = .ok (.ifCond .lt 45, 3) := by decide +kernel
theorem dX2_countWays_44 : decode cX2_countWays 44 = .ok (.aload_n 0, 1) := by decide +kernel
theorem dX2_countWays_45 : decode cX2_countWays 45 = .ok (.getfield 9, 3) := by decide +kernel
theorem dX2_countWays_48 : decode cX2_countWays 48 = .ok (.iload_n 1, 1) := by decide +kernel
theorem dX2_countWays_49 : decode cX2_countWays 49 = .ok (.iaload, 1) := by decide +kernel
theorem dX2_countWays_50 : decode cX2_countWays 50 = .ok (.istore_n 2, 1) := by decide +kernel
theorem dX2_countWays_51 : decode cX2_countWays 51 = .ok (.aload_n 0, 1) := by decide +kernel
theorem dX2_countWays_52 : decode cX2_countWays 52 = .ok (.getfield 36, 3) := by decide +kernel
theorem dX2_countWays_55 : decode cX2_countWays 55 = .ok (.iload_n 2, 1) := by decide +kernel
theorem dX2_countWays_56 : decode cX2_countWays 56 = .ok (.aload_n 0, 1) := by decide +kernel
theorem dX2_countWays_57 : decode cX2_countWays 57 = .ok (.getfield 36, 3) := by decide +kernel
theorem dX2_countWays_60 : decode cX2_countWays 60 = .ok (.iload_n 2, 1) := by decide +kernel
theorem dX2_countWays_61 : decode cX2_countWays 61 = .ok (.iaload, 1) := by decide +kernel
theorem dX2_countWays_62 : decode cX2_countWays 62 = .ok (.aload_n 0, 1) := by decide +kernel
theorem dX2_countWays_63 : decode cX2_countWays 63 = .ok (.getfield 36, 3) := by decide +kernel
theorem dX2_countWays_66 : decode cX2_countWays 66 = .ok (.iload_n 2, 1) := by decide +kernel
theorem dX2_countWays_67 : decode cX2_countWays 67 = .ok (.aload_n 0, 1) := by decide +kernel
theorem dX2_countWays_68 : decode cX2_countWays 68 = .ok (.getfield 15, 3) := by decide +kernel
theorem dX2_countWays_71 : decode cX2_countWays 71 = .ok (.iload_n 1, 1) := by decide +kernel
theorem dX2_countWays_72 : decode cX2_countWays 72 = .ok (.iaload, 1) := by decide +kernel
theorem dX2_countWays_73 : decode cX2_countWays 73 = .ok (.iadd, 1) := by decide +kernel
theorem dX2_countWays_74 : decode cX2_countWays 74 = .ok (.iaload, 1) := by decide +kernel
theorem dX2_countWays_75 : decode cX2_countWays 75 = .ok (.iadd, 1) := by decide +kernel
theorem dX2_countWays_76 : decode cX2_countWays 76 = .ok (.ldc 98, 2) := by decide +kernel
theorem dX2_countWays_78 : decode cX2_countWays 78 = .ok (.irem, 1) := by decide +kernel
theorem dX2_countWays_79 : decode cX2_countWays 79 = .ok (.iastore, 1) := by decide +kernel
theorem dX2_countWays_80 : decode cX2_countWays 80 = .ok (.iinc 1 (-1), 3) := by decide +kernel
theorem dX2_countWays_83 : decode cX2_countWays 83 = .ok (.goto (-43), 3) := by decide +kernel
theorem dX2_countWays_86 : decode cX2_countWays 86 = .ok (.aload_n 0, 1) := by decide +kernel
theorem dX2_countWays_87 : decode cX2_countWays 87 = .ok (.getfield 36, 3) := by decide +kernel
theorem dX2_countWays_90 : decode cX2_countWays 90 = .ok (.iconst 0, 1) := by decide +kernel
theorem dX2_countWays_91 : decode cX2_countWays 91 = .ok (.iaload, 1) := by decide +kernel
theorem dX2_countWays_92 : decode cX2_countWays 92 = .ok (.ireturn, 1) := by decide +kernel
theorem dX3_init_0 : decode cX3_init 0 = .ok (.aload_n 0, 1) := by decide +kernel
theorem dX3_init_1 : decode cX3_init 1 = .ok (.invokespecial 3, 3) := by decide +kernel
theorem dX3_init_4 : decode cX3_init 4 = .ok (.aload_n 0, 1) := by decide +kernel
theorem dX3_init_5 : decode cX3_init 5 = .ok (.bipush 40, 2) := by decide +kernel
theorem dX3_init_7 : decode cX3_init 7 = .ok (.newarray .int, 2) := by decide +kernel
theorem dX3_init_9 : decode cX3_init 9 = .ok (.putfield 9, 3) := by decide +kernel
theorem dX3_init_12 : decode cX3_init 12 = .ok (.return_, 1) := by decide +kernel
theorem dX3_add_0 : decode cX3_add 0 = .ok (.aload_n 0, 1) := by decide +kernel
theorem dX3_add_1 : decode cX3_add 1 = .ok (.getfield 15, 3) := by decide +kernel
theorem dX3_add_4 : decode cX3_add 4 = .ok (.bipush 40, 2) := by decide +kernel
theorem dX3_add_6 : decode cX3_add 6 = .ok (.if_icmp .lt 5, 3) := by decide +kernel
theorem dX3_add_9 : decode cX3_add 9 = .ok (.iconst 0, 1) := by decide +kernel
theorem dX3_add_10 : decode cX3_add 10 = .ok (.ireturn, 1) := by decide +kernel
theorem dX3_add_11 : decode cX3_add 11 = .ok (.aload_n 0, 1) := by decide +kernel
theorem dX3_add_12 : decode cX3_add 12 = .ok (.getfield 9, 3) := by decide +kernel
theorem dX3_add_15 : decode cX3_add 15 = .ok (.aload_n 0, 1) := by decide +kernel
theorem dX3_add_16 : decode cX3_add 16 = .ok (.getfield 15, 3) := by decide +kernel
theorem dX3_add_19 : decode cX3_add 19 = .ok (.iload_n 1, 1) := by decide +kernel
theorem dX3_add_20 : decode cX3_add 20 = .ok (.iastore, 1) := by decide +kernel
theorem dX3_add_21 : decode cX3_add 21 = .ok (.aload_n 0, 1) := by decide +kernel
theorem dX3_add_22 : decode cX3_add 22 = .ok (.dup, 1) := by decide +kernel
theorem dX3_add_23 : decode cX3_add 23 = .ok (.getfield 15, 3) := by decide +kernel
theorem dX3_add_26 : decode cX3_add 26 = .ok (.iconst 1, 1) := by decide +kernel
theorem dX3_add_27 : decode cX3_add 27 = .ok (.iadd, 1) := by decide +kernel
theorem dX3_add_28 : decode cX3_add 28 = .ok (.putfield 15, 3) := by decide +kernel
theorem dX3_add_31 : decode cX3_add 31 = .ok (.iconst 1, 1) := by decide +kernel
theorem dX3_add_32 : decode cX3_add 32 = .ok (.ireturn, 1) := by decide +kernel
theorem dX3_clear_0 : decode cX3_clear 0 = .ok (.aload_n 0, 1) := by decide +kernel
theorem dX3_clear_1 : decode cX3_clear 1 = .ok (.iconst 0, 1) := by decide +kernel
theorem dX3_clear_2 : decode cX3_clear 2 = .ok (.putfield 15, 3) := by decide +kernel
theorem dX3_clear_5 : decode cX3_clear 5 = .ok (.return_, 1) := by decide +kernel
theorem dX3_readLine_0 : decode cX3_readLine 0 = .ok (.aload_n 0, 1) := by decide +kernel
theorem dX3_readLine_1 : decode cX3_readLine 1 = .ok (.bipush 24, 2) := by decide +kernel
theorem dX3_readLine_3 : decode cX3_readLine 3 = .ok (.invokevirtual 19, 3) := by decide +kernel
theorem dX3_readLine_6 : decode cX3_readLine 6 = .ok (.istore_n 1, 1) := by decide +kernel
theorem dX3_readLine_7 : decode cX3_readLine 7 = .ok (.iload_n 1, 1) := by decide +kernel
theorem dX3_readLine_8 : decode cX3_readLine 8 = .ok (.ifCond .le 16, 3) := by decide +kernel
theorem dX3_readLine_11 : decode cX3_readLine 11 = .ok (.iload_n 1, 1) := by decide +kernel
theorem dX3_readLine_12 : decode cX3_readLine 12 = .ok (.aload_n 0, 1) := by decide +kernel
theorem dX3_readLine_13 : decode cX3_readLine 13 = .ok (.getfield 15, 3) := by decide +kernel
theorem dX3_readLine_16 : decode cX3_readLine 16 = .ok (.if_icmp .ne 8, 3) := by decide +kernel
theorem dX3_readLine_19 : decode cX3_readLine 19 = .ok (.bipush (-6), 2) := by decide +kernel
theorem dX3_readLine_21 : decode cX3_readLine 21 = .ok (.goto 4, 3) := by decide +kernel
theorem dX3_readLine_24 : decode cX3_readLine 24 = .ok (.iload_n 1, 1) := by decide +kernel
theorem dX3_readLine_25 : decode cX3_readLine 25 = .ok (.ireturn, 1) := by decide +kernel
theorem dX3_readWord_0 : decode cX3_readWord 0 = .ok (.aload_n 0, 1) := by decide +kernel
theorem dX3_readWord_1 : decode cX3_readWord 1 = .ok (.aload_n 0, 1) := by decide +kernel
theorem dX3_readWord_2 : decode cX3_readWord 2 = .ok (.bipush 6, 2) := by decide +kernel
theorem dX3_readWord_4 : decode cX3_readWord 4 = .ok (.invokevirtual 19, 3) := by decide +kernel
theorem dX3_readWord_7 : decode cX3_readWord 7 = .ok (.putfield 23, 3) := by decide +kernel
theorem dX3_readWord_10 : decode cX3_readWord 10 = .ok (.aload_n 0, 1) := by decide +kernel
theorem dX3_readWord_11 : decode cX3_readWord 11 = .ok (.getfield 23, 3) := by decide +kernel
theorem dX3_readWord_14 : decode cX3_readWord 14 = .ok (.ifCond .eq 16, 3) := by decide +kernel
theorem dX3_readWord_17 : decode cX3_readWord 17 = .ok (.aload_n 0, 1) := by decide +kernel
theorem dX3_readWord_18 : decode cX3_readWord 18 = .ok (.aload_n 0, 1) := by decide +kernel
theorem dX3_readWord_19 : decode cX3_readWord 19 = .ok (.getfield 23, 3) := by decide +kernel
theorem dX3_readWord_22 : decode cX3_readWord 22 = .ok (.invokevirtual 26, 3) := by decide +kernel
theorem dX3_readWord_25 : decode cX3_readWord 25 = .ok (.bipush 61, 2) := by decide +kernel
theorem dX3_readWord_27 : decode cX3_readWord 27 = .ok (.if_icmp .eq 8, 3) := by decide +kernel
theorem dX3_readWord_30 : decode cX3_readWord 30 = .ok (.aload_n 0, 1) := by decide +kernel
theorem dX3_readWord_31 : decode cX3_readWord 31 = .ok (.getfield 23, 3) := by decide +kernel
theorem dX3_readWord_34 : decode cX3_readWord 34 = .ok (.ireturn, 1) := by decide +kernel
theorem dX3_readWord_35 : decode cX3_readWord 35 = .ok (.aload_n 0, 1) := by decide +kernel
theorem dX3_readWord_36 : decode cX3_readWord 36 = .ok (.getfield 23, 3) := by decide +kernel
theorem dX3_readWord_39 : decode cX3_readWord 39 = .ok (.iconst 1, 1) := by decide +kernel
theorem dX3_readWord_40 : decode cX3_readWord 40 = .ok (.iadd, 1) := by decide +kernel
theorem dX3_readWord_41 : decode cX3_readWord 41 = .ok (.istore_n 1, 1) := by decide +kernel
theorem dX3_readWord_42 : decode cX3_readWord 42 = .ok (.aload_n 0, 1) := by decide +kernel
theorem dX3_readWord_43 : decode cX3_readWord 43 = .ok (.aload_n 0, 1) := by decide +kernel
theorem dX3_readWord_44 : decode cX3_readWord 44 = .ok (.iload_n 1, 1) := by decide +kernel
theorem dX3_readWord_45 : decode cX3_readWord 45 = .ok (.invokevirtual 29, 3) := by decide +kernel
theorem dX3_readWord_48 : decode cX3_readWord 48 = .ok (.putfield 32, 3) := by decide +kernel
theorem dX3_readWord_51 : decode cX3_readWord 51 = .ok (.aload_n 0, 1) := by decide +kernel
theorem dX3_readWord_52 : decode cX3_readWord 52 = .ok (.getfield 32, 3) := by decide +kernel
theorem dX3_readWord_55 : decode cX3_readWord 55 = .ok (.bipush (-6), 2) := by decide +kernel
theorem dX3_readWord_57 : decode cX3_readWord 57 = .ok (.if_icmp .ne 5, 3) := by decide +kernel
theorem dX3_readWord_60 : decode cX3_readWord 60 = .ok (.iload_n 1, 1) := by decide +kernel
theorem dX3_readWord_61 : decode cX3_readWord 61 = .ok (.ireturn, 1) := by decide +kernel
theorem dX3_readWord_62 : decode cX3_readWord 62 = .ok (.aload_n 0, 1) := by decide +kernel
theorem dX3_readWord_63 : decode cX3_readWord 63 = .ok (.aload_n 0, 1) := by decide +kernel
theorem dX3_readWord_64 : decode cX3_readWord 64 = .ok (.iload_n 1, 1) := by decide +kernel
theorem dX3_readWord_65 : decode cX3_readWord 65 = .ok (.aload_n 0, 1) := by decide +kernel
theorem dX3_readWord_66 : decode cX3_readWord 66 = .ok (.getfield 32, 3) := by decide +kernel
theorem dX3_readWord_69 : decode cX3_readWord 69 = .ok (.invokevirtual 35, 3) := by decide +kernel
theorem dX3_readWord_72 : decode cX3_readWord 72 = .ok (.ifCond .eq 9, 3) := by decide +kernel
theorem dX3_readWord_75 : decode cX3_readWord 75 = .ok (.iload_n 1, 1) := by decide +kernel
theorem dX3_readWord_76 : decode cX3_readWord 76 = .ok (.iconst 4, 1) := by decide +kernel
theorem dX3_readWord_77 : decode cX3_readWord 77 = .ok (.iadd, 1) := by decide +kernel
theorem dX3_readWord_78 : decode cX3_readWord 78 = .ok (.goto 6, 3) := by decide +kernel
theorem dX3_readWord_81 : decode cX3_readWord 81 = .ok (.iload_n 1, 1) := by decide +kernel
theorem dX3_readWord_82 : decode cX3_readWord 82 = .ok (.iconst 1, 1) := by decide +kernel
theorem dX3_readWord_83 : decode cX3_readWord 83 = .ok (.iadd, 1) := by decide +kernel
theorem dX3_readWord_84 : decode cX3_readWord 84 = .ok (.invokevirtual 39, 3) := by decide +kernel
theorem dX3_readWord_87 : decode cX3_readWord 87 = .ok (.ireturn, 1) := by decide +kernel
theorem dX3_readCost_0 : decode cX3_readCost 0 = .ok (.aload_n 0, 1) := by decide +kernel
theorem dX3_readCost_1 : decode cX3_readCost 1 = .ok (.iload_n 1, 1) := by decide +kernel
theorem dX3_readCost_2 : decode cX3_readCost 2 = .ok (.invokevirtual 26, 3) := by decide +kernel
theorem dX3_readCost_5 : decode cX3_readCost 5 = .ok (.invokestatic 42, 3) := by decide +kernel
theorem dX3_readCost_8 : decode cX3_readCost 8 = .ok (.ifCond .ne 5, 3) := by decide +kernel
theorem dX3_readCost_11 : decode cX3_readCost 11 = .ok (.iload_n 1, 1) := by decide +kernel
theorem dX3_readCost_12 : decode cX3_readCost 12 = .ok (.ireturn, 1) := by decide +kernel
theorem dX3_readCost_13 : decode cX3_readCost 13 = .ok (.aload_n 0, 1) := by decide +kernel
theorem dX3_readCost_14 : decode cX3_readCost 14 = .ok (.aload_n 0, 1) := by decide +kernel
theorem dX3_readCost_15 : decode cX3_readCost 15 = .ok (.iload_n 1, 1) := by decide +kernel
theorem dX3_readCost_16 : decode cX3_readCost 16 = .ok (.invokevirtual 26, 3) := by decide +kernel
theorem dX3_readCost_19 : decode cX3_readCost 19 = .ok (.bipush 48, 2) := by decide +kernel
theorem dX3_readCost_21 : decode cX3_readCost 21 = .ok (.isub, 1) := by decide +kernel
theorem dX3_readCost_22 : decode cX3_readCost 22 = .ok (.putfield 46, 3) := by decide +kernel
theorem dX3_readCost_25 : decode cX3_readCost 25 = .ok (.iload_n 1, 1) := by decide +kernel
theorem dX3_readCost_26 : decode cX3_readCost 26 = .ok (.iconst 1, 1) := by decide +kernel
theorem dX3_readCost_27 : decode cX3_readCost 27 = .ok (.iadd, 1) := by decide +kernel
theorem dX3_readCost_28 : decode cX3_readCost 28 = .ok (.istore_n 2, 1) := by decide +kernel
theorem dX3_readCost_29 : decode cX3_readCost 29 = .ok (.aload_n 0, 1) := by decide +kernel
theorem dX3_readCost_30 : decode cX3_readCost 30 = .ok (.iload_n 2, 1) := by decide +kernel
theorem dX3_readCost_31 : decode cX3_readCost 31 = .ok (.invokevirtual 26, 3) := by decide +kernel
theorem dX3_readCost_34 : decode cX3_readCost 34 = .ok (.invokestatic 42, 3) := by decide +kernel
theorem dX3_readCost_37 : decode cX3_readCost 37 = .ok (.ifCond .eq 26, 3) := by decide +kernel
theorem dX3_readCost_40 : decode cX3_readCost 40 = .ok (.aload_n 0, 1) := by decide +kernel
theorem dX3_readCost_41 : decode cX3_readCost 41 = .ok (.aload_n 0, 1) := by decide +kernel
theorem dX3_readCost_42 : decode cX3_readCost 42 = .ok (.getfield 46, 3) := by decide +kernel
theorem dX3_readCost_45 : decode cX3_readCost 45 = .ok (.bipush 10, 2) := by decide +kernel
theorem dX3_readCost_47 : decode cX3_readCost 47 = .ok (.imul, 1) := by decide +kernel
theorem dX3_readCost_48 : decode cX3_readCost 48 = .ok (.aload_n 0, 1) := by decide +kernel
theorem dX3_readCost_49 : decode cX3_readCost 49 = .ok (.iload_n 2, 1) := by decide +kernel
theorem dX3_readCost_50 : decode cX3_readCost 50 = .ok (.invokevirtual 26, 3) := by decide +kernel
theorem dX3_readCost_53 : decode cX3_readCost 53 = .ok (.iadd, 1) := by decide +kernel
theorem dX3_readCost_54 : decode cX3_readCost 54 = .ok (.bipush 48, 2) := by decide +kernel
theorem dX3_readCost_56 : decode cX3_readCost 56 = .ok (.isub, 1) := by decide +kernel
theorem dX3_readCost_57 : decode cX3_readCost 57 = .ok (.putfield 46, 3) := by decide +kernel
theorem dX3_readCost_60 : decode cX3_readCost 60 = .ok (.iinc 2 1, 3) := by decide +kernel
theorem dX3_readCost_63 : decode cX3_readCost 63 = .ok (.iload_n 2, 1) := by decide +kernel
theorem dX3_readCost_64 : decode cX3_readCost 64 = .ok (.aload_n 0, 1) := by decide +kernel
theorem dX3_readCost_65 : decode cX3_readCost 65 = .ok (.getfield 15, 3) := by decide +kernel
theorem dX3_readCost_68 : decode cX3_readCost 68 = .ok (.if_icmp .ne 8, 3) := by decide +kernel
theorem dX3_readCost_71 : decode cX3_readCost 71 = .ok (.bipush (-6), 2) := by decide +kernel
theorem dX3_readCost_73 : decode cX3_readCost 73 = .ok (.goto 4, 3) := by decide +kernel
theorem dX3_readCost_76 : decode cX3_readCost 76 = .ok (.iload_n 2, 1) := by decide +kernel
theorem dX3_readCost_77 : decode cX3_readCost 77 = .ok (.ireturn, 1) := by decide +kernel
theorem dX3_leadingLetters_0 : decode cX3_leadingLetters 0 = .ok (.iconst 0, 1) := by decide +kernel
theorem dX3_leadingLetters_1 : decode cX3_leadingLetters 1 = .ok (.istore_n 2, 1) := by decide +kernel
theorem dX3_leadingLetters_2 : decode cX3_leadingLetters 2 = .ok (.iload_n 2, 1) := by decide +kernel
theorem dX3_leadingLetters_3 : decode cX3_leadingLetters 3 = .ok (.iload_n 1, 1) := by decide +kernel
theorem dX3_leadingLetters_4 : decode cX3_leadingLetters 4 = .ok (.if_icmp .ge 20, 3) := by decide +kernel
theorem dX3_leadingLetters_7 : decode cX3_leadingLetters 7 = .ok (.aload_n 0, 1) := by decide +kernel
theorem dX3_leadingLetters_8 : decode cX3_leadingLetters 8 = .ok (.iload_n 2, 1) := by decide +kernel
theorem dX3_leadingLetters_9 : decode cX3_leadingLetters 9 = .ok (.invokevirtual 26, 3) := by decide +kernel
theorem dX3_leadingLetters_12 : decode cX3_leadingLetters 12 = .ok (.invokestatic 49, 3) := by decide +kernel
theorem dX3_leadingLetters_15 : decode cX3_leadingLetters 15 = .ok (.ifCond .eq 9, 3) := by decide +kernel
theorem dX3_leadingLetters_18 : decode cX3_leadingLetters 18 = .ok (.iinc 2 1, 3) := by decide +kernel
theorem dX3_leadingLetters_21 : decode cX3_leadingLetters 21 = .ok (.goto (-19), 3) := by decide +kernel
theorem dX3_leadingLetters_24 : decode cX3_leadingLetters 24 = .ok (.iload_n 2, 1) := by decide +kernel
theorem dX3_leadingLetters_25 : decode cX3_leadingLetters 25 = .ok (.ireturn, 1) := by decide +kernel
theorem dX3_signAt_0 : decode cX3_signAt 0 = .ok (.iload_n 1, 1) := by decide +kernel
theorem dX3_signAt_1 : decode cX3_signAt 1 = .ok (.ifCond .lt 26, 3) := by decide +kernel
theorem dX3_signAt_4 : decode cX3_signAt 4 = .ok (.iload_n 1, 1) := by decide +kernel
theorem dX3_signAt_5 : decode cX3_signAt 5 = .ok (.aload_n 0, 1) := by decide +kernel
theorem dX3_signAt_6 : decode cX3_signAt 6 = .ok (.getfield 15, 3) := by decide +kernel
theorem dX3_signAt_9 : decode cX3_signAt 9 = .ok (.if_icmp .ge 18, 3) := by decide +kernel
theorem dX3_signAt_12 : decode cX3_signAt 12 = .ok (.iload_n 1, 1) := by decide +kernel
theorem dX3_signAt_13 : decode cX3_signAt 13 = .ok (.bipush 40, 2) := by decide +kernel
theorem dX3_signAt_15 : decode cX3_signAt 15 = .ok (.if_icmp .ge 12, 3) := by decide +kernel
theorem dX3_signAt_18 : decode cX3_signAt 18 = .ok (.aload_n 0, 1) := by decide +kernel
theorem dX3_signAt_19 : decode cX3_signAt 19 = .ok (.getfield 9, 3) := by decide +kernel
theorem dX3_signAt_22 : decode cX3_signAt 22 = .ok (.iload_n 1, 1) := by decide +kernel
theorem dX3_signAt_23 : decode cX3_signAt 23 = .ok (.iaload, 1) := by decide +kernel
theorem dX3_signAt_24 : decode cX3_signAt 24 = .ok (.goto 4, 3) := by decide +kernel
theorem dX3_signAt_27 : decode cX3_signAt 27 = .ok (.iconst 0, 1) := by decide +kernel
theorem dX3_signAt_28 : decode cX3_signAt 28 = .ok (.ireturn, 1) := by decide +kernel
theorem dX3_kindNamedAt_0 : decode cX3_kindNamedAt 0 = .ok (.iconst 0, 1) := by decide +kernel
theorem dX3_kindNamedAt_1 : decode cX3_kindNamedAt 1 = .ok (.istore_n 2, 1) := by decide +kernel
theorem dX3_kindNamedAt_2 : decode cX3_kindNamedAt 2 = .ok (.iload_n 2, 1) := by decide +kernel
theorem dX3_kindNamedAt_3 : decode cX3_kindNamedAt 3 = .ok (.iconst 3, 1) := by decide +kernel
theorem dX3_kindNamedAt_4 : decode cX3_kindNamedAt 4 = .ok (.if_icmp .ge 27, 3) := by decide +kernel
theorem dX3_kindNamedAt_7 : decode cX3_kindNamedAt 7 = .ok (.aload_n 0, 1) := by decide +kernel
theorem dX3_kindNamedAt_8 : decode cX3_kindNamedAt 8 = .ok (.iload_n 1, 1) := by decide +kernel
theorem dX3_kindNamedAt_9 : decode cX3_kindNamedAt 9 = .ok (.invokevirtual 26, 3) := by decide +kernel
theorem dX3_kindNamedAt_12 : decode cX3_kindNamedAt 12 = .ok (.ldc 52, 2) := by decide +kernel
theorem dX3_kindNamedAt_14 : decode cX3_kindNamedAt 14 = .ok (.iload_n 2, 1) := by decide +kernel
theorem dX3_kindNamedAt_15 : decode cX3_kindNamedAt 15 = .ok (.iconst 4, 1) := by decide +kernel
theorem dX3_kindNamedAt_16 : decode cX3_kindNamedAt 16 = .ok (.imul, 1) := by decide +kernel
theorem dX3_kindNamedAt_17 : decode cX3_kindNamedAt 17 = .ok (.invokevirtual 54, 3) := by decide +kernel
theorem dX3_kindNamedAt_20 : decode cX3_kindNamedAt 20 = .ok (.if_icmp .ne 5, 3) := by decide +kernel
theorem dX3_kindNamedAt_23 : decode cX3_kindNamedAt 23 = .ok (.iload_n 2, 1) := by decide +kernel
theorem dX3_kindNamedAt_24 : decode cX3_kindNamedAt 24 = .ok (.ireturn, 1) := by decide +kernel
theorem dX3_kindNamedAt_25 : decode cX3_kindNamedAt 25 = .ok (.iinc 2 1, 3) := by decide +kernel
theorem dX3_kindNamedAt_28 : decode cX3_kindNamedAt 28 = .ok (.goto (-26), 3) := by decide +kernel
theorem dX3_kindNamedAt_31 : decode cX3_kindNamedAt 31 = .ok (.bipush (-6), 2) := by decide +kernel
theorem dX3_kindNamedAt_33 : decode cX3_kindNamedAt 33 = .ok (.ireturn, 1) := by decide +kernel
theorem dX3_nameStandsAt_0 : decode cX3_nameStandsAt 0 = .ok (.iconst 0, 1) := by decide +kernel
theorem dX3_nameStandsAt_1 : decode cX3_nameStandsAt 1 = .ok (.istore_n 3, 1) := by decide +kernel
theorem dX3_nameStandsAt_2 : decode cX3_nameStandsAt 2 = .ok (.iload_n 3, 1) := by decide +kernel
theorem dX3_nameStandsAt_3 : decode cX3_nameStandsAt 3 = .ok (.iconst 4, 1) := by decide +kernel
theorem dX3_nameStandsAt_4 : decode cX3_nameStandsAt 4 = .ok (.if_icmp .ge 31, 3) := by decide +kernel
theorem dX3_nameStandsAt_7 : decode cX3_nameStandsAt 7 = .ok (.aload_n 0, 1) := by decide +kernel
theorem dX3_nameStandsAt_8 : decode cX3_nameStandsAt 8 = .ok (.iload_n 1, 1) := by decide +kernel
theorem dX3_nameStandsAt_9 : decode cX3_nameStandsAt 9 = .ok (.iload_n 3, 1) := by decide +kernel
theorem dX3_nameStandsAt_10 : decode cX3_nameStandsAt 10 = .ok (.iadd, 1) := by decide +kernel
theorem dX3_nameStandsAt_11 : decode cX3_nameStandsAt 11 = .ok (.invokevirtual 26, 3) := by decide +kernel
theorem dX3_nameStandsAt_14 : decode cX3_nameStandsAt 14 = .ok (.ldc 52, 2) := by decide +kernel
theorem dX3_nameStandsAt_16 : decode cX3_nameStandsAt 16 = .ok (.iload_n 2, 1) := by decide +kernel
theorem dX3_nameStandsAt_17 : decode cX3_nameStandsAt 17 = .ok (.iconst 4, 1) := by decide +kernel
theorem dX3_nameStandsAt_18 : decode cX3_nameStandsAt 18 = .ok (.imul, 1) := by decide +kernel
theorem dX3_nameStandsAt_19 : decode cX3_nameStandsAt 19 = .ok (.iload_n 3, 1) := by decide +kernel
theorem dX3_nameStandsAt_20 : decode cX3_nameStandsAt 20 = .ok (.iadd, 1) := by decide +kernel
theorem dX3_nameStandsAt_21 : decode cX3_nameStandsAt 21 = .ok (.invokevirtual 54, 3) := by decide +kernel
theorem dX3_nameStandsAt_24 : decode cX3_nameStandsAt 24 = .ok (.if_icmp .eq 5, 3) := by decide +kernel
theorem dX3_nameStandsAt_27 : decode cX3_nameStandsAt 27 = .ok (.iconst 0, 1) := by decide +kernel
theorem dX3_nameStandsAt_28 : decode cX3_nameStandsAt 28 = .ok (.ireturn, 1) := by decide +kernel
theorem dX3_nameStandsAt_29 : decode cX3_nameStandsAt 29 = .ok (.iinc 3 1, 3) := by decide +kernel
theorem dX3_nameStandsAt_32 : decode cX3_nameStandsAt 32 = .ok (.goto (-30), 3) := by decide +kernel
theorem dX3_nameStandsAt_35 : decode cX3_nameStandsAt 35 = .ok (.iconst 1, 1) := by decide +kernel
theorem dX3_nameStandsAt_36 : decode cX3_nameStandsAt 36 = .ok (.ireturn, 1) := by decide +kernel
theorem dX3_isLetter_0 : decode cX3_isLetter 0 = .ok (.iload_n 0, 1) := by decide +kernel
theorem dX3_isLetter_1 : decode cX3_isLetter 1 = .ok (.bipush 97, 2) := by decide +kernel
theorem dX3_isLetter_3 : decode cX3_isLetter 3 = .ok (.if_icmp .lt 13, 3) := by decide +kernel
theorem dX3_isLetter_6 : decode cX3_isLetter 6 = .ok (.iload_n 0, 1) := by decide +kernel
theorem dX3_isLetter_7 : decode cX3_isLetter 7 = .ok (.bipush 104, 2) := by decide +kernel
theorem dX3_isLetter_9 : decode cX3_isLetter 9 = .ok (.if_icmp .gt 7, 3) := by decide +kernel
theorem dX3_isLetter_12 : decode cX3_isLetter 12 = .ok (.iconst 1, 1) := by decide +kernel
theorem dX3_isLetter_13 : decode cX3_isLetter 13 = .ok (.goto 4, 3) := by decide +kernel
theorem dX3_isLetter_16 : decode cX3_isLetter 16 = .ok (.iconst 0, 1) := by decide +kernel
theorem dX3_isLetter_17 : decode cX3_isLetter 17 = .ok (.ireturn, 1) := by decide +kernel
theorem dX3_isFigure_0 : decode cX3_isFigure 0 = .ok (.iload_n 0, 1) := by decide +kernel
theorem dX3_isFigure_1 : decode cX3_isFigure 1 = .ok (.bipush 48, 2) := by decide +kernel
theorem dX3_isFigure_3 : decode cX3_isFigure 3 = .ok (.if_icmp .lt 13, 3) := by decide +kernel
theorem dX3_isFigure_6 : decode cX3_isFigure 6 = .ok (.iload_n 0, 1) := by decide +kernel
theorem dX3_isFigure_7 : decode cX3_isFigure 7 = .ok (.bipush 57, 2) := by decide +kernel
theorem dX3_isFigure_9 : decode cX3_isFigure 9 = .ok (.if_icmp .gt 7, 3) := by decide +kernel
theorem dX3_isFigure_12 : decode cX3_isFigure 12 = .ok (.iconst 1, 1) := by decide +kernel
theorem dX3_isFigure_13 : decode cX3_isFigure 13 = .ok (.goto 4, 3) := by decide +kernel
theorem dX3_isFigure_16 : decode cX3_isFigure 16 = .ok (.iconst 0, 1) := by decide +kernel
theorem dX3_isFigure_17 : decode cX3_isFigure 17 = .ok (.ireturn, 1) := by decide +kernel
theorem dX4_init_0 : decode cX4_init 0 = .ok (.aload_n 0, 1) := by decide +kernel
theorem dX4_init_1 : decode cX4_init 1 = .ok (.invokespecial 5, 3) := by decide +kernel
theorem dX4_init_4 : decode cX4_init 4 = .ok (.aload_n 0, 1) := by decide +kernel
theorem dX4_init_5 : decode cX4_init 5 = .ok (.bipush 125, 2) := by decide +kernel
theorem dX4_init_7 : decode cX4_init 7 = .ok (.newarray .int, 2) := by decide +kernel
theorem dX4_init_9 : decode cX4_init 9 = .ok (.putfield 11, 3) := by decide +kernel
theorem dX4_init_12 : decode cX4_init 12 = .ok (.aload_n 0, 1) := by decide +kernel
theorem dX4_init_13 : decode cX4_init 13 = .ok (.bipush 125, 2) := by decide +kernel
theorem dX4_init_15 : decode cX4_init 15 = .ok (.newarray .int, 2) := by decide +kernel
theorem dX4_init_17 : decode cX4_init 17 = .ok (.putfield 15, 3) := by decide +kernel
theorem dX4_init_20 : decode cX4_init 20 = .ok (.aload_n 0, 1) := by decide +kernel
theorem dX4_init_21 : decode cX4_init 21 = .ok (.sipush 1500, 3) := by decide +kernel
theorem dX4_init_24 : decode cX4_init 24 = .ok (.newarray .int, 2) := by decide +kernel
theorem dX4_init_26 : decode cX4_init 26 = .ok (.putfield 18, 3) := by decide +kernel
theorem dX4_init_29 : decode cX4_init 29 = .ok (.aload_n 0, 1) := by decide +kernel
theorem dX4_init_30 : decode cX4_init 30 = .ok (.bipush 24, 2) := by decide +kernel
theorem dX4_init_32 : decode cX4_init 32 = .ok (.newarray .int, 2) := by decide +kernel
theorem dX4_init_34 : decode cX4_init 34 = .ok (.putfield 21, 3) := by decide +kernel
theorem dX4_init_37 : decode cX4_init 37 = .ok (.return_, 1) := by decide +kernel
theorem dX4_make_0 : decode cX4_make 0 = .ok (.aload_n 0, 1) := by decide +kernel
theorem dX4_make_1 : decode cX4_make 1 = .ok (.aload_n 1, 1) := by decide +kernel
theorem dX4_make_2 : decode cX4_make 2 = .ok (.invokevirtual 24, 3) := by decide +kernel
theorem dX4_make_5 : decode cX4_make 5 = .ok (.aload_n 0, 1) := by decide +kernel
theorem dX4_make_6 : decode cX4_make 6 = .ok (.aload_n 1, 1) := by decide +kernel
theorem dX4_make_7 : decode cX4_make 7 = .ok (.invokevirtual 28, 3) := by decide +kernel
theorem dX4_make_10 : decode cX4_make 10 = .ok (.aload_n 1, 1) := by decide +kernel
theorem dX4_make_11 : decode cX4_make 11 = .ok (.getfield 31, 3) := by decide +kernel
theorem dX4_make_14 : decode cX4_make 14 = .ok (.iconst 1, 1) := by decide +kernel
theorem dX4_make_15 : decode cX4_make 15 = .ok (.isub, 1) := by decide +kernel
theorem dX4_make_16 : decode cX4_make 16 = .ok (.istore_n 2, 1) := by decide +kernel
theorem dX4_make_17 : decode cX4_make 17 = .ok (.iload_n 2, 1) := by decide +kernel
theorem dX4_make_18 : decode cX4_make 18 = .ok (.ifCond .le 29, 3) := by decide +kernel
theorem dX4_make_21 : decode cX4_make 21 = .ok (.iconst 0, 1) := by decide +kernel
theorem dX4_make_22 : decode cX4_make 22 = .ok (.istore_n 3, 1) := by decide +kernel
theorem dX4_make_23 : decode cX4_make 23 = .ok (.iload_n 3, 1) := by decide +kernel
theorem dX4_make_24 : decode cX4_make 24 = .ok (.iconst 4, 1) := by decide +kernel
theorem dX4_make_25 : decode cX4_make 25 = .ok (.if_icmp .ge 16, 3) := by decide +kernel
theorem dX4_make_28 : decode cX4_make 28 = .ok (.aload_n 0, 1) := by decide +kernel
theorem dX4_make_29 : decode cX4_make 29 = .ok (.aload_n 1, 1) := by decide +kernel
theorem dX4_make_30 : decode cX4_make 30 = .ok (.iload_n 2, 1) := by decide +kernel
theorem dX4_make_31 : decode cX4_make 31 = .ok (.iload_n 3, 1) := by decide +kernel
theorem dX4_make_32 : decode cX4_make 32 = .ok (.invokevirtual 37, 3) := by decide +kernel
theorem dX4_make_35 : decode cX4_make 35 = .ok (.iinc 3 1, 3) := by decide +kernel
theorem dX4_make_38 : decode cX4_make 38 = .ok (.goto (-15), 3) := by decide +kernel
theorem dX4_make_41 : decode cX4_make 41 = .ok (.iinc 2 (-1), 3) := by decide +kernel
theorem dX4_make_44 : decode cX4_make 44 = .ok (.goto (-27), 3) := by decide +kernel
theorem dX4_make_47 : decode cX4_make 47 = .ok (.aload_n 0, 1) := by decide +kernel
theorem dX4_make_48 : decode cX4_make 48 = .ok (.aload_n 1, 1) := by decide +kernel
theorem dX4_make_49 : decode cX4_make 49 = .ok (.iconst 0, 1) := by decide +kernel
theorem dX4_make_50 : decode cX4_make 50 = .ok (.iconst 4, 1) := by decide +kernel
theorem dX4_make_51 : decode cX4_make 51 = .ok (.invokevirtual 37, 3) := by decide +kernel
theorem dX4_make_54 : decode cX4_make 54 = .ok (.return_, 1) := by decide +kernel
theorem dX4_rankEnds_0 : decode cX4_rankEnds 0 = .ok (.iconst 0, 1) := by decide +kernel
theorem dX4_rankEnds_1 : decode cX4_rankEnds 1 = .ok (.istore_n 2, 1) := by decide +kernel
theorem dX4_rankEnds_2 : decode cX4_rankEnds 2 = .ok (.iload_n 2, 1) := by decide +kernel
theorem dX4_rankEnds_3 : decode cX4_rankEnds 3 = .ok (.iconst 4, 1) := by decide +kernel
theorem dX4_rankEnds_4 : decode cX4_rankEnds 4 = .ok (.if_icmp .ge 43, 3) := by decide +kernel
theorem dX4_rankEnds_7 : decode cX4_rankEnds 7 = .ok (.aload_n 1, 1) := by decide +kernel
theorem dX4_rankEnds_8 : decode cX4_rankEnds 8 = .ok (.getfield 31, 3) := by decide +kernel
theorem dX4_rankEnds_11 : decode cX4_rankEnds 11 = .ok (.iconst 5, 1) := by decide +kernel
theorem dX4_rankEnds_12 : decode cX4_rankEnds 12 = .ok (.imul, 1) := by decide +kernel
theorem dX4_rankEnds_13 : decode cX4_rankEnds 13 = .ok (.iload_n 2, 1) := by decide +kernel
theorem dX4_rankEnds_14 : decode cX4_rankEnds 14 = .ok (.iadd, 1) := by decide +kernel
theorem dX4_rankEnds_15 : decode cX4_rankEnds 15 = .ok (.istore_n 3, 1) := by decide +kernel
theorem dX4_rankEnds_16 : decode cX4_rankEnds 16 = .ok (.aload_n 0, 1) := by decide +kernel
theorem dX4_rankEnds_17 : decode cX4_rankEnds 17 = .ok (.getfield 15, 3) := by decide +kernel
theorem dX4_rankEnds_20 : decode cX4_rankEnds 20 = .ok (.iload_n 3, 1) := by decide +kernel
theorem dX4_rankEnds_21 : decode cX4_rankEnds 21 = .ok (.iconst 1, 1) := by decide +kernel
theorem dX4_rankEnds_22 : decode cX4_rankEnds 22 = .ok (.iastore, 1) := by decide +kernel
theorem dX4_rankEnds_23 : decode cX4_rankEnds 23 = .ok (.aload_n 0, 1) := by decide +kernel
theorem dX4_rankEnds_24 : decode cX4_rankEnds 24 = .ok (.getfield 18, 3) := by decide +kernel
theorem dX4_rankEnds_27 : decode cX4_rankEnds 27 = .ok (.iload_n 3, 1) := by decide +kernel
theorem dX4_rankEnds_28 : decode cX4_rankEnds 28 = .ok (.bipush 12, 2) := by decide +kernel
theorem dX4_rankEnds_30 : decode cX4_rankEnds 30 = .ok (.imul, 1) := by decide +kernel
theorem dX4_rankEnds_31 : decode cX4_rankEnds 31 = .ok (.aload_n 1, 1) := by decide +kernel
theorem dX4_rankEnds_32 : decode cX4_rankEnds 32 = .ok (.iload_n 2, 1) := by decide +kernel
theorem dX4_rankEnds_33 : decode cX4_rankEnds 33 = .ok (.invokevirtual 41, 3) := by decide +kernel
theorem dX4_rankEnds_36 : decode cX4_rankEnds 36 = .ok (.sipush 8192, 3) := by decide +kernel
theorem dX4_rankEnds_39 : decode cX4_rankEnds 39 = .ok (.imul, 1) := by decide +kernel
theorem dX4_rankEnds_40 : decode cX4_rankEnds 40 = .ok (.iastore, 1) := by decide +kernel
theorem dX4_rankEnds_41 : decode cX4_rankEnds 41 = .ok (.iinc 2 1, 3) := by decide +kernel
theorem dX4_rankEnds_44 : decode cX4_rankEnds 44 = .ok (.goto (-42), 3) := by decide +kernel
theorem dX4_rankEnds_47 : decode cX4_rankEnds 47 = .ok (.return_, 1) := by decide +kernel
theorem dX4_rankSpot_0 : decode cX4_rankSpot 0 = .ok (.iload_n 2, 1) := by decide +kernel
theorem dX4_rankSpot_1 : decode cX4_rankSpot 1 = .ok (.iconst 5, 1) := by decide +kernel
theorem dX4_rankSpot_2 : decode cX4_rankSpot 2 = .ok (.imul, 1) := by decide +kernel
theorem dX4_rankSpot_3 : decode cX4_rankSpot 3 = .ok (.iload_n 3, 1) := by decide +kernel
theorem dX4_rankSpot_4 : decode cX4_rankSpot 4 = .ok (.iadd, 1) := by decide +kernel
theorem dX4_rankSpot_5 : decode cX4_rankSpot 5 = .ok (.istore 4, 2) := by decide +kernel
theorem dX4_rankSpot_7 : decode cX4_rankSpot 7 = .ok (.aload_n 0, 1) := by decide +kernel
theorem dX4_rankSpot_8 : decode cX4_rankSpot 8 = .ok (.getfield 15, 3) := by decide +kernel
theorem dX4_rankSpot_11 : decode cX4_rankSpot 11 = .ok (.iload 4, 2) := by decide +kernel
theorem dX4_rankSpot_13 : decode cX4_rankSpot 13 = .ok (.iconst 0, 1) := by decide +kernel
theorem dX4_rankSpot_14 : decode cX4_rankSpot 14 = .ok (.iastore, 1) := by decide +kernel
theorem dX4_rankSpot_15 : decode cX4_rankSpot 15 = .ok (.aload_n 0, 1) := by decide +kernel
theorem dX4_rankSpot_16 : decode cX4_rankSpot 16 = .ok (.getfield 11, 3) := by decide +kernel
theorem dX4_rankSpot_19 : decode cX4_rankSpot 19 = .ok (.iload 4, 2) := by decide +kernel
theorem dX4_rankSpot_21 : decode cX4_rankSpot 21 = .ok (.iaload, 1) := by decide +kernel
theorem dX4_rankSpot_22 : decode cX4_rankSpot 22 = .ok (.ldc 45, 2) := by decide +kernel
theorem dX4_rankSpot_24 : decode cX4_rankSpot 24 = .ok (.if_icmp .lt 4, 3) := by decide +kernel
theorem dX4_rankSpot_27 : decode cX4_rankSpot 27 = .ok (.return_, 1) := by decide +kernel
theorem dX4_rankSpot_28 : decode cX4_rankSpot 28 = .ok (.aload_n 1, 1) := by decide +kernel
theorem dX4_rankSpot_29 : decode cX4_rankSpot 29 = .ok (.getfield 46, 3) := by decide +kernel
theorem dX4_rankSpot_32 : decode cX4_rankSpot 32 = .ok (.iload_n 2, 1) := by decide +kernel
theorem dX4_rankSpot_33 : decode cX4_rankSpot 33 = .ok (.iaload, 1) := by decide +kernel
theorem dX4_rankSpot_34 : decode cX4_rankSpot 34 = .ok (.istore 5, 2) := by decide +kernel
theorem dX4_rankSpot_36 : decode cX4_rankSpot 36 = .ok (.iload 5, 2) := by decide +kernel
theorem dX4_rankSpot_38 : decode cX4_rankSpot 38 = .ok (.aload_n 1, 1) := by decide +kernel
theorem dX4_rankSpot_39 : decode cX4_rankSpot 39 = .ok (.getfield 46, 3) := by decide +kernel
theorem dX4_rankSpot_42 : decode cX4_rankSpot 42 = .ok (.iload_n 2, 1) := by decide +kernel
theorem dX4_rankSpot_43 : decode cX4_rankSpot 43 = .ok (.iconst 1, 1) := by decide +kernel
theorem dX4_rankSpot_44 : decode cX4_rankSpot 44 = .ok (.iadd, 1) := by decide +kernel
theorem dX4_rankSpot_45 : decode cX4_rankSpot 45 = .ok (.iaload, 1) := by decide +kernel
theorem dX4_rankSpot_46 : decode cX4_rankSpot 46 = .ok (.if_icmp .ge 33, 3) := by decide +kernel
theorem dX4_rankSpot_49 : decode cX4_rankSpot 49 = .ok (.aload_n 0, 1) := by decide +kernel
theorem dX4_rankSpot_50 : decode cX4_rankSpot 50 = .ok (.aload_n 1, 1) := by decide +kernel
theorem dX4_rankSpot_51 : decode cX4_rankSpot 51 = .ok (.iload 4, 2) := by decide +kernel
theorem dX4_rankSpot_53 : decode cX4_rankSpot 53 = .ok (.iload 5, 2) := by decide +kernel
theorem dX4_rankSpot_55 : decode cX4_rankSpot 55 = .ok (.aload_n 1, 1) := by decide +kernel
theorem dX4_rankSpot_56 : decode cX4_rankSpot 56 = .ok (.iload_n 3, 1) := by decide +kernel
theorem dX4_rankSpot_57 : decode cX4_rankSpot 57 = .ok (.iload 5, 2) := by decide +kernel
theorem dX4_rankSpot_59 : decode cX4_rankSpot 59 = .ok (.invokevirtual 49, 3) := by decide +kernel
theorem dX4_rankSpot_62 : decode cX4_rankSpot 62 = .ok (.aload_n 1, 1) := by decide +kernel
theorem dX4_rankSpot_63 : decode cX4_rankSpot 63 = .ok (.getfield 53, 3) := by decide +kernel
theorem dX4_rankSpot_66 : decode cX4_rankSpot 66 = .ok (.iload 5, 2) := by decide +kernel
theorem dX4_rankSpot_68 : decode cX4_rankSpot 68 = .ok (.iaload, 1) := by decide +kernel
theorem dX4_rankSpot_69 : decode cX4_rankSpot 69 = .ok (.iadd, 1) := by decide +kernel
theorem dX4_rankSpot_70 : decode cX4_rankSpot 70 = .ok (.invokevirtual 56, 3) := by decide +kernel
theorem dX4_rankSpot_73 : decode cX4_rankSpot 73 = .ok (.iinc 5 1, 3) := by decide +kernel
theorem dX4_rankSpot_76 : decode cX4_rankSpot 76 = .ok (.goto (-40), 3) := by decide +kernel
theorem dX4_rankSpot_79 : decode cX4_rankSpot 79 = .ok (.return_, 1) := by decide +kernel
theorem dX4_offerWays_0 : decode cX4_offerWays 0 = .ok (.aload_n 1, 1) := by decide +kernel
theorem dX4_offerWays_1 : decode cX4_offerWays 1 = .ok (.iload_n 3, 1) := by decide +kernel
theorem dX4_offerWays_2 : decode cX4_offerWays 2 = .ok (.invokestatic 60, 3) := by decide +kernel
theorem dX4_offerWays_5 : decode cX4_offerWays 5 = .ok (.istore 5, 2) := by decide +kernel
theorem dX4_offerWays_7 : decode cX4_offerWays 7 = .ok (.aload_n 0, 1) := by decide +kernel
theorem dX4_offerWays_8 : decode cX4_offerWays 8 = .ok (.getfield 15, 3) := by decide +kernel
theorem dX4_offerWays_11 : decode cX4_offerWays 11 = .ok (.iload 5, 2) := by decide +kernel
theorem dX4_offerWays_13 : decode cX4_offerWays 13 = .ok (.iaload, 1) := by decide +kernel
theorem dX4_offerWays_14 : decode cX4_offerWays 14 = .ok (.istore 6, 2) := by decide +kernel
theorem dX4_offerWays_16 : decode cX4_offerWays 16 = .ok (.iconst 1, 1) := by decide +kernel
theorem dX4_offerWays_17 : decode cX4_offerWays 17 = .ok (.istore 7, 2) := by decide +kernel
theorem dX4_offerWays_19 : decode cX4_offerWays 19 = .ok (.iconst 0, 1) := by decide +kernel
theorem dX4_offerWays_20 : decode cX4_offerWays 20 = .ok (.istore 8, 2) := by decide +kernel
theorem dX4_offerWays_22 : decode cX4_offerWays 22 = .ok (.iload 8, 2) := by decide +kernel
theorem dX4_offerWays_24 : decode cX4_offerWays 24 = .ok (.iload 6, 2) := by decide +kernel
theorem dX4_offerWays_26 : decode cX4_offerWays 26 = .ok (.if_icmp .ge 57, 3) := by decide +kernel
theorem dX4_offerWays_29 : decode cX4_offerWays 29 = .ok (.iload 7, 2) := by decide +kernel
theorem dX4_offerWays_31 : decode cX4_offerWays 31 = .ok (.ifCond .eq 52, 3) := by decide +kernel
theorem dX4_offerWays_34 : decode cX4_offerWays 34 = .ok (.iload 4, 2) := by decide +kernel
theorem dX4_offerWays_36 : decode cX4_offerWays 36 = .ok (.aload_n 0, 1) := by decide +kernel
theorem dX4_offerWays_37 : decode cX4_offerWays 37 = .ok (.getfield 18, 3) := by decide +kernel
theorem dX4_offerWays_40 : decode cX4_offerWays 40 = .ok (.iload 5, 2) := by decide +kernel
theorem dX4_offerWays_42 : decode cX4_offerWays 42 = .ok (.bipush 12, 2) := by decide +kernel
theorem dX4_offerWays_44 : decode cX4_offerWays 44 = .ok (.imul, 1) := by decide +kernel
theorem dX4_offerWays_45 : decode cX4_offerWays 45 = .ok (.iload 8, 2) := by decide +kernel
theorem dX4_offerWays_47 : decode cX4_offerWays 47 = .ok (.iadd, 1) := by decide +kernel
theorem dX4_offerWays_48 : decode cX4_offerWays 48 = .ok (.iaload, 1) := by decide +kernel
theorem dX4_offerWays_49 : decode cX4_offerWays 49 = .ok (.sipush 8192, 3) := by decide +kernel
theorem dX4_offerWays_52 : decode cX4_offerWays 52 = .ok (.idiv, 1) := by decide +kernel
theorem dX4_offerWays_53 : decode cX4_offerWays 53 = .ok (.iadd, 1) := by decide +kernel
theorem dX4_offerWays_54 : decode cX4_offerWays 54 = .ok (.istore 9, 2) := by decide +kernel
theorem dX4_offerWays_56 : decode cX4_offerWays 56 = .ok (.aload_n 0, 1) := by decide +kernel
theorem dX4_offerWays_57 : decode cX4_offerWays 57 = .ok (.iload_n 2, 1) := by decide +kernel
theorem dX4_offerWays_58 : decode cX4_offerWays 58 = .ok (.iload 9, 2) := by decide +kernel
theorem dX4_offerWays_60 : decode cX4_offerWays 60 = .ok (.sipush 8192, 3) := by decide +kernel
theorem dX4_offerWays_63 : decode cX4_offerWays 63 = .ok (.imul, 1) := by decide +kernel
theorem dX4_offerWays_64 : decode cX4_offerWays 64 = .ok (.iload_n 3, 1) := by decide +kernel
theorem dX4_offerWays_65 : decode cX4_offerWays 65 = .ok (.bipush 16, 2) := by decide +kernel
theorem dX4_offerWays_67 : decode cX4_offerWays 67 = .ok (.imul, 1) := by decide +kernel
theorem dX4_offerWays_68 : decode cX4_offerWays 68 = .ok (.iadd, 1) := by decide +kernel
theorem dX4_offerWays_69 : decode cX4_offerWays 69 = .ok (.iload 8, 2) := by decide +kernel
theorem dX4_offerWays_71 : decode cX4_offerWays 71 = .ok (.iadd, 1) := by decide +kernel
theorem dX4_offerWays_72 : decode cX4_offerWays 72 = .ok (.invokevirtual 64, 3) := by decide +kernel
theorem dX4_offerWays_75 : decode cX4_offerWays 75 = .ok (.istore 7, 2) := by decide +kernel
theorem dX4_offerWays_77 : decode cX4_offerWays 77 = .ok (.iinc 8 1, 3) := by decide +kernel
theorem dX4_offerWays_80 : decode cX4_offerWays 80 = .ok (.goto (-58), 3) := by decide +kernel
theorem dX4_offerWays_83 : decode cX4_offerWays 83 = .ok (.return_, 1) := by decide +kernel
theorem dX4_offer_0 : decode cX4_offer 0 = .ok (.iload_n 1, 1) := by decide +kernel
theorem dX4_offer_1 : decode cX4_offer 1 = .ok (.bipush 12, 2) := by decide +kernel
theorem dX4_offer_3 : decode cX4_offer 3 = .ok (.imul, 1) := by decide +kernel
theorem dX4_offer_4 : decode cX4_offer 4 = .ok (.istore_n 3, 1) := by decide +kernel
theorem dX4_offer_5 : decode cX4_offer 5 = .ok (.iload_n 3, 1) := by decide +kernel
theorem dX4_offer_6 : decode cX4_offer 6 = .ok (.aload_n 0, 1) := by decide +kernel
theorem dX4_offer_7 : decode cX4_offer 7 = .ok (.getfield 15, 3) := by decide +kernel
theorem dX4_offer_10 : decode cX4_offer 10 = .ok (.iload_n 1, 1) := by decide +kernel
theorem dX4_offer_11 : decode cX4_offer 11 = .ok (.iaload, 1) := by decide +kernel
theorem dX4_offer_12 : decode cX4_offer 12 = .ok (.iadd, 1) := by decide +kernel
theorem dX4_offer_13 : decode cX4_offer 13 = .ok (.istore 4, 2) := by decide +kernel
theorem dX4_offer_15 : decode cX4_offer 15 = .ok (.aload_n 0, 1) := by decide +kernel
theorem dX4_offer_16 : decode cX4_offer 16 = .ok (.getfield 15, 3) := by decide +kernel
theorem dX4_offer_19 : decode cX4_offer 19 = .ok (.iload_n 1, 1) := by decide +kernel
theorem dX4_offer_20 : decode cX4_offer 20 = .ok (.iaload, 1) := by decide +kernel
theorem dX4_offer_21 : decode cX4_offer 21 = .ok (.bipush 12, 2) := by decide +kernel
theorem dX4_offer_23 : decode cX4_offer 23 = .ok (.if_icmp .ge 16, 3) := by decide +kernel
theorem dX4_offer_26 : decode cX4_offer 26 = .ok (.aload_n 0, 1) := by decide +kernel
theorem dX4_offer_27 : decode cX4_offer 27 = .ok (.getfield 15, 3) := by decide +kernel
theorem dX4_offer_30 : decode cX4_offer 30 = .ok (.iload_n 1, 1) := by decide +kernel
theorem dX4_offer_31 : decode cX4_offer 31 = .ok (.dup2, 1) := by decide +kernel
theorem dX4_offer_32 : decode cX4_offer 32 = .ok (.iaload, 1) := by decide +kernel
theorem dX4_offer_33 : decode cX4_offer 33 = .ok (.iconst 1, 1) := by decide +kernel
theorem dX4_offer_34 : decode cX4_offer 34 = .ok (.iadd, 1) := by decide +kernel
theorem dX4_offer_35 : decode cX4_offer 35 = .ok (.iastore, 1) := by decide +kernel
theorem dX4_offer_36 : decode cX4_offer 36 = .ok (.goto 19, 3) := by decide +kernel
theorem dX4_offer_39 : decode cX4_offer 39 = .ok (.iinc 4 (-1), 3) := by decide +kernel
theorem dX4_offer_42 : decode cX4_offer 42 = .ok (.aload_n 0, 1) := by decide +kernel
theorem dX4_offer_43 : decode cX4_offer 43 = .ok (.getfield 18, 3) := by decide +kernel
theorem dX4_offer_46 : decode cX4_offer 46 = .ok (.iload 4, 2) := by decide +kernel
theorem dX4_offer_48 : decode cX4_offer 48 = .ok (.iaload, 1) := by decide +kernel
theorem dX4_offer_49 : decode cX4_offer 49 = .ok (.iload_n 2, 1) := by decide +kernel
theorem dX4_offer_50 : decode cX4_offer 50 = .ok (.if_icmp .ge 5, 3) := by decide +kernel
theorem dX4_offer_53 : decode cX4_offer 53 = .ok (.iconst 0, 1) := by decide +kernel
theorem dX4_offer_54 : decode cX4_offer 54 = .ok (.ireturn, 1) := by decide +kernel
theorem dX4_offer_55 : decode cX4_offer 55 = .ok (.iload 4, 2) := by decide +kernel
theorem dX4_offer_57 : decode cX4_offer 57 = .ok (.iload_n 3, 1) := by decide +kernel
theorem dX4_offer_58 : decode cX4_offer 58 = .ok (.if_icmp .le 38, 3) := by decide +kernel
theorem dX4_offer_61 : decode cX4_offer 61 = .ok (.aload_n 0, 1) := by decide +kernel
theorem dX4_offer_62 : decode cX4_offer 62 = .ok (.getfield 18, 3) := by decide +kernel
theorem dX4_offer_65 : decode cX4_offer 65 = .ok (.iload 4, 2) := by decide +kernel
theorem dX4_offer_67 : decode cX4_offer 67 = .ok (.iconst 1, 1) := by decide +kernel
theorem dX4_offer_68 : decode cX4_offer 68 = .ok (.isub, 1) := by decide +kernel
theorem dX4_offer_69 : decode cX4_offer 69 = .ok (.iaload, 1) := by decide +kernel
theorem dX4_offer_70 : decode cX4_offer 70 = .ok (.iload_n 2, 1) := by decide +kernel
theorem dX4_offer_71 : decode cX4_offer 71 = .ok (.if_icmp .le 25, 3) := by decide +kernel
theorem dX4_offer_74 : decode cX4_offer 74 = .ok (.aload_n 0, 1) := by decide +kernel
theorem dX4_offer_75 : decode cX4_offer 75 = .ok (.getfield 18, 3) := by decide +kernel
theorem dX4_offer_78 : decode cX4_offer 78 = .ok (.iload 4, 2) := by decide +kernel
theorem dX4_offer_80 : decode cX4_offer 80 = .ok (.aload_n 0, 1) := by decide +kernel
theorem dX4_offer_81 : decode cX4_offer 81 = .ok (.getfield 18, 3) := by decide +kernel
theorem dX4_offer_84 : decode cX4_offer 84 = .ok (.iload 4, 2) := by decide +kernel
theorem dX4_offer_86 : decode cX4_offer 86 = .ok (.iconst 1, 1) := by decide +kernel
theorem dX4_offer_87 : decode cX4_offer 87 = .ok (.isub, 1) := by decide +kernel
theorem dX4_offer_88 : decode cX4_offer 88 = .ok (.iaload, 1) := by decide +kernel
theorem dX4_offer_89 : decode cX4_offer 89 = .ok (.iastore, 1) := by decide +kernel
theorem dX4_offer_90 : decode cX4_offer 90 = .ok (.iinc 4 (-1), 3) := by decide +kernel
theorem dX4_offer_93 : decode cX4_offer 93 = .ok (.goto (-38), 3) := by decide +kernel
theorem dX4_offer_96 : decode cX4_offer 96 = .ok (.aload_n 0, 1) := by decide +kernel
theorem dX4_offer_97 : decode cX4_offer 97 = .ok (.getfield 18, 3) := by decide +kernel
theorem dX4_offer_100 : decode cX4_offer 100 = .ok (.iload 4, 2) := by decide +kernel
theorem dX4_offer_102 : decode cX4_offer 102 = .ok (.iload_n 2, 1) := by decide +kernel
theorem dX4_offer_103 : decode cX4_offer 103 = .ok (.iastore, 1) := by decide +kernel
theorem dX4_offer_104 : decode cX4_offer 104 = .ok (.iconst 1, 1) := by decide +kernel
theorem dX4_offer_105 : decode cX4_offer 105 = .ok (.ireturn, 1) := by decide +kernel
theorem dX4_spotBehind_0 : decode cX4_spotBehind 0 = .ok (.aload_n 0, 1) := by decide +kernel
theorem dX4_spotBehind_1 : decode cX4_spotBehind 1 = .ok (.getfield 68, 3) := by decide +kernel
theorem dX4_spotBehind_4 : decode cX4_spotBehind 4 = .ok (.iload_n 1, 1) := by decide +kernel
theorem dX4_spotBehind_5 : decode cX4_spotBehind 5 = .ok (.iaload, 1) := by decide +kernel
theorem dX4_spotBehind_6 : decode cX4_spotBehind 6 = .ok (.aload_n 0, 1) := by decide +kernel
theorem dX4_spotBehind_7 : decode cX4_spotBehind 7 = .ok (.getfield 71, 3) := by decide +kernel
theorem dX4_spotBehind_10 : decode cX4_spotBehind 10 = .ok (.iload_n 1, 1) := by decide +kernel
theorem dX4_spotBehind_11 : decode cX4_spotBehind 11 = .ok (.iaload, 1) := by decide +kernel
theorem dX4_spotBehind_12 : decode cX4_spotBehind 12 = .ok (.iadd, 1) := by decide +kernel
theorem dX4_spotBehind_13 : decode cX4_spotBehind 13 = .ok (.iconst 5, 1) := by decide +kernel
theorem dX4_spotBehind_14 : decode cX4_spotBehind 14 = .ok (.imul, 1) := by decide +kernel
theorem dX4_spotBehind_15 : decode cX4_spotBehind 15 = .ok (.aload_n 0, 1) := by decide +kernel
theorem dX4_spotBehind_16 : decode cX4_spotBehind 16 = .ok (.getfield 74, 3) := by decide +kernel
theorem dX4_spotBehind_19 : decode cX4_spotBehind 19 = .ok (.iload_n 1, 1) := by decide +kernel
theorem dX4_spotBehind_20 : decode cX4_spotBehind 20 = .ok (.iaload, 1) := by decide +kernel
theorem dX4_spotBehind_21 : decode cX4_spotBehind 21 = .ok (.iadd, 1) := by decide +kernel
theorem dX4_spotBehind_22 : decode cX4_spotBehind 22 = .ok (.ireturn, 1) := by decide +kernel
theorem dX4_reachSpots_0 : decode cX4_reachSpots 0 = .ok (.iconst 0, 1) := by decide +kernel
theorem dX4_reachSpots_1 : decode cX4_reachSpots 1 = .ok (.istore_n 2, 1) := by decide +kernel
theorem dX4_reachSpots_2 : decode cX4_reachSpots 2 = .ok (.iload_n 2, 1) := by decide +kernel
theorem dX4_reachSpots_3 : decode cX4_reachSpots 3 = .ok (.bipush 125, 2) := by decide +kernel
theorem dX4_reachSpots_5 : decode cX4_reachSpots 5 = .ok (.if_icmp .ge 17, 3) := by decide +kernel
theorem dX4_reachSpots_8 : decode cX4_reachSpots 8 = .ok (.aload_n 0, 1) := by decide +kernel
theorem dX4_reachSpots_9 : decode cX4_reachSpots 9 = .ok (.getfield 11, 3) := by decide +kernel
theorem dX4_reachSpots_12 : decode cX4_reachSpots 12 = .ok (.iload_n 2, 1) := by decide +kernel
theorem dX4_reachSpots_13 : decode cX4_reachSpots 13 = .ok (.ldc 45, 2) := by decide +kernel
theorem dX4_reachSpots_15 : decode cX4_reachSpots 15 = .ok (.iastore, 1) := by decide +kernel
theorem dX4_reachSpots_16 : decode cX4_reachSpots 16 = .ok (.iinc 2 1, 3) := by decide +kernel
theorem dX4_reachSpots_19 : decode cX4_reachSpots 19 = .ok (.goto (-17), 3) := by decide +kernel
theorem dX4_reachSpots_22 : decode cX4_reachSpots 22 = .ok (.aload_n 0, 1) := by decide +kernel
theorem dX4_reachSpots_23 : decode cX4_reachSpots 23 = .ok (.getfield 11, 3) := by decide +kernel
theorem dX4_reachSpots_26 : decode cX4_reachSpots 26 = .ok (.iconst 4, 1) := by decide +kernel
theorem dX4_reachSpots_27 : decode cX4_reachSpots 27 = .ok (.iconst 0, 1) := by decide +kernel
theorem dX4_reachSpots_28 : decode cX4_reachSpots 28 = .ok (.iastore, 1) := by decide +kernel
theorem dX4_reachSpots_29 : decode cX4_reachSpots 29 = .ok (.iconst 0, 1) := by decide +kernel
theorem dX4_reachSpots_30 : decode cX4_reachSpots 30 = .ok (.istore_n 2, 1) := by decide +kernel
theorem dX4_reachSpots_31 : decode cX4_reachSpots 31 = .ok (.iload_n 2, 1) := by decide +kernel
theorem dX4_reachSpots_32 : decode cX4_reachSpots 32 = .ok (.aload_n 1, 1) := by decide +kernel
theorem dX4_reachSpots_33 : decode cX4_reachSpots 33 = .ok (.getfield 77, 3) := by decide +kernel
theorem dX4_reachSpots_36 : decode cX4_reachSpots 36 = .ok (.if_icmp .ge 36, 3) := by decide +kernel
theorem dX4_reachSpots_39 : decode cX4_reachSpots 39 = .ok (.aload_n 1, 1) := by decide +kernel
theorem dX4_reachSpots_40 : decode cX4_reachSpots 40 = .ok (.iload_n 2, 1) := by decide +kernel
theorem dX4_reachSpots_41 : decode cX4_reachSpots 41 = .ok (.invokestatic 60, 3) := by decide +kernel
theorem dX4_reachSpots_44 : decode cX4_reachSpots 44 = .ok (.istore_n 3, 1) := by decide +kernel
theorem dX4_reachSpots_45 : decode cX4_reachSpots 45 = .ok (.aload_n 0, 1) := by decide +kernel
theorem dX4_reachSpots_46 : decode cX4_reachSpots 46 = .ok (.getfield 11, 3) := by decide +kernel
theorem dX4_reachSpots_49 : decode cX4_reachSpots 49 = .ok (.iload_n 3, 1) := by decide +kernel
theorem dX4_reachSpots_50 : decode cX4_reachSpots 50 = .ok (.aload_n 0, 1) := by decide +kernel
theorem dX4_reachSpots_51 : decode cX4_reachSpots 51 = .ok (.getfield 11, 3) := by decide +kernel
theorem dX4_reachSpots_54 : decode cX4_reachSpots 54 = .ok (.iload_n 3, 1) := by decide +kernel
theorem dX4_reachSpots_55 : decode cX4_reachSpots 55 = .ok (.iaload, 1) := by decide +kernel
theorem dX4_reachSpots_56 : decode cX4_reachSpots 56 = .ok (.aload_n 0, 1) := by decide +kernel
theorem dX4_reachSpots_57 : decode cX4_reachSpots 57 = .ok (.aload_n 1, 1) := by decide +kernel
theorem dX4_reachSpots_58 : decode cX4_reachSpots 58 = .ok (.iload_n 2, 1) := by decide +kernel
theorem dX4_reachSpots_59 : decode cX4_reachSpots 59 = .ok (.invokevirtual 80, 3) := by decide +kernel
theorem dX4_reachSpots_62 : decode cX4_reachSpots 62 = .ok (.invokestatic 83, 3) := by decide +kernel
theorem dX4_reachSpots_65 : decode cX4_reachSpots 65 = .ok (.iastore, 1) := by decide +kernel
theorem dX4_reachSpots_66 : decode cX4_reachSpots 66 = .ok (.iinc 2 1, 3) := by decide +kernel
theorem dX4_reachSpots_69 : decode cX4_reachSpots 69 = .ok (.goto (-38), 3) := by decide +kernel
theorem dX4_reachSpots_72 : decode cX4_reachSpots 72 = .ok (.return_, 1) := by decide +kernel
theorem dX4_leastUpTo_0 : decode cX4_leastUpTo 0 = .ok (.ldc 45, 2) := by decide +kernel
theorem dX4_leastUpTo_2 : decode cX4_leastUpTo 2 = .ok (.istore_n 3, 1) := by decide +kernel
theorem dX4_leastUpTo_3 : decode cX4_leastUpTo 3 = .ok (.iconst 0, 1) := by decide +kernel
theorem dX4_leastUpTo_4 : decode cX4_leastUpTo 4 = .ok (.istore 4, 2) := by decide +kernel
theorem dX4_leastUpTo_6 : decode cX4_leastUpTo 6 = .ok (.iload 4, 2) := by decide +kernel
theorem dX4_leastUpTo_8 : decode cX4_leastUpTo 8 = .ok (.iconst 5, 1) := by decide +kernel
theorem dX4_leastUpTo_9 : decode cX4_leastUpTo 9 = .ok (.if_icmp .ge 42, 3) := by decide +kernel
theorem dX4_leastUpTo_12 : decode cX4_leastUpTo 12 = .ok (.aload_n 1, 1) := by decide +kernel
theorem dX4_leastUpTo_13 : decode cX4_leastUpTo 13 = .ok (.getfield 68, 3) := by decide +kernel
theorem dX4_leastUpTo_16 : decode cX4_leastUpTo 16 = .ok (.iload_n 2, 1) := by decide +kernel
theorem dX4_leastUpTo_17 : decode cX4_leastUpTo 17 = .ok (.iaload, 1) := by decide +kernel
theorem dX4_leastUpTo_18 : decode cX4_leastUpTo 18 = .ok (.iconst 5, 1) := by decide +kernel
theorem dX4_leastUpTo_19 : decode cX4_leastUpTo 19 = .ok (.imul, 1) := by decide +kernel
theorem dX4_leastUpTo_20 : decode cX4_leastUpTo 20 = .ok (.iload 4, 2) := by decide +kernel
theorem dX4_leastUpTo_22 : decode cX4_leastUpTo 22 = .ok (.iadd, 1) := by decide +kernel
theorem dX4_leastUpTo_23 : decode cX4_leastUpTo 23 = .ok (.istore 5, 2) := by decide +kernel
theorem dX4_leastUpTo_25 : decode cX4_leastUpTo 25 = .ok (.iload_n 3, 1) := by decide +kernel
theorem dX4_leastUpTo_26 : decode cX4_leastUpTo 26 = .ok (.aload_n 0, 1) := by decide +kernel
theorem dX4_leastUpTo_27 : decode cX4_leastUpTo 27 = .ok (.getfield 11, 3) := by decide +kernel
theorem dX4_leastUpTo_30 : decode cX4_leastUpTo 30 = .ok (.iload 5, 2) := by decide +kernel
theorem dX4_leastUpTo_32 : decode cX4_leastUpTo 32 = .ok (.iaload, 1) := by decide +kernel
theorem dX4_leastUpTo_33 : decode cX4_leastUpTo 33 = .ok (.aload_n 1, 1) := by decide +kernel
theorem dX4_leastUpTo_34 : decode cX4_leastUpTo 34 = .ok (.iload 4, 2) := by decide +kernel
theorem dX4_leastUpTo_36 : decode cX4_leastUpTo 36 = .ok (.iload_n 2, 1) := by decide +kernel
theorem dX4_leastUpTo_37 : decode cX4_leastUpTo 37 = .ok (.invokevirtual 49, 3) := by decide +kernel
theorem dX4_leastUpTo_40 : decode cX4_leastUpTo 40 = .ok (.iadd, 1) := by decide +kernel
theorem dX4_leastUpTo_41 : decode cX4_leastUpTo 41 = .ok (.invokestatic 83, 3) := by decide +kernel
theorem dX4_leastUpTo_44 : decode cX4_leastUpTo 44 = .ok (.istore_n 3, 1) := by decide +kernel
theorem dX4_leastUpTo_45 : decode cX4_leastUpTo 45 = .ok (.iinc 4 1, 3) := by decide +kernel
theorem dX4_leastUpTo_48 : decode cX4_leastUpTo 48 = .ok (.goto (-42), 3) := by decide +kernel
theorem dX4_leastUpTo_51 : decode cX4_leastUpTo 51 = .ok (.iload_n 3, 1) := by decide +kernel
theorem dX4_leastUpTo_52 : decode cX4_leastUpTo 52 = .ok (.aload_n 1, 1) := by decide +kernel
theorem dX4_leastUpTo_53 : decode cX4_leastUpTo 53 = .ok (.getfield 53, 3) := by decide +kernel
theorem dX4_leastUpTo_56 : decode cX4_leastUpTo 56 = .ok (.iload_n 2, 1) := by decide +kernel
theorem dX4_leastUpTo_57 : decode cX4_leastUpTo 57 = .ok (.iaload, 1) := by decide +kernel
theorem dX4_leastUpTo_58 : decode cX4_leastUpTo 58 = .ok (.iadd, 1) := by decide +kernel
theorem dX4_leastUpTo_59 : decode cX4_leastUpTo 59 = .ok (.ireturn, 1) := by decide +kernel
theorem dX4_leastWith_0 : decode cX4_leastWith 0 = .ok (.aload_n 0, 1) := by decide +kernel
theorem dX4_leastWith_1 : decode cX4_leastWith 1 = .ok (.aload_n 1, 1) := by decide +kernel
theorem dX4_leastWith_2 : decode cX4_leastWith 2 = .ok (.iload_n 2, 1) := by decide +kernel
theorem dX4_leastWith_3 : decode cX4_leastWith 3 = .ok (.invokevirtual 80, 3) := by decide +kernel
theorem dX4_leastWith_6 : decode cX4_leastWith 6 = .ok (.istore_n 3, 1) := by decide +kernel
theorem dX4_leastWith_7 : decode cX4_leastWith 7 = .ok (.aload_n 1, 1) := by decide +kernel
theorem dX4_leastWith_8 : decode cX4_leastWith 8 = .ok (.iload_n 2, 1) := by decide +kernel
theorem dX4_leastWith_9 : decode cX4_leastWith 9 = .ok (.invokestatic 60, 3) := by decide +kernel
theorem dX4_leastWith_12 : decode cX4_leastWith 12 = .ok (.istore 4, 2) := by decide +kernel
theorem dX4_leastWith_14 : decode cX4_leastWith 14 = .ok (.iload_n 3, 1) := by decide +kernel
theorem dX4_leastWith_15 : decode cX4_leastWith 15 = .ok (.ldc 45, 2) := by decide +kernel
theorem dX4_leastWith_17 : decode cX4_leastWith 17 = .ok (.if_icmp .ge 13, 3) := by decide +kernel
theorem dX4_leastWith_20 : decode cX4_leastWith 20 = .ok (.aload_n 0, 1) := by decide +kernel
theorem dX4_leastWith_21 : decode cX4_leastWith 21 = .ok (.getfield 15, 3) := by decide +kernel
theorem dX4_leastWith_24 : decode cX4_leastWith 24 = .ok (.iload 4, 2) := by decide +kernel
theorem dX4_leastWith_26 : decode cX4_leastWith 26 = .ok (.iaload, 1) := by decide +kernel
theorem dX4_leastWith_27 : decode cX4_leastWith 27 = .ok (.ifCond .ne 6, 3) := by decide +kernel
theorem dX4_leastWith_30 : decode cX4_leastWith 30 = .ok (.bipush (-6), 2) := by decide +kernel
theorem dX4_leastWith_32 : decode cX4_leastWith 32 = .ok (.ireturn, 1) := by decide +kernel
theorem dX4_leastWith_33 : decode cX4_leastWith 33 = .ok (.iload_n 3, 1) := by decide +kernel
theorem dX4_leastWith_34 : decode cX4_leastWith 34 = .ok (.aload_n 0, 1) := by decide +kernel
theorem dX4_leastWith_35 : decode cX4_leastWith 35 = .ok (.getfield 18, 3) := by decide +kernel
theorem dX4_leastWith_38 : decode cX4_leastWith 38 = .ok (.iload 4, 2) := by decide +kernel
theorem dX4_leastWith_40 : decode cX4_leastWith 40 = .ok (.bipush 12, 2) := by decide +kernel
theorem dX4_leastWith_42 : decode cX4_leastWith 42 = .ok (.imul, 1) := by decide +kernel
theorem dX4_leastWith_43 : decode cX4_leastWith 43 = .ok (.iaload, 1) := by decide +kernel
theorem dX4_leastWith_44 : decode cX4_leastWith 44 = .ok (.sipush 8192, 3) := by decide +kernel
theorem dX4_leastWith_47 : decode cX4_leastWith 47 = .ok (.idiv, 1) := by decide +kernel
theorem dX4_leastWith_48 : decode cX4_leastWith 48 = .ok (.iadd, 1) := by decide +kernel
theorem dX4_leastWith_49 : decode cX4_leastWith 49 = .ok (.ireturn, 1) := by decide +kernel
theorem dX4_cuttings_0 : decode cX4_cuttings 0 = .ok (.aload_n 0, 1) := by decide +kernel
theorem dX4_cuttings_1 : decode cX4_cuttings 1 = .ok (.getfield 15, 3) := by decide +kernel
theorem dX4_cuttings_4 : decode cX4_cuttings 4 = .ok (.iconst 4, 1) := by decide +kernel
theorem dX4_cuttings_5 : decode cX4_cuttings 5 = .ok (.iaload, 1) := by decide +kernel
theorem dX4_cuttings_6 : decode cX4_cuttings 6 = .ok (.ireturn, 1) := by decide +kernel
theorem dX4_costOf_0 : decode cX4_costOf 0 = .ok (.aload_n 0, 1) := by decide +kernel
theorem dX4_costOf_1 : decode cX4_costOf 1 = .ok (.getfield 18, 3) := by decide +kernel
theorem dX4_costOf_4 : decode cX4_costOf 4 = .ok (.bipush 48, 2) := by decide +kernel
theorem dX4_costOf_6 : decode cX4_costOf 6 = .ok (.iload_n 1, 1) := by decide +kernel
theorem dX4_costOf_7 : decode cX4_costOf 7 = .ok (.iadd, 1) := by decide +kernel
theorem dX4_costOf_8 : decode cX4_costOf 8 = .ok (.iaload, 1) := by decide +kernel
theorem dX4_costOf_9 : decode cX4_costOf 9 = .ok (.sipush 8192, 3) := by decide +kernel
theorem dX4_costOf_12 : decode cX4_costOf 12 = .ok (.idiv, 1) := by decide +kernel
theorem dX4_costOf_13 : decode cX4_costOf 13 = .ok (.ireturn, 1) := by decide +kernel
theorem dX4_follow_0 : decode cX4_follow 0 = .ok (.aload_n 1, 1) := by decide +kernel
theorem dX4_follow_1 : decode cX4_follow 1 = .ok (.getfield 31, 3) := by decide +kernel
theorem dX4_follow_4 : decode cX4_follow 4 = .ok (.iconst 5, 1) := by decide +kernel
theorem dX4_follow_5 : decode cX4_follow 5 = .ok (.imul, 1) := by decide +kernel
theorem dX4_follow_6 : decode cX4_follow 6 = .ok (.istore_n 3, 1) := by decide +kernel
theorem dX4_follow_7 : decode cX4_follow 7 = .ok (.iconst 0, 1) := by decide +kernel
theorem dX4_follow_8 : decode cX4_follow 8 = .ok (.istore 4, 2) := by decide +kernel
theorem dX4_follow_10 : decode cX4_follow 10 = .ok (.iconst 4, 1) := by decide +kernel
theorem dX4_follow_11 : decode cX4_follow 11 = .ok (.istore 5, 2) := by decide +kernel
theorem dX4_follow_13 : decode cX4_follow 13 = .ok (.iload_n 2, 1) := by decide +kernel
theorem dX4_follow_14 : decode cX4_follow 14 = .ok (.istore 6, 2) := by decide +kernel
theorem dX4_follow_16 : decode cX4_follow 16 = .ok (.iload 4, 2) := by decide +kernel
theorem dX4_follow_18 : decode cX4_follow 18 = .ok (.bipush 24, 2) := by decide +kernel
theorem dX4_follow_20 : decode cX4_follow 20 = .ok (.if_icmp .ge 65, 3) := by decide +kernel
theorem dX4_follow_23 : decode cX4_follow 23 = .ok (.iload 5, 2) := by decide +kernel
theorem dX4_follow_25 : decode cX4_follow 25 = .ok (.iload_n 3, 1) := by decide +kernel
theorem dX4_follow_26 : decode cX4_follow 26 = .ok (.if_icmp .ge 59, 3) := by decide +kernel
theorem dX4_follow_29 : decode cX4_follow 29 = .ok (.aload_n 0, 1) := by decide +kernel
theorem dX4_follow_30 : decode cX4_follow 30 = .ok (.getfield 18, 3) := by decide +kernel
theorem dX4_follow_33 : decode cX4_follow 33 = .ok (.iload 5, 2) := by decide +kernel
theorem dX4_follow_35 : decode cX4_follow 35 = .ok (.bipush 12, 2) := by decide +kernel
theorem dX4_follow_37 : decode cX4_follow 37 = .ok (.imul, 1) := by decide +kernel
theorem dX4_follow_38 : decode cX4_follow 38 = .ok (.iload 6, 2) := by decide +kernel
theorem dX4_follow_40 : decode cX4_follow 40 = .ok (.iadd, 1) := by decide +kernel
theorem dX4_follow_41 : decode cX4_follow 41 = .ok (.iaload, 1) := by decide +kernel
theorem dX4_follow_42 : decode cX4_follow 42 = .ok (.istore 7, 2) := by decide +kernel
theorem dX4_follow_44 : decode cX4_follow 44 = .ok (.iload 7, 2) := by decide +kernel
theorem dX4_follow_46 : decode cX4_follow 46 = .ok (.bipush 16, 2) := by decide +kernel
theorem dX4_follow_48 : decode cX4_follow 48 = .ok (.idiv, 1) := by decide +kernel
theorem dX4_follow_49 : decode cX4_follow 49 = .ok (.sipush 512, 3) := by decide +kernel
theorem dX4_follow_52 : decode cX4_follow 52 = .ok (.irem, 1) := by decide +kernel
theorem dX4_follow_53 : decode cX4_follow 53 = .ok (.istore 8, 2) := by decide +kernel
theorem dX4_follow_55 : decode cX4_follow 55 = .ok (.aload_n 0, 1) := by decide +kernel
theorem dX4_follow_56 : decode cX4_follow 56 = .ok (.getfield 21, 3) := by decide +kernel
theorem dX4_follow_59 : decode cX4_follow 59 = .ok (.iload 4, 2) := by decide +kernel
theorem dX4_follow_61 : decode cX4_follow 61 = .ok (.iload 8, 2) := by decide +kernel
theorem dX4_follow_63 : decode cX4_follow 63 = .ok (.iastore, 1) := by decide +kernel
theorem dX4_follow_64 : decode cX4_follow 64 = .ok (.iinc 4 1, 3) := by decide +kernel
theorem dX4_follow_67 : decode cX4_follow 67 = .ok (.aload_n 1, 1) := by decide +kernel
theorem dX4_follow_68 : decode cX4_follow 68 = .ok (.iload 8, 2) := by decide +kernel
theorem dX4_follow_70 : decode cX4_follow 70 = .ok (.invokestatic 60, 3) := by decide +kernel
theorem dX4_follow_73 : decode cX4_follow 73 = .ok (.istore 5, 2) := by decide +kernel
theorem dX4_follow_75 : decode cX4_follow 75 = .ok (.iload 7, 2) := by decide +kernel
theorem dX4_follow_77 : decode cX4_follow 77 = .ok (.bipush 16, 2) := by decide +kernel
theorem dX4_follow_79 : decode cX4_follow 79 = .ok (.irem, 1) := by decide +kernel
theorem dX4_follow_80 : decode cX4_follow 80 = .ok (.istore 6, 2) := by decide +kernel
theorem dX4_follow_82 : decode cX4_follow 82 = .ok (.goto (-66), 3) := by decide +kernel
theorem dX4_follow_85 : decode cX4_follow 85 = .ok (.iload 4, 2) := by decide +kernel
theorem dX4_follow_87 : decode cX4_follow 87 = .ok (.ireturn, 1) := by decide +kernel
theorem dX4_surePlaces_0 : decode cX4_surePlaces 0 = .ok (.aload_n 0, 1) := by decide +kernel
theorem dX4_surePlaces_1 : decode cX4_surePlaces 1 = .ok (.iconst 0, 1) := by decide +kernel
theorem dX4_surePlaces_2 : decode cX4_surePlaces 2 = .ok (.invokevirtual 88, 3) := by decide +kernel
theorem dX4_surePlaces_5 : decode cX4_surePlaces 5 = .ok (.iload_n 2, 1) := by decide +kernel
theorem dX4_surePlaces_6 : decode cX4_surePlaces 6 = .ok (.iadd, 1) := by decide +kernel
theorem dX4_surePlaces_7 : decode cX4_surePlaces 7 = .ok (.istore_n 3, 1) := by decide +kernel
theorem dX4_surePlaces_8 : decode cX4_surePlaces 8 = .ok (.iconst 1, 1) := by decide +kernel
theorem dX4_surePlaces_9 : decode cX4_surePlaces 9 = .ok (.aload_n 1, 1) := by decide +kernel
theorem dX4_surePlaces_10 : decode cX4_surePlaces 10 = .ok (.getfield 31, 3) := by decide +kernel
theorem dX4_surePlaces_13 : decode cX4_surePlaces 13 = .ok (.ishl, 1) := by decide +kernel
theorem dX4_surePlaces_14 : decode cX4_surePlaces 14 = .ok (.iconst 2, 1) := by decide +kernel
theorem dX4_surePlaces_15 : decode cX4_surePlaces 15 = .ok (.isub, 1) := by decide +kernel
theorem dX4_surePlaces_16 : decode cX4_surePlaces 16 = .ok (.istore 4, 2) := by decide +kernel
theorem dX4_surePlaces_18 : decode cX4_surePlaces 18 = .ok (.iconst 0, 1) := by decide +kernel
theorem dX4_surePlaces_19 : decode cX4_surePlaces 19 = .ok (.istore 5, 2) := by decide +kernel
theorem dX4_surePlaces_21 : decode cX4_surePlaces 21 = .ok (.iload 5, 2) := by decide +kernel
theorem dX4_surePlaces_23 : decode cX4_surePlaces 23 = .ok (.aload_n 1, 1) := by decide +kernel
theorem dX4_surePlaces_24 : decode cX4_surePlaces 24 = .ok (.getfield 77, 3) := by decide +kernel
theorem dX4_surePlaces_27 : decode cX4_surePlaces 27 = .ok (.if_icmp .ge 74, 3) := by decide +kernel
theorem dX4_surePlaces_30 : decode cX4_surePlaces 30 = .ok (.aload_n 0, 1) := by decide +kernel
theorem dX4_surePlaces_31 : decode cX4_surePlaces 31 = .ok (.aload_n 1, 1) := by decide +kernel
theorem dX4_surePlaces_32 : decode cX4_surePlaces 32 = .ok (.iload 5, 2) := by decide +kernel
theorem dX4_surePlaces_34 : decode cX4_surePlaces 34 = .ok (.invokevirtual 91, 3) := by decide +kernel
theorem dX4_surePlaces_37 : decode cX4_surePlaces 37 = .ok (.istore 6, 2) := by decide +kernel
theorem dX4_surePlaces_39 : decode cX4_surePlaces 39 = .ok (.iload 6, 2) := by decide +kernel
theorem dX4_surePlaces_41 : decode cX4_surePlaces 41 = .ok (.bipush (-6), 2) := by decide +kernel
theorem dX4_surePlaces_43 : decode cX4_surePlaces 43 = .ok (.if_icmp .eq 52, 3) := by decide +kernel
theorem dX4_surePlaces_46 : decode cX4_surePlaces 46 = .ok (.iload 6, 2) := by decide +kernel
theorem dX4_surePlaces_48 : decode cX4_surePlaces 48 = .ok (.iload_n 3, 1) := by decide +kernel
theorem dX4_surePlaces_49 : decode cX4_surePlaces 49 = .ok (.if_icmp .gt 46, 3) := by decide +kernel
theorem dX4_surePlaces_52 : decode cX4_surePlaces 52 = .ok (.aload_n 1, 1) := by decide +kernel
theorem dX4_surePlaces_53 : decode cX4_surePlaces 53 = .ok (.getfield 68, 3) := by decide +kernel
theorem dX4_surePlaces_56 : decode cX4_surePlaces 56 = .ok (.iload 5, 2) := by decide +kernel
theorem dX4_surePlaces_58 : decode cX4_surePlaces 58 = .ok (.iaload, 1) := by decide +kernel
theorem dX4_surePlaces_59 : decode cX4_surePlaces 59 = .ok (.istore 7, 2) := by decide +kernel
theorem dX4_surePlaces_61 : decode cX4_surePlaces 61 = .ok (.iload 7, 2) := by decide +kernel
theorem dX4_surePlaces_63 : decode cX4_surePlaces 63 = .ok (.aload_n 1, 1) := by decide +kernel
theorem dX4_surePlaces_64 : decode cX4_surePlaces 64 = .ok (.getfield 71, 3) := by decide +kernel
theorem dX4_surePlaces_67 : decode cX4_surePlaces 67 = .ok (.iload 5, 2) := by decide +kernel
theorem dX4_surePlaces_69 : decode cX4_surePlaces 69 = .ok (.iaload, 1) := by decide +kernel
theorem dX4_surePlaces_70 : decode cX4_surePlaces 70 = .ok (.iadd, 1) := by decide +kernel
theorem dX4_surePlaces_71 : decode cX4_surePlaces 71 = .ok (.istore 8, 2) := by decide +kernel
theorem dX4_surePlaces_73 : decode cX4_surePlaces 73 = .ok (.iconst 1, 1) := by decide +kernel
theorem dX4_surePlaces_74 : decode cX4_surePlaces 74 = .ok (.iload 8, 2) := by decide +kernel
theorem dX4_surePlaces_76 : decode cX4_surePlaces 76 = .ok (.ishl, 1) := by decide +kernel
theorem dX4_surePlaces_77 : decode cX4_surePlaces 77 = .ok (.iconst 1, 1) := by decide +kernel
theorem dX4_surePlaces_78 : decode cX4_surePlaces 78 = .ok (.iload 7, 2) := by decide +kernel
theorem dX4_surePlaces_80 : decode cX4_surePlaces 80 = .ok (.iconst 1, 1) := by decide +kernel
theorem dX4_surePlaces_81 : decode cX4_surePlaces 81 = .ok (.iadd, 1) := by decide +kernel
theorem dX4_surePlaces_82 : decode cX4_surePlaces 82 = .ok (.ishl, 1) := by decide +kernel
theorem dX4_surePlaces_83 : decode cX4_surePlaces 83 = .ok (.isub, 1) := by decide +kernel
theorem dX4_surePlaces_84 : decode cX4_surePlaces 84 = .ok (.istore 9, 2) := by decide +kernel
theorem dX4_surePlaces_86 : decode cX4_surePlaces 86 = .ok (.iload 4, 2) := by decide +kernel
theorem dX4_surePlaces_88 : decode cX4_surePlaces 88 = .ok (.iload 9, 2) := by decide +kernel
theorem dX4_surePlaces_90 : decode cX4_surePlaces 90 = .ok (.iconst (-1), 1) := by decide +kernel
theorem dX4_surePlaces_91 : decode cX4_surePlaces 91 = .ok (.ixor, 1) := by decide +kernel
theorem dX4_surePlaces_92 : decode cX4_surePlaces 92 = .ok (.iand, 1) := by decide +kernel
theorem dX4_surePlaces_93 : decode cX4_surePlaces 93 = .ok (.istore 4, 2) := by decide +kernel
theorem dX4_surePlaces_95 : decode cX4_surePlaces 95 = .ok (.iinc 5 1, 3) := by decide +kernel
theorem dX4_surePlaces_98 : decode cX4_surePlaces 98 = .ok (.goto (-77), 3) := by decide +kernel
theorem dX4_surePlaces_101 : decode cX4_surePlaces 101 = .ok (.iload 4, 2) := by decide +kernel
theorem dX4_surePlaces_103 : decode cX4_surePlaces 103 = .ok (.ireturn, 1) := by decide +kernel
theorem dX5_init_0 : decode cX5_init 0 = .ok (.aload_n 0, 1) := by decide +kernel
theorem dX5_init_1 : decode cX5_init 1 = .ok (.invokespecial 3, 3) := by decide +kernel
theorem dX5_init_4 : decode cX5_init 4 = .ok (.aload_n 0, 1) := by decide +kernel
theorem dX5_init_5 : decode cX5_init 5 = .ok (.bipush 71, 2) := by decide +kernel
theorem dX5_init_7 : decode cX5_init 7 = .ok (.newarray .int, 2) := by decide +kernel
theorem dX5_init_9 : decode cX5_init 9 = .ok (.putfield 9, 3) := by decide +kernel
theorem dX5_init_12 : decode cX5_init 12 = .ok (.return_, 1) := by decide +kernel
theorem dX5_write_0 : decode cX5_write 0 = .ok (.aload_n 0, 1) := by decide +kernel
theorem dX5_write_1 : decode cX5_write 1 = .ok (.iconst 0, 1) := by decide +kernel
theorem dX5_write_2 : decode cX5_write 2 = .ok (.putfield 15, 3) := by decide +kernel
theorem dX5_write_5 : decode cX5_write 5 = .ok (.aload_n 2, 1) := by decide +kernel
theorem dX5_write_6 : decode cX5_write 6 = .ok (.aload_n 3, 1) := by decide +kernel
theorem dX5_write_7 : decode cX5_write 7 = .ok (.iload_n 1, 1) := by decide +kernel
theorem dX5_write_8 : decode cX5_write 8 = .ok (.invokevirtual 19, 3) := by decide +kernel
theorem dX5_write_11 : decode cX5_write 11 = .ok (.istore 5, 2) := by decide +kernel
theorem dX5_write_13 : decode cX5_write 13 = .ok (.iconst 0, 1) := by decide +kernel
theorem dX5_write_14 : decode cX5_write 14 = .ok (.istore 6, 2) := by decide +kernel
theorem dX5_write_16 : decode cX5_write 16 = .ok (.iload 6, 2) := by decide +kernel
theorem dX5_write_18 : decode cX5_write 18 = .ok (.iload 5, 2) := by decide +kernel
theorem dX5_write_20 : decode cX5_write 20 = .ok (.if_icmp .ge 34, 3) := by decide +kernel
theorem dX5_write_23 : decode cX5_write 23 = .ok (.iload 6, 2) := by decide +kernel
theorem dX5_write_25 : decode cX5_write 25 = .ok (.ifCond .le 9, 3) := by decide +kernel
theorem dX5_write_28 : decode cX5_write 28 = .ok (.aload_n 0, 1) := by decide +kernel
theorem dX5_write_29 : decode cX5_write 29 = .ok (.bipush 124, 2) := by decide +kernel
theorem dX5_write_31 : decode cX5_write 31 = .ok (.invokevirtual 25, 3) := by decide +kernel
theorem dX5_write_34 : decode cX5_write 34 = .ok (.aload_n 0, 1) := by decide +kernel
theorem dX5_write_35 : decode cX5_write 35 = .ok (.aload_n 2, 1) := by decide +kernel
theorem dX5_write_36 : decode cX5_write 36 = .ok (.getfield 29, 3) := by decide +kernel
theorem dX5_write_39 : decode cX5_write 39 = .ok (.iload 6, 2) := by decide +kernel
theorem dX5_write_41 : decode cX5_write 41 = .ok (.iaload, 1) := by decide +kernel
theorem dX5_write_42 : decode cX5_write 42 = .ok (.aload_n 3, 1) := by decide +kernel
theorem dX5_write_43 : decode cX5_write 43 = .ok (.aload 4, 2) := by decide +kernel
theorem dX5_write_45 : decode cX5_write 45 = .ok (.invokevirtual 32, 3) := by decide +kernel
theorem dX5_write_48 : decode cX5_write 48 = .ok (.iinc 6 1, 3) := by decide +kernel
theorem dX5_write_51 : decode cX5_write 51 = .ok (.goto (-35), 3) := by decide +kernel
theorem dX5_write_54 : decode cX5_write 54 = .ok (.return_, 1) := by decide +kernel
theorem dX5_writePiece_0 : decode cX5_writePiece 0 = .ok (.aload_n 2, 1) := by decide +kernel
theorem dX5_writePiece_1 : decode cX5_writePiece 1 = .ok (.getfield 36, 3) := by decide +kernel
theorem dX5_writePiece_4 : decode cX5_writePiece 4 = .ok (.iload_n 1, 1) := by decide +kernel
theorem dX5_writePiece_5 : decode cX5_writePiece 5 = .ok (.iaload, 1) := by decide +kernel
theorem dX5_writePiece_6 : decode cX5_writePiece 6 = .ok (.istore 4, 2) := by decide +kernel
theorem dX5_writePiece_8 : decode cX5_writePiece 8 = .ok (.iconst 0, 1) := by decide +kernel
theorem dX5_writePiece_9 : decode cX5_writePiece 9 = .ok (.istore 5, 2) := by decide +kernel
theorem dX5_writePiece_11 : decode cX5_writePiece 11 = .ok (.iload 5, 2) := by decide +kernel
theorem dX5_writePiece_13 : decode cX5_writePiece 13 = .ok (.aload_n 2, 1) := by decide +kernel
theorem dX5_writePiece_14 : decode cX5_writePiece 14 = .ok (.getfield 41, 3) := by decide +kernel
theorem dX5_writePiece_17 : decode cX5_writePiece 17 = .ok (.iload_n 1, 1) := by decide +kernel
theorem dX5_writePiece_18 : decode cX5_writePiece 18 = .ok (.iaload, 1) := by decide +kernel
theorem dX5_writePiece_19 : decode cX5_writePiece 19 = .ok (.if_icmp .ge 23, 3) := by decide +kernel
theorem dX5_writePiece_22 : decode cX5_writePiece 22 = .ok (.aload_n 0, 1) := by decide +kernel
theorem dX5_writePiece_23 : decode cX5_writePiece 23 = .ok (.aload_n 3, 1) := by decide +kernel
theorem dX5_writePiece_24 : decode cX5_writePiece 24 = .ok (.getfield 44, 3) := by decide +kernel
theorem dX5_writePiece_27 : decode cX5_writePiece 27 = .ok (.iload 4, 2) := by decide +kernel
theorem dX5_writePiece_29 : decode cX5_writePiece 29 = .ok (.iload 5, 2) := by decide +kernel
theorem dX5_writePiece_31 : decode cX5_writePiece 31 = .ok (.iadd, 1) := by decide +kernel
theorem dX5_writePiece_32 : decode cX5_writePiece 32 = .ok (.iaload, 1) := by decide +kernel
theorem dX5_writePiece_33 : decode cX5_writePiece 33 = .ok (.invokevirtual 25, 3) := by decide +kernel
theorem dX5_writePiece_36 : decode cX5_writePiece 36 = .ok (.iinc 5 1, 3) := by decide +kernel
theorem dX5_writePiece_39 : decode cX5_writePiece 39 = .ok (.goto (-28), 3) := by decide +kernel
theorem dX5_writePiece_42 : decode cX5_writePiece 42 = .ok (.aload_n 2, 1) := by decide +kernel
theorem dX5_writePiece_43 : decode cX5_writePiece 43 = .ok (.getfield 49, 3) := by decide +kernel
theorem dX5_writePiece_46 : decode cX5_writePiece 46 = .ok (.iload_n 1, 1) := by decide +kernel
theorem dX5_writePiece_47 : decode cX5_writePiece 47 = .ok (.iaload, 1) := by decide +kernel
theorem dX5_writePiece_48 : decode cX5_writePiece 48 = .ok (.iconst 3, 1) := by decide +kernel
theorem dX5_writePiece_49 : decode cX5_writePiece 49 = .ok (.if_icmp .ne 9, 3) := by decide +kernel
theorem dX5_writePiece_52 : decode cX5_writePiece 52 = .ok (.aload_n 0, 1) := by decide +kernel
theorem dX5_writePiece_53 : decode cX5_writePiece 53 = .ok (.bipush 63, 2) := by decide +kernel
theorem dX5_writePiece_55 : decode cX5_writePiece 55 = .ok (.invokevirtual 25, 3) := by decide +kernel
theorem dX5_writePiece_58 : decode cX5_writePiece 58 = .ok (.return_, 1) := by decide +kernel
theorem dX5_add_0 : decode cX5_add 0 = .ok (.aload_n 0, 1) := by decide +kernel
theorem dX5_add_1 : decode cX5_add 1 = .ok (.getfield 15, 3) := by decide +kernel
theorem dX5_add_4 : decode cX5_add 4 = .ok (.bipush 71, 2) := by decide +kernel
theorem dX5_add_6 : decode cX5_add 6 = .ok (.if_icmp .ge 23, 3) := by decide +kernel
theorem dX5_add_9 : decode cX5_add 9 = .ok (.aload_n 0, 1) := by decide +kernel
theorem dX5_add_10 : decode cX5_add 10 = .ok (.getfield 9, 3) := by decide +kernel
theorem dX5_add_13 : decode cX5_add 13 = .ok (.aload_n 0, 1) := by decide +kernel
theorem dX5_add_14 : decode cX5_add 14 = .ok (.getfield 15, 3) := by decide +kernel
theorem dX5_add_17 : decode cX5_add 17 = .ok (.iload_n 1, 1) := by decide +kernel
theorem dX5_add_18 : decode cX5_add 18 = .ok (.iastore, 1) := by decide +kernel
theorem dX5_add_19 : decode cX5_add 19 = .ok (.aload_n 0, 1) := by decide +kernel
theorem dX5_add_20 : decode cX5_add 20 = .ok (.dup, 1) := by decide +kernel
theorem dX5_add_21 : decode cX5_add 21 = .ok (.getfield 15, 3) := by decide +kernel
theorem dX5_add_24 : decode cX5_add 24 = .ok (.iconst 1, 1) := by decide +kernel
theorem dX5_add_25 : decode cX5_add 25 = .ok (.iadd, 1) := by decide +kernel
theorem dX5_add_26 : decode cX5_add 26 = .ok (.putfield 15, 3) := by decide +kernel
theorem dX5_add_29 : decode cX5_add 29 = .ok (.return_, 1) := by decide +kernel
end
section
theorem dX6_init_0 : decode cX6_init 0 = .ok (.aload_n 0, 1) := by decide +kernel
theorem dX6_init_1 : decode cX6_init 1 = .ok (.invokespecial 1, 3) := by decide +kernel
theorem dX6_init_4 : decode cX6_init 4 = .ok (.aload_n 0, 1) := by decide +kernel
theorem dX6_init_5 : decode cX6_init 5 = .ok (.new 7, 3) := by decide +kernel
theorem dX6_init_8 : decode cX6_init 8 = .ok (.dup, 1) := by decide +kernel
theorem dX6_init_9 : decode cX6_init 9 = .ok (.invokespecial 9, 3) := by decide +kernel
theorem dX6_init_12 : decode cX6_init 12 = .ok (.putfield 10, 3) := by decide +kernel
theorem dX6_init_15 : decode cX6_init 15 = .ok (.aload_n 0, 1) := by decide +kernel
theorem dX6_init_16 : decode cX6_init 16 = .ok (.new 16, 3) := by decide +kernel
theorem dX6_init_19 : decode cX6_init 19 = .ok (.dup, 1) := by decide +kernel
theorem dX6_init_20 : decode cX6_init 20 = .ok (.invokespecial 18, 3) := by decide +kernel
theorem dX6_init_23 : decode cX6_init 23 = .ok (.putfield 19, 3) := by decide +kernel
theorem dX6_init_26 : decode cX6_init 26 = .ok (.aload_n 0, 1) := by decide +kernel
theorem dX6_init_27 : decode cX6_init 27 = .ok (.iconst 2, 1) := by decide +kernel
theorem dX6_init_28 : decode cX6_init 28 = .ok (.anewarray 16, 3) := by decide +kernel
theorem dX6_init_31 : decode cX6_init 31 = .ok (.putfield 23, 3) := by decide +kernel
theorem dX6_init_34 : decode cX6_init 34 = .ok (.aload_n 0, 1) := by decide +kernel
theorem dX6_init_35 : decode cX6_init 35 = .ok (.new 27, 3) := by decide +kernel
theorem dX6_init_38 : decode cX6_init 38 = .ok (.dup, 1) := by decide +kernel
theorem dX6_init_39 : decode cX6_init 39 = .ok (.invokespecial 29, 3) := by decide +kernel
theorem dX6_init_42 : decode cX6_init 42 = .ok (.putfield 30, 3) := by decide +kernel
theorem dX6_init_45 : decode cX6_init 45 = .ok (.aload_n 0, 1) := by decide +kernel
theorem dX6_init_46 : decode cX6_init 46 = .ok (.new 34, 3) := by decide +kernel
theorem dX6_init_49 : decode cX6_init 49 = .ok (.dup, 1) := by decide +kernel
theorem dX6_init_50 : decode cX6_init 50 = .ok (.invokespecial 36, 3) := by decide +kernel
theorem dX6_init_53 : decode cX6_init 53 = .ok (.putfield 37, 3) := by decide +kernel
theorem dX6_init_56 : decode cX6_init 56 = .ok (.aload_n 0, 1) := by decide +kernel
theorem dX6_init_57 : decode cX6_init 57 = .ok (.new 41, 3) := by decide +kernel
theorem dX6_init_60 : decode cX6_init 60 = .ok (.dup, 1) := by decide +kernel
theorem dX6_init_61 : decode cX6_init 61 = .ok (.invokespecial 43, 3) := by decide +kernel
theorem dX6_init_64 : decode cX6_init 64 = .ok (.putfield 44, 3) := by decide +kernel
theorem dX6_init_67 : decode cX6_init 67 = .ok (.return_, 1) := by decide +kernel
theorem dX6_say_0 : decode cX6_say 0 = .ok (.iload_n 1, 1) := by decide +kernel
theorem dX6_say_1 : decode cX6_say 1 = .ok (.bipush 33, 2) := by decide +kernel
theorem dX6_say_3 : decode cX6_say 3 = .ok (.if_icmp .lt 9, 3) := by decide +kernel
theorem dX6_say_6 : decode cX6_say 6 = .ok (.iload_n 1, 1) := by decide +kernel
theorem dX6_say_7 : decode cX6_say 7 = .ok (.bipush 126, 2) := by decide +kernel
theorem dX6_say_9 : decode cX6_say 9 = .ok (.if_icmp .le 6, 3) := by decide +kernel
theorem dX6_say_12 : decode cX6_say 12 = .ok (.bipush (-2), 2) := by decide +kernel
theorem dX6_say_14 : decode cX6_say 14 = .ok (.ireturn, 1) := by decide +kernel
theorem dX6_say_15 : decode cX6_say 15 = .ok (.aload_n 0, 1) := by decide +kernel
theorem dX6_say_16 : decode cX6_say 16 = .ok (.getfield 10, 3) := by decide +kernel
theorem dX6_say_19 : decode cX6_say 19 = .ok (.iload_n 1, 1) := by decide +kernel
theorem dX6_say_20 : decode cX6_say 20 = .ok (.invokevirtual 48, 3) := by decide +kernel
theorem dX6_say_23 : decode cX6_say 23 = .ok (.ifCond .eq 13, 3) := by decide +kernel
theorem dX6_say_26 : decode cX6_say 26 = .ok (.aload_n 0, 1) := by decide +kernel
theorem dX6_say_27 : decode cX6_say 27 = .ok (.getfield 10, 3) := by decide +kernel
theorem dX6_say_30 : decode cX6_say 30 = .ok (.getfield 52, 3) := by decide +kernel
theorem dX6_say_33 : decode cX6_say 33 = .ok (.goto 5, 3) := by decide +kernel
theorem dX6_say_36 : decode cX6_say 36 = .ok (.bipush (-4), 2) := by decide +kernel
theorem dX6_say_38 : decode cX6_say 38 = .ok (.ireturn, 1) := by decide +kernel
theorem dX6_wipe_0 : decode cX6_wipe 0 = .ok (.aload_n 0, 1) := by decide +kernel
theorem dX6_wipe_1 : decode cX6_wipe 1 = .ok (.getfield 10, 3) := by decide +kernel
theorem dX6_wipe_4 : decode cX6_wipe 4 = .ok (.getfield 52, 3) := by decide +kernel
theorem dX6_wipe_7 : decode cX6_wipe 7 = .ok (.istore_n 1, 1) := by decide +kernel
theorem dX6_wipe_8 : decode cX6_wipe 8 = .ok (.aload_n 0, 1) := by decide +kernel
theorem dX6_wipe_9 : decode cX6_wipe 9 = .ok (.getfield 10, 3) := by decide +kernel
theorem dX6_wipe_12 : decode cX6_wipe 12 = .ok (.invokevirtual 56, 3) := by decide +kernel
theorem dX6_wipe_15 : decode cX6_wipe 15 = .ok (.iload_n 1, 1) := by decide +kernel
theorem dX6_wipe_16 : decode cX6_wipe 16 = .ok (.ireturn, 1) := by decide +kernel
theorem dX6_fault_0 : decode cX6_fault 0 = .ok (.iload_n 1, 1) := by decide +kernel
theorem dX6_fault_1 : decode cX6_fault 1 = .ok (.ifCond .ne 11, 3) := by decide +kernel
theorem dX6_fault_4 : decode cX6_fault 4 = .ok (.aload_n 0, 1) := by decide +kernel
theorem dX6_fault_5 : decode cX6_fault 5 = .ok (.getfield 10, 3) := by decide +kernel
theorem dX6_fault_8 : decode cX6_fault 8 = .ok (.invokevirtual 59, 3) := by decide +kernel
theorem dX6_fault_11 : decode cX6_fault 11 = .ok (.ireturn, 1) := by decide +kernel
theorem dX6_fault_12 : decode cX6_fault 12 = .ok (.iload_n 1, 1) := by decide +kernel
theorem dX6_fault_13 : decode cX6_fault 13 = .ok (.iconst 1, 1) := by decide +kernel
theorem dX6_fault_14 : decode cX6_fault 14 = .ok (.if_icmp .ne 13, 3) := by decide +kernel
theorem dX6_fault_17 : decode cX6_fault 17 = .ok (.aload_n 0, 1) := by decide +kernel
theorem dX6_fault_18 : decode cX6_fault 18 = .ok (.getfield 10, 3) := by decide +kernel
theorem dX6_fault_21 : decode cX6_fault 21 = .ok (.invokevirtual 63, 3) := by decide +kernel
theorem dX6_fault_24 : decode cX6_fault 24 = .ok (.goto 5, 3) := by decide +kernel
theorem dX6_fault_27 : decode cX6_fault 27 = .ok (.bipush (-2), 2) := by decide +kernel
theorem dX6_fault_29 : decode cX6_fault 29 = .ok (.ireturn, 1) := by decide +kernel
theorem dX6_learn_0 : decode cX6_learn 0 = .ok (.aload_n 0, 1) := by decide +kernel
theorem dX6_learn_1 : decode cX6_learn 1 = .ok (.getfield 10, 3) := by decide +kernel
theorem dX6_learn_4 : decode cX6_learn 4 = .ok (.invokevirtual 59, 3) := by decide +kernel
theorem dX6_learn_7 : decode cX6_learn 7 = .ok (.bipush (-6), 2) := by decide +kernel
theorem dX6_learn_9 : decode cX6_learn 9 = .ok (.if_icmp .eq 6, 3) := by decide +kernel
theorem dX6_learn_12 : decode cX6_learn 12 = .ok (.bipush (-5), 2) := by decide +kernel
theorem dX6_learn_14 : decode cX6_learn 14 = .ok (.ireturn, 1) := by decide +kernel
theorem dX6_learn_15 : decode cX6_learn 15 = .ok (.aload_n 0, 1) := by decide +kernel
theorem dX6_learn_16 : decode cX6_learn 16 = .ok (.getfield 19, 3) := by decide +kernel
theorem dX6_learn_19 : decode cX6_learn 19 = .ok (.getfield 66, 3) := by decide +kernel
theorem dX6_learn_22 : decode cX6_learn 22 = .ok (.aload_n 0, 1) := by decide +kernel
theorem dX6_learn_23 : decode cX6_learn 23 = .ok (.getfield 10, 3) := by decide +kernel
theorem dX6_learn_26 : decode cX6_learn 26 = .ok (.invokevirtual 70, 3) := by decide +kernel
theorem dX6_learn_29 : decode cX6_learn 29 = .ok (.istore_n 1, 1) := by decide +kernel
theorem dX6_learn_30 : decode cX6_learn 30 = .ok (.iload_n 1, 1) := by decide +kernel
theorem dX6_learn_31 : decode cX6_learn 31 = .ok (.bipush (-4), 2) := by decide +kernel
theorem dX6_learn_33 : decode cX6_learn 33 = .ok (.if_icmp .ne 6, 3) := by decide +kernel
theorem dX6_learn_36 : decode cX6_learn 36 = .ok (.bipush (-4), 2) := by decide +kernel
theorem dX6_learn_38 : decode cX6_learn 38 = .ok (.ireturn, 1) := by decide +kernel
theorem dX6_learn_39 : decode cX6_learn 39 = .ok (.aload_n 0, 1) := by decide +kernel
theorem dX6_learn_40 : decode cX6_learn 40 = .ok (.getfield 10, 3) := by decide +kernel
theorem dX6_learn_43 : decode cX6_learn 43 = .ok (.invokevirtual 56, 3) := by decide +kernel
theorem dX6_learn_46 : decode cX6_learn 46 = .ok (.aload_n 0, 1) := by decide +kernel
theorem dX6_learn_47 : decode cX6_learn 47 = .ok (.invokevirtual 76, 3) := by decide +kernel
theorem dX6_learn_50 : decode cX6_learn 50 = .ok (.iload_n 1, 1) := by decide +kernel
theorem dX6_learn_51 : decode cX6_learn 51 = .ok (.ireturn, 1) := by decide +kernel
theorem dX6_forget_0 : decode cX6_forget 0 = .ok (.aload_n 0, 1) := by decide +kernel
theorem dX6_forget_1 : decode cX6_forget 1 = .ok (.getfield 19, 3) := by decide +kernel
theorem dX6_forget_4 : decode cX6_forget 4 = .ok (.getfield 66, 3) := by decide +kernel
theorem dX6_forget_7 : decode cX6_forget 7 = .ok (.iload_n 1, 1) := by decide +kernel
theorem dX6_forget_8 : decode cX6_forget 8 = .ok (.invokevirtual 79, 3) := by decide +kernel
theorem dX6_forget_11 : decode cX6_forget 11 = .ok (.ifCond .ne 5, 3) := by decide +kernel
theorem dX6_forget_14 : decode cX6_forget 14 = .ok (.iconst (-1), 1) := by decide +kernel
theorem dX6_forget_15 : decode cX6_forget 15 = .ok (.ireturn, 1) := by decide +kernel
theorem dX6_forget_16 : decode cX6_forget 16 = .ok (.aload_n 0, 1) := by decide +kernel
theorem dX6_forget_17 : decode cX6_forget 17 = .ok (.getfield 19, 3) := by decide +kernel
theorem dX6_forget_20 : decode cX6_forget 20 = .ok (.getfield 66, 3) := by decide +kernel
theorem dX6_forget_23 : decode cX6_forget 23 = .ok (.iload_n 1, 1) := by decide +kernel
theorem dX6_forget_24 : decode cX6_forget 24 = .ok (.invokevirtual 82, 3) := by decide +kernel
theorem dX6_forget_27 : decode cX6_forget 27 = .ok (.aload_n 0, 1) := by decide +kernel
theorem dX6_forget_28 : decode cX6_forget 28 = .ok (.invokevirtual 76, 3) := by decide +kernel
theorem dX6_forget_31 : decode cX6_forget 31 = .ok (.aload_n 0, 1) := by decide +kernel
theorem dX6_forget_32 : decode cX6_forget 32 = .ok (.getfield 19, 3) := by decide +kernel
theorem dX6_forget_35 : decode cX6_forget 35 = .ok (.getfield 66, 3) := by decide +kernel
theorem dX6_forget_38 : decode cX6_forget 38 = .ok (.getfield 86, 3) := by decide +kernel
theorem dX6_forget_41 : decode cX6_forget 41 = .ok (.ireturn, 1) := by decide +kernel
theorem dX6_word_0 : decode cX6_word 0 = .ok (.aload_n 0, 1) := by decide +kernel
theorem dX6_word_1 : decode cX6_word 1 = .ok (.getfield 19, 3) := by decide +kernel
theorem dX6_word_4 : decode cX6_word 4 = .ok (.getfield 66, 3) := by decide +kernel
theorem dX6_word_7 : decode cX6_word 7 = .ok (.iload_n 1, 1) := by decide +kernel
theorem dX6_word_8 : decode cX6_word 8 = .ok (.invokevirtual 79, 3) := by decide +kernel
theorem dX6_word_11 : decode cX6_word 11 = .ok (.ifCond .ne 5, 3) := by decide +kernel
theorem dX6_word_14 : decode cX6_word 14 = .ok (.iconst (-1), 1) := by decide +kernel
theorem dX6_word_15 : decode cX6_word 15 = .ok (.ireturn, 1) := by decide +kernel
theorem dX6_word_16 : decode cX6_word 16 = .ok (.iload_n 2, 1) := by decide +kernel
theorem dX6_word_17 : decode cX6_word 17 = .ok (.ifCond .ge 8, 3) := by decide +kernel
theorem dX6_word_20 : decode cX6_word 20 = .ok (.bipush (-2), 2) := by decide +kernel
theorem dX6_word_22 : decode cX6_word 22 = .ok (.goto 15, 3) := by decide +kernel
theorem dX6_word_25 : decode cX6_word 25 = .ok (.aload_n 0, 1) := by decide +kernel
theorem dX6_word_26 : decode cX6_word 26 = .ok (.getfield 19, 3) := by decide +kernel
theorem dX6_word_29 : decode cX6_word 29 = .ok (.getfield 66, 3) := by decide +kernel
theorem dX6_word_32 : decode cX6_word 32 = .ok (.iload_n 1, 1) := by decide +kernel
theorem dX6_word_33 : decode cX6_word 33 = .ok (.iload_n 2, 1) := by decide +kernel
theorem dX6_word_34 : decode cX6_word 34 = .ok (.invokevirtual 87, 3) := by decide +kernel
theorem dX6_word_37 : decode cX6_word 37 = .ok (.ireturn, 1) := by decide +kernel
theorem dX6_line_0 : decode cX6_line 0 = .ok (.aload_n 0, 1) := by decide +kernel
theorem dX6_line_1 : decode cX6_line 1 = .ok (.getfield 10, 3) := by decide +kernel
theorem dX6_line_4 : decode cX6_line 4 = .ok (.invokevirtual 63, 3) := by decide +kernel
theorem dX6_line_7 : decode cX6_line 7 = .ok (.bipush (-6), 2) := by decide +kernel
theorem dX6_line_9 : decode cX6_line 9 = .ok (.if_icmp .eq 6, 3) := by decide +kernel
theorem dX6_line_12 : decode cX6_line 12 = .ok (.bipush (-5), 2) := by decide +kernel
theorem dX6_line_14 : decode cX6_line 14 = .ok (.ireturn, 1) := by decide +kernel
theorem dX6_line_15 : decode cX6_line 15 = .ok (.aload_n 0, 1) := by decide +kernel
theorem dX6_line_16 : decode cX6_line 16 = .ok (.getfield 19, 3) := by decide +kernel
theorem dX6_line_19 : decode cX6_line 19 = .ok (.aload_n 0, 1) := by decide +kernel
theorem dX6_line_20 : decode cX6_line 20 = .ok (.getfield 10, 3) := by decide +kernel
theorem dX6_line_23 : decode cX6_line 23 = .ok (.invokevirtual 91, 3) := by decide +kernel
theorem dX6_line_26 : decode cX6_line 26 = .ok (.aload_n 0, 1) := by decide +kernel
theorem dX6_line_27 : decode cX6_line 27 = .ok (.getfield 10, 3) := by decide +kernel
theorem dX6_line_30 : decode cX6_line 30 = .ok (.invokevirtual 56, 3) := by decide +kernel
theorem dX6_line_33 : decode cX6_line 33 = .ok (.aload_n 0, 1) := by decide +kernel
theorem dX6_line_34 : decode cX6_line 34 = .ok (.invokevirtual 76, 3) := by decide +kernel
theorem dX6_line_37 : decode cX6_line 37 = .ok (.aload_n 0, 1) := by decide +kernel
theorem dX6_line_38 : decode cX6_line 38 = .ok (.getfield 19, 3) := by decide +kernel
theorem dX6_line_41 : decode cX6_line 41 = .ok (.getfield 95, 3) := by decide +kernel
theorem dX6_line_44 : decode cX6_line 44 = .ok (.ireturn, 1) := by decide +kernel
theorem dX6_join_0 : decode cX6_join 0 = .ok (.iload_n 1, 1) := by decide +kernel
theorem dX6_join_1 : decode cX6_join 1 = .ok (.iload_n 2, 1) := by decide +kernel
theorem dX6_join_2 : decode cX6_join 2 = .ok (.invokestatic 98, 3) := by decide +kernel
theorem dX6_join_5 : decode cX6_join 5 = .ok (.ifCond .ne 5, 3) := by decide +kernel
theorem dX6_join_8 : decode cX6_join 8 = .ok (.iconst (-1), 1) := by decide +kernel
theorem dX6_join_9 : decode cX6_join 9 = .ok (.ireturn, 1) := by decide +kernel
theorem dX6_join_10 : decode cX6_join 10 = .ok (.iload_n 3, 1) := by decide +kernel
theorem dX6_join_11 : decode cX6_join 11 = .ok (.ifCond .lt 9, 3) := by decide +kernel
theorem dX6_join_14 : decode cX6_join 14 = .ok (.iload_n 3, 1) := by decide +kernel
theorem dX6_join_15 : decode cX6_join 15 = .ok (.bipush 99, 2) := by decide +kernel
theorem dX6_join_17 : decode cX6_join 17 = .ok (.if_icmp .le 6, 3) := by decide +kernel
theorem dX6_join_20 : decode cX6_join 20 = .ok (.bipush (-2), 2) := by decide +kernel
theorem dX6_join_22 : decode cX6_join 22 = .ok (.ireturn, 1) := by decide +kernel
theorem dX6_join_23 : decode cX6_join 23 = .ok (.iload_n 1, 1) := by decide +kernel
theorem dX6_join_24 : decode cX6_join 24 = .ok (.iconst 5, 1) := by decide +kernel
theorem dX6_join_25 : decode cX6_join 25 = .ok (.imul, 1) := by decide +kernel
theorem dX6_join_26 : decode cX6_join 26 = .ok (.iload_n 2, 1) := by decide +kernel
theorem dX6_join_27 : decode cX6_join 27 = .ok (.iadd, 1) := by decide +kernel
theorem dX6_join_28 : decode cX6_join 28 = .ok (.istore 4, 2) := by decide +kernel
theorem dX6_join_30 : decode cX6_join 30 = .ok (.aload_n 0, 1) := by decide +kernel
theorem dX6_join_31 : decode cX6_join 31 = .ok (.getfield 19, 3) := by decide +kernel
theorem dX6_join_34 : decode cX6_join 34 = .ok (.getfield 102, 3) := by decide +kernel
theorem dX6_join_37 : decode cX6_join 37 = .ok (.iload 4, 2) := by decide +kernel
theorem dX6_join_39 : decode cX6_join 39 = .ok (.iaload, 1) := by decide +kernel
theorem dX6_join_40 : decode cX6_join 40 = .ok (.istore 5, 2) := by decide +kernel
theorem dX6_join_42 : decode cX6_join 42 = .ok (.aload_n 0, 1) := by decide +kernel
theorem dX6_join_43 : decode cX6_join 43 = .ok (.getfield 19, 3) := by decide +kernel
theorem dX6_join_46 : decode cX6_join 46 = .ok (.getfield 102, 3) := by decide +kernel
theorem dX6_join_49 : decode cX6_join 49 = .ok (.iload 4, 2) := by decide +kernel
theorem dX6_join_51 : decode cX6_join 51 = .ok (.iload_n 3, 1) := by decide +kernel
theorem dX6_join_52 : decode cX6_join 52 = .ok (.iastore, 1) := by decide +kernel
theorem dX6_join_53 : decode cX6_join 53 = .ok (.aload_n 0, 1) := by decide +kernel
theorem dX6_join_54 : decode cX6_join 54 = .ok (.invokevirtual 76, 3) := by decide +kernel
theorem dX6_join_57 : decode cX6_join 57 = .ok (.iload 5, 2) := by decide +kernel
theorem dX6_join_59 : decode cX6_join 59 = .ok (.ireturn, 1) := by decide +kernel
theorem dX6_rule_0 : decode cX6_rule 0 = .ok (.iload_n 1, 1) := by decide +kernel
theorem dX6_rule_1 : decode cX6_rule 1 = .ok (.ifCond .lt 21, 3) := by decide +kernel
theorem dX6_rule_4 : decode cX6_rule 4 = .ok (.iload_n 1, 1) := by decide +kernel
theorem dX6_rule_5 : decode cX6_rule 5 = .ok (.iconst 4, 1) := by decide +kernel
theorem dX6_rule_6 : decode cX6_rule 6 = .ok (.if_icmp .ge 16, 3) := by decide +kernel
theorem dX6_rule_9 : decode cX6_rule 9 = .ok (.iload_n 2, 1) := by decide +kernel
theorem dX6_rule_10 : decode cX6_rule 10 = .ok (.ifCond .lt 12, 3) := by decide +kernel
theorem dX6_rule_13 : decode cX6_rule 13 = .ok (.iload_n 2, 1) := by decide +kernel
theorem dX6_rule_14 : decode cX6_rule 14 = .ok (.getstatic 106, 3) := by decide +kernel
theorem dX6_rule_17 : decode cX6_rule 17 = .ok (.iload_n 1, 1) := by decide +kernel
theorem dX6_rule_18 : decode cX6_rule 18 = .ok (.iaload, 1) := by decide +kernel
theorem dX6_rule_19 : decode cX6_rule 19 = .ok (.if_icmp .le 6, 3) := by decide +kernel
theorem dX6_rule_22 : decode cX6_rule 22 = .ok (.bipush (-2), 2) := by decide +kernel
theorem dX6_rule_24 : decode cX6_rule 24 = .ok (.ireturn, 1) := by decide +kernel
theorem dX6_rule_25 : decode cX6_rule 25 = .ok (.aload_n 0, 1) := by decide +kernel
theorem dX6_rule_26 : decode cX6_rule 26 = .ok (.getfield 19, 3) := by decide +kernel
theorem dX6_rule_29 : decode cX6_rule 29 = .ok (.getfield 109, 3) := by decide +kernel
theorem dX6_rule_32 : decode cX6_rule 32 = .ok (.iload_n 1, 1) := by decide +kernel
theorem dX6_rule_33 : decode cX6_rule 33 = .ok (.iaload, 1) := by decide +kernel
theorem dX6_rule_34 : decode cX6_rule 34 = .ok (.istore_n 3, 1) := by decide +kernel
theorem dX6_rule_35 : decode cX6_rule 35 = .ok (.aload_n 0, 1) := by decide +kernel
theorem dX6_rule_36 : decode cX6_rule 36 = .ok (.getfield 19, 3) := by decide +kernel
theorem dX6_rule_39 : decode cX6_rule 39 = .ok (.getfield 109, 3) := by decide +kernel
theorem dX6_rule_42 : decode cX6_rule 42 = .ok (.iload_n 1, 1) := by decide +kernel
theorem dX6_rule_43 : decode cX6_rule 43 = .ok (.iload_n 2, 1) := by decide +kernel
theorem dX6_rule_44 : decode cX6_rule 44 = .ok (.iastore, 1) := by decide +kernel
theorem dX6_rule_45 : decode cX6_rule 45 = .ok (.aload_n 0, 1) := by decide +kernel
theorem dX6_rule_46 : decode cX6_rule 46 = .ok (.invokevirtual 76, 3) := by decide +kernel
theorem dX6_rule_49 : decode cX6_rule 49 = .ok (.iload_n 3, 1) := by decide +kernel
theorem dX6_rule_50 : decode cX6_rule 50 = .ok (.ireturn, 1) := by decide +kernel
theorem dX6_pieces_0 : decode cX6_pieces 0 = .ok (.aload_n 0, 1) := by decide +kernel
theorem dX6_pieces_1 : decode cX6_pieces 1 = .ok (.invokevirtual 112, 3) := by decide +kernel
theorem dX6_pieces_4 : decode cX6_pieces 4 = .ok (.ifCond .ne 6, 3) := by decide +kernel
theorem dX6_pieces_7 : decode cX6_pieces 7 = .ok (.bipush (-5), 2) := by decide +kernel
theorem dX6_pieces_9 : decode cX6_pieces 9 = .ok (.ireturn, 1) := by decide +kernel
theorem dX6_pieces_10 : decode cX6_pieces 10 = .ok (.aload_n 0, 1) := by decide +kernel
theorem dX6_pieces_11 : decode cX6_pieces 11 = .ok (.invokevirtual 116, 3) := by decide +kernel
theorem dX6_pieces_14 : decode cX6_pieces 14 = .ok (.aload_n 0, 1) := by decide +kernel
theorem dX6_pieces_15 : decode cX6_pieces 15 = .ok (.getfield 30, 3) := by decide +kernel
theorem dX6_pieces_18 : decode cX6_pieces 18 = .ok (.getfield 119, 3) := by decide +kernel
theorem dX6_pieces_21 : decode cX6_pieces 21 = .ok (.ireturn, 1) := by decide +kernel
theorem dX6_piece_0 : decode cX6_piece 0 = .ok (.aload_n 0, 1) := by decide +kernel
theorem dX6_piece_1 : decode cX6_piece 1 = .ok (.invokevirtual 112, 3) := by decide +kernel
theorem dX6_piece_4 : decode cX6_piece 4 = .ok (.ifCond .ne 6, 3) := by decide +kernel
theorem dX6_piece_7 : decode cX6_piece 7 = .ok (.bipush (-5), 2) := by decide +kernel
theorem dX6_piece_9 : decode cX6_piece 9 = .ok (.ireturn, 1) := by decide +kernel
theorem dX6_piece_10 : decode cX6_piece 10 = .ok (.aload_n 0, 1) := by decide +kernel
theorem dX6_piece_11 : decode cX6_piece 11 = .ok (.invokevirtual 116, 3) := by decide +kernel
theorem dX6_piece_14 : decode cX6_piece 14 = .ok (.iload_n 1, 1) := by decide +kernel
theorem dX6_piece_15 : decode cX6_piece 15 = .ok (.ifCond .lt 14, 3) := by decide +kernel
theorem dX6_piece_18 : decode cX6_piece 18 = .ok (.iload_n 1, 1) := by decide +kernel
theorem dX6_piece_19 : decode cX6_piece 19 = .ok (.aload_n 0, 1) := by decide +kernel
theorem dX6_piece_20 : decode cX6_piece 20 = .ok (.getfield 30, 3) := by decide +kernel
theorem dX6_piece_23 : decode cX6_piece 23 = .ok (.getfield 119, 3) := by decide +kernel
theorem dX6_piece_26 : decode cX6_piece 26 = .ok (.if_icmp .lt 5, 3) := by decide +kernel
theorem dX6_piece_29 : decode cX6_piece 29 = .ok (.iconst (-1), 1) := by decide +kernel
theorem dX6_piece_30 : decode cX6_piece 30 = .ok (.ireturn, 1) := by decide +kernel
theorem dX6_piece_31 : decode cX6_piece 31 = .ok (.iload_n 2, 1) := by decide +kernel
theorem dX6_piece_32 : decode cX6_piece 32 = .ok (.tableswitch 107 0 5 #[40, 50, 60, 70, 80, 90], 40) := by decide +kernel
theorem dX6_piece_72 : decode cX6_piece 72 = .ok (.aload_n 0, 1) := by decide +kernel
theorem dX6_piece_73 : decode cX6_piece 73 = .ok (.getfield 30, 3) := by decide +kernel
theorem dX6_piece_76 : decode cX6_piece 76 = .ok (.getfield 120, 3) := by decide +kernel
theorem dX6_piece_79 : decode cX6_piece 79 = .ok (.iload_n 1, 1) := by decide +kernel
theorem dX6_piece_80 : decode cX6_piece 80 = .ok (.iaload, 1) := by decide +kernel
theorem dX6_piece_81 : decode cX6_piece 81 = .ok (.ireturn, 1) := by decide +kernel
theorem dX6_piece_82 : decode cX6_piece 82 = .ok (.aload_n 0, 1) := by decide +kernel
theorem dX6_piece_83 : decode cX6_piece 83 = .ok (.getfield 30, 3) := by decide +kernel
theorem dX6_piece_86 : decode cX6_piece 86 = .ok (.getfield 123, 3) := by decide +kernel
theorem dX6_piece_89 : decode cX6_piece 89 = .ok (.iload_n 1, 1) := by decide +kernel
theorem dX6_piece_90 : decode cX6_piece 90 = .ok (.iaload, 1) := by decide +kernel
theorem dX6_piece_91 : decode cX6_piece 91 = .ok (.ireturn, 1) := by decide +kernel
theorem dX6_piece_92 : decode cX6_piece 92 = .ok (.aload_n 0, 1) := by decide +kernel
theorem dX6_piece_93 : decode cX6_piece 93 = .ok (.getfield 30, 3) := by decide +kernel
theorem dX6_piece_96 : decode cX6_piece 96 = .ok (.getfield 126, 3) := by decide +kernel
theorem dX6_piece_99 : decode cX6_piece 99 = .ok (.iload_n 1, 1) := by decide +kernel
theorem dX6_piece_100 : decode cX6_piece 100 = .ok (.iaload, 1) := by decide +kernel
theorem dX6_piece_101 : decode cX6_piece 101 = .ok (.ireturn, 1) := by decide +kernel
theorem dX6_piece_102 : decode cX6_piece 102 = .ok (.aload_n 0, 1) := by decide +kernel
theorem dX6_piece_103 : decode cX6_piece 103 = .ok (.getfield 30, 3) := by decide +kernel
theorem dX6_piece_106 : decode cX6_piece 106 = .ok (.getfield 129, 3) := by decide +kernel
theorem dX6_piece_109 : decode cX6_piece 109 = .ok (.iload_n 1, 1) := by decide +kernel
theorem dX6_piece_110 : decode cX6_piece 110 = .ok (.iaload, 1) := by decide +kernel
theorem dX6_piece_111 : decode cX6_piece 111 = .ok (.ireturn, 1) := by decide +kernel
theorem dX6_piece_112 : decode cX6_piece 112 = .ok (.aload_n 0, 1) := by decide +kernel
theorem dX6_piece_113 : decode cX6_piece 113 = .ok (.getfield 30, 3) := by decide +kernel
theorem dX6_piece_116 : decode cX6_piece 116 = .ok (.getfield 132, 3) := by decide +kernel
theorem dX6_piece_119 : decode cX6_piece 119 = .ok (.iload_n 1, 1) := by decide +kernel
theorem dX6_piece_120 : decode cX6_piece 120 = .ok (.iaload, 1) := by decide +kernel
theorem dX6_piece_121 : decode cX6_piece 121 = .ok (.ireturn, 1) := by decide +kernel
theorem dX6_piece_122 : decode cX6_piece 122 = .ok (.aload_n 0, 1) := by decide +kernel
theorem dX6_piece_123 : decode cX6_piece 123 = .ok (.invokevirtual 135, 3) := by decide +kernel
theorem dX6_piece_126 : decode cX6_piece 126 = .ok (.aload_n 0, 1) := by decide +kernel
theorem dX6_piece_127 : decode cX6_piece 127 = .ok (.getfield 37, 3) := by decide +kernel
theorem dX6_piece_130 : decode cX6_piece 130 = .ok (.aload_n 0, 1) := by decide +kernel
theorem dX6_piece_131 : decode cX6_piece 131 = .ok (.getfield 30, 3) := by decide +kernel
theorem dX6_piece_134 : decode cX6_piece 134 = .ok (.iload_n 1, 1) := by decide +kernel
theorem dX6_piece_135 : decode cX6_piece 135 = .ok (.invokevirtual 138, 3) := by decide +kernel
theorem dX6_piece_138 : decode cX6_piece 138 = .ok (.ireturn, 1) := by decide +kernel
theorem dX6_piece_139 : decode cX6_piece 139 = .ok (.bipush (-2), 2) := by decide +kernel
theorem dX6_piece_141 : decode cX6_piece 141 = .ok (.ireturn, 1) := by decide +kernel
theorem dX6_ways_0 : decode cX6_ways 0 = .ok (.aload_n 0, 1) := by decide +kernel
theorem dX6_ways_1 : decode cX6_ways 1 = .ok (.invokevirtual 112, 3) := by decide +kernel
theorem dX6_ways_4 : decode cX6_ways 4 = .ok (.ifCond .ne 6, 3) := by decide +kernel
theorem dX6_ways_7 : decode cX6_ways 7 = .ok (.bipush (-5), 2) := by decide +kernel
theorem dX6_ways_9 : decode cX6_ways 9 = .ok (.ireturn, 1) := by decide +kernel
theorem dX6_ways_10 : decode cX6_ways 10 = .ok (.aload_n 0, 1) := by decide +kernel
theorem dX6_ways_11 : decode cX6_ways 11 = .ok (.invokevirtual 116, 3) := by decide +kernel
theorem dX6_ways_14 : decode cX6_ways 14 = .ok (.aload_n 0, 1) := by decide +kernel
theorem dX6_ways_15 : decode cX6_ways 15 = .ok (.getfield 30, 3) := by decide +kernel
theorem dX6_ways_18 : decode cX6_ways 18 = .ok (.invokevirtual 142, 3) := by decide +kernel
theorem dX6_ways_21 : decode cX6_ways 21 = .ok (.ireturn, 1) := by decide +kernel
theorem dX6_cutting_0 : decode cX6_cutting 0 = .ok (.aload_n 0, 1) := by decide +kernel
theorem dX6_cutting_1 : decode cX6_cutting 1 = .ok (.invokevirtual 112, 3) := by decide +kernel
theorem dX6_cutting_4 : decode cX6_cutting 4 = .ok (.ifCond .ne 6, 3) := by decide +kernel
theorem dX6_cutting_7 : decode cX6_cutting 7 = .ok (.bipush (-5), 2) := by decide +kernel
theorem dX6_cutting_9 : decode cX6_cutting 9 = .ok (.ireturn, 1) := by decide +kernel
theorem dX6_cutting_10 : decode cX6_cutting 10 = .ok (.iload_n 1, 1) := by decide +kernel
theorem dX6_cutting_11 : decode cX6_cutting 11 = .ok (.ifCond .lt 9, 3) := by decide +kernel
theorem dX6_cutting_14 : decode cX6_cutting 14 = .ok (.iload_n 1, 1) := by decide +kernel
theorem dX6_cutting_15 : decode cX6_cutting 15 = .ok (.bipush 12, 2) := by decide +kernel
theorem dX6_cutting_17 : decode cX6_cutting 17 = .ok (.if_icmp .lt 5, 3) := by decide +kernel
theorem dX6_cutting_20 : decode cX6_cutting 20 = .ok (.iconst (-1), 1) := by decide +kernel
theorem dX6_cutting_21 : decode cX6_cutting 21 = .ok (.ireturn, 1) := by decide +kernel
theorem dX6_cutting_22 : decode cX6_cutting 22 = .ok (.iload_n 2, 1) := by decide +kernel
theorem dX6_cutting_23 : decode cX6_cutting 23 = .ok (.bipush (-2), 2) := by decide +kernel
theorem dX6_cutting_25 : decode cX6_cutting 25 = .ok (.if_icmp .ge 6, 3) := by decide +kernel
theorem dX6_cutting_28 : decode cX6_cutting 28 = .ok (.bipush (-2), 2) := by decide +kernel
theorem dX6_cutting_30 : decode cX6_cutting 30 = .ok (.ireturn, 1) := by decide +kernel
theorem dX6_cutting_31 : decode cX6_cutting 31 = .ok (.aload_n 0, 1) := by decide +kernel
theorem dX6_cutting_32 : decode cX6_cutting 32 = .ok (.invokevirtual 135, 3) := by decide +kernel
theorem dX6_cutting_35 : decode cX6_cutting 35 = .ok (.iload_n 1, 1) := by decide +kernel
theorem dX6_cutting_36 : decode cX6_cutting 36 = .ok (.aload_n 0, 1) := by decide +kernel
theorem dX6_cutting_37 : decode cX6_cutting 37 = .ok (.getfield 37, 3) := by decide +kernel
theorem dX6_cutting_40 : decode cX6_cutting 40 = .ok (.invokevirtual 145, 3) := by decide +kernel
theorem dX6_cutting_43 : decode cX6_cutting 43 = .ok (.if_icmp .lt 6, 3) := by decide +kernel
theorem dX6_cutting_46 : decode cX6_cutting 46 = .ok (.bipush (-6), 2) := by decide +kernel
theorem dX6_cutting_48 : decode cX6_cutting 48 = .ok (.ireturn, 1) := by decide +kernel
theorem dX6_cutting_49 : decode cX6_cutting 49 = .ok (.iload_n 2, 1) := by decide +kernel
theorem dX6_cutting_50 : decode cX6_cutting 50 = .ok (.iconst (-1), 1) := by decide +kernel
theorem dX6_cutting_51 : decode cX6_cutting 51 = .ok (.if_icmp .ne 12, 3) := by decide +kernel
theorem dX6_cutting_54 : decode cX6_cutting 54 = .ok (.aload_n 0, 1) := by decide +kernel
theorem dX6_cutting_55 : decode cX6_cutting 55 = .ok (.getfield 37, 3) := by decide +kernel
theorem dX6_cutting_58 : decode cX6_cutting 58 = .ok (.iload_n 1, 1) := by decide +kernel
theorem dX6_cutting_59 : decode cX6_cutting 59 = .ok (.invokevirtual 148, 3) := by decide +kernel
theorem dX6_cutting_62 : decode cX6_cutting 62 = .ok (.ireturn, 1) := by decide +kernel
theorem dX6_cutting_63 : decode cX6_cutting 63 = .ok (.aload_n 0, 1) := by decide +kernel
theorem dX6_cutting_64 : decode cX6_cutting 64 = .ok (.getfield 37, 3) := by decide +kernel
theorem dX6_cutting_67 : decode cX6_cutting 67 = .ok (.aload_n 0, 1) := by decide +kernel
theorem dX6_cutting_68 : decode cX6_cutting 68 = .ok (.getfield 30, 3) := by decide +kernel
theorem dX6_cutting_71 : decode cX6_cutting 71 = .ok (.iload_n 1, 1) := by decide +kernel
theorem dX6_cutting_72 : decode cX6_cutting 72 = .ok (.invokevirtual 152, 3) := by decide +kernel
theorem dX6_cutting_75 : decode cX6_cutting 75 = .ok (.istore_n 3, 1) := by decide +kernel
theorem dX6_cutting_76 : decode cX6_cutting 76 = .ok (.iload_n 2, 1) := by decide +kernel
theorem dX6_cutting_77 : decode cX6_cutting 77 = .ok (.bipush (-2), 2) := by decide +kernel
theorem dX6_cutting_79 : decode cX6_cutting 79 = .ok (.if_icmp .ne 5, 3) := by decide +kernel
theorem dX6_cutting_82 : decode cX6_cutting 82 = .ok (.iload_n 3, 1) := by decide +kernel
theorem dX6_cutting_83 : decode cX6_cutting 83 = .ok (.ireturn, 1) := by decide +kernel
theorem dX6_cutting_84 : decode cX6_cutting 84 = .ok (.iload_n 2, 1) := by decide +kernel
theorem dX6_cutting_85 : decode cX6_cutting 85 = .ok (.iload_n 3, 1) := by decide +kernel
theorem dX6_cutting_86 : decode cX6_cutting 86 = .ok (.if_icmp .ge 15, 3) := by decide +kernel
theorem dX6_cutting_89 : decode cX6_cutting 89 = .ok (.aload_n 0, 1) := by decide +kernel
theorem dX6_cutting_90 : decode cX6_cutting 90 = .ok (.getfield 37, 3) := by decide +kernel
theorem dX6_cutting_93 : decode cX6_cutting 93 = .ok (.getfield 155, 3) := by decide +kernel
theorem dX6_cutting_96 : decode cX6_cutting 96 = .ok (.iload_n 2, 1) := by decide +kernel
theorem dX6_cutting_97 : decode cX6_cutting 97 = .ok (.iaload, 1) := by decide +kernel
theorem dX6_cutting_98 : decode cX6_cutting 98 = .ok (.goto 5, 3) := by decide +kernel
theorem dX6_cutting_101 : decode cX6_cutting 101 = .ok (.bipush (-6), 2) := by decide +kernel
theorem dX6_cutting_103 : decode cX6_cutting 103 = .ok (.ireturn, 1) := by decide +kernel
theorem dX6_sure_0 : decode cX6_sure 0 = .ok (.iload_n 1, 1) := by decide +kernel
theorem dX6_sure_1 : decode cX6_sure 1 = .ok (.ifCond .lt 10, 3) := by decide +kernel
theorem dX6_sure_4 : decode cX6_sure 4 = .ok (.iload_n 1, 1) := by decide +kernel
theorem dX6_sure_5 : decode cX6_sure 5 = .ok (.sipush 999, 3) := by decide +kernel
theorem dX6_sure_8 : decode cX6_sure 8 = .ok (.if_icmp .le 6, 3) := by decide +kernel
theorem dX6_sure_11 : decode cX6_sure 11 = .ok (.bipush (-2), 2) := by decide +kernel
theorem dX6_sure_13 : decode cX6_sure 13 = .ok (.ireturn, 1) := by decide +kernel
theorem dX6_sure_14 : decode cX6_sure 14 = .ok (.aload_n 0, 1) := by decide +kernel
theorem dX6_sure_15 : decode cX6_sure 15 = .ok (.invokevirtual 112, 3) := by decide +kernel
theorem dX6_sure_18 : decode cX6_sure 18 = .ok (.ifCond .ne 6, 3) := by decide +kernel
theorem dX6_sure_21 : decode cX6_sure 21 = .ok (.bipush (-5), 2) := by decide +kernel
theorem dX6_sure_23 : decode cX6_sure 23 = .ok (.ireturn, 1) := by decide +kernel
theorem dX6_sure_24 : decode cX6_sure 24 = .ok (.aload_n 0, 1) := by decide +kernel
theorem dX6_sure_25 : decode cX6_sure 25 = .ok (.invokevirtual 135, 3) := by decide +kernel
theorem dX6_sure_28 : decode cX6_sure 28 = .ok (.aload_n 0, 1) := by decide +kernel
theorem dX6_sure_29 : decode cX6_sure 29 = .ok (.getfield 37, 3) := by decide +kernel
theorem dX6_sure_32 : decode cX6_sure 32 = .ok (.invokevirtual 145, 3) := by decide +kernel
theorem dX6_sure_35 : decode cX6_sure 35 = .ok (.ifCond .ne 8, 3) := by decide +kernel
theorem dX6_sure_38 : decode cX6_sure 38 = .ok (.bipush (-6), 2) := by decide +kernel
theorem dX6_sure_40 : decode cX6_sure 40 = .ok (.goto 15, 3) := by decide +kernel
theorem dX6_sure_43 : decode cX6_sure 43 = .ok (.aload_n 0, 1) := by decide +kernel
theorem dX6_sure_44 : decode cX6_sure 44 = .ok (.getfield 37, 3) := by decide +kernel
theorem dX6_sure_47 : decode cX6_sure 47 = .ok (.aload_n 0, 1) := by decide +kernel
theorem dX6_sure_48 : decode cX6_sure 48 = .ok (.getfield 30, 3) := by decide +kernel
theorem dX6_sure_51 : decode cX6_sure 51 = .ok (.iload_n 1, 1) := by decide +kernel
theorem dX6_sure_52 : decode cX6_sure 52 = .ok (.invokevirtual 158, 3) := by decide +kernel
theorem dX6_sure_55 : decode cX6_sure 55 = .ok (.ireturn, 1) := by decide +kernel
theorem dX6_sign_0 : decode cX6_sign 0 = .ok (.aload_n 0, 1) := by decide +kernel
theorem dX6_sign_1 : decode cX6_sign 1 = .ok (.invokevirtual 112, 3) := by decide +kernel
theorem dX6_sign_4 : decode cX6_sign 4 = .ok (.ifCond .ne 6, 3) := by decide +kernel
theorem dX6_sign_7 : decode cX6_sign 7 = .ok (.bipush (-5), 2) := by decide +kernel
theorem dX6_sign_9 : decode cX6_sign 9 = .ok (.ireturn, 1) := by decide +kernel
theorem dX6_sign_10 : decode cX6_sign 10 = .ok (.iload_n 1, 1) := by decide +kernel
theorem dX6_sign_11 : decode cX6_sign 11 = .ok (.ifCond .lt 9, 3) := by decide +kernel
theorem dX6_sign_14 : decode cX6_sign 14 = .ok (.iload_n 1, 1) := by decide +kernel
theorem dX6_sign_15 : decode cX6_sign 15 = .ok (.bipush 12, 2) := by decide +kernel
theorem dX6_sign_17 : decode cX6_sign 17 = .ok (.if_icmp .lt 5, 3) := by decide +kernel
theorem dX6_sign_20 : decode cX6_sign 20 = .ok (.iconst (-1), 1) := by decide +kernel
theorem dX6_sign_21 : decode cX6_sign 21 = .ok (.ireturn, 1) := by decide +kernel
theorem dX6_sign_22 : decode cX6_sign 22 = .ok (.aload_n 0, 1) := by decide +kernel
theorem dX6_sign_23 : decode cX6_sign 23 = .ok (.invokevirtual 135, 3) := by decide +kernel
theorem dX6_sign_26 : decode cX6_sign 26 = .ok (.iload_n 1, 1) := by decide +kernel
theorem dX6_sign_27 : decode cX6_sign 27 = .ok (.aload_n 0, 1) := by decide +kernel
theorem dX6_sign_28 : decode cX6_sign 28 = .ok (.getfield 37, 3) := by decide +kernel
theorem dX6_sign_31 : decode cX6_sign 31 = .ok (.invokevirtual 145, 3) := by decide +kernel
theorem dX6_sign_34 : decode cX6_sign 34 = .ok (.if_icmp .lt 6, 3) := by decide +kernel
theorem dX6_sign_37 : decode cX6_sign 37 = .ok (.bipush (-6), 2) := by decide +kernel
theorem dX6_sign_39 : decode cX6_sign 39 = .ok (.ireturn, 1) := by decide +kernel
theorem dX6_sign_40 : decode cX6_sign 40 = .ok (.aload_n 0, 1) := by decide +kernel
theorem dX6_sign_41 : decode cX6_sign 41 = .ok (.getfield 44, 3) := by decide +kernel
theorem dX6_sign_44 : decode cX6_sign 44 = .ok (.iload_n 1, 1) := by decide +kernel
theorem dX6_sign_45 : decode cX6_sign 45 = .ok (.aload_n 0, 1) := by decide +kernel
theorem dX6_sign_46 : decode cX6_sign 46 = .ok (.getfield 37, 3) := by decide +kernel
theorem dX6_sign_49 : decode cX6_sign 49 = .ok (.aload_n 0, 1) := by decide +kernel
theorem dX6_sign_50 : decode cX6_sign 50 = .ok (.getfield 30, 3) := by decide +kernel
theorem dX6_sign_53 : decode cX6_sign 53 = .ok (.aload_n 0, 1) := by decide +kernel
theorem dX6_sign_54 : decode cX6_sign 54 = .ok (.getfield 19, 3) := by decide +kernel
theorem dX6_sign_57 : decode cX6_sign 57 = .ok (.invokevirtual 161, 3) := by decide +kernel
theorem dX6_sign_60 : decode cX6_sign 60 = .ok (.iload_n 2, 1) := by decide +kernel
theorem dX6_sign_61 : decode cX6_sign 61 = .ok (.iconst (-1), 1) := by decide +kernel
theorem dX6_sign_62 : decode cX6_sign 62 = .ok (.if_icmp .ne 11, 3) := by decide +kernel
theorem dX6_sign_65 : decode cX6_sign 65 = .ok (.aload_n 0, 1) := by decide +kernel
theorem dX6_sign_66 : decode cX6_sign 66 = .ok (.getfield 44, 3) := by decide +kernel
theorem dX6_sign_69 : decode cX6_sign 69 = .ok (.getfield 165, 3) := by decide +kernel
theorem dX6_sign_72 : decode cX6_sign 72 = .ok (.ireturn, 1) := by decide +kernel
theorem dX6_sign_73 : decode cX6_sign 73 = .ok (.iload_n 2, 1) := by decide +kernel
theorem dX6_sign_74 : decode cX6_sign 74 = .ok (.ifCond .lt 26, 3) := by decide +kernel
theorem dX6_sign_77 : decode cX6_sign 77 = .ok (.iload_n 2, 1) := by decide +kernel
theorem dX6_sign_78 : decode cX6_sign 78 = .ok (.aload_n 0, 1) := by decide +kernel
theorem dX6_sign_79 : decode cX6_sign 79 = .ok (.getfield 44, 3) := by decide +kernel
theorem dX6_sign_82 : decode cX6_sign 82 = .ok (.getfield 165, 3) := by decide +kernel
theorem dX6_sign_85 : decode cX6_sign 85 = .ok (.if_icmp .ge 15, 3) := by decide +kernel
theorem dX6_sign_88 : decode cX6_sign 88 = .ok (.aload_n 0, 1) := by decide +kernel
theorem dX6_sign_89 : decode cX6_sign 89 = .ok (.getfield 44, 3) := by decide +kernel
theorem dX6_sign_92 : decode cX6_sign 92 = .ok (.getfield 166, 3) := by decide +kernel
theorem dX6_sign_95 : decode cX6_sign 95 = .ok (.iload_n 2, 1) := by decide +kernel
theorem dX6_sign_96 : decode cX6_sign 96 = .ok (.iaload, 1) := by decide +kernel
theorem dX6_sign_97 : decode cX6_sign 97 = .ok (.goto 5, 3) := by decide +kernel
theorem dX6_sign_100 : decode cX6_sign 100 = .ok (.bipush (-6), 2) := by decide +kernel
theorem dX6_sign_102 : decode cX6_sign 102 = .ok (.ireturn, 1) := by decide +kernel
theorem dX6_image_0 : decode cX6_image 0 = .ok (.iload_n 1, 1) := by decide +kernel
theorem dX6_image_1 : decode cX6_image 1 = .ok (.ifCond .lt 8, 3) := by decide +kernel
theorem dX6_image_4 : decode cX6_image 4 = .ok (.iload_n 1, 1) := by decide +kernel
theorem dX6_image_5 : decode cX6_image 5 = .ok (.iconst 2, 1) := by decide +kernel
theorem dX6_image_6 : decode cX6_image 6 = .ok (.if_icmp .lt 6, 3) := by decide +kernel
theorem dX6_image_9 : decode cX6_image 9 = .ok (.bipush (-2), 2) := by decide +kernel
theorem dX6_image_11 : decode cX6_image 11 = .ok (.ireturn, 1) := by decide +kernel
theorem dX6_image_12 : decode cX6_image 12 = .ok (.aload_n 0, 1) := by decide +kernel
theorem dX6_image_13 : decode cX6_image 13 = .ok (.getfield 23, 3) := by decide +kernel
theorem dX6_image_16 : decode cX6_image 16 = .ok (.iload_n 1, 1) := by decide +kernel
theorem dX6_image_17 : decode cX6_image 17 = .ok (.aaload, 1) := by decide +kernel
theorem dX6_image_18 : decode cX6_image 18 = .ok (.astore_n 2, 1) := by decide +kernel
theorem dX6_image_19 : decode cX6_image 19 = .ok (.aload_n 2, 1) := by decide +kernel
theorem dX6_image_20 : decode cX6_image 20 = .ok (.ifnonnull 18, 3) := by decide +kernel
theorem dX6_image_23 : decode cX6_image 23 = .ok (.new 16, 3) := by decide +kernel
theorem dX6_image_26 : decode cX6_image 26 = .ok (.dup, 1) := by decide +kernel
theorem dX6_image_27 : decode cX6_image 27 = .ok (.invokespecial 18, 3) := by decide +kernel
theorem dX6_image_30 : decode cX6_image 30 = .ok (.astore_n 2, 1) := by decide +kernel
theorem dX6_image_31 : decode cX6_image 31 = .ok (.aload_n 0, 1) := by decide +kernel
theorem dX6_image_32 : decode cX6_image 32 = .ok (.getfield 23, 3) := by decide +kernel
theorem dX6_image_35 : decode cX6_image 35 = .ok (.iload_n 1, 1) := by decide +kernel
theorem dX6_image_36 : decode cX6_image 36 = .ok (.aload_n 2, 1) := by decide +kernel
theorem dX6_image_37 : decode cX6_image 37 = .ok (.aastore, 1) := by decide +kernel
theorem dX6_image_38 : decode cX6_image 38 = .ok (.aload_n 2, 1) := by decide +kernel
theorem dX6_image_39 : decode cX6_image 39 = .ok (.aload_n 0, 1) := by decide +kernel
theorem dX6_image_40 : decode cX6_image 40 = .ok (.getfield 19, 3) := by decide +kernel
theorem dX6_image_43 : decode cX6_image 43 = .ok (.invokevirtual 169, 3) := by decide +kernel
theorem dX6_image_46 : decode cX6_image 46 = .ok (.iconst 1, 1) := by decide +kernel
theorem dX6_image_47 : decode cX6_image 47 = .ok (.ireturn, 1) := by decide +kernel
theorem dX6_restore_0 : decode cX6_restore 0 = .ok (.iload_n 1, 1) := by decide +kernel
theorem dX6_restore_1 : decode cX6_restore 1 = .ok (.ifCond .lt 8, 3) := by decide +kernel
theorem dX6_restore_4 : decode cX6_restore 4 = .ok (.iload_n 1, 1) := by decide +kernel
theorem dX6_restore_5 : decode cX6_restore 5 = .ok (.iconst 2, 1) := by decide +kernel
theorem dX6_restore_6 : decode cX6_restore 6 = .ok (.if_icmp .lt 6, 3) := by decide +kernel
theorem dX6_restore_9 : decode cX6_restore 9 = .ok (.bipush (-2), 2) := by decide +kernel
theorem dX6_restore_11 : decode cX6_restore 11 = .ok (.ireturn, 1) := by decide +kernel
theorem dX6_restore_12 : decode cX6_restore 12 = .ok (.aload_n 0, 1) := by decide +kernel
theorem dX6_restore_13 : decode cX6_restore 13 = .ok (.getfield 23, 3) := by decide +kernel
theorem dX6_restore_16 : decode cX6_restore 16 = .ok (.iload_n 1, 1) := by decide +kernel
theorem dX6_restore_17 : decode cX6_restore 17 = .ok (.aaload, 1) := by decide +kernel
theorem dX6_restore_18 : decode cX6_restore 18 = .ok (.astore_n 2, 1) := by decide +kernel
theorem dX6_restore_19 : decode cX6_restore 19 = .ok (.aload_n 2, 1) := by decide +kernel
theorem dX6_restore_20 : decode cX6_restore 20 = .ok (.ifnonnull 6, 3) := by decide +kernel
theorem dX6_restore_23 : decode cX6_restore 23 = .ok (.bipush (-3), 2) := by decide +kernel
theorem dX6_restore_25 : decode cX6_restore 25 = .ok (.ireturn, 1) := by decide +kernel
theorem dX6_restore_26 : decode cX6_restore 26 = .ok (.aload_n 0, 1) := by decide +kernel
theorem dX6_restore_27 : decode cX6_restore 27 = .ok (.getfield 19, 3) := by decide +kernel
theorem dX6_restore_30 : decode cX6_restore 30 = .ok (.aload_n 2, 1) := by decide +kernel
theorem dX6_restore_31 : decode cX6_restore 31 = .ok (.invokevirtual 169, 3) := by decide +kernel
theorem dX6_restore_34 : decode cX6_restore 34 = .ok (.aload_n 0, 1) := by decide +kernel
theorem dX6_restore_35 : decode cX6_restore 35 = .ok (.invokevirtual 76, 3) := by decide +kernel
theorem dX6_restore_38 : decode cX6_restore 38 = .ok (.iconst 1, 1) := by decide +kernel
theorem dX6_restore_39 : decode cX6_restore 39 = .ok (.ireturn, 1) := by decide +kernel
theorem dX6_told_0 : decode cX6_told 0 = .ok (.iload_n 1, 1) := by decide +kernel
theorem dX6_told_1 : decode cX6_told 1 = .ok (.tableswitch 54 0 2 #[27, 35, 46], 27) := by decide +kernel
theorem dX6_told_28 : decode cX6_told 28 = .ok (.aload_n 0, 1) := by decide +kernel
theorem dX6_told_29 : decode cX6_told 29 = .ok (.getfield 10, 3) := by decide +kernel
theorem dX6_told_32 : decode cX6_told 32 = .ok (.getfield 52, 3) := by decide +kernel
theorem dX6_told_35 : decode cX6_told 35 = .ok (.ireturn, 1) := by decide +kernel
theorem dX6_told_36 : decode cX6_told 36 = .ok (.aload_n 0, 1) := by decide +kernel
theorem dX6_told_37 : decode cX6_told 37 = .ok (.getfield 19, 3) := by decide +kernel
theorem dX6_told_40 : decode cX6_told 40 = .ok (.getfield 66, 3) := by decide +kernel
theorem dX6_told_43 : decode cX6_told 43 = .ok (.getfield 86, 3) := by decide +kernel
theorem dX6_told_46 : decode cX6_told 46 = .ok (.ireturn, 1) := by decide +kernel
theorem dX6_told_47 : decode cX6_told 47 = .ok (.aload_n 0, 1) := by decide +kernel
theorem dX6_told_48 : decode cX6_told 48 = .ok (.getfield 19, 3) := by decide +kernel
theorem dX6_told_51 : decode cX6_told 51 = .ok (.getfield 95, 3) := by decide +kernel
theorem dX6_told_54 : decode cX6_told 54 = .ok (.ireturn, 1) := by decide +kernel
theorem dX6_told_55 : decode cX6_told 55 = .ok (.iload_n 1, 1) := by decide +kernel
theorem dX6_told_56 : decode cX6_told 56 = .ok (.iconst 3, 1) := by decide +kernel
theorem dX6_told_57 : decode cX6_told 57 = .ok (.if_icmp .lt 21, 3) := by decide +kernel
theorem dX6_told_60 : decode cX6_told 60 = .ok (.iload_n 1, 1) := by decide +kernel
theorem dX6_told_61 : decode cX6_told 61 = .ok (.bipush 7, 2) := by decide +kernel
theorem dX6_told_63 : decode cX6_told 63 = .ok (.if_icmp .ge 15, 3) := by decide +kernel
theorem dX6_told_66 : decode cX6_told 66 = .ok (.aload_n 0, 1) := by decide +kernel
theorem dX6_told_67 : decode cX6_told 67 = .ok (.getfield 19, 3) := by decide +kernel
theorem dX6_told_70 : decode cX6_told 70 = .ok (.getfield 109, 3) := by decide +kernel
theorem dX6_told_73 : decode cX6_told 73 = .ok (.iload_n 1, 1) := by decide +kernel
theorem dX6_told_74 : decode cX6_told 74 = .ok (.iconst 3, 1) := by decide +kernel
theorem dX6_told_75 : decode cX6_told 75 = .ok (.isub, 1) := by decide +kernel
theorem dX6_told_76 : decode cX6_told 76 = .ok (.iaload, 1) := by decide +kernel
theorem dX6_told_77 : decode cX6_told 77 = .ok (.ireturn, 1) := by decide +kernel
theorem dX6_told_78 : decode cX6_told 78 = .ok (.iload_n 1, 1) := by decide +kernel
theorem dX6_told_79 : decode cX6_told 79 = .ok (.bipush 10, 2) := by decide +kernel
theorem dX6_told_81 : decode cX6_told 81 = .ok (.if_icmp .lt 22, 3) := by decide +kernel
theorem dX6_told_84 : decode cX6_told 84 = .ok (.iload_n 1, 1) := by decide +kernel
theorem dX6_told_85 : decode cX6_told 85 = .ok (.bipush 34, 2) := by decide +kernel
theorem dX6_told_87 : decode cX6_told 87 = .ok (.if_icmp .ge 16, 3) := by decide +kernel
theorem dX6_told_90 : decode cX6_told 90 = .ok (.aload_n 0, 1) := by decide +kernel
theorem dX6_told_91 : decode cX6_told 91 = .ok (.getfield 19, 3) := by decide +kernel
theorem dX6_told_94 : decode cX6_told 94 = .ok (.getfield 102, 3) := by decide +kernel
theorem dX6_told_97 : decode cX6_told 97 = .ok (.iload_n 1, 1) := by decide +kernel
theorem dX6_told_98 : decode cX6_told 98 = .ok (.bipush 10, 2) := by decide +kernel
theorem dX6_told_100 : decode cX6_told 100 = .ok (.isub, 1) := by decide +kernel
theorem dX6_told_101 : decode cX6_told 101 = .ok (.iaload, 1) := by decide +kernel
theorem dX6_told_102 : decode cX6_told 102 = .ok (.ireturn, 1) := by decide +kernel
theorem dX6_told_103 : decode cX6_told 103 = .ok (.iload_n 1, 1) := by decide +kernel
theorem dX6_told_104 : decode cX6_told 104 = .ok (.bipush 100, 2) := by decide +kernel
theorem dX6_told_106 : decode cX6_told 106 = .ok (.if_icmp .lt 30, 3) := by decide +kernel
theorem dX6_told_109 : decode cX6_told 109 = .ok (.iload_n 1, 1) := by decide +kernel
theorem dX6_told_110 : decode cX6_told 110 = .ok (.bipush 100, 2) := by decide +kernel
theorem dX6_told_112 : decode cX6_told 112 = .ok (.isub, 1) := by decide +kernel
theorem dX6_told_113 : decode cX6_told 113 = .ok (.aload_n 0, 1) := by decide +kernel
theorem dX6_told_114 : decode cX6_told 114 = .ok (.getfield 19, 3) := by decide +kernel
theorem dX6_told_117 : decode cX6_told 117 = .ok (.getfield 95, 3) := by decide +kernel
theorem dX6_told_120 : decode cX6_told 120 = .ok (.if_icmp .ge 16, 3) := by decide +kernel
theorem dX6_told_123 : decode cX6_told 123 = .ok (.aload_n 0, 1) := by decide +kernel
theorem dX6_told_124 : decode cX6_told 124 = .ok (.getfield 19, 3) := by decide +kernel
theorem dX6_told_127 : decode cX6_told 127 = .ok (.getfield 173, 3) := by decide +kernel
theorem dX6_told_130 : decode cX6_told 130 = .ok (.iload_n 1, 1) := by decide +kernel
theorem dX6_told_131 : decode cX6_told 131 = .ok (.bipush 100, 2) := by decide +kernel
theorem dX6_told_133 : decode cX6_told 133 = .ok (.isub, 1) := by decide +kernel
theorem dX6_told_134 : decode cX6_told 134 = .ok (.iaload, 1) := by decide +kernel
theorem dX6_told_135 : decode cX6_told 135 = .ok (.ireturn, 1) := by decide +kernel
theorem dX6_told_136 : decode cX6_told 136 = .ok (.bipush (-2), 2) := by decide +kernel
theorem dX6_told_138 : decode cX6_told 138 = .ok (.ireturn, 1) := by decide +kernel
theorem dX6_isJoin_0 : decode cX6_isJoin 0 = .ok (.iload_n 0, 1) := by decide +kernel
theorem dX6_isJoin_1 : decode cX6_isJoin 1 = .ok (.ifCond .lt 17, 3) := by decide +kernel
theorem dX6_isJoin_4 : decode cX6_isJoin 4 = .ok (.iload_n 0, 1) := by decide +kernel
theorem dX6_isJoin_5 : decode cX6_isJoin 5 = .ok (.iconst 4, 1) := by decide +kernel
theorem dX6_isJoin_6 : decode cX6_isJoin 6 = .ok (.if_icmp .gt 12, 3) := by decide +kernel
theorem dX6_isJoin_9 : decode cX6_isJoin 9 = .ok (.iload_n 1, 1) := by decide +kernel
theorem dX6_isJoin_10 : decode cX6_isJoin 10 = .ok (.ifCond .lt 8, 3) := by decide +kernel
theorem dX6_isJoin_13 : decode cX6_isJoin 13 = .ok (.iload_n 1, 1) := by decide +kernel
theorem dX6_isJoin_14 : decode cX6_isJoin 14 = .ok (.iconst 4, 1) := by decide +kernel
theorem dX6_isJoin_15 : decode cX6_isJoin 15 = .ok (.if_icmp .le 5, 3) := by decide +kernel
theorem dX6_isJoin_18 : decode cX6_isJoin 18 = .ok (.iconst 0, 1) := by decide +kernel
theorem dX6_isJoin_19 : decode cX6_isJoin 19 = .ok (.ireturn, 1) := by decide +kernel
theorem dX6_isJoin_20 : decode cX6_isJoin 20 = .ok (.iload_n 0, 1) := by decide +kernel
theorem dX6_isJoin_21 : decode cX6_isJoin 21 = .ok (.iconst 4, 1) := by decide +kernel
theorem dX6_isJoin_22 : decode cX6_isJoin 22 = .ok (.if_icmp .ne 8, 3) := by decide +kernel
theorem dX6_isJoin_25 : decode cX6_isJoin 25 = .ok (.iload_n 1, 1) := by decide +kernel
theorem dX6_isJoin_26 : decode cX6_isJoin 26 = .ok (.iconst 4, 1) := by decide +kernel
theorem dX6_isJoin_27 : decode cX6_isJoin 27 = .ok (.if_icmp .eq 7, 3) := by decide +kernel
theorem dX6_isJoin_30 : decode cX6_isJoin 30 = .ok (.iconst 1, 1) := by decide +kernel
theorem dX6_isJoin_31 : decode cX6_isJoin 31 = .ok (.goto 4, 3) := by decide +kernel
theorem dX6_isJoin_34 : decode cX6_isJoin 34 = .ok (.iconst 0, 1) := by decide +kernel
theorem dX6_isJoin_35 : decode cX6_isJoin 35 = .ok (.ireturn, 1) := by decide +kernel
theorem dX6_hasLine_0 : decode cX6_hasLine 0 = .ok (.aload_n 0, 1) := by decide +kernel
theorem dX6_hasLine_1 : decode cX6_hasLine 1 = .ok (.getfield 19, 3) := by decide +kernel
theorem dX6_hasLine_4 : decode cX6_hasLine 4 = .ok (.getfield 95, 3) := by decide +kernel
theorem dX6_hasLine_7 : decode cX6_hasLine 7 = .ok (.ifCond .le 7, 3) := by decide +kernel
theorem dX6_hasLine_10 : decode cX6_hasLine 10 = .ok (.iconst 1, 1) := by decide +kernel
theorem dX6_hasLine_11 : decode cX6_hasLine 11 = .ok (.goto 4, 3) := by decide +kernel
theorem dX6_hasLine_14 : decode cX6_hasLine 14 = .ok (.iconst 0, 1) := by decide +kernel
theorem dX6_hasLine_15 : decode cX6_hasLine 15 = .ok (.ireturn, 1) := by decide +kernel
theorem dX6_somethingChanged_0 : decode cX6_somethingChanged 0 = .ok (.aload_n 0, 1) := by decide +kernel
theorem dX6_somethingChanged_1 : decode cX6_somethingChanged 1 = .ok (.iconst 0, 1) := by decide +kernel
theorem dX6_somethingChanged_2 : decode cX6_somethingChanged 2 = .ok (.putfield 176, 3) := by decide +kernel
theorem dX6_somethingChanged_5 : decode cX6_somethingChanged 5 = .ok (.aload_n 0, 1) := by decide +kernel
theorem dX6_somethingChanged_6 : decode cX6_somethingChanged 6 = .ok (.iconst 0, 1) := by decide +kernel
theorem dX6_somethingChanged_7 : decode cX6_somethingChanged 7 = .ok (.putfield 180, 3) := by decide +kernel
theorem dX6_somethingChanged_10 : decode cX6_somethingChanged 10 = .ok (.return_, 1) := by decide +kernel
theorem dX6_makeNet_0 : decode cX6_makeNet 0 = .ok (.aload_n 0, 1) := by decide +kernel
theorem dX6_makeNet_1 : decode cX6_makeNet 1 = .ok (.getfield 176, 3) := by decide +kernel
theorem dX6_makeNet_4 : decode cX6_makeNet 4 = .ok (.ifCond .ne 19, 3) := by decide +kernel
theorem dX6_makeNet_7 : decode cX6_makeNet 7 = .ok (.aload_n 0, 1) := by decide +kernel
theorem dX6_makeNet_8 : decode cX6_makeNet 8 = .ok (.getfield 30, 3) := by decide +kernel
theorem dX6_makeNet_11 : decode cX6_makeNet 11 = .ok (.aload_n 0, 1) := by decide +kernel
theorem dX6_makeNet_12 : decode cX6_makeNet 12 = .ok (.getfield 19, 3) := by decide +kernel
theorem dX6_makeNet_15 : decode cX6_makeNet 15 = .ok (.invokevirtual 183, 3) := by decide +kernel
theorem dX6_makeNet_18 : decode cX6_makeNet 18 = .ok (.aload_n 0, 1) := by decide +kernel
theorem dX6_makeNet_19 : decode cX6_makeNet 19 = .ok (.iconst 1, 1) := by decide +kernel
theorem dX6_makeNet_20 : decode cX6_makeNet 20 = .ok (.putfield 176, 3) := by decide +kernel
theorem dX6_makeNet_23 : decode cX6_makeNet 23 = .ok (.return_, 1) := by decide +kernel
theorem dX6_makeRanking_0 : decode cX6_makeRanking 0 = .ok (.aload_n 0, 1) := by decide +kernel
theorem dX6_makeRanking_1 : decode cX6_makeRanking 1 = .ok (.invokevirtual 116, 3) := by decide +kernel
theorem dX6_makeRanking_4 : decode cX6_makeRanking 4 = .ok (.aload_n 0, 1) := by decide +kernel
theorem dX6_makeRanking_5 : decode cX6_makeRanking 5 = .ok (.getfield 180, 3) := by decide +kernel
theorem dX6_makeRanking_8 : decode cX6_makeRanking 8 = .ok (.ifCond .ne 19, 3) := by decide +kernel
theorem dX6_makeRanking_11 : decode cX6_makeRanking 11 = .ok (.aload_n 0, 1) := by decide +kernel
theorem dX6_makeRanking_12 : decode cX6_makeRanking 12 = .ok (.getfield 37, 3) := by decide +kernel
theorem dX6_makeRanking_15 : decode cX6_makeRanking 15 = .ok (.aload_n 0, 1) := by decide +kernel
theorem dX6_makeRanking_16 : decode cX6_makeRanking 16 = .ok (.getfield 30, 3) := by decide +kernel
theorem dX6_makeRanking_19 : decode cX6_makeRanking 19 = .ok (.invokevirtual 186, 3) := by decide +kernel
theorem dX6_makeRanking_22 : decode cX6_makeRanking 22 = .ok (.aload_n 0, 1) := by decide +kernel
theorem dX6_makeRanking_23 : decode cX6_makeRanking 23 = .ok (.iconst 1, 1) := by decide +kernel
theorem dX6_makeRanking_24 : decode cX6_makeRanking 24 = .ok (.putfield 180, 3) := by decide +kernel
theorem dX6_makeRanking_27 : decode cX6_makeRanking 27 = .ok (.return_, 1) := by decide +kernel
end
section
theorem dX7_init_0 : decode cX7_init 0 = .ok (.aload_n 0, 1) := by decide +kernel
theorem dX7_init_1 : decode cX7_init 1 = .ok (.invokespecial 1, 3) := by decide +kernel
theorem dX7_init_4 : decode cX7_init 4 = .ok (.aload_n 0, 1) := by decide +kernel
theorem dX7_init_5 : decode cX7_init 5 = .ok (.bipush 96, 2) := by decide +kernel
theorem dX7_init_7 : decode cX7_init 7 = .ok (.newarray .int, 2) := by decide +kernel
theorem dX7_init_9 : decode cX7_init 9 = .ok (.putfield 7, 3) := by decide +kernel
theorem dX7_init_12 : decode cX7_init 12 = .ok (.aload_n 0, 1) := by decide +kernel
theorem dX7_init_13 : decode cX7_init 13 = .ok (.bipush 16, 2) := by decide +kernel
theorem dX7_init_15 : decode cX7_init 15 = .ok (.newarray .int, 2) := by decide +kernel
theorem dX7_init_17 : decode cX7_init 17 = .ok (.putfield 13, 3) := by decide +kernel
theorem dX7_init_20 : decode cX7_init 20 = .ok (.aload_n 0, 1) := by decide +kernel
theorem dX7_init_21 : decode cX7_init 21 = .ok (.bipush 16, 2) := by decide +kernel
theorem dX7_init_23 : decode cX7_init 23 = .ok (.newarray .int, 2) := by decide +kernel
theorem dX7_init_25 : decode cX7_init 25 = .ok (.putfield 16, 3) := by decide +kernel
theorem dX7_init_28 : decode cX7_init 28 = .ok (.aload_n 0, 1) := by decide +kernel
theorem dX7_init_29 : decode cX7_init 29 = .ok (.bipush 16, 2) := by decide +kernel
theorem dX7_init_31 : decode cX7_init 31 = .ok (.newarray .int, 2) := by decide +kernel
theorem dX7_init_33 : decode cX7_init 33 = .ok (.putfield 19, 3) := by decide +kernel
theorem dX7_init_36 : decode cX7_init 36 = .ok (.aload_n 0, 1) := by decide +kernel
theorem dX7_init_37 : decode cX7_init 37 = .ok (.bipush 25, 2) := by decide +kernel
theorem dX7_init_39 : decode cX7_init 39 = .ok (.newarray .int, 2) := by decide +kernel
theorem dX7_init_41 : decode cX7_init 41 = .ok (.putfield 22, 3) := by decide +kernel
theorem dX7_init_44 : decode cX7_init 44 = .ok (.aload_n 0, 1) := by decide +kernel
theorem dX7_init_45 : decode cX7_init 45 = .ok (.iconst 4, 1) := by decide +kernel
theorem dX7_init_46 : decode cX7_init 46 = .ok (.newarray .int, 2) := by decide +kernel
theorem dX7_init_48 : decode cX7_init 48 = .ok (.putfield 25, 3) := by decide +kernel
theorem dX7_init_51 : decode cX7_init 51 = .ok (.aload_n 0, 1) := by decide +kernel
theorem dX7_init_52 : decode cX7_init 52 = .ok (.bipush 24, 2) := by decide +kernel
theorem dX7_init_54 : decode cX7_init 54 = .ok (.newarray .int, 2) := by decide +kernel
theorem dX7_init_56 : decode cX7_init 56 = .ok (.putfield 28, 3) := by decide +kernel
theorem dX7_init_59 : decode cX7_init 59 = .ok (.aload_n 0, 1) := by decide +kernel
theorem dX7_init_60 : decode cX7_init 60 = .ok (.bipush 40, 2) := by decide +kernel
theorem dX7_init_62 : decode cX7_init 62 = .ok (.newarray .int, 2) := by decide +kernel
theorem dX7_init_64 : decode cX7_init 64 = .ok (.putfield 31, 3) := by decide +kernel
theorem dX7_init_67 : decode cX7_init 67 = .ok (.aload_n 0, 1) := by decide +kernel
theorem dX7_init_68 : decode cX7_init 68 = .ok (.sipush 480, 3) := by decide +kernel
theorem dX7_init_71 : decode cX7_init 71 = .ok (.newarray .int, 2) := by decide +kernel
theorem dX7_init_73 : decode cX7_init 73 = .ok (.putfield 34, 3) := by decide +kernel
theorem dX7_init_76 : decode cX7_init 76 = .ok (.aload_n 0, 1) := by decide +kernel
theorem dX7_init_77 : decode cX7_init 77 = .ok (.sipush 480, 3) := by decide +kernel
theorem dX7_init_80 : decode cX7_init 80 = .ok (.newarray .int, 2) := by decide +kernel
theorem dX7_init_82 : decode cX7_init 82 = .ok (.putfield 37, 3) := by decide +kernel
theorem dX7_init_85 : decode cX7_init 85 = .ok (.aload_n 0, 1) := by decide +kernel
theorem dX7_init_86 : decode cX7_init 86 = .ok (.sipush 480, 3) := by decide +kernel
theorem dX7_init_89 : decode cX7_init 89 = .ok (.newarray .int, 2) := by decide +kernel
theorem dX7_init_91 : decode cX7_init 91 = .ok (.putfield 40, 3) := by decide +kernel
theorem dX7_init_94 : decode cX7_init 94 = .ok (.aload_n 0, 1) := by decide +kernel
theorem dX7_init_95 : decode cX7_init 95 = .ok (.sipush 480, 3) := by decide +kernel
theorem dX7_init_98 : decode cX7_init 98 = .ok (.newarray .int, 2) := by decide +kernel
theorem dX7_init_100 : decode cX7_init 100 = .ok (.putfield 43, 3) := by decide +kernel
theorem dX7_init_103 : decode cX7_init 103 = .ok (.aload_n 0, 1) := by decide +kernel
theorem dX7_init_104 : decode cX7_init 104 = .ok (.sipush 480, 3) := by decide +kernel
theorem dX7_init_107 : decode cX7_init 107 = .ok (.newarray .int, 2) := by decide +kernel
theorem dX7_init_109 : decode cX7_init 109 = .ok (.putfield 46, 3) := by decide +kernel
theorem dX7_init_112 : decode cX7_init 112 = .ok (.aload_n 0, 1) := by decide +kernel
theorem dX7_init_113 : decode cX7_init 113 = .ok (.bipush 26, 2) := by decide +kernel
theorem dX7_init_115 : decode cX7_init 115 = .ok (.newarray .int, 2) := by decide +kernel
theorem dX7_init_117 : decode cX7_init 117 = .ok (.putfield 49, 3) := by decide +kernel
theorem dX7_init_120 : decode cX7_init 120 = .ok (.aload_n 0, 1) := by decide +kernel
theorem dX7_init_121 : decode cX7_init 121 = .ok (.sipush 5760, 3) := by decide +kernel
theorem dX7_init_124 : decode cX7_init 124 = .ok (.newarray .int, 2) := by decide +kernel
theorem dX7_init_126 : decode cX7_init 126 = .ok (.putfield 52, 3) := by decide +kernel
theorem dX7_init_129 : decode cX7_init 129 = .ok (.aload_n 0, 1) := by decide +kernel
theorem dX7_init_130 : decode cX7_init 130 = .ok (.sipush 5760, 3) := by decide +kernel
theorem dX7_init_133 : decode cX7_init 133 = .ok (.newarray .int, 2) := by decide +kernel
theorem dX7_init_135 : decode cX7_init 135 = .ok (.putfield 55, 3) := by decide +kernel
theorem dX7_init_138 : decode cX7_init 138 = .ok (.aload_n 0, 1) := by decide +kernel
theorem dX7_init_139 : decode cX7_init 139 = .ok (.sipush 480, 3) := by decide +kernel
theorem dX7_init_142 : decode cX7_init 142 = .ok (.newarray .int, 2) := by decide +kernel
theorem dX7_init_144 : decode cX7_init 144 = .ok (.putfield 58, 3) := by decide +kernel
theorem dX7_init_147 : decode cX7_init 147 = .ok (.aload_n 0, 1) := by decide +kernel
theorem dX7_init_148 : decode cX7_init 148 = .ok (.sipush 480, 3) := by decide +kernel
theorem dX7_init_151 : decode cX7_init 151 = .ok (.newarray .int, 2) := by decide +kernel
theorem dX7_init_153 : decode cX7_init 153 = .ok (.putfield 61, 3) := by decide +kernel
theorem dX7_init_156 : decode cX7_init 156 = .ok (.aload_n 0, 1) := by decide +kernel
theorem dX7_init_157 : decode cX7_init 157 = .ok (.bipush 26, 2) := by decide +kernel
theorem dX7_init_159 : decode cX7_init 159 = .ok (.newarray .int, 2) := by decide +kernel
theorem dX7_init_161 : decode cX7_init 161 = .ok (.putfield 64, 3) := by decide +kernel
theorem dX7_init_164 : decode cX7_init 164 = .ok (.aload_n 0, 1) := by decide +kernel
theorem dX7_init_165 : decode cX7_init 165 = .ok (.sipush 460, 3) := by decide +kernel
theorem dX7_init_168 : decode cX7_init 168 = .ok (.newarray .int, 2) := by decide +kernel
theorem dX7_init_170 : decode cX7_init 170 = .ok (.putfield 67, 3) := by decide +kernel
theorem dX7_init_173 : decode cX7_init 173 = .ok (.aload_n 0, 1) := by decide +kernel
theorem dX7_init_174 : decode cX7_init 174 = .ok (.iconst 2, 1) := by decide +kernel
theorem dX7_init_175 : decode cX7_init 175 = .ok (.newarray .boolean, 2) := by decide +kernel
theorem dX7_init_177 : decode cX7_init 177 = .ok (.putfield 70, 3) := by decide +kernel
theorem dX7_init_180 : decode cX7_init 180 = .ok (.aload_n 0, 1) := by decide +kernel
theorem dX7_init_181 : decode cX7_init 181 = .ok (.getfield 25, 3) := by decide +kernel
theorem dX7_init_184 : decode cX7_init 184 = .ok (.iconst 1, 1) := by decide +kernel
theorem dX7_init_185 : decode cX7_init 185 = .ok (.bipush 50, 2) := by decide +kernel
theorem dX7_init_187 : decode cX7_init 187 = .ok (.iastore, 1) := by decide +kernel
theorem dX7_init_188 : decode cX7_init 188 = .ok (.aload_n 0, 1) := by decide +kernel
theorem dX7_init_189 : decode cX7_init 189 = .ok (.getfield 25, 3) := by decide +kernel
theorem dX7_init_192 : decode cX7_init 192 = .ok (.iconst 2, 1) := by decide +kernel
theorem dX7_init_193 : decode cX7_init 193 = .ok (.bipush 10, 2) := by decide +kernel
theorem dX7_init_195 : decode cX7_init 195 = .ok (.iastore, 1) := by decide +kernel
theorem dX7_init_196 : decode cX7_init 196 = .ok (.aload_n 0, 1) := by decide +kernel
theorem dX7_init_197 : decode cX7_init 197 = .ok (.getfield 25, 3) := by decide +kernel
theorem dX7_init_200 : decode cX7_init 200 = .ok (.iconst 3, 1) := by decide +kernel
theorem dX7_init_201 : decode cX7_init 201 = .ok (.iconst 1, 1) := by decide +kernel
theorem dX7_init_202 : decode cX7_init 202 = .ok (.iastore, 1) := by decide +kernel
theorem dX7_init_203 : decode cX7_init 203 = .ok (.return_, 1) := by decide +kernel
theorem dX7_in_0 : decode cX7_in 0 = .ok (.iload_n 0, 1) := by decide +kernel
theorem dX7_in_1 : decode cX7_in 1 = .ok (.iload_n 1, 1) := by decide +kernel
theorem dX7_in_2 : decode cX7_in 2 = .ok (.if_icmp .lt 12, 3) := by decide +kernel
theorem dX7_in_5 : decode cX7_in 5 = .ok (.iload_n 0, 1) := by decide +kernel
theorem dX7_in_6 : decode cX7_in 6 = .ok (.iload_n 2, 1) := by decide +kernel
theorem dX7_in_7 : decode cX7_in 7 = .ok (.if_icmp .gt 7, 3) := by decide +kernel
theorem dX7_in_10 : decode cX7_in 10 = .ok (.iconst 1, 1) := by decide +kernel
theorem dX7_in_11 : decode cX7_in 11 = .ok (.goto 4, 3) := by decide +kernel
theorem dX7_in_14 : decode cX7_in 14 = .ok (.iconst 0, 1) := by decide +kernel
theorem dX7_in_15 : decode cX7_in 15 = .ok (.ireturn, 1) := by decide +kernel
theorem dX7_isLetter_0 : decode cX7_isLetter 0 = .ok (.iload_n 0, 1) := by decide +kernel
theorem dX7_isLetter_1 : decode cX7_isLetter 1 = .ok (.bipush 97, 2) := by decide +kernel
theorem dX7_isLetter_3 : decode cX7_isLetter 3 = .ok (.bipush 104, 2) := by decide +kernel
theorem dX7_isLetter_5 : decode cX7_isLetter 5 = .ok (.invokestatic 74, 3) := by decide +kernel
theorem dX7_isLetter_8 : decode cX7_isLetter 8 = .ok (.ireturn, 1) := by decide +kernel
theorem dX7_say_0 : decode cX7_say 0 = .ok (.iload_n 1, 1) := by decide +kernel
theorem dX7_say_1 : decode cX7_say 1 = .ok (.bipush 33, 2) := by decide +kernel
theorem dX7_say_3 : decode cX7_say 3 = .ok (.bipush 126, 2) := by decide +kernel
theorem dX7_say_5 : decode cX7_say 5 = .ok (.invokestatic 74, 3) := by decide +kernel
theorem dX7_say_8 : decode cX7_say 8 = .ok (.ifCond .ne 6, 3) := by decide +kernel
theorem dX7_say_11 : decode cX7_say 11 = .ok (.bipush (-2), 2) := by decide +kernel
theorem dX7_say_13 : decode cX7_say 13 = .ok (.ireturn, 1) := by decide +kernel
theorem dX7_say_14 : decode cX7_say 14 = .ok (.aload_n 0, 1) := by decide +kernel
theorem dX7_say_15 : decode cX7_say 15 = .ok (.getfield 78, 3) := by decide +kernel
theorem dX7_say_18 : decode cX7_say 18 = .ok (.bipush 40, 2) := by decide +kernel
theorem dX7_say_20 : decode cX7_say 20 = .ok (.if_icmp .ne 6, 3) := by decide +kernel
theorem dX7_say_23 : decode cX7_say 23 = .ok (.bipush (-4), 2) := by decide +kernel
theorem dX7_say_25 : decode cX7_say 25 = .ok (.ireturn, 1) := by decide +kernel
theorem dX7_say_26 : decode cX7_say 26 = .ok (.aload_n 0, 1) := by decide +kernel
theorem dX7_say_27 : decode cX7_say 27 = .ok (.getfield 31, 3) := by decide +kernel
theorem dX7_say_30 : decode cX7_say 30 = .ok (.aload_n 0, 1) := by decide +kernel
theorem dX7_say_31 : decode cX7_say 31 = .ok (.getfield 78, 3) := by decide +kernel
theorem dX7_say_34 : decode cX7_say 34 = .ok (.iload_n 1, 1) := by decide +kernel
theorem dX7_say_35 : decode cX7_say 35 = .ok (.iastore, 1) := by decide +kernel
theorem dX7_say_36 : decode cX7_say 36 = .ok (.aload_n 0, 1) := by decide +kernel
theorem dX7_say_37 : decode cX7_say 37 = .ok (.dup, 1) := by decide +kernel
theorem dX7_say_38 : decode cX7_say 38 = .ok (.getfield 78, 3) := by decide +kernel
theorem dX7_say_41 : decode cX7_say 41 = .ok (.iconst 1, 1) := by decide +kernel
theorem dX7_say_42 : decode cX7_say 42 = .ok (.iadd, 1) := by decide +kernel
theorem dX7_say_43 : decode cX7_say 43 = .ok (.putfield 78, 3) := by decide +kernel
theorem dX7_say_46 : decode cX7_say 46 = .ok (.aload_n 0, 1) := by decide +kernel
theorem dX7_say_47 : decode cX7_say 47 = .ok (.getfield 78, 3) := by decide +kernel
theorem dX7_say_50 : decode cX7_say 50 = .ok (.ireturn, 1) := by decide +kernel
theorem dX7_wipe_0 : decode cX7_wipe 0 = .ok (.aload_n 0, 1) := by decide +kernel
theorem dX7_wipe_1 : decode cX7_wipe 1 = .ok (.getfield 78, 3) := by decide +kernel
theorem dX7_wipe_4 : decode cX7_wipe 4 = .ok (.istore_n 1, 1) := by decide +kernel
theorem dX7_wipe_5 : decode cX7_wipe 5 = .ok (.aload_n 0, 1) := by decide +kernel
theorem dX7_wipe_6 : decode cX7_wipe 6 = .ok (.iconst 0, 1) := by decide +kernel
theorem dX7_wipe_7 : decode cX7_wipe 7 = .ok (.putfield 78, 3) := by decide +kernel
theorem dX7_wipe_10 : decode cX7_wipe 10 = .ok (.iload_n 1, 1) := by decide +kernel
theorem dX7_wipe_11 : decode cX7_wipe 11 = .ok (.ireturn, 1) := by decide +kernel
theorem dX7_name_0 : decode cX7_name 0 = .ok (.iconst 4, 1) := by decide +kernel
theorem dX7_name_1 : decode cX7_name 1 = .ok (.iload_n 0, 1) := by decide +kernel
theorem dX7_name_2 : decode cX7_name 2 = .ok (.imul, 1) := by decide +kernel
theorem dX7_name_3 : decode cX7_name 3 = .ok (.iload_n 1, 1) := by decide +kernel
theorem dX7_name_4 : decode cX7_name 4 = .ok (.iadd, 1) := by decide +kernel
theorem dX7_name_5 : decode cX7_name 5 = .ok (.tableswitch 92 0 10 #[59, 62, 65, 68, 71, 74, 77, 80, 83, 86, 89], 59) := by decide +kernel
theorem dX7_name_64 : decode cX7_name 64 = .ok (.bipush 110, 2) := by decide +kernel
theorem dX7_name_66 : decode cX7_name 66 = .ok (.ireturn, 1) := by decide +kernel
theorem dX7_name_67 : decode cX7_name 67 = .ok (.bipush 111, 2) := by decide +kernel
theorem dX7_name_69 : decode cX7_name 69 = .ok (.ireturn, 1) := by decide +kernel
theorem dX7_name_70 : decode cX7_name 70 = .ok (.bipush 117, 2) := by decide +kernel
theorem dX7_name_72 : decode cX7_name 72 = .ok (.ireturn, 1) := by decide +kernel
theorem dX7_name_73 : decode cX7_name 73 = .ok (.bipush 110, 2) := by decide +kernel
theorem dX7_name_75 : decode cX7_name 75 = .ok (.ireturn, 1) := by decide +kernel
theorem dX7_name_76 : decode cX7_name 76 = .ok (.bipush 118, 2) := by decide +kernel
theorem dX7_name_78 : decode cX7_name 78 = .ok (.ireturn, 1) := by decide +kernel
theorem dX7_name_79 : decode cX7_name 79 = .ok (.bipush 101, 2) := by decide +kernel
theorem dX7_name_81 : decode cX7_name 81 = .ok (.ireturn, 1) := by decide +kernel
theorem dX7_name_82 : decode cX7_name 82 = .ok (.bipush 114, 2) := by decide +kernel
theorem dX7_name_84 : decode cX7_name 84 = .ok (.ireturn, 1) := by decide +kernel
theorem dX7_name_85 : decode cX7_name 85 = .ok (.bipush 98, 2) := by decide +kernel
theorem dX7_name_87 : decode cX7_name 87 = .ok (.ireturn, 1) := by decide +kernel
theorem dX7_name_88 : decode cX7_name 88 = .ok (.bipush 109, 2) := by decide +kernel
theorem dX7_name_90 : decode cX7_name 90 = .ok (.ireturn, 1) := by decide +kernel
theorem dX7_name_91 : decode cX7_name 91 = .ok (.bipush 97, 2) := by decide +kernel
theorem dX7_name_93 : decode cX7_name 93 = .ok (.ireturn, 1) := by decide +kernel
theorem dX7_name_94 : decode cX7_name 94 = .ok (.bipush 114, 2) := by decide +kernel
theorem dX7_name_96 : decode cX7_name 96 = .ok (.ireturn, 1) := by decide +kernel
theorem dX7_name_97 : decode cX7_name 97 = .ok (.bipush 107, 2) := by decide +kernel
theorem dX7_name_99 : decode cX7_name 99 = .ok (.ireturn, 1) := by decide +kernel
theorem dX7_wordFault_0 : decode cX7_wordFault 0 = .ok (.iconst 0, 1) := by decide +kernel
theorem dX7_wordFault_1 : decode cX7_wordFault 1 = .ok (.istore_n 1, 1) := by decide +kernel
theorem dX7_wordFault_2 : decode cX7_wordFault 2 = .ok (.iload_n 1, 1) := by decide +kernel
theorem dX7_wordFault_3 : decode cX7_wordFault 3 = .ok (.aload_n 0, 1) := by decide +kernel
theorem dX7_wordFault_4 : decode cX7_wordFault 4 = .ok (.getfield 78, 3) := by decide +kernel
theorem dX7_wordFault_7 : decode cX7_wordFault 7 = .ok (.if_icmp .ge 27, 3) := by decide +kernel
theorem dX7_wordFault_10 : decode cX7_wordFault 10 = .ok (.iload_n 1, 1) := by decide +kernel
theorem dX7_wordFault_11 : decode cX7_wordFault 11 = .ok (.bipush 6, 2) := by decide +kernel
theorem dX7_wordFault_13 : decode cX7_wordFault 13 = .ok (.if_icmp .ge 21, 3) := by decide +kernel
theorem dX7_wordFault_16 : decode cX7_wordFault 16 = .ok (.aload_n 0, 1) := by decide +kernel
theorem dX7_wordFault_17 : decode cX7_wordFault 17 = .ok (.getfield 31, 3) := by decide +kernel
theorem dX7_wordFault_20 : decode cX7_wordFault 20 = .ok (.iload_n 1, 1) := by decide +kernel
theorem dX7_wordFault_21 : decode cX7_wordFault 21 = .ok (.iaload, 1) := by decide +kernel
theorem dX7_wordFault_22 : decode cX7_wordFault 22 = .ok (.invokestatic 82, 3) := by decide +kernel
theorem dX7_wordFault_25 : decode cX7_wordFault 25 = .ok (.ifCond .eq 9, 3) := by decide +kernel
theorem dX7_wordFault_28 : decode cX7_wordFault 28 = .ok (.iinc 1 1, 3) := by decide +kernel
theorem dX7_wordFault_31 : decode cX7_wordFault 31 = .ok (.goto (-29), 3) := by decide +kernel
theorem dX7_wordFault_34 : decode cX7_wordFault 34 = .ok (.aload_n 0, 1) := by decide +kernel
theorem dX7_wordFault_35 : decode cX7_wordFault 35 = .ok (.iload_n 1, 1) := by decide +kernel
theorem dX7_wordFault_36 : decode cX7_wordFault 36 = .ok (.putfield 86, 3) := by decide +kernel
theorem dX7_wordFault_39 : decode cX7_wordFault 39 = .ok (.iload_n 1, 1) := by decide +kernel
theorem dX7_wordFault_40 : decode cX7_wordFault 40 = .ok (.aload_n 0, 1) := by decide +kernel
theorem dX7_wordFault_41 : decode cX7_wordFault 41 = .ok (.getfield 78, 3) := by decide +kernel
theorem dX7_wordFault_44 : decode cX7_wordFault 44 = .ok (.if_icmp .eq 18, 3) := by decide +kernel
theorem dX7_wordFault_47 : decode cX7_wordFault 47 = .ok (.iload_n 1, 1) := by decide +kernel
theorem dX7_wordFault_48 : decode cX7_wordFault 48 = .ok (.ifCond .eq 14, 3) := by decide +kernel
theorem dX7_wordFault_51 : decode cX7_wordFault 51 = .ok (.aload_n 0, 1) := by decide +kernel
theorem dX7_wordFault_52 : decode cX7_wordFault 52 = .ok (.getfield 31, 3) := by decide +kernel
theorem dX7_wordFault_55 : decode cX7_wordFault 55 = .ok (.iload_n 1, 1) := by decide +kernel
theorem dX7_wordFault_56 : decode cX7_wordFault 56 = .ok (.iaload, 1) := by decide +kernel
theorem dX7_wordFault_57 : decode cX7_wordFault 57 = .ok (.bipush 61, 2) := by decide +kernel
theorem dX7_wordFault_59 : decode cX7_wordFault 59 = .ok (.if_icmp .eq 5, 3) := by decide +kernel
theorem dX7_wordFault_62 : decode cX7_wordFault 62 = .ok (.iload_n 1, 1) := by decide +kernel
theorem dX7_wordFault_63 : decode cX7_wordFault 63 = .ok (.ireturn, 1) := by decide +kernel
theorem dX7_wordFault_64 : decode cX7_wordFault 64 = .ok (.iinc 1 1, 3) := by decide +kernel
theorem dX7_wordFault_67 : decode cX7_wordFault 67 = .ok (.aload_n 0, 1) := by decide +kernel
theorem dX7_wordFault_68 : decode cX7_wordFault 68 = .ok (.bipush (-6), 2) := by decide +kernel
theorem dX7_wordFault_70 : decode cX7_wordFault 70 = .ok (.putfield 89, 3) := by decide +kernel
theorem dX7_wordFault_73 : decode cX7_wordFault 73 = .ok (.iconst 0, 1) := by decide +kernel
theorem dX7_wordFault_74 : decode cX7_wordFault 74 = .ok (.istore_n 2, 1) := by decide +kernel
theorem dX7_wordFault_75 : decode cX7_wordFault 75 = .ok (.iload_n 2, 1) := by decide +kernel
theorem dX7_wordFault_76 : decode cX7_wordFault 76 = .ok (.iconst 3, 1) := by decide +kernel
theorem dX7_wordFault_77 : decode cX7_wordFault 77 = .ok (.if_icmp .ge 43, 3) := by decide +kernel
theorem dX7_wordFault_80 : decode cX7_wordFault 80 = .ok (.iload_n 1, 1) := by decide +kernel
theorem dX7_wordFault_81 : decode cX7_wordFault 81 = .ok (.aload_n 0, 1) := by decide +kernel
theorem dX7_wordFault_82 : decode cX7_wordFault 82 = .ok (.getfield 78, 3) := by decide +kernel
theorem dX7_wordFault_85 : decode cX7_wordFault 85 = .ok (.if_icmp .ge 35, 3) := by decide +kernel
theorem dX7_wordFault_88 : decode cX7_wordFault 88 = .ok (.aload_n 0, 1) := by decide +kernel
theorem dX7_wordFault_89 : decode cX7_wordFault 89 = .ok (.aload_n 0, 1) := by decide +kernel
theorem dX7_wordFault_90 : decode cX7_wordFault 90 = .ok (.getfield 31, 3) := by decide +kernel
theorem dX7_wordFault_93 : decode cX7_wordFault 93 = .ok (.iload_n 1, 1) := by decide +kernel
theorem dX7_wordFault_94 : decode cX7_wordFault 94 = .ok (.iaload, 1) := by decide +kernel
theorem dX7_wordFault_95 : decode cX7_wordFault 95 = .ok (.iload_n 2, 1) := by decide +kernel
theorem dX7_wordFault_96 : decode cX7_wordFault 96 = .ok (.iconst 0, 1) := by decide +kernel
theorem dX7_wordFault_97 : decode cX7_wordFault 97 = .ok (.invokestatic 92, 3) := by decide +kernel
theorem dX7_wordFault_100 : decode cX7_wordFault 100 = .ok (.if_icmp .ne 7, 3) := by decide +kernel
theorem dX7_wordFault_103 : decode cX7_wordFault 103 = .ok (.iload_n 2, 1) := by decide +kernel
theorem dX7_wordFault_104 : decode cX7_wordFault 104 = .ok (.goto 7, 3) := by decide +kernel
theorem dX7_wordFault_107 : decode cX7_wordFault 107 = .ok (.aload_n 0, 1) := by decide +kernel
theorem dX7_wordFault_108 : decode cX7_wordFault 108 = .ok (.getfield 89, 3) := by decide +kernel
theorem dX7_wordFault_111 : decode cX7_wordFault 111 = .ok (.putfield 89, 3) := by decide +kernel
theorem dX7_wordFault_114 : decode cX7_wordFault 114 = .ok (.iinc 2 1, 3) := by decide +kernel
theorem dX7_wordFault_117 : decode cX7_wordFault 117 = .ok (.goto (-42), 3) := by decide +kernel
theorem dX7_wordFault_120 : decode cX7_wordFault 120 = .ok (.aload_n 0, 1) := by decide +kernel
theorem dX7_wordFault_121 : decode cX7_wordFault 121 = .ok (.getfield 89, 3) := by decide +kernel
theorem dX7_wordFault_124 : decode cX7_wordFault 124 = .ok (.ifCond .ge 5, 3) := by decide +kernel
theorem dX7_wordFault_127 : decode cX7_wordFault 127 = .ok (.iload_n 1, 1) := by decide +kernel
theorem dX7_wordFault_128 : decode cX7_wordFault 128 = .ok (.ireturn, 1) := by decide +kernel
theorem dX7_wordFault_129 : decode cX7_wordFault 129 = .ok (.iload_n 1, 1) := by decide +kernel
theorem dX7_wordFault_130 : decode cX7_wordFault 130 = .ok (.iconst 3, 1) := by decide +kernel
theorem dX7_wordFault_131 : decode cX7_wordFault 131 = .ok (.iadd, 1) := by decide +kernel
theorem dX7_wordFault_132 : decode cX7_wordFault 132 = .ok (.aload_n 0, 1) := by decide +kernel
theorem dX7_wordFault_133 : decode cX7_wordFault 133 = .ok (.getfield 78, 3) := by decide +kernel
theorem dX7_wordFault_136 : decode cX7_wordFault 136 = .ok (.if_icmp .ge 7, 3) := by decide +kernel
theorem dX7_wordFault_139 : decode cX7_wordFault 139 = .ok (.iconst 1, 1) := by decide +kernel
theorem dX7_wordFault_140 : decode cX7_wordFault 140 = .ok (.goto 4, 3) := by decide +kernel
theorem dX7_wordFault_143 : decode cX7_wordFault 143 = .ok (.iconst 0, 1) := by decide +kernel
theorem dX7_wordFault_144 : decode cX7_wordFault 144 = .ok (.istore_n 2, 1) := by decide +kernel
theorem dX7_wordFault_145 : decode cX7_wordFault 145 = .ok (.iconst 1, 1) := by decide +kernel
theorem dX7_wordFault_146 : decode cX7_wordFault 146 = .ok (.istore_n 3, 1) := by decide +kernel
theorem dX7_wordFault_147 : decode cX7_wordFault 147 = .ok (.iload_n 3, 1) := by decide +kernel
theorem dX7_wordFault_148 : decode cX7_wordFault 148 = .ok (.iconst 4, 1) := by decide +kernel
theorem dX7_wordFault_149 : decode cX7_wordFault 149 = .ok (.if_icmp .ge 38, 3) := by decide +kernel
theorem dX7_wordFault_152 : decode cX7_wordFault 152 = .ok (.iload_n 2, 1) := by decide +kernel
theorem dX7_wordFault_153 : decode cX7_wordFault 153 = .ok (.ifCond .eq 34, 3) := by decide +kernel
theorem dX7_wordFault_156 : decode cX7_wordFault 156 = .ok (.aload_n 0, 1) := by decide +kernel
theorem dX7_wordFault_157 : decode cX7_wordFault 157 = .ok (.getfield 31, 3) := by decide +kernel
theorem dX7_wordFault_160 : decode cX7_wordFault 160 = .ok (.iload_n 1, 1) := by decide +kernel
theorem dX7_wordFault_161 : decode cX7_wordFault 161 = .ok (.iload_n 3, 1) := by decide +kernel
theorem dX7_wordFault_162 : decode cX7_wordFault 162 = .ok (.iadd, 1) := by decide +kernel
theorem dX7_wordFault_163 : decode cX7_wordFault 163 = .ok (.iaload, 1) := by decide +kernel
theorem dX7_wordFault_164 : decode cX7_wordFault 164 = .ok (.aload_n 0, 1) := by decide +kernel
theorem dX7_wordFault_165 : decode cX7_wordFault 165 = .ok (.getfield 89, 3) := by decide +kernel
theorem dX7_wordFault_168 : decode cX7_wordFault 168 = .ok (.iload_n 3, 1) := by decide +kernel
theorem dX7_wordFault_169 : decode cX7_wordFault 169 = .ok (.invokestatic 92, 3) := by decide +kernel
theorem dX7_wordFault_172 : decode cX7_wordFault 172 = .ok (.if_icmp .ne 7, 3) := by decide +kernel
theorem dX7_wordFault_175 : decode cX7_wordFault 175 = .ok (.iconst 1, 1) := by decide +kernel
theorem dX7_wordFault_176 : decode cX7_wordFault 176 = .ok (.goto 4, 3) := by decide +kernel
theorem dX7_wordFault_179 : decode cX7_wordFault 179 = .ok (.iconst 0, 1) := by decide +kernel
theorem dX7_wordFault_180 : decode cX7_wordFault 180 = .ok (.istore_n 2, 1) := by decide +kernel
theorem dX7_wordFault_181 : decode cX7_wordFault 181 = .ok (.iinc 3 1, 3) := by decide +kernel
theorem dX7_wordFault_184 : decode cX7_wordFault 184 = .ok (.goto (-37), 3) := by decide +kernel
theorem dX7_wordFault_187 : decode cX7_wordFault 187 = .ok (.iload_n 1, 1) := by decide +kernel
theorem dX7_wordFault_188 : decode cX7_wordFault 188 = .ok (.iload_n 2, 1) := by decide +kernel
theorem dX7_wordFault_189 : decode cX7_wordFault 189 = .ok (.ifCond .eq 7, 3) := by decide +kernel
theorem dX7_wordFault_192 : decode cX7_wordFault 192 = .ok (.iconst 4, 1) := by decide +kernel
theorem dX7_wordFault_193 : decode cX7_wordFault 193 = .ok (.goto 4, 3) := by decide +kernel
theorem dX7_wordFault_196 : decode cX7_wordFault 196 = .ok (.iconst 1, 1) := by decide +kernel
theorem dX7_wordFault_197 : decode cX7_wordFault 197 = .ok (.iadd, 1) := by decide +kernel
theorem dX7_wordFault_198 : decode cX7_wordFault 198 = .ok (.istore_n 1, 1) := by decide +kernel
theorem dX7_wordFault_199 : decode cX7_wordFault 199 = .ok (.iload_n 1, 1) := by decide +kernel
theorem dX7_wordFault_200 : decode cX7_wordFault 200 = .ok (.aload_n 0, 1) := by decide +kernel
theorem dX7_wordFault_201 : decode cX7_wordFault 201 = .ok (.getfield 78, 3) := by decide +kernel
theorem dX7_wordFault_204 : decode cX7_wordFault 204 = .ok (.if_icmp .eq 19, 3) := by decide +kernel
theorem dX7_wordFault_207 : decode cX7_wordFault 207 = .ok (.aload_n 0, 1) := by decide +kernel
theorem dX7_wordFault_208 : decode cX7_wordFault 208 = .ok (.getfield 31, 3) := by decide +kernel
theorem dX7_wordFault_211 : decode cX7_wordFault 211 = .ok (.iload_n 1, 1) := by decide +kernel
theorem dX7_wordFault_212 : decode cX7_wordFault 212 = .ok (.iaload, 1) := by decide +kernel
theorem dX7_wordFault_213 : decode cX7_wordFault 213 = .ok (.bipush 48, 2) := by decide +kernel
theorem dX7_wordFault_215 : decode cX7_wordFault 215 = .ok (.bipush 57, 2) := by decide +kernel
theorem dX7_wordFault_217 : decode cX7_wordFault 217 = .ok (.invokestatic 74, 3) := by decide +kernel
theorem dX7_wordFault_220 : decode cX7_wordFault 220 = .ok (.ifCond .ne 5, 3) := by decide +kernel
theorem dX7_wordFault_223 : decode cX7_wordFault 223 = .ok (.iload_n 1, 1) := by decide +kernel
theorem dX7_wordFault_224 : decode cX7_wordFault 224 = .ok (.ireturn, 1) := by decide +kernel
theorem dX7_wordFault_225 : decode cX7_wordFault 225 = .ok (.aload_n 0, 1) := by decide +kernel
theorem dX7_wordFault_226 : decode cX7_wordFault 226 = .ok (.aload_n 0, 1) := by decide +kernel
theorem dX7_wordFault_227 : decode cX7_wordFault 227 = .ok (.getfield 31, 3) := by decide +kernel
theorem dX7_wordFault_230 : decode cX7_wordFault 230 = .ok (.iload_n 1, 1) := by decide +kernel
theorem dX7_wordFault_231 : decode cX7_wordFault 231 = .ok (.iaload, 1) := by decide +kernel
theorem dX7_wordFault_232 : decode cX7_wordFault 232 = .ok (.bipush 48, 2) := by decide +kernel
theorem dX7_wordFault_234 : decode cX7_wordFault 234 = .ok (.isub, 1) := by decide +kernel
theorem dX7_wordFault_235 : decode cX7_wordFault 235 = .ok (.putfield 96, 3) := by decide +kernel
theorem dX7_wordFault_238 : decode cX7_wordFault 238 = .ok (.iinc 1 1, 3) := by decide +kernel
theorem dX7_wordFault_241 : decode cX7_wordFault 241 = .ok (.iload_n 1, 1) := by decide +kernel
theorem dX7_wordFault_242 : decode cX7_wordFault 242 = .ok (.aload_n 0, 1) := by decide +kernel
theorem dX7_wordFault_243 : decode cX7_wordFault 243 = .ok (.getfield 78, 3) := by decide +kernel
theorem dX7_wordFault_246 : decode cX7_wordFault 246 = .ok (.if_icmp .ge 43, 3) := by decide +kernel
theorem dX7_wordFault_249 : decode cX7_wordFault 249 = .ok (.aload_n 0, 1) := by decide +kernel
theorem dX7_wordFault_250 : decode cX7_wordFault 250 = .ok (.getfield 31, 3) := by decide +kernel
theorem dX7_wordFault_253 : decode cX7_wordFault 253 = .ok (.iload_n 1, 1) := by decide +kernel
theorem dX7_wordFault_254 : decode cX7_wordFault 254 = .ok (.iaload, 1) := by decide +kernel
theorem dX7_wordFault_255 : decode cX7_wordFault 255 = .ok (.bipush 48, 2) := by decide +kernel
theorem dX7_wordFault_257 : decode cX7_wordFault 257 = .ok (.bipush 57, 2) := by decide +kernel
theorem dX7_wordFault_259 : decode cX7_wordFault 259 = .ok (.invokestatic 74, 3) := by decide +kernel
theorem dX7_wordFault_262 : decode cX7_wordFault 262 = .ok (.ifCond .eq 27, 3) := by decide +kernel
theorem dX7_wordFault_265 : decode cX7_wordFault 265 = .ok (.aload_n 0, 1) := by decide +kernel
theorem dX7_wordFault_266 : decode cX7_wordFault 266 = .ok (.bipush 10, 2) := by decide +kernel
theorem dX7_wordFault_268 : decode cX7_wordFault 268 = .ok (.aload_n 0, 1) := by decide +kernel
theorem dX7_wordFault_269 : decode cX7_wordFault 269 = .ok (.getfield 96, 3) := by decide +kernel
theorem dX7_wordFault_272 : decode cX7_wordFault 272 = .ok (.imul, 1) := by decide +kernel
theorem dX7_wordFault_273 : decode cX7_wordFault 273 = .ok (.aload_n 0, 1) := by decide +kernel
theorem dX7_wordFault_274 : decode cX7_wordFault 274 = .ok (.getfield 31, 3) := by decide +kernel
theorem dX7_wordFault_277 : decode cX7_wordFault 277 = .ok (.iload_n 1, 1) := by decide +kernel
theorem dX7_wordFault_278 : decode cX7_wordFault 278 = .ok (.iaload, 1) := by decide +kernel
theorem dX7_wordFault_279 : decode cX7_wordFault 279 = .ok (.iadd, 1) := by decide +kernel
theorem dX7_wordFault_280 : decode cX7_wordFault 280 = .ok (.bipush 48, 2) := by decide +kernel
theorem dX7_wordFault_282 : decode cX7_wordFault 282 = .ok (.isub, 1) := by decide +kernel
theorem dX7_wordFault_283 : decode cX7_wordFault 283 = .ok (.putfield 96, 3) := by decide +kernel
theorem dX7_wordFault_286 : decode cX7_wordFault 286 = .ok (.iinc 1 1, 3) := by decide +kernel
theorem dX7_wordFault_289 : decode cX7_wordFault 289 = .ok (.iload_n 1, 1) := by decide +kernel
theorem dX7_wordFault_290 : decode cX7_wordFault 290 = .ok (.aload_n 0, 1) := by decide +kernel
theorem dX7_wordFault_291 : decode cX7_wordFault 291 = .ok (.getfield 78, 3) := by decide +kernel
theorem dX7_wordFault_294 : decode cX7_wordFault 294 = .ok (.if_icmp .ge 7, 3) := by decide +kernel
theorem dX7_wordFault_297 : decode cX7_wordFault 297 = .ok (.iload_n 1, 1) := by decide +kernel
theorem dX7_wordFault_298 : decode cX7_wordFault 298 = .ok (.goto 5, 3) := by decide +kernel
theorem dX7_wordFault_301 : decode cX7_wordFault 301 = .ok (.bipush (-6), 2) := by decide +kernel
theorem dX7_wordFault_303 : decode cX7_wordFault 303 = .ok (.ireturn, 1) := by decide +kernel
theorem dX7_lineFault_0 : decode cX7_lineFault 0 = .ok (.iconst 0, 1) := by decide +kernel
theorem dX7_lineFault_1 : decode cX7_lineFault 1 = .ok (.istore_n 1, 1) := by decide +kernel
theorem dX7_lineFault_2 : decode cX7_lineFault 2 = .ok (.iload_n 1, 1) := by decide +kernel
theorem dX7_lineFault_3 : decode cX7_lineFault 3 = .ok (.aload_n 0, 1) := by decide +kernel
theorem dX7_lineFault_4 : decode cX7_lineFault 4 = .ok (.getfield 78, 3) := by decide +kernel
theorem dX7_lineFault_7 : decode cX7_lineFault 7 = .ok (.if_icmp .ge 29, 3) := by decide +kernel
theorem dX7_lineFault_10 : decode cX7_lineFault 10 = .ok (.aload_n 0, 1) := by decide +kernel
theorem dX7_lineFault_11 : decode cX7_lineFault 11 = .ok (.getfield 31, 3) := by decide +kernel
theorem dX7_lineFault_14 : decode cX7_lineFault 14 = .ok (.iload_n 1, 1) := by decide +kernel
theorem dX7_lineFault_15 : decode cX7_lineFault 15 = .ok (.iaload, 1) := by decide +kernel
theorem dX7_lineFault_16 : decode cX7_lineFault 16 = .ok (.invokestatic 82, 3) := by decide +kernel
theorem dX7_lineFault_19 : decode cX7_lineFault 19 = .ok (.ifCond .eq 9, 3) := by decide +kernel
theorem dX7_lineFault_22 : decode cX7_lineFault 22 = .ok (.iload_n 1, 1) := by decide +kernel
theorem dX7_lineFault_23 : decode cX7_lineFault 23 = .ok (.bipush 24, 2) := by decide +kernel
theorem dX7_lineFault_25 : decode cX7_lineFault 25 = .ok (.if_icmp .ne 5, 3) := by decide +kernel
theorem dX7_lineFault_28 : decode cX7_lineFault 28 = .ok (.iload_n 1, 1) := by decide +kernel
theorem dX7_lineFault_29 : decode cX7_lineFault 29 = .ok (.ireturn, 1) := by decide +kernel
theorem dX7_lineFault_30 : decode cX7_lineFault 30 = .ok (.iinc 1 1, 3) := by decide +kernel
theorem dX7_lineFault_33 : decode cX7_lineFault 33 = .ok (.goto (-31), 3) := by decide +kernel
theorem dX7_lineFault_36 : decode cX7_lineFault 36 = .ok (.aload_n 0, 1) := by decide +kernel
theorem dX7_lineFault_37 : decode cX7_lineFault 37 = .ok (.getfield 78, 3) := by decide +kernel
theorem dX7_lineFault_40 : decode cX7_lineFault 40 = .ok (.ifCond .ne 7, 3) := by decide +kernel
theorem dX7_lineFault_43 : decode cX7_lineFault 43 = .ok (.iconst 0, 1) := by decide +kernel
theorem dX7_lineFault_44 : decode cX7_lineFault 44 = .ok (.goto 5, 3) := by decide +kernel
theorem dX7_lineFault_47 : decode cX7_lineFault 47 = .ok (.bipush (-6), 2) := by decide +kernel
theorem dX7_lineFault_49 : decode cX7_lineFault 49 = .ok (.ireturn, 1) := by decide +kernel
theorem dX7_fault_0 : decode cX7_fault 0 = .ok (.iload_n 1, 1) := by decide +kernel
theorem dX7_fault_1 : decode cX7_fault 1 = .ok (.ifCond .ne 10, 3) := by decide +kernel
theorem dX7_fault_4 : decode cX7_fault 4 = .ok (.aload_n 0, 1) := by decide +kernel
theorem dX7_fault_5 : decode cX7_fault 5 = .ok (.invokevirtual 99, 3) := by decide +kernel
theorem dX7_fault_8 : decode cX7_fault 8 = .ok (.goto 17, 3) := by decide +kernel
theorem dX7_fault_11 : decode cX7_fault 11 = .ok (.iload_n 1, 1) := by decide +kernel
theorem dX7_fault_12 : decode cX7_fault 12 = .ok (.iconst 1, 1) := by decide +kernel
theorem dX7_fault_13 : decode cX7_fault 13 = .ok (.if_icmp .ne 10, 3) := by decide +kernel
theorem dX7_fault_16 : decode cX7_fault 16 = .ok (.aload_n 0, 1) := by decide +kernel
theorem dX7_fault_17 : decode cX7_fault 17 = .ok (.invokevirtual 103, 3) := by decide +kernel
theorem dX7_fault_20 : decode cX7_fault 20 = .ok (.goto 5, 3) := by decide +kernel
theorem dX7_fault_23 : decode cX7_fault 23 = .ok (.bipush (-2), 2) := by decide +kernel
theorem dX7_fault_25 : decode cX7_fault 25 = .ok (.ireturn, 1) := by decide +kernel
theorem dX7_learn_0 : decode cX7_learn 0 = .ok (.aload_n 0, 1) := by decide +kernel
theorem dX7_learn_1 : decode cX7_learn 1 = .ok (.invokevirtual 99, 3) := by decide +kernel
theorem dX7_learn_4 : decode cX7_learn 4 = .ok (.ifCond .lt 6, 3) := by decide +kernel
theorem dX7_learn_7 : decode cX7_learn 7 = .ok (.bipush (-5), 2) := by decide +kernel
theorem dX7_learn_9 : decode cX7_learn 9 = .ok (.ireturn, 1) := by decide +kernel
theorem dX7_learn_10 : decode cX7_learn 10 = .ok (.bipush (-6), 2) := by decide +kernel
theorem dX7_learn_12 : decode cX7_learn 12 = .ok (.istore_n 1, 1) := by decide +kernel
theorem dX7_learn_13 : decode cX7_learn 13 = .ok (.iconst 0, 1) := by decide +kernel
theorem dX7_learn_14 : decode cX7_learn 14 = .ok (.istore_n 2, 1) := by decide +kernel
theorem dX7_learn_15 : decode cX7_learn 15 = .ok (.iload_n 2, 1) := by decide +kernel
theorem dX7_learn_16 : decode cX7_learn 16 = .ok (.aload_n 0, 1) := by decide +kernel
theorem dX7_learn_17 : decode cX7_learn 17 = .ok (.getfield 106, 3) := by decide +kernel
theorem dX7_learn_20 : decode cX7_learn 20 = .ok (.if_icmp .ge 101, 3) := by decide +kernel
theorem dX7_learn_23 : decode cX7_learn 23 = .ok (.aload_n 0, 1) := by decide +kernel
theorem dX7_learn_24 : decode cX7_learn 24 = .ok (.getfield 13, 3) := by decide +kernel
theorem dX7_learn_27 : decode cX7_learn 27 = .ok (.iload_n 2, 1) := by decide +kernel
theorem dX7_learn_28 : decode cX7_learn 28 = .ok (.iaload, 1) := by decide +kernel
theorem dX7_learn_29 : decode cX7_learn 29 = .ok (.aload_n 0, 1) := by decide +kernel
theorem dX7_learn_30 : decode cX7_learn 30 = .ok (.getfield 86, 3) := by decide +kernel
theorem dX7_learn_33 : decode cX7_learn 33 = .ok (.if_icmp .ne 20, 3) := by decide +kernel
theorem dX7_learn_36 : decode cX7_learn 36 = .ok (.aload_n 0, 1) := by decide +kernel
theorem dX7_learn_37 : decode cX7_learn 37 = .ok (.getfield 16, 3) := by decide +kernel
theorem dX7_learn_40 : decode cX7_learn 40 = .ok (.iload_n 2, 1) := by decide +kernel
theorem dX7_learn_41 : decode cX7_learn 41 = .ok (.iaload, 1) := by decide +kernel
theorem dX7_learn_42 : decode cX7_learn 42 = .ok (.aload_n 0, 1) := by decide +kernel
theorem dX7_learn_43 : decode cX7_learn 43 = .ok (.getfield 89, 3) := by decide +kernel
theorem dX7_learn_46 : decode cX7_learn 46 = .ok (.if_icmp .ne 7, 3) := by decide +kernel
theorem dX7_learn_49 : decode cX7_learn 49 = .ok (.iconst 1, 1) := by decide +kernel
theorem dX7_learn_50 : decode cX7_learn 50 = .ok (.goto 4, 3) := by decide +kernel
theorem dX7_learn_53 : decode cX7_learn 53 = .ok (.iconst 0, 1) := by decide +kernel
theorem dX7_learn_54 : decode cX7_learn 54 = .ok (.istore_n 3, 1) := by decide +kernel
theorem dX7_learn_55 : decode cX7_learn 55 = .ok (.iconst 0, 1) := by decide +kernel
theorem dX7_learn_56 : decode cX7_learn 56 = .ok (.istore 4, 2) := by decide +kernel
theorem dX7_learn_58 : decode cX7_learn 58 = .ok (.iload 4, 2) := by decide +kernel
theorem dX7_learn_60 : decode cX7_learn 60 = .ok (.aload_n 0, 1) := by decide +kernel
theorem dX7_learn_61 : decode cX7_learn 61 = .ok (.getfield 86, 3) := by decide +kernel
theorem dX7_learn_64 : decode cX7_learn 64 = .ok (.if_icmp .ge 41, 3) := by decide +kernel
theorem dX7_learn_67 : decode cX7_learn 67 = .ok (.iload_n 3, 1) := by decide +kernel
theorem dX7_learn_68 : decode cX7_learn 68 = .ok (.ifCond .eq 37, 3) := by decide +kernel
theorem dX7_learn_71 : decode cX7_learn 71 = .ok (.aload_n 0, 1) := by decide +kernel
theorem dX7_learn_72 : decode cX7_learn 72 = .ok (.getfield 7, 3) := by decide +kernel
theorem dX7_learn_75 : decode cX7_learn 75 = .ok (.bipush 6, 2) := by decide +kernel
theorem dX7_learn_77 : decode cX7_learn 77 = .ok (.iload_n 2, 1) := by decide +kernel
theorem dX7_learn_78 : decode cX7_learn 78 = .ok (.imul, 1) := by decide +kernel
theorem dX7_learn_79 : decode cX7_learn 79 = .ok (.iload 4, 2) := by decide +kernel
theorem dX7_learn_81 : decode cX7_learn 81 = .ok (.iadd, 1) := by decide +kernel
theorem dX7_learn_82 : decode cX7_learn 82 = .ok (.iaload, 1) := by decide +kernel
theorem dX7_learn_83 : decode cX7_learn 83 = .ok (.aload_n 0, 1) := by decide +kernel
theorem dX7_learn_84 : decode cX7_learn 84 = .ok (.getfield 31, 3) := by decide +kernel
theorem dX7_learn_87 : decode cX7_learn 87 = .ok (.iload 4, 2) := by decide +kernel
theorem dX7_learn_89 : decode cX7_learn 89 = .ok (.iaload, 1) := by decide +kernel
theorem dX7_learn_90 : decode cX7_learn 90 = .ok (.if_icmp .ne 7, 3) := by decide +kernel
theorem dX7_learn_93 : decode cX7_learn 93 = .ok (.iconst 1, 1) := by decide +kernel
theorem dX7_learn_94 : decode cX7_learn 94 = .ok (.goto 4, 3) := by decide +kernel
theorem dX7_learn_97 : decode cX7_learn 97 = .ok (.iconst 0, 1) := by decide +kernel
theorem dX7_learn_98 : decode cX7_learn 98 = .ok (.istore_n 3, 1) := by decide +kernel
theorem dX7_learn_99 : decode cX7_learn 99 = .ok (.iinc 4 1, 3) := by decide +kernel
theorem dX7_learn_102 : decode cX7_learn 102 = .ok (.goto (-44), 3) := by decide +kernel
theorem dX7_learn_105 : decode cX7_learn 105 = .ok (.iload_n 3, 1) := by decide +kernel
theorem dX7_learn_106 : decode cX7_learn 106 = .ok (.ifCond .eq 7, 3) := by decide +kernel
theorem dX7_learn_109 : decode cX7_learn 109 = .ok (.iload_n 2, 1) := by decide +kernel
theorem dX7_learn_110 : decode cX7_learn 110 = .ok (.goto 4, 3) := by decide +kernel
theorem dX7_learn_113 : decode cX7_learn 113 = .ok (.iload_n 1, 1) := by decide +kernel
theorem dX7_learn_114 : decode cX7_learn 114 = .ok (.istore_n 1, 1) := by decide +kernel
theorem dX7_learn_115 : decode cX7_learn 115 = .ok (.iinc 2 1, 3) := by decide +kernel
theorem dX7_learn_118 : decode cX7_learn 118 = .ok (.goto (-103), 3) := by decide +kernel
theorem dX7_learn_121 : decode cX7_learn 121 = .ok (.iload_n 1, 1) := by decide +kernel
theorem dX7_learn_122 : decode cX7_learn 122 = .ok (.ifCond .ge 15, 3) := by decide +kernel
theorem dX7_learn_125 : decode cX7_learn 125 = .ok (.aload_n 0, 1) := by decide +kernel
theorem dX7_learn_126 : decode cX7_learn 126 = .ok (.getfield 106, 3) := by decide +kernel
theorem dX7_learn_129 : decode cX7_learn 129 = .ok (.bipush 16, 2) := by decide +kernel
theorem dX7_learn_131 : decode cX7_learn 131 = .ok (.if_icmp .ne 6, 3) := by decide +kernel
theorem dX7_learn_134 : decode cX7_learn 134 = .ok (.bipush (-4), 2) := by decide +kernel
theorem dX7_learn_136 : decode cX7_learn 136 = .ok (.ireturn, 1) := by decide +kernel
theorem dX7_learn_137 : decode cX7_learn 137 = .ok (.iload_n 1, 1) := by decide +kernel
theorem dX7_learn_138 : decode cX7_learn 138 = .ok (.ifCond .ge 18, 3) := by decide +kernel
theorem dX7_learn_141 : decode cX7_learn 141 = .ok (.aload_n 0, 1) := by decide +kernel
theorem dX7_learn_142 : decode cX7_learn 142 = .ok (.getfield 106, 3) := by decide +kernel
theorem dX7_learn_145 : decode cX7_learn 145 = .ok (.istore_n 1, 1) := by decide +kernel
theorem dX7_learn_146 : decode cX7_learn 146 = .ok (.aload_n 0, 1) := by decide +kernel
theorem dX7_learn_147 : decode cX7_learn 147 = .ok (.dup, 1) := by decide +kernel
theorem dX7_learn_148 : decode cX7_learn 148 = .ok (.getfield 106, 3) := by decide +kernel
theorem dX7_learn_151 : decode cX7_learn 151 = .ok (.iconst 1, 1) := by decide +kernel
theorem dX7_learn_152 : decode cX7_learn 152 = .ok (.iadd, 1) := by decide +kernel
theorem dX7_learn_153 : decode cX7_learn 153 = .ok (.putfield 106, 3) := by decide +kernel
theorem dX7_learn_156 : decode cX7_learn 156 = .ok (.iconst 0, 1) := by decide +kernel
theorem dX7_learn_157 : decode cX7_learn 157 = .ok (.istore_n 2, 1) := by decide +kernel
theorem dX7_learn_158 : decode cX7_learn 158 = .ok (.iload_n 2, 1) := by decide +kernel
theorem dX7_learn_159 : decode cX7_learn 159 = .ok (.aload_n 0, 1) := by decide +kernel
theorem dX7_learn_160 : decode cX7_learn 160 = .ok (.getfield 86, 3) := by decide +kernel
theorem dX7_learn_163 : decode cX7_learn 163 = .ok (.if_icmp .ge 26, 3) := by decide +kernel
theorem dX7_learn_166 : decode cX7_learn 166 = .ok (.aload_n 0, 1) := by decide +kernel
theorem dX7_learn_167 : decode cX7_learn 167 = .ok (.getfield 7, 3) := by decide +kernel
theorem dX7_learn_170 : decode cX7_learn 170 = .ok (.bipush 6, 2) := by decide +kernel
theorem dX7_learn_172 : decode cX7_learn 172 = .ok (.iload_n 1, 1) := by decide +kernel
theorem dX7_learn_173 : decode cX7_learn 173 = .ok (.imul, 1) := by decide +kernel
theorem dX7_learn_174 : decode cX7_learn 174 = .ok (.iload_n 2, 1) := by decide +kernel
theorem dX7_learn_175 : decode cX7_learn 175 = .ok (.iadd, 1) := by decide +kernel
theorem dX7_learn_176 : decode cX7_learn 176 = .ok (.aload_n 0, 1) := by decide +kernel
theorem dX7_learn_177 : decode cX7_learn 177 = .ok (.getfield 31, 3) := by decide +kernel
theorem dX7_learn_180 : decode cX7_learn 180 = .ok (.iload_n 2, 1) := by decide +kernel
theorem dX7_learn_181 : decode cX7_learn 181 = .ok (.iaload, 1) := by decide +kernel
theorem dX7_learn_182 : decode cX7_learn 182 = .ok (.iastore, 1) := by decide +kernel
theorem dX7_learn_183 : decode cX7_learn 183 = .ok (.iinc 2 1, 3) := by decide +kernel
theorem dX7_learn_186 : decode cX7_learn 186 = .ok (.goto (-28), 3) := by decide +kernel
theorem dX7_learn_189 : decode cX7_learn 189 = .ok (.aload_n 0, 1) := by decide +kernel
theorem dX7_learn_190 : decode cX7_learn 190 = .ok (.getfield 13, 3) := by decide +kernel
theorem dX7_learn_193 : decode cX7_learn 193 = .ok (.iload_n 1, 1) := by decide +kernel
theorem dX7_learn_194 : decode cX7_learn 194 = .ok (.aload_n 0, 1) := by decide +kernel
theorem dX7_learn_195 : decode cX7_learn 195 = .ok (.getfield 86, 3) := by decide +kernel
theorem dX7_learn_198 : decode cX7_learn 198 = .ok (.iastore, 1) := by decide +kernel
theorem dX7_learn_199 : decode cX7_learn 199 = .ok (.aload_n 0, 1) := by decide +kernel
theorem dX7_learn_200 : decode cX7_learn 200 = .ok (.getfield 16, 3) := by decide +kernel
theorem dX7_learn_203 : decode cX7_learn 203 = .ok (.iload_n 1, 1) := by decide +kernel
theorem dX7_learn_204 : decode cX7_learn 204 = .ok (.aload_n 0, 1) := by decide +kernel
theorem dX7_learn_205 : decode cX7_learn 205 = .ok (.getfield 89, 3) := by decide +kernel
theorem dX7_learn_208 : decode cX7_learn 208 = .ok (.iastore, 1) := by decide +kernel
theorem dX7_learn_209 : decode cX7_learn 209 = .ok (.aload_n 0, 1) := by decide +kernel
theorem dX7_learn_210 : decode cX7_learn 210 = .ok (.getfield 19, 3) := by decide +kernel
theorem dX7_learn_213 : decode cX7_learn 213 = .ok (.iload_n 1, 1) := by decide +kernel
theorem dX7_learn_214 : decode cX7_learn 214 = .ok (.aload_n 0, 1) := by decide +kernel
theorem dX7_learn_215 : decode cX7_learn 215 = .ok (.getfield 96, 3) := by decide +kernel
theorem dX7_learn_218 : decode cX7_learn 218 = .ok (.iastore, 1) := by decide +kernel
theorem dX7_learn_219 : decode cX7_learn 219 = .ok (.aload_n 0, 1) := by decide +kernel
theorem dX7_learn_220 : decode cX7_learn 220 = .ok (.iconst 0, 1) := by decide +kernel
theorem dX7_learn_221 : decode cX7_learn 221 = .ok (.putfield 78, 3) := by decide +kernel
theorem dX7_learn_224 : decode cX7_learn 224 = .ok (.iload_n 1, 1) := by decide +kernel
theorem dX7_learn_225 : decode cX7_learn 225 = .ok (.ireturn, 1) := by decide +kernel
theorem dX7_forget_0 : decode cX7_forget 0 = .ok (.iload_n 1, 1) := by decide +kernel
theorem dX7_forget_1 : decode cX7_forget 1 = .ok (.iconst 0, 1) := by decide +kernel
theorem dX7_forget_2 : decode cX7_forget 2 = .ok (.aload_n 0, 1) := by decide +kernel
theorem dX7_forget_3 : decode cX7_forget 3 = .ok (.getfield 106, 3) := by decide +kernel
theorem dX7_forget_6 : decode cX7_forget 6 = .ok (.iconst 1, 1) := by decide +kernel
theorem dX7_forget_7 : decode cX7_forget 7 = .ok (.isub, 1) := by decide +kernel
theorem dX7_forget_8 : decode cX7_forget 8 = .ok (.invokestatic 74, 3) := by decide +kernel
theorem dX7_forget_11 : decode cX7_forget 11 = .ok (.ifCond .ne 5, 3) := by decide +kernel
theorem dX7_forget_14 : decode cX7_forget 14 = .ok (.iconst (-1), 1) := by decide +kernel
theorem dX7_forget_15 : decode cX7_forget 15 = .ok (.ireturn, 1) := by decide +kernel
theorem dX7_forget_16 : decode cX7_forget 16 = .ok (.aload_n 0, 1) := by decide +kernel
theorem dX7_forget_17 : decode cX7_forget 17 = .ok (.dup, 1) := by decide +kernel
theorem dX7_forget_18 : decode cX7_forget 18 = .ok (.getfield 106, 3) := by decide +kernel
theorem dX7_forget_21 : decode cX7_forget 21 = .ok (.iconst 1, 1) := by decide +kernel
theorem dX7_forget_22 : decode cX7_forget 22 = .ok (.isub, 1) := by decide +kernel
theorem dX7_forget_23 : decode cX7_forget 23 = .ok (.putfield 106, 3) := by decide +kernel
theorem dX7_forget_26 : decode cX7_forget 26 = .ok (.iload_n 1, 1) := by decide +kernel
theorem dX7_forget_27 : decode cX7_forget 27 = .ok (.istore_n 2, 1) := by decide +kernel
theorem dX7_forget_28 : decode cX7_forget 28 = .ok (.iload_n 2, 1) := by decide +kernel
theorem dX7_forget_29 : decode cX7_forget 29 = .ok (.aload_n 0, 1) := by decide +kernel
theorem dX7_forget_30 : decode cX7_forget 30 = .ok (.getfield 106, 3) := by decide +kernel
theorem dX7_forget_33 : decode cX7_forget 33 = .ok (.if_icmp .ge 90, 3) := by decide +kernel
theorem dX7_forget_36 : decode cX7_forget 36 = .ok (.iconst 0, 1) := by decide +kernel
theorem dX7_forget_37 : decode cX7_forget 37 = .ok (.istore_n 3, 1) := by decide +kernel
theorem dX7_forget_38 : decode cX7_forget 38 = .ok (.iload_n 3, 1) := by decide +kernel
theorem dX7_forget_39 : decode cX7_forget 39 = .ok (.bipush 6, 2) := by decide +kernel
theorem dX7_forget_41 : decode cX7_forget 41 = .ok (.if_icmp .ge 34, 3) := by decide +kernel
theorem dX7_forget_44 : decode cX7_forget 44 = .ok (.aload_n 0, 1) := by decide +kernel
theorem dX7_forget_45 : decode cX7_forget 45 = .ok (.getfield 7, 3) := by decide +kernel
theorem dX7_forget_48 : decode cX7_forget 48 = .ok (.bipush 6, 2) := by decide +kernel
theorem dX7_forget_50 : decode cX7_forget 50 = .ok (.iload_n 2, 1) := by decide +kernel
theorem dX7_forget_51 : decode cX7_forget 51 = .ok (.imul, 1) := by decide +kernel
theorem dX7_forget_52 : decode cX7_forget 52 = .ok (.iload_n 3, 1) := by decide +kernel
theorem dX7_forget_53 : decode cX7_forget 53 = .ok (.iadd, 1) := by decide +kernel
theorem dX7_forget_54 : decode cX7_forget 54 = .ok (.aload_n 0, 1) := by decide +kernel
theorem dX7_forget_55 : decode cX7_forget 55 = .ok (.getfield 7, 3) := by decide +kernel
theorem dX7_forget_58 : decode cX7_forget 58 = .ok (.bipush 6, 2) := by decide +kernel
theorem dX7_forget_60 : decode cX7_forget 60 = .ok (.iload_n 2, 1) := by decide +kernel
theorem dX7_forget_61 : decode cX7_forget 61 = .ok (.imul, 1) := by decide +kernel
theorem dX7_forget_62 : decode cX7_forget 62 = .ok (.bipush 6, 2) := by decide +kernel
theorem dX7_forget_64 : decode cX7_forget 64 = .ok (.iadd, 1) := by decide +kernel
theorem dX7_forget_65 : decode cX7_forget 65 = .ok (.iload_n 3, 1) := by decide +kernel
theorem dX7_forget_66 : decode cX7_forget 66 = .ok (.iadd, 1) := by decide +kernel
theorem dX7_forget_67 : decode cX7_forget 67 = .ok (.iaload, 1) := by decide +kernel
theorem dX7_forget_68 : decode cX7_forget 68 = .ok (.iastore, 1) := by decide +kernel
theorem dX7_forget_69 : decode cX7_forget 69 = .ok (.iinc 3 1, 3) := by decide +kernel
theorem dX7_forget_72 : decode cX7_forget 72 = .ok (.goto (-34), 3) := by decide +kernel
theorem dX7_forget_75 : decode cX7_forget 75 = .ok (.aload_n 0, 1) := by decide +kernel
theorem dX7_forget_76 : decode cX7_forget 76 = .ok (.getfield 13, 3) := by decide +kernel
theorem dX7_forget_79 : decode cX7_forget 79 = .ok (.iload_n 2, 1) := by decide +kernel
theorem dX7_forget_80 : decode cX7_forget 80 = .ok (.aload_n 0, 1) := by decide +kernel
theorem dX7_forget_81 : decode cX7_forget 81 = .ok (.getfield 13, 3) := by decide +kernel
theorem dX7_forget_84 : decode cX7_forget 84 = .ok (.iload_n 2, 1) := by decide +kernel
theorem dX7_forget_85 : decode cX7_forget 85 = .ok (.iconst 1, 1) := by decide +kernel
theorem dX7_forget_86 : decode cX7_forget 86 = .ok (.iadd, 1) := by decide +kernel
theorem dX7_forget_87 : decode cX7_forget 87 = .ok (.iaload, 1) := by decide +kernel
theorem dX7_forget_88 : decode cX7_forget 88 = .ok (.iastore, 1) := by decide +kernel
theorem dX7_forget_89 : decode cX7_forget 89 = .ok (.aload_n 0, 1) := by decide +kernel
theorem dX7_forget_90 : decode cX7_forget 90 = .ok (.getfield 16, 3) := by decide +kernel
theorem dX7_forget_93 : decode cX7_forget 93 = .ok (.iload_n 2, 1) := by decide +kernel
theorem dX7_forget_94 : decode cX7_forget 94 = .ok (.aload_n 0, 1) := by decide +kernel
theorem dX7_forget_95 : decode cX7_forget 95 = .ok (.getfield 16, 3) := by decide +kernel
theorem dX7_forget_98 : decode cX7_forget 98 = .ok (.iload_n 2, 1) := by decide +kernel
theorem dX7_forget_99 : decode cX7_forget 99 = .ok (.iconst 1, 1) := by decide +kernel
theorem dX7_forget_100 : decode cX7_forget 100 = .ok (.iadd, 1) := by decide +kernel
theorem dX7_forget_101 : decode cX7_forget 101 = .ok (.iaload, 1) := by decide +kernel
theorem dX7_forget_102 : decode cX7_forget 102 = .ok (.iastore, 1) := by decide +kernel
theorem dX7_forget_103 : decode cX7_forget 103 = .ok (.aload_n 0, 1) := by decide +kernel
theorem dX7_forget_104 : decode cX7_forget 104 = .ok (.getfield 19, 3) := by decide +kernel
theorem dX7_forget_107 : decode cX7_forget 107 = .ok (.iload_n 2, 1) := by decide +kernel
theorem dX7_forget_108 : decode cX7_forget 108 = .ok (.aload_n 0, 1) := by decide +kernel
theorem dX7_forget_109 : decode cX7_forget 109 = .ok (.getfield 19, 3) := by decide +kernel
theorem dX7_forget_112 : decode cX7_forget 112 = .ok (.iload_n 2, 1) := by decide +kernel
theorem dX7_forget_113 : decode cX7_forget 113 = .ok (.iconst 1, 1) := by decide +kernel
theorem dX7_forget_114 : decode cX7_forget 114 = .ok (.iadd, 1) := by decide +kernel
theorem dX7_forget_115 : decode cX7_forget 115 = .ok (.iaload, 1) := by decide +kernel
theorem dX7_forget_116 : decode cX7_forget 116 = .ok (.iastore, 1) := by decide +kernel
theorem dX7_forget_117 : decode cX7_forget 117 = .ok (.iinc 2 1, 3) := by decide +kernel
theorem dX7_forget_120 : decode cX7_forget 120 = .ok (.goto (-92), 3) := by decide +kernel
theorem dX7_forget_123 : decode cX7_forget 123 = .ok (.aload_n 0, 1) := by decide +kernel
theorem dX7_forget_124 : decode cX7_forget 124 = .ok (.getfield 106, 3) := by decide +kernel
theorem dX7_forget_127 : decode cX7_forget 127 = .ok (.ireturn, 1) := by decide +kernel
theorem dX7_word_0 : decode cX7_word 0 = .ok (.iload_n 1, 1) := by decide +kernel
theorem dX7_word_1 : decode cX7_word 1 = .ok (.iconst 0, 1) := by decide +kernel
theorem dX7_word_2 : decode cX7_word 2 = .ok (.aload_n 0, 1) := by decide +kernel
theorem dX7_word_3 : decode cX7_word 3 = .ok (.getfield 106, 3) := by decide +kernel
theorem dX7_word_6 : decode cX7_word 6 = .ok (.iconst 1, 1) := by decide +kernel
theorem dX7_word_7 : decode cX7_word 7 = .ok (.isub, 1) := by decide +kernel
theorem dX7_word_8 : decode cX7_word 8 = .ok (.invokestatic 74, 3) := by decide +kernel
theorem dX7_word_11 : decode cX7_word 11 = .ok (.ifCond .ne 5, 3) := by decide +kernel
theorem dX7_word_14 : decode cX7_word 14 = .ok (.iconst (-1), 1) := by decide +kernel
theorem dX7_word_15 : decode cX7_word 15 = .ok (.ireturn, 1) := by decide +kernel
theorem dX7_word_16 : decode cX7_word 16 = .ok (.iload_n 2, 1) := by decide +kernel
theorem dX7_word_17 : decode cX7_word 17 = .ok (.ifCond .ge 6, 3) := by decide +kernel
theorem dX7_word_20 : decode cX7_word 20 = .ok (.bipush (-2), 2) := by decide +kernel
theorem dX7_word_22 : decode cX7_word 22 = .ok (.ireturn, 1) := by decide +kernel
theorem dX7_word_23 : decode cX7_word 23 = .ok (.iload_n 2, 1) := by decide +kernel
theorem dX7_word_24 : decode cX7_word 24 = .ok (.tableswitch 49 0 2 #[28, 35, 42], 28) := by decide +kernel
theorem dX7_word_52 : decode cX7_word 52 = .ok (.aload_n 0, 1) := by decide +kernel
theorem dX7_word_53 : decode cX7_word 53 = .ok (.getfield 13, 3) := by decide +kernel
theorem dX7_word_56 : decode cX7_word 56 = .ok (.iload_n 1, 1) := by decide +kernel
theorem dX7_word_57 : decode cX7_word 57 = .ok (.iaload, 1) := by decide +kernel
theorem dX7_word_58 : decode cX7_word 58 = .ok (.ireturn, 1) := by decide +kernel
theorem dX7_word_59 : decode cX7_word 59 = .ok (.aload_n 0, 1) := by decide +kernel
theorem dX7_word_60 : decode cX7_word 60 = .ok (.getfield 16, 3) := by decide +kernel
theorem dX7_word_63 : decode cX7_word 63 = .ok (.iload_n 1, 1) := by decide +kernel
theorem dX7_word_64 : decode cX7_word 64 = .ok (.iaload, 1) := by decide +kernel
theorem dX7_word_65 : decode cX7_word 65 = .ok (.ireturn, 1) := by decide +kernel
theorem dX7_word_66 : decode cX7_word 66 = .ok (.aload_n 0, 1) := by decide +kernel
theorem dX7_word_67 : decode cX7_word 67 = .ok (.getfield 19, 3) := by decide +kernel
theorem dX7_word_70 : decode cX7_word 70 = .ok (.iload_n 1, 1) := by decide +kernel
theorem dX7_word_71 : decode cX7_word 71 = .ok (.iaload, 1) := by decide +kernel
theorem dX7_word_72 : decode cX7_word 72 = .ok (.ireturn, 1) := by decide +kernel
theorem dX7_word_73 : decode cX7_word 73 = .ok (.iload_n 2, 1) := by decide +kernel
theorem dX7_word_74 : decode cX7_word 74 = .ok (.iconst 3, 1) := by decide +kernel
theorem dX7_word_75 : decode cX7_word 75 = .ok (.isub, 1) := by decide +kernel
theorem dX7_word_76 : decode cX7_word 76 = .ok (.aload_n 0, 1) := by decide +kernel
theorem dX7_word_77 : decode cX7_word 77 = .ok (.getfield 13, 3) := by decide +kernel
theorem dX7_word_80 : decode cX7_word 80 = .ok (.iload_n 1, 1) := by decide +kernel
theorem dX7_word_81 : decode cX7_word 81 = .ok (.iaload, 1) := by decide +kernel
theorem dX7_word_82 : decode cX7_word 82 = .ok (.if_icmp .ge 19, 3) := by decide +kernel
theorem dX7_word_85 : decode cX7_word 85 = .ok (.aload_n 0, 1) := by decide +kernel
theorem dX7_word_86 : decode cX7_word 86 = .ok (.getfield 7, 3) := by decide +kernel
theorem dX7_word_89 : decode cX7_word 89 = .ok (.bipush 6, 2) := by decide +kernel
theorem dX7_word_91 : decode cX7_word 91 = .ok (.iload_n 1, 1) := by decide +kernel
theorem dX7_word_92 : decode cX7_word 92 = .ok (.imul, 1) := by decide +kernel
theorem dX7_word_93 : decode cX7_word 93 = .ok (.iload_n 2, 1) := by decide +kernel
theorem dX7_word_94 : decode cX7_word 94 = .ok (.iadd, 1) := by decide +kernel
theorem dX7_word_95 : decode cX7_word 95 = .ok (.iconst 3, 1) := by decide +kernel
theorem dX7_word_96 : decode cX7_word 96 = .ok (.isub, 1) := by decide +kernel
theorem dX7_word_97 : decode cX7_word 97 = .ok (.iaload, 1) := by decide +kernel
theorem dX7_word_98 : decode cX7_word 98 = .ok (.goto 5, 3) := by decide +kernel
theorem dX7_word_101 : decode cX7_word 101 = .ok (.bipush (-6), 2) := by decide +kernel
theorem dX7_word_103 : decode cX7_word 103 = .ok (.ireturn, 1) := by decide +kernel
theorem dX7_line_0 : decode cX7_line 0 = .ok (.aload_n 0, 1) := by decide +kernel
theorem dX7_line_1 : decode cX7_line 1 = .ok (.invokevirtual 103, 3) := by decide +kernel
theorem dX7_line_4 : decode cX7_line 4 = .ok (.ifCond .lt 6, 3) := by decide +kernel
theorem dX7_line_7 : decode cX7_line 7 = .ok (.bipush (-5), 2) := by decide +kernel
theorem dX7_line_9 : decode cX7_line 9 = .ok (.ireturn, 1) := by decide +kernel
theorem dX7_line_10 : decode cX7_line 10 = .ok (.aload_n 0, 1) := by decide +kernel
theorem dX7_line_11 : decode cX7_line 11 = .ok (.aload_n 0, 1) := by decide +kernel
theorem dX7_line_12 : decode cX7_line 12 = .ok (.getfield 78, 3) := by decide +kernel
theorem dX7_line_15 : decode cX7_line 15 = .ok (.putfield 109, 3) := by decide +kernel
theorem dX7_line_18 : decode cX7_line 18 = .ok (.iconst 0, 1) := by decide +kernel
theorem dX7_line_19 : decode cX7_line 19 = .ok (.istore_n 1, 1) := by decide +kernel
theorem dX7_line_20 : decode cX7_line 20 = .ok (.iload_n 1, 1) := by decide +kernel
theorem dX7_line_21 : decode cX7_line 21 = .ok (.aload_n 0, 1) := by decide +kernel
theorem dX7_line_22 : decode cX7_line 22 = .ok (.getfield 78, 3) := by decide +kernel
theorem dX7_line_25 : decode cX7_line 25 = .ok (.if_icmp .ge 21, 3) := by decide +kernel
theorem dX7_line_28 : decode cX7_line 28 = .ok (.aload_n 0, 1) := by decide +kernel
theorem dX7_line_29 : decode cX7_line 29 = .ok (.getfield 28, 3) := by decide +kernel
theorem dX7_line_32 : decode cX7_line 32 = .ok (.iload_n 1, 1) := by decide +kernel
theorem dX7_line_33 : decode cX7_line 33 = .ok (.aload_n 0, 1) := by decide +kernel
theorem dX7_line_34 : decode cX7_line 34 = .ok (.getfield 31, 3) := by decide +kernel
theorem dX7_line_37 : decode cX7_line 37 = .ok (.iload_n 1, 1) := by decide +kernel
theorem dX7_line_38 : decode cX7_line 38 = .ok (.iaload, 1) := by decide +kernel
theorem dX7_line_39 : decode cX7_line 39 = .ok (.iastore, 1) := by decide +kernel
theorem dX7_line_40 : decode cX7_line 40 = .ok (.iinc 1 1, 3) := by decide +kernel
theorem dX7_line_43 : decode cX7_line 43 = .ok (.goto (-23), 3) := by decide +kernel
theorem dX7_line_46 : decode cX7_line 46 = .ok (.aload_n 0, 1) := by decide +kernel
theorem dX7_line_47 : decode cX7_line 47 = .ok (.iconst 0, 1) := by decide +kernel
theorem dX7_line_48 : decode cX7_line 48 = .ok (.putfield 78, 3) := by decide +kernel
theorem dX7_line_51 : decode cX7_line 51 = .ok (.aload_n 0, 1) := by decide +kernel
theorem dX7_line_52 : decode cX7_line 52 = .ok (.getfield 109, 3) := by decide +kernel
theorem dX7_line_55 : decode cX7_line 55 = .ok (.ireturn, 1) := by decide +kernel
theorem dX7_join_0 : decode cX7_join 0 = .ok (.iload_n 1, 1) := by decide +kernel
theorem dX7_join_1 : decode cX7_join 1 = .ok (.iconst 0, 1) := by decide +kernel
theorem dX7_join_2 : decode cX7_join 2 = .ok (.iconst 4, 1) := by decide +kernel
theorem dX7_join_3 : decode cX7_join 3 = .ok (.invokestatic 74, 3) := by decide +kernel
theorem dX7_join_6 : decode cX7_join 6 = .ok (.ifCond .eq 22, 3) := by decide +kernel
theorem dX7_join_9 : decode cX7_join 9 = .ok (.iload_n 2, 1) := by decide +kernel
theorem dX7_join_10 : decode cX7_join 10 = .ok (.iconst 0, 1) := by decide +kernel
theorem dX7_join_11 : decode cX7_join 11 = .ok (.iconst 4, 1) := by decide +kernel
theorem dX7_join_12 : decode cX7_join 12 = .ok (.invokestatic 74, 3) := by decide +kernel
theorem dX7_join_15 : decode cX7_join 15 = .ok (.ifCond .eq 13, 3) := by decide +kernel
theorem dX7_join_18 : decode cX7_join 18 = .ok (.iload_n 1, 1) := by decide +kernel
theorem dX7_join_19 : decode cX7_join 19 = .ok (.iconst 4, 1) := by decide +kernel
theorem dX7_join_20 : decode cX7_join 20 = .ok (.if_icmp .ne 10, 3) := by decide +kernel
theorem dX7_join_23 : decode cX7_join 23 = .ok (.iload_n 2, 1) := by decide +kernel
theorem dX7_join_24 : decode cX7_join 24 = .ok (.iconst 4, 1) := by decide +kernel
theorem dX7_join_25 : decode cX7_join 25 = .ok (.if_icmp .ne 5, 3) := by decide +kernel
theorem dX7_join_28 : decode cX7_join 28 = .ok (.iconst (-1), 1) := by decide +kernel
theorem dX7_join_29 : decode cX7_join 29 = .ok (.ireturn, 1) := by decide +kernel
theorem dX7_join_30 : decode cX7_join 30 = .ok (.iload_n 3, 1) := by decide +kernel
theorem dX7_join_31 : decode cX7_join 31 = .ok (.iconst 0, 1) := by decide +kernel
theorem dX7_join_32 : decode cX7_join 32 = .ok (.bipush 99, 2) := by decide +kernel
theorem dX7_join_34 : decode cX7_join 34 = .ok (.invokestatic 74, 3) := by decide +kernel
theorem dX7_join_37 : decode cX7_join 37 = .ok (.ifCond .ne 6, 3) := by decide +kernel
theorem dX7_join_40 : decode cX7_join 40 = .ok (.bipush (-2), 2) := by decide +kernel
theorem dX7_join_42 : decode cX7_join 42 = .ok (.ireturn, 1) := by decide +kernel
theorem dX7_join_43 : decode cX7_join 43 = .ok (.aload_n 0, 1) := by decide +kernel
theorem dX7_join_44 : decode cX7_join 44 = .ok (.getfield 22, 3) := by decide +kernel
theorem dX7_join_47 : decode cX7_join 47 = .ok (.iconst 5, 1) := by decide +kernel
theorem dX7_join_48 : decode cX7_join 48 = .ok (.iload_n 1, 1) := by decide +kernel
theorem dX7_join_49 : decode cX7_join 49 = .ok (.imul, 1) := by decide +kernel
theorem dX7_join_50 : decode cX7_join 50 = .ok (.iload_n 2, 1) := by decide +kernel
theorem dX7_join_51 : decode cX7_join 51 = .ok (.iadd, 1) := by decide +kernel
theorem dX7_join_52 : decode cX7_join 52 = .ok (.iaload, 1) := by decide +kernel
theorem dX7_join_53 : decode cX7_join 53 = .ok (.istore 4, 2) := by decide +kernel
theorem dX7_join_55 : decode cX7_join 55 = .ok (.aload_n 0, 1) := by decide +kernel
theorem dX7_join_56 : decode cX7_join 56 = .ok (.getfield 22, 3) := by decide +kernel
theorem dX7_join_59 : decode cX7_join 59 = .ok (.iconst 5, 1) := by decide +kernel
theorem dX7_join_60 : decode cX7_join 60 = .ok (.iload_n 1, 1) := by decide +kernel
theorem dX7_join_61 : decode cX7_join 61 = .ok (.imul, 1) := by decide +kernel
theorem dX7_join_62 : decode cX7_join 62 = .ok (.iload_n 2, 1) := by decide +kernel
theorem dX7_join_63 : decode cX7_join 63 = .ok (.iadd, 1) := by decide +kernel
theorem dX7_join_64 : decode cX7_join 64 = .ok (.iload_n 3, 1) := by decide +kernel
theorem dX7_join_65 : decode cX7_join 65 = .ok (.iastore, 1) := by decide +kernel
theorem dX7_join_66 : decode cX7_join 66 = .ok (.iload 4, 2) := by decide +kernel
theorem dX7_join_68 : decode cX7_join 68 = .ok (.ireturn, 1) := by decide +kernel
theorem dX7_rule_0 : decode cX7_rule 0 = .ok (.iload_n 1, 1) := by decide +kernel
theorem dX7_rule_1 : decode cX7_rule 1 = .ok (.iconst 0, 1) := by decide +kernel
theorem dX7_rule_2 : decode cX7_rule 2 = .ok (.iconst 3, 1) := by decide +kernel
theorem dX7_rule_3 : decode cX7_rule 3 = .ok (.invokestatic 74, 3) := by decide +kernel
theorem dX7_rule_6 : decode cX7_rule 6 = .ok (.ifCond .eq 30, 3) := by decide +kernel
theorem dX7_rule_9 : decode cX7_rule 9 = .ok (.iload_n 2, 1) := by decide +kernel
theorem dX7_rule_10 : decode cX7_rule 10 = .ok (.iconst 0, 1) := by decide +kernel
theorem dX7_rule_11 : decode cX7_rule 11 = .ok (.iload_n 1, 1) := by decide +kernel
theorem dX7_rule_12 : decode cX7_rule 12 = .ok (.ifCond .ne 7, 3) := by decide +kernel
theorem dX7_rule_15 : decode cX7_rule 15 = .ok (.iconst 2, 1) := by decide +kernel
theorem dX7_rule_16 : decode cX7_rule 16 = .ok (.goto 14, 3) := by decide +kernel
theorem dX7_rule_19 : decode cX7_rule 19 = .ok (.iload_n 1, 1) := by decide +kernel
theorem dX7_rule_20 : decode cX7_rule 20 = .ok (.iconst 3, 1) := by decide +kernel
theorem dX7_rule_21 : decode cX7_rule 21 = .ok (.if_icmp .ne 7, 3) := by decide +kernel
theorem dX7_rule_24 : decode cX7_rule 24 = .ok (.iconst 3, 1) := by decide +kernel
theorem dX7_rule_25 : decode cX7_rule 25 = .ok (.goto 5, 3) := by decide +kernel
theorem dX7_rule_28 : decode cX7_rule 28 = .ok (.bipush 99, 2) := by decide +kernel
theorem dX7_rule_30 : decode cX7_rule 30 = .ok (.invokestatic 74, 3) := by decide +kernel
theorem dX7_rule_33 : decode cX7_rule 33 = .ok (.ifCond .ne 6, 3) := by decide +kernel
theorem dX7_rule_36 : decode cX7_rule 36 = .ok (.bipush (-2), 2) := by decide +kernel
theorem dX7_rule_38 : decode cX7_rule 38 = .ok (.ireturn, 1) := by decide +kernel
theorem dX7_rule_39 : decode cX7_rule 39 = .ok (.aload_n 0, 1) := by decide +kernel
theorem dX7_rule_40 : decode cX7_rule 40 = .ok (.getfield 25, 3) := by decide +kernel
theorem dX7_rule_43 : decode cX7_rule 43 = .ok (.iload_n 1, 1) := by decide +kernel
theorem dX7_rule_44 : decode cX7_rule 44 = .ok (.iaload, 1) := by decide +kernel
theorem dX7_rule_45 : decode cX7_rule 45 = .ok (.istore_n 3, 1) := by decide +kernel
theorem dX7_rule_46 : decode cX7_rule 46 = .ok (.aload_n 0, 1) := by decide +kernel
theorem dX7_rule_47 : decode cX7_rule 47 = .ok (.getfield 25, 3) := by decide +kernel
theorem dX7_rule_50 : decode cX7_rule 50 = .ok (.iload_n 1, 1) := by decide +kernel
theorem dX7_rule_51 : decode cX7_rule 51 = .ok (.iload_n 2, 1) := by decide +kernel
theorem dX7_rule_52 : decode cX7_rule 52 = .ok (.iastore, 1) := by decide +kernel
theorem dX7_rule_53 : decode cX7_rule 53 = .ok (.iload_n 3, 1) := by decide +kernel
theorem dX7_rule_54 : decode cX7_rule 54 = .ok (.ireturn, 1) := by decide +kernel
theorem dX7_stands_0 : decode cX7_stands 0 = .ok (.iload_n 2, 1) := by decide +kernel
theorem dX7_stands_1 : decode cX7_stands 1 = .ok (.aload_n 0, 1) := by decide +kernel
theorem dX7_stands_2 : decode cX7_stands 2 = .ok (.getfield 13, 3) := by decide +kernel
theorem dX7_stands_5 : decode cX7_stands 5 = .ok (.iload_n 1, 1) := by decide +kernel
theorem dX7_stands_6 : decode cX7_stands 6 = .ok (.iaload, 1) := by decide +kernel
theorem dX7_stands_7 : decode cX7_stands 7 = .ok (.iadd, 1) := by decide +kernel
theorem dX7_stands_8 : decode cX7_stands 8 = .ok (.aload_n 0, 1) := by decide +kernel
theorem dX7_stands_9 : decode cX7_stands 9 = .ok (.getfield 109, 3) := by decide +kernel
theorem dX7_stands_12 : decode cX7_stands 12 = .ok (.if_icmp .gt 7, 3) := by decide +kernel
theorem dX7_stands_15 : decode cX7_stands 15 = .ok (.iconst 1, 1) := by decide +kernel
theorem dX7_stands_16 : decode cX7_stands 16 = .ok (.goto 4, 3) := by decide +kernel
theorem dX7_stands_19 : decode cX7_stands 19 = .ok (.iconst 0, 1) := by decide +kernel
theorem dX7_stands_20 : decode cX7_stands 20 = .ok (.istore_n 3, 1) := by decide +kernel
theorem dX7_stands_21 : decode cX7_stands 21 = .ok (.iconst 0, 1) := by decide +kernel
theorem dX7_stands_22 : decode cX7_stands 22 = .ok (.istore 4, 2) := by decide +kernel
theorem dX7_stands_24 : decode cX7_stands 24 = .ok (.iload 4, 2) := by decide +kernel
theorem dX7_stands_26 : decode cX7_stands 26 = .ok (.aload_n 0, 1) := by decide +kernel
theorem dX7_stands_27 : decode cX7_stands 27 = .ok (.getfield 13, 3) := by decide +kernel
theorem dX7_stands_30 : decode cX7_stands 30 = .ok (.iload_n 1, 1) := by decide +kernel
theorem dX7_stands_31 : decode cX7_stands 31 = .ok (.iaload, 1) := by decide +kernel
theorem dX7_stands_32 : decode cX7_stands 32 = .ok (.if_icmp .ge 43, 3) := by decide +kernel
theorem dX7_stands_35 : decode cX7_stands 35 = .ok (.iload_n 3, 1) := by decide +kernel
theorem dX7_stands_36 : decode cX7_stands 36 = .ok (.ifCond .eq 39, 3) := by decide +kernel
theorem dX7_stands_39 : decode cX7_stands 39 = .ok (.aload_n 0, 1) := by decide +kernel
theorem dX7_stands_40 : decode cX7_stands 40 = .ok (.getfield 28, 3) := by decide +kernel
theorem dX7_stands_43 : decode cX7_stands 43 = .ok (.iload_n 2, 1) := by decide +kernel
theorem dX7_stands_44 : decode cX7_stands 44 = .ok (.iload 4, 2) := by decide +kernel
theorem dX7_stands_46 : decode cX7_stands 46 = .ok (.iadd, 1) := by decide +kernel
theorem dX7_stands_47 : decode cX7_stands 47 = .ok (.iaload, 1) := by decide +kernel
theorem dX7_stands_48 : decode cX7_stands 48 = .ok (.aload_n 0, 1) := by decide +kernel
theorem dX7_stands_49 : decode cX7_stands 49 = .ok (.getfield 7, 3) := by decide +kernel
theorem dX7_stands_52 : decode cX7_stands 52 = .ok (.bipush 6, 2) := by decide +kernel
theorem dX7_stands_54 : decode cX7_stands 54 = .ok (.iload_n 1, 1) := by decide +kernel
theorem dX7_stands_55 : decode cX7_stands 55 = .ok (.imul, 1) := by decide +kernel
theorem dX7_stands_56 : decode cX7_stands 56 = .ok (.iload 4, 2) := by decide +kernel
theorem dX7_stands_58 : decode cX7_stands 58 = .ok (.iadd, 1) := by decide +kernel
theorem dX7_stands_59 : decode cX7_stands 59 = .ok (.iaload, 1) := by decide +kernel
theorem dX7_stands_60 : decode cX7_stands 60 = .ok (.if_icmp .ne 7, 3) := by decide +kernel
theorem dX7_stands_63 : decode cX7_stands 63 = .ok (.iconst 1, 1) := by decide +kernel
theorem dX7_stands_64 : decode cX7_stands 64 = .ok (.goto 4, 3) := by decide +kernel
theorem dX7_stands_67 : decode cX7_stands 67 = .ok (.iconst 0, 1) := by decide +kernel
theorem dX7_stands_68 : decode cX7_stands 68 = .ok (.istore_n 3, 1) := by decide +kernel
theorem dX7_stands_69 : decode cX7_stands 69 = .ok (.iinc 4 1, 3) := by decide +kernel
theorem dX7_stands_72 : decode cX7_stands 72 = .ok (.goto (-48), 3) := by decide +kernel
theorem dX7_stands_75 : decode cX7_stands 75 = .ok (.iload_n 3, 1) := by decide +kernel
theorem dX7_stands_76 : decode cX7_stands 76 = .ok (.ireturn, 1) := by decide +kernel
theorem dX7_classOf_0 : decode cX7_classOf 0 = .ok (.iload_n 0, 1) := by decide +kernel
theorem dX7_classOf_1 : decode cX7_classOf 1 = .ok (.bipush 97, 2) := by decide +kernel
theorem dX7_classOf_3 : decode cX7_classOf 3 = .ok (.if_icmp .eq 9, 3) := by decide +kernel
theorem dX7_classOf_6 : decode cX7_classOf 6 = .ok (.iload_n 0, 1) := by decide +kernel
theorem dX7_classOf_7 : decode cX7_classOf 7 = .ok (.bipush 101, 2) := by decide +kernel
theorem dX7_classOf_9 : decode cX7_classOf 9 = .ok (.if_icmp .ne 7, 3) := by decide +kernel
theorem dX7_classOf_12 : decode cX7_classOf 12 = .ok (.iconst 0, 1) := by decide +kernel
theorem dX7_classOf_13 : decode cX7_classOf 13 = .ok (.goto 4, 3) := by decide +kernel
theorem dX7_classOf_16 : decode cX7_classOf 16 = .ok (.iconst 1, 1) := by decide +kernel
theorem dX7_classOf_17 : decode cX7_classOf 17 = .ok (.ireturn, 1) := by decide +kernel
theorem dX7_put_0 : decode cX7_put 0 = .ok (.aload_n 0, 1) := by decide +kernel
theorem dX7_put_1 : decode cX7_put 1 = .ok (.getfield 34, 3) := by decide +kernel
theorem dX7_put_4 : decode cX7_put 4 = .ok (.aload_n 0, 1) := by decide +kernel
theorem dX7_put_5 : decode cX7_put 5 = .ok (.getfield 112, 3) := by decide +kernel
theorem dX7_put_8 : decode cX7_put 8 = .ok (.iload_n 1, 1) := by decide +kernel
theorem dX7_put_9 : decode cX7_put 9 = .ok (.iastore, 1) := by decide +kernel
theorem dX7_put_10 : decode cX7_put 10 = .ok (.aload_n 0, 1) := by decide +kernel
theorem dX7_put_11 : decode cX7_put 11 = .ok (.getfield 37, 3) := by decide +kernel
theorem dX7_put_14 : decode cX7_put 14 = .ok (.aload_n 0, 1) := by decide +kernel
theorem dX7_put_15 : decode cX7_put 15 = .ok (.getfield 112, 3) := by decide +kernel
theorem dX7_put_18 : decode cX7_put 18 = .ok (.iload_n 2, 1) := by decide +kernel
theorem dX7_put_19 : decode cX7_put 19 = .ok (.iastore, 1) := by decide +kernel
theorem dX7_put_20 : decode cX7_put 20 = .ok (.aload_n 0, 1) := by decide +kernel
theorem dX7_put_21 : decode cX7_put 21 = .ok (.getfield 40, 3) := by decide +kernel
theorem dX7_put_24 : decode cX7_put 24 = .ok (.aload_n 0, 1) := by decide +kernel
theorem dX7_put_25 : decode cX7_put 25 = .ok (.getfield 112, 3) := by decide +kernel
theorem dX7_put_28 : decode cX7_put 28 = .ok (.iload_n 3, 1) := by decide +kernel
theorem dX7_put_29 : decode cX7_put 29 = .ok (.iastore, 1) := by decide +kernel
theorem dX7_put_30 : decode cX7_put 30 = .ok (.aload_n 0, 1) := by decide +kernel
theorem dX7_put_31 : decode cX7_put 31 = .ok (.getfield 43, 3) := by decide +kernel
theorem dX7_put_34 : decode cX7_put 34 = .ok (.aload_n 0, 1) := by decide +kernel
theorem dX7_put_35 : decode cX7_put 35 = .ok (.getfield 112, 3) := by decide +kernel
theorem dX7_put_38 : decode cX7_put 38 = .ok (.iload 4, 2) := by decide +kernel
theorem dX7_put_40 : decode cX7_put 40 = .ok (.iastore, 1) := by decide +kernel
theorem dX7_put_41 : decode cX7_put 41 = .ok (.aload_n 0, 1) := by decide +kernel
theorem dX7_put_42 : decode cX7_put 42 = .ok (.getfield 46, 3) := by decide +kernel
theorem dX7_put_45 : decode cX7_put 45 = .ok (.aload_n 0, 1) := by decide +kernel
theorem dX7_put_46 : decode cX7_put 46 = .ok (.getfield 112, 3) := by decide +kernel
theorem dX7_put_49 : decode cX7_put 49 = .ok (.iload 5, 2) := by decide +kernel
theorem dX7_put_51 : decode cX7_put 51 = .ok (.iastore, 1) := by decide +kernel
theorem dX7_put_52 : decode cX7_put 52 = .ok (.aload_n 0, 1) := by decide +kernel
theorem dX7_put_53 : decode cX7_put 53 = .ok (.dup, 1) := by decide +kernel
theorem dX7_put_54 : decode cX7_put 54 = .ok (.getfield 112, 3) := by decide +kernel
theorem dX7_put_57 : decode cX7_put 57 = .ok (.iconst 1, 1) := by decide +kernel
theorem dX7_put_58 : decode cX7_put 58 = .ok (.iadd, 1) := by decide +kernel
theorem dX7_put_59 : decode cX7_put 59 = .ok (.putfield 112, 3) := by decide +kernel
theorem dX7_put_62 : decode cX7_put 62 = .ok (.return_, 1) := by decide +kernel
theorem dX7_layPieces_0 : decode cX7_layPieces 0 = .ok (.aload_n 0, 1) := by decide +kernel
theorem dX7_layPieces_1 : decode cX7_layPieces 1 = .ok (.iconst 0, 1) := by decide +kernel
theorem dX7_layPieces_2 : decode cX7_layPieces 2 = .ok (.putfield 112, 3) := by decide +kernel
theorem dX7_layPieces_5 : decode cX7_layPieces 5 = .ok (.iconst 0, 1) := by decide +kernel
theorem dX7_layPieces_6 : decode cX7_layPieces 6 = .ok (.istore_n 1, 1) := by decide +kernel
theorem dX7_layPieces_7 : decode cX7_layPieces 7 = .ok (.iload_n 1, 1) := by decide +kernel
theorem dX7_layPieces_8 : decode cX7_layPieces 8 = .ok (.aload_n 0, 1) := by decide +kernel
theorem dX7_layPieces_9 : decode cX7_layPieces 9 = .ok (.getfield 109, 3) := by decide +kernel
theorem dX7_layPieces_12 : decode cX7_layPieces 12 = .ok (.if_icmp .ge 291, 3) := by decide +kernel
theorem dX7_layPieces_15 : decode cX7_layPieces 15 = .ok (.aload_n 0, 1) := by decide +kernel
theorem dX7_layPieces_16 : decode cX7_layPieces 16 = .ok (.getfield 49, 3) := by decide +kernel
theorem dX7_layPieces_19 : decode cX7_layPieces 19 = .ok (.iload_n 1, 1) := by decide +kernel
theorem dX7_layPieces_20 : decode cX7_layPieces 20 = .ok (.aload_n 0, 1) := by decide +kernel
theorem dX7_layPieces_21 : decode cX7_layPieces 21 = .ok (.getfield 112, 3) := by decide +kernel
theorem dX7_layPieces_24 : decode cX7_layPieces 24 = .ok (.iastore, 1) := by decide +kernel
theorem dX7_layPieces_25 : decode cX7_layPieces 25 = .ok (.iconst 1, 1) := by decide +kernel
theorem dX7_layPieces_26 : decode cX7_layPieces 26 = .ok (.istore_n 2, 1) := by decide +kernel
theorem dX7_layPieces_27 : decode cX7_layPieces 27 = .ok (.iload_n 2, 1) := by decide +kernel
theorem dX7_layPieces_28 : decode cX7_layPieces 28 = .ok (.bipush 6, 2) := by decide +kernel
theorem dX7_layPieces_30 : decode cX7_layPieces 30 = .ok (.if_icmp .ge 42, 3) := by decide +kernel
theorem dX7_layPieces_33 : decode cX7_layPieces 33 = .ok (.iload_n 1, 1) := by decide +kernel
theorem dX7_layPieces_34 : decode cX7_layPieces 34 = .ok (.iload_n 2, 1) := by decide +kernel
theorem dX7_layPieces_35 : decode cX7_layPieces 35 = .ok (.iadd, 1) := by decide +kernel
theorem dX7_layPieces_36 : decode cX7_layPieces 36 = .ok (.aload_n 0, 1) := by decide +kernel
theorem dX7_layPieces_37 : decode cX7_layPieces 37 = .ok (.getfield 109, 3) := by decide +kernel
theorem dX7_layPieces_40 : decode cX7_layPieces 40 = .ok (.if_icmp .ge 32, 3) := by decide +kernel
theorem dX7_layPieces_43 : decode cX7_layPieces 43 = .ok (.aload_n 0, 1) := by decide +kernel
theorem dX7_layPieces_44 : decode cX7_layPieces 44 = .ok (.getfield 28, 3) := by decide +kernel
theorem dX7_layPieces_47 : decode cX7_layPieces 47 = .ok (.iload_n 1, 1) := by decide +kernel
theorem dX7_layPieces_48 : decode cX7_layPieces 48 = .ok (.iload_n 2, 1) := by decide +kernel
theorem dX7_layPieces_49 : decode cX7_layPieces 49 = .ok (.iadd, 1) := by decide +kernel
theorem dX7_layPieces_50 : decode cX7_layPieces 50 = .ok (.iaload, 1) := by decide +kernel
theorem dX7_layPieces_51 : decode cX7_layPieces 51 = .ok (.invokestatic 115, 3) := by decide +kernel
theorem dX7_layPieces_54 : decode cX7_layPieces 54 = .ok (.aload_n 0, 1) := by decide +kernel
theorem dX7_layPieces_55 : decode cX7_layPieces 55 = .ok (.getfield 28, 3) := by decide +kernel
theorem dX7_layPieces_58 : decode cX7_layPieces 58 = .ok (.iload_n 1, 1) := by decide +kernel
theorem dX7_layPieces_59 : decode cX7_layPieces 59 = .ok (.iaload, 1) := by decide +kernel
theorem dX7_layPieces_60 : decode cX7_layPieces 60 = .ok (.invokestatic 115, 3) := by decide +kernel
theorem dX7_layPieces_63 : decode cX7_layPieces 63 = .ok (.if_icmp .ne 9, 3) := by decide +kernel
theorem dX7_layPieces_66 : decode cX7_layPieces 66 = .ok (.iinc 2 1, 3) := by decide +kernel
theorem dX7_layPieces_69 : decode cX7_layPieces 69 = .ok (.goto (-42), 3) := by decide +kernel
theorem dX7_layPieces_72 : decode cX7_layPieces 72 = .ok (.iconst 0, 1) := by decide +kernel
theorem dX7_layPieces_73 : decode cX7_layPieces 73 = .ok (.istore_n 3, 1) := by decide +kernel
theorem dX7_layPieces_74 : decode cX7_layPieces 74 = .ok (.iconst 0, 1) := by decide +kernel
theorem dX7_layPieces_75 : decode cX7_layPieces 75 = .ok (.istore 4, 2) := by decide +kernel
theorem dX7_layPieces_77 : decode cX7_layPieces 77 = .ok (.iload 4, 2) := by decide +kernel
theorem dX7_layPieces_79 : decode cX7_layPieces 79 = .ok (.aload_n 0, 1) := by decide +kernel
theorem dX7_layPieces_80 : decode cX7_layPieces 80 = .ok (.getfield 106, 3) := by decide +kernel
theorem dX7_layPieces_83 : decode cX7_layPieces 83 = .ok (.if_icmp .ge 29, 3) := by decide +kernel
theorem dX7_layPieces_86 : decode cX7_layPieces 86 = .ok (.iload_n 3, 1) := by decide +kernel
theorem dX7_layPieces_87 : decode cX7_layPieces 87 = .ok (.ifCond .ne 13, 3) := by decide +kernel
theorem dX7_layPieces_90 : decode cX7_layPieces 90 = .ok (.aload_n 0, 1) := by decide +kernel
theorem dX7_layPieces_91 : decode cX7_layPieces 91 = .ok (.iload 4, 2) := by decide +kernel
theorem dX7_layPieces_93 : decode cX7_layPieces 93 = .ok (.iload_n 1, 1) := by decide +kernel
theorem dX7_layPieces_94 : decode cX7_layPieces 94 = .ok (.invokevirtual 119, 3) := by decide +kernel
theorem dX7_layPieces_97 : decode cX7_layPieces 97 = .ok (.ifCond .eq 7, 3) := by decide +kernel
theorem dX7_layPieces_100 : decode cX7_layPieces 100 = .ok (.iconst 1, 1) := by decide +kernel
theorem dX7_layPieces_101 : decode cX7_layPieces 101 = .ok (.goto 4, 3) := by decide +kernel
theorem dX7_layPieces_104 : decode cX7_layPieces 104 = .ok (.iconst 0, 1) := by decide +kernel
theorem dX7_layPieces_105 : decode cX7_layPieces 105 = .ok (.istore_n 3, 1) := by decide +kernel
theorem dX7_layPieces_106 : decode cX7_layPieces 106 = .ok (.iinc 4 1, 3) := by decide +kernel
theorem dX7_layPieces_109 : decode cX7_layPieces 109 = .ok (.goto (-32), 3) := by decide +kernel
theorem dX7_layPieces_112 : decode cX7_layPieces 112 = .ok (.aload_n 0, 1) := by decide +kernel
theorem dX7_layPieces_113 : decode cX7_layPieces 113 = .ok (.getfield 25, 3) := by decide +kernel
theorem dX7_layPieces_116 : decode cX7_layPieces 116 = .ok (.iconst 0, 1) := by decide +kernel
theorem dX7_layPieces_117 : decode cX7_layPieces 117 = .ok (.iaload, 1) := by decide +kernel
theorem dX7_layPieces_118 : decode cX7_layPieces 118 = .ok (.iconst 1, 1) := by decide +kernel
theorem dX7_layPieces_119 : decode cX7_layPieces 119 = .ok (.if_icmp .eq 16, 3) := by decide +kernel
theorem dX7_layPieces_122 : decode cX7_layPieces 122 = .ok (.aload_n 0, 1) := by decide +kernel
theorem dX7_layPieces_123 : decode cX7_layPieces 123 = .ok (.getfield 25, 3) := by decide +kernel
theorem dX7_layPieces_126 : decode cX7_layPieces 126 = .ok (.iconst 0, 1) := by decide +kernel
theorem dX7_layPieces_127 : decode cX7_layPieces 127 = .ok (.iaload, 1) := by decide +kernel
theorem dX7_layPieces_128 : decode cX7_layPieces 128 = .ok (.ifCond .ne 11, 3) := by decide +kernel
theorem dX7_layPieces_131 : decode cX7_layPieces 131 = .ok (.iload_n 3, 1) := by decide +kernel
theorem dX7_layPieces_132 : decode cX7_layPieces 132 = .ok (.ifCond .ne 7, 3) := by decide +kernel
theorem dX7_layPieces_135 : decode cX7_layPieces 135 = .ok (.iconst 1, 1) := by decide +kernel
theorem dX7_layPieces_136 : decode cX7_layPieces 136 = .ok (.goto 4, 3) := by decide +kernel
theorem dX7_layPieces_139 : decode cX7_layPieces 139 = .ok (.iconst 0, 1) := by decide +kernel
theorem dX7_layPieces_140 : decode cX7_layPieces 140 = .ok (.istore 4, 2) := by decide +kernel
theorem dX7_layPieces_142 : decode cX7_layPieces 142 = .ok (.iconst 1, 1) := by decide +kernel
theorem dX7_layPieces_143 : decode cX7_layPieces 143 = .ok (.istore 5, 2) := by decide +kernel
theorem dX7_layPieces_145 : decode cX7_layPieces 145 = .ok (.iload 5, 2) := by decide +kernel
theorem dX7_layPieces_147 : decode cX7_layPieces 147 = .ok (.bipush 6, 2) := by decide +kernel
theorem dX7_layPieces_149 : decode cX7_layPieces 149 = .ok (.if_icmp .gt 148, 3) := by decide +kernel
theorem dX7_layPieces_152 : decode cX7_layPieces 152 = .ok (.iconst 0, 1) := by decide +kernel
theorem dX7_layPieces_153 : decode cX7_layPieces 153 = .ok (.istore 6, 2) := by decide +kernel
theorem dX7_layPieces_155 : decode cX7_layPieces 155 = .ok (.iload 6, 2) := by decide +kernel
theorem dX7_layPieces_157 : decode cX7_layPieces 157 = .ok (.iconst 3, 1) := by decide +kernel
theorem dX7_layPieces_158 : decode cX7_layPieces 158 = .ok (.if_icmp .ge 79, 3) := by decide +kernel
theorem dX7_layPieces_161 : decode cX7_layPieces 161 = .ok (.iconst 0, 1) := by decide +kernel
theorem dX7_layPieces_162 : decode cX7_layPieces 162 = .ok (.istore 7, 2) := by decide +kernel
theorem dX7_layPieces_164 : decode cX7_layPieces 164 = .ok (.iload 7, 2) := by decide +kernel
theorem dX7_layPieces_166 : decode cX7_layPieces 166 = .ok (.aload_n 0, 1) := by decide +kernel
theorem dX7_layPieces_167 : decode cX7_layPieces 167 = .ok (.getfield 106, 3) := by decide +kernel
theorem dX7_layPieces_170 : decode cX7_layPieces 170 = .ok (.if_icmp .ge 61, 3) := by decide +kernel
theorem dX7_layPieces_173 : decode cX7_layPieces 173 = .ok (.aload_n 0, 1) := by decide +kernel
theorem dX7_layPieces_174 : decode cX7_layPieces 174 = .ok (.getfield 13, 3) := by decide +kernel
theorem dX7_layPieces_177 : decode cX7_layPieces 177 = .ok (.iload 7, 2) := by decide +kernel
theorem dX7_layPieces_179 : decode cX7_layPieces 179 = .ok (.iaload, 1) := by decide +kernel
theorem dX7_layPieces_180 : decode cX7_layPieces 180 = .ok (.iload 5, 2) := by decide +kernel
theorem dX7_layPieces_182 : decode cX7_layPieces 182 = .ok (.if_icmp .ne 43, 3) := by decide +kernel
theorem dX7_layPieces_185 : decode cX7_layPieces 185 = .ok (.aload_n 0, 1) := by decide +kernel
theorem dX7_layPieces_186 : decode cX7_layPieces 186 = .ok (.getfield 16, 3) := by decide +kernel
theorem dX7_layPieces_189 : decode cX7_layPieces 189 = .ok (.iload 7, 2) := by decide +kernel
theorem dX7_layPieces_191 : decode cX7_layPieces 191 = .ok (.iaload, 1) := by decide +kernel
theorem dX7_layPieces_192 : decode cX7_layPieces 192 = .ok (.iload 6, 2) := by decide +kernel
theorem dX7_layPieces_194 : decode cX7_layPieces 194 = .ok (.if_icmp .ne 31, 3) := by decide +kernel
theorem dX7_layPieces_197 : decode cX7_layPieces 197 = .ok (.aload_n 0, 1) := by decide +kernel
theorem dX7_layPieces_198 : decode cX7_layPieces 198 = .ok (.iload 7, 2) := by decide +kernel
theorem dX7_layPieces_200 : decode cX7_layPieces 200 = .ok (.iload_n 1, 1) := by decide +kernel
theorem dX7_layPieces_201 : decode cX7_layPieces 201 = .ok (.invokevirtual 119, 3) := by decide +kernel
theorem dX7_layPieces_204 : decode cX7_layPieces 204 = .ok (.ifCond .eq 21, 3) := by decide +kernel
theorem dX7_layPieces_207 : decode cX7_layPieces 207 = .ok (.aload_n 0, 1) := by decide +kernel
theorem dX7_layPieces_208 : decode cX7_layPieces 208 = .ok (.iload_n 1, 1) := by decide +kernel
theorem dX7_layPieces_209 : decode cX7_layPieces 209 = .ok (.iload 5, 2) := by decide +kernel
theorem dX7_layPieces_211 : decode cX7_layPieces 211 = .ok (.iload 6, 2) := by decide +kernel
theorem dX7_layPieces_213 : decode cX7_layPieces 213 = .ok (.aload_n 0, 1) := by decide +kernel
theorem dX7_layPieces_214 : decode cX7_layPieces 214 = .ok (.getfield 19, 3) := by decide +kernel
theorem dX7_layPieces_217 : decode cX7_layPieces 217 = .ok (.iload 7, 2) := by decide +kernel
theorem dX7_layPieces_219 : decode cX7_layPieces 219 = .ok (.iaload, 1) := by decide +kernel
theorem dX7_layPieces_220 : decode cX7_layPieces 220 = .ok (.iload 7, 2) := by decide +kernel
theorem dX7_layPieces_222 : decode cX7_layPieces 222 = .ok (.invokevirtual 123, 3) := by decide +kernel
theorem dX7_layPieces_225 : decode cX7_layPieces 225 = .ok (.iinc 7 1, 3) := by decide +kernel
theorem dX7_layPieces_228 : decode cX7_layPieces 228 = .ok (.goto (-64), 3) := by decide +kernel
theorem dX7_layPieces_231 : decode cX7_layPieces 231 = .ok (.iinc 6 1, 3) := by decide +kernel
theorem dX7_layPieces_234 : decode cX7_layPieces 234 = .ok (.goto (-79), 3) := by decide +kernel
theorem dX7_layPieces_237 : decode cX7_layPieces 237 = .ok (.iload 4, 2) := by decide +kernel
theorem dX7_layPieces_239 : decode cX7_layPieces 239 = .ok (.ifCond .eq 52, 3) := by decide +kernel
theorem dX7_layPieces_242 : decode cX7_layPieces 242 = .ok (.iload 5, 2) := by decide +kernel
theorem dX7_layPieces_244 : decode cX7_layPieces 244 = .ok (.iload_n 2, 1) := by decide +kernel
theorem dX7_layPieces_245 : decode cX7_layPieces 245 = .ok (.if_icmp .eq 20, 3) := by decide +kernel
theorem dX7_layPieces_248 : decode cX7_layPieces 248 = .ok (.iload 5, 2) := by decide +kernel
theorem dX7_layPieces_250 : decode cX7_layPieces 250 = .ok (.iload_n 2, 1) := by decide +kernel
theorem dX7_layPieces_251 : decode cX7_layPieces 251 = .ok (.if_icmp .ge 40, 3) := by decide +kernel
theorem dX7_layPieces_254 : decode cX7_layPieces 254 = .ok (.iload 5, 2) := by decide +kernel
theorem dX7_layPieces_256 : decode cX7_layPieces 256 = .ok (.aload_n 0, 1) := by decide +kernel
theorem dX7_layPieces_257 : decode cX7_layPieces 257 = .ok (.getfield 25, 3) := by decide +kernel
theorem dX7_layPieces_260 : decode cX7_layPieces 260 = .ok (.iconst 3, 1) := by decide +kernel
theorem dX7_layPieces_261 : decode cX7_layPieces 261 = .ok (.iaload, 1) := by decide +kernel
theorem dX7_layPieces_262 : decode cX7_layPieces 262 = .ok (.if_icmp .gt 29, 3) := by decide +kernel
theorem dX7_layPieces_265 : decode cX7_layPieces 265 = .ok (.aload_n 0, 1) := by decide +kernel
theorem dX7_layPieces_266 : decode cX7_layPieces 266 = .ok (.iload_n 1, 1) := by decide +kernel
theorem dX7_layPieces_267 : decode cX7_layPieces 267 = .ok (.iload 5, 2) := by decide +kernel
theorem dX7_layPieces_269 : decode cX7_layPieces 269 = .ok (.iconst 3, 1) := by decide +kernel
theorem dX7_layPieces_270 : decode cX7_layPieces 270 = .ok (.aload_n 0, 1) := by decide +kernel
theorem dX7_layPieces_271 : decode cX7_layPieces 271 = .ok (.getfield 25, 3) := by decide +kernel
theorem dX7_layPieces_274 : decode cX7_layPieces 274 = .ok (.iconst 1, 1) := by decide +kernel
theorem dX7_layPieces_275 : decode cX7_layPieces 275 = .ok (.iaload, 1) := by decide +kernel
theorem dX7_layPieces_276 : decode cX7_layPieces 276 = .ok (.iload 5, 2) := by decide +kernel
theorem dX7_layPieces_278 : decode cX7_layPieces 278 = .ok (.aload_n 0, 1) := by decide +kernel
theorem dX7_layPieces_279 : decode cX7_layPieces 279 = .ok (.getfield 25, 3) := by decide +kernel
theorem dX7_layPieces_282 : decode cX7_layPieces 282 = .ok (.iconst 2, 1) := by decide +kernel
theorem dX7_layPieces_283 : decode cX7_layPieces 283 = .ok (.iaload, 1) := by decide +kernel
theorem dX7_layPieces_284 : decode cX7_layPieces 284 = .ok (.imul, 1) := by decide +kernel
theorem dX7_layPieces_285 : decode cX7_layPieces 285 = .ok (.iadd, 1) := by decide +kernel
theorem dX7_layPieces_286 : decode cX7_layPieces 286 = .ok (.bipush (-6), 2) := by decide +kernel
theorem dX7_layPieces_288 : decode cX7_layPieces 288 = .ok (.invokevirtual 123, 3) := by decide +kernel
theorem dX7_layPieces_291 : decode cX7_layPieces 291 = .ok (.iinc 5 1, 3) := by decide +kernel
theorem dX7_layPieces_294 : decode cX7_layPieces 294 = .ok (.goto (-149), 3) := by decide +kernel
theorem dX7_layPieces_297 : decode cX7_layPieces 297 = .ok (.iinc 1 1, 3) := by decide +kernel
theorem dX7_layPieces_300 : decode cX7_layPieces 300 = .ok (.goto (-293), 3) := by decide +kernel
theorem dX7_layPieces_303 : decode cX7_layPieces 303 = .ok (.aload_n 0, 1) := by decide +kernel
theorem dX7_layPieces_304 : decode cX7_layPieces 304 = .ok (.getfield 49, 3) := by decide +kernel
theorem dX7_layPieces_307 : decode cX7_layPieces 307 = .ok (.aload_n 0, 1) := by decide +kernel
theorem dX7_layPieces_308 : decode cX7_layPieces 308 = .ok (.getfield 109, 3) := by decide +kernel
theorem dX7_layPieces_311 : decode cX7_layPieces 311 = .ok (.aload_n 0, 1) := by decide +kernel
theorem dX7_layPieces_312 : decode cX7_layPieces 312 = .ok (.getfield 112, 3) := by decide +kernel
theorem dX7_layPieces_315 : decode cX7_layPieces 315 = .ok (.iastore, 1) := by decide +kernel
theorem dX7_layPieces_316 : decode cX7_layPieces 316 = .ok (.return_, 1) := by decide +kernel
theorem dX7_behind_0 : decode cX7_behind 0 = .ok (.aload_n 0, 1) := by decide +kernel
theorem dX7_behind_1 : decode cX7_behind 1 = .ok (.getfield 34, 3) := by decide +kernel
theorem dX7_behind_4 : decode cX7_behind 4 = .ok (.iload_n 1, 1) := by decide +kernel
theorem dX7_behind_5 : decode cX7_behind 5 = .ok (.iaload, 1) := by decide +kernel
theorem dX7_behind_6 : decode cX7_behind 6 = .ok (.aload_n 0, 1) := by decide +kernel
theorem dX7_behind_7 : decode cX7_behind 7 = .ok (.getfield 37, 3) := by decide +kernel
theorem dX7_behind_10 : decode cX7_behind 10 = .ok (.iload_n 1, 1) := by decide +kernel
theorem dX7_behind_11 : decode cX7_behind 11 = .ok (.iaload, 1) := by decide +kernel
theorem dX7_behind_12 : decode cX7_behind 12 = .ok (.iadd, 1) := by decide +kernel
theorem dX7_behind_13 : decode cX7_behind 13 = .ok (.ireturn, 1) := by decide +kernel
theorem dX7_joinOf_0 : decode cX7_joinOf 0 = .ok (.aload_n 0, 1) := by decide +kernel
theorem dX7_joinOf_1 : decode cX7_joinOf 1 = .ok (.getfield 22, 3) := by decide +kernel
theorem dX7_joinOf_4 : decode cX7_joinOf 4 = .ok (.iconst 5, 1) := by decide +kernel
theorem dX7_joinOf_5 : decode cX7_joinOf 5 = .ok (.aload_n 0, 1) := by decide +kernel
theorem dX7_joinOf_6 : decode cX7_joinOf 6 = .ok (.getfield 40, 3) := by decide +kernel
theorem dX7_joinOf_9 : decode cX7_joinOf 9 = .ok (.iload_n 1, 1) := by decide +kernel
theorem dX7_joinOf_10 : decode cX7_joinOf 10 = .ok (.iaload, 1) := by decide +kernel
theorem dX7_joinOf_11 : decode cX7_joinOf 11 = .ok (.imul, 1) := by decide +kernel
theorem dX7_joinOf_12 : decode cX7_joinOf 12 = .ok (.aload_n 0, 1) := by decide +kernel
theorem dX7_joinOf_13 : decode cX7_joinOf 13 = .ok (.getfield 40, 3) := by decide +kernel
theorem dX7_joinOf_16 : decode cX7_joinOf 16 = .ok (.iload_n 2, 1) := by decide +kernel
theorem dX7_joinOf_17 : decode cX7_joinOf 17 = .ok (.iaload, 1) := by decide +kernel
theorem dX7_joinOf_18 : decode cX7_joinOf 18 = .ok (.iadd, 1) := by decide +kernel
theorem dX7_joinOf_19 : decode cX7_joinOf 19 = .ok (.iaload, 1) := by decide +kernel
theorem dX7_joinOf_20 : decode cX7_joinOf 20 = .ok (.ireturn, 1) := by decide +kernel
theorem dX7_layRows_0 : decode cX7_layRows 0 = .ok (.aload_n 0, 1) := by decide +kernel
theorem dX7_layRows_1 : decode cX7_layRows 1 = .ok (.invokevirtual 127, 3) := by decide +kernel
theorem dX7_layRows_4 : decode cX7_layRows 4 = .ok (.aload_n 0, 1) := by decide +kernel
theorem dX7_layRows_5 : decode cX7_layRows 5 = .ok (.getfield 112, 3) := by decide +kernel
theorem dX7_layRows_8 : decode cX7_layRows 8 = .ok (.iconst 1, 1) := by decide +kernel
theorem dX7_layRows_9 : decode cX7_layRows 9 = .ok (.isub, 1) := by decide +kernel
theorem dX7_layRows_10 : decode cX7_layRows 10 = .ok (.istore_n 1, 1) := by decide +kernel
theorem dX7_layRows_11 : decode cX7_layRows 11 = .ok (.iload_n 1, 1) := by decide +kernel
theorem dX7_layRows_12 : decode cX7_layRows 12 = .ok (.ifCond .lt 339, 3) := by decide +kernel
theorem dX7_layRows_15 : decode cX7_layRows 15 = .ok (.aload_n 0, 1) := by decide +kernel
theorem dX7_layRows_16 : decode cX7_layRows 16 = .ok (.getfield 58, 3) := by decide +kernel
theorem dX7_layRows_19 : decode cX7_layRows 19 = .ok (.iload_n 1, 1) := by decide +kernel
theorem dX7_layRows_20 : decode cX7_layRows 20 = .ok (.iconst 0, 1) := by decide +kernel
theorem dX7_layRows_21 : decode cX7_layRows 21 = .ok (.iastore, 1) := by decide +kernel
theorem dX7_layRows_22 : decode cX7_layRows 22 = .ok (.aload_n 0, 1) := by decide +kernel
theorem dX7_layRows_23 : decode cX7_layRows 23 = .ok (.iload_n 1, 1) := by decide +kernel
theorem dX7_layRows_24 : decode cX7_layRows 24 = .ok (.invokevirtual 130, 3) := by decide +kernel
theorem dX7_layRows_27 : decode cX7_layRows 27 = .ok (.istore_n 2, 1) := by decide +kernel
theorem dX7_layRows_28 : decode cX7_layRows 28 = .ok (.iload_n 2, 1) := by decide +kernel
theorem dX7_layRows_29 : decode cX7_layRows 29 = .ok (.aload_n 0, 1) := by decide +kernel
theorem dX7_layRows_30 : decode cX7_layRows 30 = .ok (.getfield 109, 3) := by decide +kernel
theorem dX7_layRows_33 : decode cX7_layRows 33 = .ok (.if_icmp .ne 55, 3) := by decide +kernel
theorem dX7_layRows_36 : decode cX7_layRows 36 = .ok (.aload_n 0, 1) := by decide +kernel
theorem dX7_layRows_37 : decode cX7_layRows 37 = .ok (.getfield 52, 3) := by decide +kernel
theorem dX7_layRows_40 : decode cX7_layRows 40 = .ok (.bipush 12, 2) := by decide +kernel
theorem dX7_layRows_42 : decode cX7_layRows 42 = .ok (.iload_n 1, 1) := by decide +kernel
theorem dX7_layRows_43 : decode cX7_layRows 43 = .ok (.imul, 1) := by decide +kernel
theorem dX7_layRows_44 : decode cX7_layRows 44 = .ok (.aload_n 0, 1) := by decide +kernel
theorem dX7_layRows_45 : decode cX7_layRows 45 = .ok (.getfield 43, 3) := by decide +kernel
theorem dX7_layRows_48 : decode cX7_layRows 48 = .ok (.iload_n 1, 1) := by decide +kernel
theorem dX7_layRows_49 : decode cX7_layRows 49 = .ok (.iaload, 1) := by decide +kernel
theorem dX7_layRows_50 : decode cX7_layRows 50 = .ok (.aload_n 0, 1) := by decide +kernel
theorem dX7_layRows_51 : decode cX7_layRows 51 = .ok (.getfield 22, 3) := by decide +kernel
theorem dX7_layRows_54 : decode cX7_layRows 54 = .ok (.iconst 5, 1) := by decide +kernel
theorem dX7_layRows_55 : decode cX7_layRows 55 = .ok (.aload_n 0, 1) := by decide +kernel
theorem dX7_layRows_56 : decode cX7_layRows 56 = .ok (.getfield 40, 3) := by decide +kernel
theorem dX7_layRows_59 : decode cX7_layRows 59 = .ok (.iload_n 1, 1) := by decide +kernel
theorem dX7_layRows_60 : decode cX7_layRows 60 = .ok (.iaload, 1) := by decide +kernel
theorem dX7_layRows_61 : decode cX7_layRows 61 = .ok (.imul, 1) := by decide +kernel
theorem dX7_layRows_62 : decode cX7_layRows 62 = .ok (.iconst 4, 1) := by decide +kernel
theorem dX7_layRows_63 : decode cX7_layRows 63 = .ok (.iadd, 1) := by decide +kernel
theorem dX7_layRows_64 : decode cX7_layRows 64 = .ok (.iaload, 1) := by decide +kernel
theorem dX7_layRows_65 : decode cX7_layRows 65 = .ok (.iadd, 1) := by decide +kernel
theorem dX7_layRows_66 : decode cX7_layRows 66 = .ok (.iastore, 1) := by decide +kernel
theorem dX7_layRows_67 : decode cX7_layRows 67 = .ok (.aload_n 0, 1) := by decide +kernel
theorem dX7_layRows_68 : decode cX7_layRows 68 = .ok (.getfield 55, 3) := by decide +kernel
theorem dX7_layRows_71 : decode cX7_layRows 71 = .ok (.bipush 12, 2) := by decide +kernel
theorem dX7_layRows_73 : decode cX7_layRows 73 = .ok (.iload_n 1, 1) := by decide +kernel
theorem dX7_layRows_74 : decode cX7_layRows 74 = .ok (.imul, 1) := by decide +kernel
theorem dX7_layRows_75 : decode cX7_layRows 75 = .ok (.bipush (-6), 2) := by decide +kernel
theorem dX7_layRows_77 : decode cX7_layRows 77 = .ok (.iastore, 1) := by decide +kernel
theorem dX7_layRows_78 : decode cX7_layRows 78 = .ok (.aload_n 0, 1) := by decide +kernel
theorem dX7_layRows_79 : decode cX7_layRows 79 = .ok (.getfield 58, 3) := by decide +kernel
theorem dX7_layRows_82 : decode cX7_layRows 82 = .ok (.iload_n 1, 1) := by decide +kernel
theorem dX7_layRows_83 : decode cX7_layRows 83 = .ok (.iconst 1, 1) := by decide +kernel
theorem dX7_layRows_84 : decode cX7_layRows 84 = .ok (.iastore, 1) := by decide +kernel
theorem dX7_layRows_85 : decode cX7_layRows 85 = .ok (.goto 260, 3) := by decide +kernel
theorem dX7_layRows_88 : decode cX7_layRows 88 = .ok (.iconst 1, 1) := by decide +kernel
theorem dX7_layRows_89 : decode cX7_layRows 89 = .ok (.istore_n 3, 1) := by decide +kernel
theorem dX7_layRows_90 : decode cX7_layRows 90 = .ok (.iconst (-1), 1) := by decide +kernel
theorem dX7_layRows_91 : decode cX7_layRows 91 = .ok (.istore 4, 2) := by decide +kernel
theorem dX7_layRows_93 : decode cX7_layRows 93 = .ok (.iconst (-1), 1) := by decide +kernel
theorem dX7_layRows_94 : decode cX7_layRows 94 = .ok (.istore 5, 2) := by decide +kernel
theorem dX7_layRows_96 : decode cX7_layRows 96 = .ok (.iload_n 3, 1) := by decide +kernel
theorem dX7_layRows_97 : decode cX7_layRows 97 = .ok (.ifCond .eq 248, 3) := by decide +kernel
theorem dX7_layRows_100 : decode cX7_layRows 100 = .ok (.aload_n 0, 1) := by decide +kernel
theorem dX7_layRows_101 : decode cX7_layRows 101 = .ok (.getfield 58, 3) := by decide +kernel
theorem dX7_layRows_104 : decode cX7_layRows 104 = .ok (.iload_n 1, 1) := by decide +kernel
theorem dX7_layRows_105 : decode cX7_layRows 105 = .ok (.iaload, 1) := by decide +kernel
theorem dX7_layRows_106 : decode cX7_layRows 106 = .ok (.bipush 12, 2) := by decide +kernel
theorem dX7_layRows_108 : decode cX7_layRows 108 = .ok (.if_icmp .ge 237, 3) := by decide +kernel
theorem dX7_layRows_111 : decode cX7_layRows 111 = .ok (.iconst 0, 1) := by decide +kernel
theorem dX7_layRows_112 : decode cX7_layRows 112 = .ok (.istore 6, 2) := by decide +kernel
theorem dX7_layRows_114 : decode cX7_layRows 114 = .ok (.bipush (-6), 2) := by decide +kernel
theorem dX7_layRows_116 : decode cX7_layRows 116 = .ok (.istore 7, 2) := by decide +kernel
theorem dX7_layRows_118 : decode cX7_layRows 118 = .ok (.aload_n 0, 1) := by decide +kernel
theorem dX7_layRows_119 : decode cX7_layRows 119 = .ok (.getfield 49, 3) := by decide +kernel
theorem dX7_layRows_122 : decode cX7_layRows 122 = .ok (.iload_n 2, 1) := by decide +kernel
theorem dX7_layRows_123 : decode cX7_layRows 123 = .ok (.iaload, 1) := by decide +kernel
theorem dX7_layRows_124 : decode cX7_layRows 124 = .ok (.istore 8, 2) := by decide +kernel
theorem dX7_layRows_126 : decode cX7_layRows 126 = .ok (.iload 8, 2) := by decide +kernel
theorem dX7_layRows_128 : decode cX7_layRows 128 = .ok (.aload_n 0, 1) := by decide +kernel
theorem dX7_layRows_129 : decode cX7_layRows 129 = .ok (.getfield 49, 3) := by decide +kernel
theorem dX7_layRows_132 : decode cX7_layRows 132 = .ok (.iload_n 2, 1) := by decide +kernel
theorem dX7_layRows_133 : decode cX7_layRows 133 = .ok (.iconst 1, 1) := by decide +kernel
theorem dX7_layRows_134 : decode cX7_layRows 134 = .ok (.iadd, 1) := by decide +kernel
theorem dX7_layRows_135 : decode cX7_layRows 135 = .ok (.iaload, 1) := by decide +kernel
theorem dX7_layRows_136 : decode cX7_layRows 136 = .ok (.if_icmp .ge 137, 3) := by decide +kernel
theorem dX7_layRows_139 : decode cX7_layRows 139 = .ok (.iconst 0, 1) := by decide +kernel
theorem dX7_layRows_140 : decode cX7_layRows 140 = .ok (.istore 9, 2) := by decide +kernel
theorem dX7_layRows_142 : decode cX7_layRows 142 = .ok (.iload 9, 2) := by decide +kernel
theorem dX7_layRows_144 : decode cX7_layRows 144 = .ok (.aload_n 0, 1) := by decide +kernel
theorem dX7_layRows_145 : decode cX7_layRows 145 = .ok (.getfield 58, 3) := by decide +kernel
theorem dX7_layRows_148 : decode cX7_layRows 148 = .ok (.iload 8, 2) := by decide +kernel
theorem dX7_layRows_150 : decode cX7_layRows 150 = .ok (.iaload, 1) := by decide +kernel
theorem dX7_layRows_151 : decode cX7_layRows 151 = .ok (.if_icmp .ge 116, 3) := by decide +kernel
theorem dX7_layRows_154 : decode cX7_layRows 154 = .ok (.aload_n 0, 1) := by decide +kernel
theorem dX7_layRows_155 : decode cX7_layRows 155 = .ok (.getfield 43, 3) := by decide +kernel
theorem dX7_layRows_158 : decode cX7_layRows 158 = .ok (.iload_n 1, 1) := by decide +kernel
theorem dX7_layRows_159 : decode cX7_layRows 159 = .ok (.iaload, 1) := by decide +kernel
theorem dX7_layRows_160 : decode cX7_layRows 160 = .ok (.aload_n 0, 1) := by decide +kernel
theorem dX7_layRows_161 : decode cX7_layRows 161 = .ok (.iload_n 1, 1) := by decide +kernel
theorem dX7_layRows_162 : decode cX7_layRows 162 = .ok (.iload 8, 2) := by decide +kernel
end
section
theorem dX7_layRows_164 : decode cX7_layRows 164 = .ok (.invokevirtual 133, 3) := by decide +kernel
theorem dX7_layRows_167 : decode cX7_layRows 167 = .ok (.iadd, 1) := by decide +kernel
theorem dX7_layRows_168 : decode cX7_layRows 168 = .ok (.aload_n 0, 1) := by decide +kernel
theorem dX7_layRows_169 : decode cX7_layRows 169 = .ok (.getfield 52, 3) := by decide +kernel
theorem dX7_layRows_172 : decode cX7_layRows 172 = .ok (.bipush 12, 2) := by decide +kernel
theorem dX7_layRows_174 : decode cX7_layRows 174 = .ok (.iload 8, 2) := by decide +kernel
theorem dX7_layRows_176 : decode cX7_layRows 176 = .ok (.imul, 1) := by decide +kernel
theorem dX7_layRows_177 : decode cX7_layRows 177 = .ok (.iload 9, 2) := by decide +kernel
theorem dX7_layRows_179 : decode cX7_layRows 179 = .ok (.iadd, 1) := by decide +kernel
theorem dX7_layRows_180 : decode cX7_layRows 180 = .ok (.iaload, 1) := by decide +kernel
theorem dX7_layRows_181 : decode cX7_layRows 181 = .ok (.iadd, 1) := by decide +kernel
theorem dX7_layRows_182 : decode cX7_layRows 182 = .ok (.istore 10, 2) := by decide +kernel
theorem dX7_layRows_184 : decode cX7_layRows 184 = .ok (.bipush 16, 2) := by decide +kernel
theorem dX7_layRows_186 : decode cX7_layRows 186 = .ok (.iload 8, 2) := by decide +kernel
theorem dX7_layRows_188 : decode cX7_layRows 188 = .ok (.imul, 1) := by decide +kernel
theorem dX7_layRows_189 : decode cX7_layRows 189 = .ok (.iload 9, 2) := by decide +kernel
theorem dX7_layRows_191 : decode cX7_layRows 191 = .ok (.iadd, 1) := by decide +kernel
theorem dX7_layRows_192 : decode cX7_layRows 192 = .ok (.istore 11, 2) := by decide +kernel
theorem dX7_layRows_194 : decode cX7_layRows 194 = .ok (.iload 10, 2) := by decide +kernel
theorem dX7_layRows_196 : decode cX7_layRows 196 = .ok (.iload 4, 2) := by decide +kernel
theorem dX7_layRows_198 : decode cX7_layRows 198 = .ok (.if_icmp .gt 17, 3) := by decide +kernel
theorem dX7_layRows_201 : decode cX7_layRows 201 = .ok (.iload 10, 2) := by decide +kernel
theorem dX7_layRows_203 : decode cX7_layRows 203 = .ok (.iload 4, 2) := by decide +kernel
theorem dX7_layRows_205 : decode cX7_layRows 205 = .ok (.if_icmp .ne 14, 3) := by decide +kernel
theorem dX7_layRows_208 : decode cX7_layRows 208 = .ok (.iload 11, 2) := by decide +kernel
theorem dX7_layRows_210 : decode cX7_layRows 210 = .ok (.iload 5, 2) := by decide +kernel
theorem dX7_layRows_212 : decode cX7_layRows 212 = .ok (.if_icmp .le 7, 3) := by decide +kernel
theorem dX7_layRows_215 : decode cX7_layRows 215 = .ok (.iconst 1, 1) := by decide +kernel
theorem dX7_layRows_216 : decode cX7_layRows 216 = .ok (.goto 4, 3) := by decide +kernel
theorem dX7_layRows_219 : decode cX7_layRows 219 = .ok (.iconst 0, 1) := by decide +kernel
theorem dX7_layRows_220 : decode cX7_layRows 220 = .ok (.istore 12, 2) := by decide +kernel
theorem dX7_layRows_222 : decode cX7_layRows 222 = .ok (.iload 12, 2) := by decide +kernel
theorem dX7_layRows_224 : decode cX7_layRows 224 = .ok (.ifCond .eq 37, 3) := by decide +kernel
theorem dX7_layRows_227 : decode cX7_layRows 227 = .ok (.iload 7, 2) := by decide +kernel
theorem dX7_layRows_229 : decode cX7_layRows 229 = .ok (.ifCond .lt 24, 3) := by decide +kernel
theorem dX7_layRows_232 : decode cX7_layRows 232 = .ok (.iload 10, 2) := by decide +kernel
theorem dX7_layRows_234 : decode cX7_layRows 234 = .ok (.iload 6, 2) := by decide +kernel
theorem dX7_layRows_236 : decode cX7_layRows 236 = .ok (.if_icmp .lt 17, 3) := by decide +kernel
theorem dX7_layRows_239 : decode cX7_layRows 239 = .ok (.iload 10, 2) := by decide +kernel
theorem dX7_layRows_241 : decode cX7_layRows 241 = .ok (.iload 6, 2) := by decide +kernel
theorem dX7_layRows_243 : decode cX7_layRows 243 = .ok (.if_icmp .ne 18, 3) := by decide +kernel
theorem dX7_layRows_246 : decode cX7_layRows 246 = .ok (.iload 11, 2) := by decide +kernel
theorem dX7_layRows_248 : decode cX7_layRows 248 = .ok (.iload 7, 2) := by decide +kernel
theorem dX7_layRows_250 : decode cX7_layRows 250 = .ok (.if_icmp .ge 11, 3) := by decide +kernel
theorem dX7_layRows_253 : decode cX7_layRows 253 = .ok (.iload 11, 2) := by decide +kernel
theorem dX7_layRows_255 : decode cX7_layRows 255 = .ok (.istore 7, 2) := by decide +kernel
theorem dX7_layRows_257 : decode cX7_layRows 257 = .ok (.iload 10, 2) := by decide +kernel
theorem dX7_layRows_259 : decode cX7_layRows 259 = .ok (.istore 6, 2) := by decide +kernel
theorem dX7_layRows_261 : decode cX7_layRows 261 = .ok (.iinc 9 1, 3) := by decide +kernel
theorem dX7_layRows_264 : decode cX7_layRows 264 = .ok (.goto (-122), 3) := by decide +kernel
theorem dX7_layRows_267 : decode cX7_layRows 267 = .ok (.iinc 8 1, 3) := by decide +kernel
theorem dX7_layRows_270 : decode cX7_layRows 270 = .ok (.goto (-144), 3) := by decide +kernel
theorem dX7_layRows_273 : decode cX7_layRows 273 = .ok (.iload 7, 2) := by decide +kernel
theorem dX7_layRows_275 : decode cX7_layRows 275 = .ok (.ifCond .lt 7, 3) := by decide +kernel
theorem dX7_layRows_278 : decode cX7_layRows 278 = .ok (.iconst 1, 1) := by decide +kernel
theorem dX7_layRows_279 : decode cX7_layRows 279 = .ok (.goto 4, 3) := by decide +kernel
theorem dX7_layRows_282 : decode cX7_layRows 282 = .ok (.iconst 0, 1) := by decide +kernel
theorem dX7_layRows_283 : decode cX7_layRows 283 = .ok (.istore_n 3, 1) := by decide +kernel
theorem dX7_layRows_284 : decode cX7_layRows 284 = .ok (.iload_n 3, 1) := by decide +kernel
theorem dX7_layRows_285 : decode cX7_layRows 285 = .ok (.ifCond .eq 57, 3) := by decide +kernel
theorem dX7_layRows_288 : decode cX7_layRows 288 = .ok (.aload_n 0, 1) := by decide +kernel
theorem dX7_layRows_289 : decode cX7_layRows 289 = .ok (.getfield 52, 3) := by decide +kernel
theorem dX7_layRows_292 : decode cX7_layRows 292 = .ok (.bipush 12, 2) := by decide +kernel
theorem dX7_layRows_294 : decode cX7_layRows 294 = .ok (.iload_n 1, 1) := by decide +kernel
theorem dX7_layRows_295 : decode cX7_layRows 295 = .ok (.imul, 1) := by decide +kernel
theorem dX7_layRows_296 : decode cX7_layRows 296 = .ok (.aload_n 0, 1) := by decide +kernel
theorem dX7_layRows_297 : decode cX7_layRows 297 = .ok (.getfield 58, 3) := by decide +kernel
theorem dX7_layRows_300 : decode cX7_layRows 300 = .ok (.iload_n 1, 1) := by decide +kernel
theorem dX7_layRows_301 : decode cX7_layRows 301 = .ok (.iaload, 1) := by decide +kernel
theorem dX7_layRows_302 : decode cX7_layRows 302 = .ok (.iadd, 1) := by decide +kernel
theorem dX7_layRows_303 : decode cX7_layRows 303 = .ok (.iload 6, 2) := by decide +kernel
theorem dX7_layRows_305 : decode cX7_layRows 305 = .ok (.iastore, 1) := by decide +kernel
theorem dX7_layRows_306 : decode cX7_layRows 306 = .ok (.aload_n 0, 1) := by decide +kernel
theorem dX7_layRows_307 : decode cX7_layRows 307 = .ok (.getfield 55, 3) := by decide +kernel
theorem dX7_layRows_310 : decode cX7_layRows 310 = .ok (.bipush 12, 2) := by decide +kernel
theorem dX7_layRows_312 : decode cX7_layRows 312 = .ok (.iload_n 1, 1) := by decide +kernel
theorem dX7_layRows_313 : decode cX7_layRows 313 = .ok (.imul, 1) := by decide +kernel
theorem dX7_layRows_314 : decode cX7_layRows 314 = .ok (.aload_n 0, 1) := by decide +kernel
theorem dX7_layRows_315 : decode cX7_layRows 315 = .ok (.getfield 58, 3) := by decide +kernel
theorem dX7_layRows_318 : decode cX7_layRows 318 = .ok (.iload_n 1, 1) := by decide +kernel
theorem dX7_layRows_319 : decode cX7_layRows 319 = .ok (.iaload, 1) := by decide +kernel
theorem dX7_layRows_320 : decode cX7_layRows 320 = .ok (.iadd, 1) := by decide +kernel
theorem dX7_layRows_321 : decode cX7_layRows 321 = .ok (.iload 7, 2) := by decide +kernel
theorem dX7_layRows_323 : decode cX7_layRows 323 = .ok (.iastore, 1) := by decide +kernel
theorem dX7_layRows_324 : decode cX7_layRows 324 = .ok (.aload_n 0, 1) := by decide +kernel
theorem dX7_layRows_325 : decode cX7_layRows 325 = .ok (.getfield 58, 3) := by decide +kernel
theorem dX7_layRows_328 : decode cX7_layRows 328 = .ok (.iload_n 1, 1) := by decide +kernel
theorem dX7_layRows_329 : decode cX7_layRows 329 = .ok (.dup2, 1) := by decide +kernel
theorem dX7_layRows_330 : decode cX7_layRows 330 = .ok (.iaload, 1) := by decide +kernel
theorem dX7_layRows_331 : decode cX7_layRows 331 = .ok (.iconst 1, 1) := by decide +kernel
theorem dX7_layRows_332 : decode cX7_layRows 332 = .ok (.iadd, 1) := by decide +kernel
theorem dX7_layRows_333 : decode cX7_layRows 333 = .ok (.iastore, 1) := by decide +kernel
theorem dX7_layRows_334 : decode cX7_layRows 334 = .ok (.iload 6, 2) := by decide +kernel
theorem dX7_layRows_336 : decode cX7_layRows 336 = .ok (.istore 4, 2) := by decide +kernel
theorem dX7_layRows_338 : decode cX7_layRows 338 = .ok (.iload 7, 2) := by decide +kernel
theorem dX7_layRows_340 : decode cX7_layRows 340 = .ok (.istore 5, 2) := by decide +kernel
theorem dX7_layRows_342 : decode cX7_layRows 342 = .ok (.goto (-246), 3) := by decide +kernel
theorem dX7_layRows_345 : decode cX7_layRows 345 = .ok (.iinc 1 (-1), 3) := by decide +kernel
theorem dX7_layRows_348 : decode cX7_layRows 348 = .ok (.goto (-337), 3) := by decide +kernel
theorem dX7_layRows_351 : decode cX7_layRows 351 = .ok (.return_, 1) := by decide +kernel
theorem dX7_cuttingOf_0 : decode cX7_cuttingOf 0 = .ok (.iconst (-1), 1) := by decide +kernel
theorem dX7_cuttingOf_1 : decode cX7_cuttingOf 1 = .ok (.istore_n 2, 1) := by decide +kernel
theorem dX7_cuttingOf_2 : decode cX7_cuttingOf 2 = .ok (.iconst (-1), 1) := by decide +kernel
theorem dX7_cuttingOf_3 : decode cX7_cuttingOf 3 = .ok (.istore_n 3, 1) := by decide +kernel
theorem dX7_cuttingOf_4 : decode cX7_cuttingOf 4 = .ok (.bipush (-6), 2) := by decide +kernel
theorem dX7_cuttingOf_6 : decode cX7_cuttingOf 6 = .ok (.istore 4, 2) := by decide +kernel
theorem dX7_cuttingOf_8 : decode cX7_cuttingOf 8 = .ok (.iconst 0, 1) := by decide +kernel
theorem dX7_cuttingOf_9 : decode cX7_cuttingOf 9 = .ok (.istore 5, 2) := by decide +kernel
theorem dX7_cuttingOf_11 : decode cX7_cuttingOf 11 = .ok (.iload 5, 2) := by decide +kernel
theorem dX7_cuttingOf_13 : decode cX7_cuttingOf 13 = .ok (.iload_n 1, 1) := by decide +kernel
theorem dX7_cuttingOf_14 : decode cX7_cuttingOf 14 = .ok (.if_icmp .gt 181, 3) := by decide +kernel
theorem dX7_cuttingOf_17 : decode cX7_cuttingOf 17 = .ok (.iconst 0, 1) := by decide +kernel
theorem dX7_cuttingOf_18 : decode cX7_cuttingOf 18 = .ok (.istore 6, 2) := by decide +kernel
theorem dX7_cuttingOf_20 : decode cX7_cuttingOf 20 = .ok (.bipush (-6), 2) := by decide +kernel
theorem dX7_cuttingOf_22 : decode cX7_cuttingOf 22 = .ok (.istore 4, 2) := by decide +kernel
theorem dX7_cuttingOf_24 : decode cX7_cuttingOf 24 = .ok (.aload_n 0, 1) := by decide +kernel
theorem dX7_cuttingOf_25 : decode cX7_cuttingOf 25 = .ok (.getfield 49, 3) := by decide +kernel
theorem dX7_cuttingOf_28 : decode cX7_cuttingOf 28 = .ok (.iconst 0, 1) := by decide +kernel
theorem dX7_cuttingOf_29 : decode cX7_cuttingOf 29 = .ok (.iaload, 1) := by decide +kernel
theorem dX7_cuttingOf_30 : decode cX7_cuttingOf 30 = .ok (.istore 7, 2) := by decide +kernel
theorem dX7_cuttingOf_32 : decode cX7_cuttingOf 32 = .ok (.iload 7, 2) := by decide +kernel
theorem dX7_cuttingOf_34 : decode cX7_cuttingOf 34 = .ok (.aload_n 0, 1) := by decide +kernel
theorem dX7_cuttingOf_35 : decode cX7_cuttingOf 35 = .ok (.getfield 49, 3) := by decide +kernel
theorem dX7_cuttingOf_38 : decode cX7_cuttingOf 38 = .ok (.iconst 1, 1) := by decide +kernel
theorem dX7_cuttingOf_39 : decode cX7_cuttingOf 39 = .ok (.iaload, 1) := by decide +kernel
theorem dX7_cuttingOf_40 : decode cX7_cuttingOf 40 = .ok (.if_icmp .ge 135, 3) := by decide +kernel
theorem dX7_cuttingOf_43 : decode cX7_cuttingOf 43 = .ok (.iconst 0, 1) := by decide +kernel
theorem dX7_cuttingOf_44 : decode cX7_cuttingOf 44 = .ok (.istore 8, 2) := by decide +kernel
theorem dX7_cuttingOf_46 : decode cX7_cuttingOf 46 = .ok (.iload 8, 2) := by decide +kernel
theorem dX7_cuttingOf_48 : decode cX7_cuttingOf 48 = .ok (.aload_n 0, 1) := by decide +kernel
theorem dX7_cuttingOf_49 : decode cX7_cuttingOf 49 = .ok (.getfield 58, 3) := by decide +kernel
theorem dX7_cuttingOf_52 : decode cX7_cuttingOf 52 = .ok (.iload 7, 2) := by decide +kernel
theorem dX7_cuttingOf_54 : decode cX7_cuttingOf 54 = .ok (.iaload, 1) := by decide +kernel
theorem dX7_cuttingOf_55 : decode cX7_cuttingOf 55 = .ok (.if_icmp .ge 114, 3) := by decide +kernel
theorem dX7_cuttingOf_58 : decode cX7_cuttingOf 58 = .ok (.aload_n 0, 1) := by decide +kernel
theorem dX7_cuttingOf_59 : decode cX7_cuttingOf 59 = .ok (.getfield 22, 3) := by decide +kernel
theorem dX7_cuttingOf_62 : decode cX7_cuttingOf 62 = .ok (.bipush 20, 2) := by decide +kernel
theorem dX7_cuttingOf_64 : decode cX7_cuttingOf 64 = .ok (.aload_n 0, 1) := by decide +kernel
theorem dX7_cuttingOf_65 : decode cX7_cuttingOf 65 = .ok (.getfield 40, 3) := by decide +kernel
theorem dX7_cuttingOf_68 : decode cX7_cuttingOf 68 = .ok (.iload 7, 2) := by decide +kernel
theorem dX7_cuttingOf_70 : decode cX7_cuttingOf 70 = .ok (.iaload, 1) := by decide +kernel
theorem dX7_cuttingOf_71 : decode cX7_cuttingOf 71 = .ok (.iadd, 1) := by decide +kernel
theorem dX7_cuttingOf_72 : decode cX7_cuttingOf 72 = .ok (.iaload, 1) := by decide +kernel
theorem dX7_cuttingOf_73 : decode cX7_cuttingOf 73 = .ok (.aload_n 0, 1) := by decide +kernel
theorem dX7_cuttingOf_74 : decode cX7_cuttingOf 74 = .ok (.getfield 52, 3) := by decide +kernel
theorem dX7_cuttingOf_77 : decode cX7_cuttingOf 77 = .ok (.bipush 12, 2) := by decide +kernel
theorem dX7_cuttingOf_79 : decode cX7_cuttingOf 79 = .ok (.iload 7, 2) := by decide +kernel
theorem dX7_cuttingOf_81 : decode cX7_cuttingOf 81 = .ok (.imul, 1) := by decide +kernel
theorem dX7_cuttingOf_82 : decode cX7_cuttingOf 82 = .ok (.iload 8, 2) := by decide +kernel
theorem dX7_cuttingOf_84 : decode cX7_cuttingOf 84 = .ok (.iadd, 1) := by decide +kernel
theorem dX7_cuttingOf_85 : decode cX7_cuttingOf 85 = .ok (.iaload, 1) := by decide +kernel
theorem dX7_cuttingOf_86 : decode cX7_cuttingOf 86 = .ok (.iadd, 1) := by decide +kernel
theorem dX7_cuttingOf_87 : decode cX7_cuttingOf 87 = .ok (.istore 9, 2) := by decide +kernel
theorem dX7_cuttingOf_89 : decode cX7_cuttingOf 89 = .ok (.bipush 16, 2) := by decide +kernel
theorem dX7_cuttingOf_91 : decode cX7_cuttingOf 91 = .ok (.iload 7, 2) := by decide +kernel
theorem dX7_cuttingOf_93 : decode cX7_cuttingOf 93 = .ok (.imul, 1) := by decide +kernel
theorem dX7_cuttingOf_94 : decode cX7_cuttingOf 94 = .ok (.iload 8, 2) := by decide +kernel
theorem dX7_cuttingOf_96 : decode cX7_cuttingOf 96 = .ok (.iadd, 1) := by decide +kernel
theorem dX7_cuttingOf_97 : decode cX7_cuttingOf 97 = .ok (.istore 10, 2) := by decide +kernel
theorem dX7_cuttingOf_99 : decode cX7_cuttingOf 99 = .ok (.iload 9, 2) := by decide +kernel
theorem dX7_cuttingOf_101 : decode cX7_cuttingOf 101 = .ok (.iload_n 2, 1) := by decide +kernel
theorem dX7_cuttingOf_102 : decode cX7_cuttingOf 102 = .ok (.if_icmp .gt 15, 3) := by decide +kernel
theorem dX7_cuttingOf_105 : decode cX7_cuttingOf 105 = .ok (.iload 9, 2) := by decide +kernel
theorem dX7_cuttingOf_107 : decode cX7_cuttingOf 107 = .ok (.iload_n 2, 1) := by decide +kernel
theorem dX7_cuttingOf_108 : decode cX7_cuttingOf 108 = .ok (.if_icmp .ne 13, 3) := by decide +kernel
theorem dX7_cuttingOf_111 : decode cX7_cuttingOf 111 = .ok (.iload 10, 2) := by decide +kernel
theorem dX7_cuttingOf_113 : decode cX7_cuttingOf 113 = .ok (.iload_n 3, 1) := by decide +kernel
theorem dX7_cuttingOf_114 : decode cX7_cuttingOf 114 = .ok (.if_icmp .le 7, 3) := by decide +kernel
theorem dX7_cuttingOf_117 : decode cX7_cuttingOf 117 = .ok (.iconst 1, 1) := by decide +kernel
theorem dX7_cuttingOf_118 : decode cX7_cuttingOf 118 = .ok (.goto 4, 3) := by decide +kernel
theorem dX7_cuttingOf_121 : decode cX7_cuttingOf 121 = .ok (.iconst 0, 1) := by decide +kernel
theorem dX7_cuttingOf_122 : decode cX7_cuttingOf 122 = .ok (.istore 11, 2) := by decide +kernel
theorem dX7_cuttingOf_124 : decode cX7_cuttingOf 124 = .ok (.iload 11, 2) := by decide +kernel
theorem dX7_cuttingOf_126 : decode cX7_cuttingOf 126 = .ok (.ifCond .eq 37, 3) := by decide +kernel
theorem dX7_cuttingOf_129 : decode cX7_cuttingOf 129 = .ok (.iload 4, 2) := by decide +kernel
theorem dX7_cuttingOf_131 : decode cX7_cuttingOf 131 = .ok (.ifCond .lt 24, 3) := by decide +kernel
theorem dX7_cuttingOf_134 : decode cX7_cuttingOf 134 = .ok (.iload 9, 2) := by decide +kernel
theorem dX7_cuttingOf_136 : decode cX7_cuttingOf 136 = .ok (.iload 6, 2) := by decide +kernel
theorem dX7_cuttingOf_138 : decode cX7_cuttingOf 138 = .ok (.if_icmp .lt 17, 3) := by decide +kernel
theorem dX7_cuttingOf_141 : decode cX7_cuttingOf 141 = .ok (.iload 9, 2) := by decide +kernel
theorem dX7_cuttingOf_143 : decode cX7_cuttingOf 143 = .ok (.iload 6, 2) := by decide +kernel
theorem dX7_cuttingOf_145 : decode cX7_cuttingOf 145 = .ok (.if_icmp .ne 18, 3) := by decide +kernel
theorem dX7_cuttingOf_148 : decode cX7_cuttingOf 148 = .ok (.iload 10, 2) := by decide +kernel
theorem dX7_cuttingOf_150 : decode cX7_cuttingOf 150 = .ok (.iload 4, 2) := by decide +kernel
theorem dX7_cuttingOf_152 : decode cX7_cuttingOf 152 = .ok (.if_icmp .ge 11, 3) := by decide +kernel
theorem dX7_cuttingOf_155 : decode cX7_cuttingOf 155 = .ok (.iload 10, 2) := by decide +kernel
theorem dX7_cuttingOf_157 : decode cX7_cuttingOf 157 = .ok (.istore 4, 2) := by decide +kernel
theorem dX7_cuttingOf_159 : decode cX7_cuttingOf 159 = .ok (.iload 9, 2) := by decide +kernel
theorem dX7_cuttingOf_161 : decode cX7_cuttingOf 161 = .ok (.istore 6, 2) := by decide +kernel
theorem dX7_cuttingOf_163 : decode cX7_cuttingOf 163 = .ok (.iinc 8 1, 3) := by decide +kernel
theorem dX7_cuttingOf_166 : decode cX7_cuttingOf 166 = .ok (.goto (-120), 3) := by decide +kernel
theorem dX7_cuttingOf_169 : decode cX7_cuttingOf 169 = .ok (.iinc 7 1, 3) := by decide +kernel
theorem dX7_cuttingOf_172 : decode cX7_cuttingOf 172 = .ok (.goto (-140), 3) := by decide +kernel
theorem dX7_cuttingOf_175 : decode cX7_cuttingOf 175 = .ok (.iload 4, 2) := by decide +kernel
theorem dX7_cuttingOf_177 : decode cX7_cuttingOf 177 = .ok (.ifCond .ge 6, 3) := by decide +kernel
theorem dX7_cuttingOf_180 : decode cX7_cuttingOf 180 = .ok (.bipush (-6), 2) := by decide +kernel
theorem dX7_cuttingOf_182 : decode cX7_cuttingOf 182 = .ok (.ireturn, 1) := by decide +kernel
theorem dX7_cuttingOf_183 : decode cX7_cuttingOf 183 = .ok (.iload 6, 2) := by decide +kernel
theorem dX7_cuttingOf_185 : decode cX7_cuttingOf 185 = .ok (.istore_n 2, 1) := by decide +kernel
theorem dX7_cuttingOf_186 : decode cX7_cuttingOf 186 = .ok (.iload 4, 2) := by decide +kernel
theorem dX7_cuttingOf_188 : decode cX7_cuttingOf 188 = .ok (.istore_n 3, 1) := by decide +kernel
theorem dX7_cuttingOf_189 : decode cX7_cuttingOf 189 = .ok (.iinc 5 1, 3) := by decide +kernel
theorem dX7_cuttingOf_192 : decode cX7_cuttingOf 192 = .ok (.goto (-181), 3) := by decide +kernel
theorem dX7_cuttingOf_195 : decode cX7_cuttingOf 195 = .ok (.iload 4, 2) := by decide +kernel
theorem dX7_cuttingOf_197 : decode cX7_cuttingOf 197 = .ok (.ireturn, 1) := by decide +kernel
theorem dX7_costOf_0 : decode cX7_costOf 0 = .ok (.aload_n 0, 1) := by decide +kernel
theorem dX7_costOf_1 : decode cX7_costOf 1 = .ok (.getfield 22, 3) := by decide +kernel
theorem dX7_costOf_4 : decode cX7_costOf 4 = .ok (.bipush 20, 2) := by decide +kernel
theorem dX7_costOf_6 : decode cX7_costOf 6 = .ok (.aload_n 0, 1) := by decide +kernel
theorem dX7_costOf_7 : decode cX7_costOf 7 = .ok (.getfield 40, 3) := by decide +kernel
theorem dX7_costOf_10 : decode cX7_costOf 10 = .ok (.iload_n 1, 1) := by decide +kernel
theorem dX7_costOf_11 : decode cX7_costOf 11 = .ok (.bipush 16, 2) := by decide +kernel
theorem dX7_costOf_13 : decode cX7_costOf 13 = .ok (.idiv, 1) := by decide +kernel
theorem dX7_costOf_14 : decode cX7_costOf 14 = .ok (.iaload, 1) := by decide +kernel
theorem dX7_costOf_15 : decode cX7_costOf 15 = .ok (.iadd, 1) := by decide +kernel
theorem dX7_costOf_16 : decode cX7_costOf 16 = .ok (.iaload, 1) := by decide +kernel
theorem dX7_costOf_17 : decode cX7_costOf 17 = .ok (.aload_n 0, 1) := by decide +kernel
theorem dX7_costOf_18 : decode cX7_costOf 18 = .ok (.getfield 52, 3) := by decide +kernel
theorem dX7_costOf_21 : decode cX7_costOf 21 = .ok (.bipush 12, 2) := by decide +kernel
theorem dX7_costOf_23 : decode cX7_costOf 23 = .ok (.iload_n 1, 1) := by decide +kernel
theorem dX7_costOf_24 : decode cX7_costOf 24 = .ok (.bipush 16, 2) := by decide +kernel
theorem dX7_costOf_26 : decode cX7_costOf 26 = .ok (.idiv, 1) := by decide +kernel
theorem dX7_costOf_27 : decode cX7_costOf 27 = .ok (.imul, 1) := by decide +kernel
theorem dX7_costOf_28 : decode cX7_costOf 28 = .ok (.iload_n 1, 1) := by decide +kernel
theorem dX7_costOf_29 : decode cX7_costOf 29 = .ok (.bipush 16, 2) := by decide +kernel
theorem dX7_costOf_31 : decode cX7_costOf 31 = .ok (.irem, 1) := by decide +kernel
theorem dX7_costOf_32 : decode cX7_costOf 32 = .ok (.iadd, 1) := by decide +kernel
theorem dX7_costOf_33 : decode cX7_costOf 33 = .ok (.iaload, 1) := by decide +kernel
theorem dX7_costOf_34 : decode cX7_costOf 34 = .ok (.iadd, 1) := by decide +kernel
theorem dX7_costOf_35 : decode cX7_costOf 35 = .ok (.ireturn, 1) := by decide +kernel
theorem dX7_next_0 : decode cX7_next 0 = .ok (.aload_n 0, 1) := by decide +kernel
theorem dX7_next_1 : decode cX7_next 1 = .ok (.getfield 55, 3) := by decide +kernel
theorem dX7_next_4 : decode cX7_next 4 = .ok (.bipush 12, 2) := by decide +kernel
theorem dX7_next_6 : decode cX7_next 6 = .ok (.iload_n 1, 1) := by decide +kernel
theorem dX7_next_7 : decode cX7_next 7 = .ok (.bipush 16, 2) := by decide +kernel
theorem dX7_next_9 : decode cX7_next 9 = .ok (.idiv, 1) := by decide +kernel
theorem dX7_next_10 : decode cX7_next 10 = .ok (.imul, 1) := by decide +kernel
theorem dX7_next_11 : decode cX7_next 11 = .ok (.iload_n 1, 1) := by decide +kernel
theorem dX7_next_12 : decode cX7_next 12 = .ok (.bipush 16, 2) := by decide +kernel
theorem dX7_next_14 : decode cX7_next 14 = .ok (.irem, 1) := by decide +kernel
theorem dX7_next_15 : decode cX7_next 15 = .ok (.iadd, 1) := by decide +kernel
theorem dX7_next_16 : decode cX7_next 16 = .ok (.iaload, 1) := by decide +kernel
theorem dX7_next_17 : decode cX7_next 17 = .ok (.ireturn, 1) := by decide +kernel
theorem dX7_pieces_0 : decode cX7_pieces 0 = .ok (.aload_n 0, 1) := by decide +kernel
theorem dX7_pieces_1 : decode cX7_pieces 1 = .ok (.getfield 109, 3) := by decide +kernel
theorem dX7_pieces_4 : decode cX7_pieces 4 = .ok (.ifCond .ne 6, 3) := by decide +kernel
theorem dX7_pieces_7 : decode cX7_pieces 7 = .ok (.bipush (-5), 2) := by decide +kernel
theorem dX7_pieces_9 : decode cX7_pieces 9 = .ok (.ireturn, 1) := by decide +kernel
theorem dX7_pieces_10 : decode cX7_pieces 10 = .ok (.aload_n 0, 1) := by decide +kernel
theorem dX7_pieces_11 : decode cX7_pieces 11 = .ok (.invokevirtual 127, 3) := by decide +kernel
theorem dX7_pieces_14 : decode cX7_pieces 14 = .ok (.aload_n 0, 1) := by decide +kernel
theorem dX7_pieces_15 : decode cX7_pieces 15 = .ok (.getfield 112, 3) := by decide +kernel
theorem dX7_pieces_18 : decode cX7_pieces 18 = .ok (.ireturn, 1) := by decide +kernel
theorem dX7_leastOf_0 : decode cX7_leastOf 0 = .ok (.iconst 0, 1) := by decide +kernel
theorem dX7_leastOf_1 : decode cX7_leastOf 1 = .ok (.istore_n 2, 1) := by decide +kernel
theorem dX7_leastOf_2 : decode cX7_leastOf 2 = .ok (.iload_n 2, 1) := by decide +kernel
theorem dX7_leastOf_3 : decode cX7_leastOf 3 = .ok (.iload_n 1, 1) := by decide +kernel
theorem dX7_leastOf_4 : decode cX7_leastOf 4 = .ok (.if_icmp .gt 145, 3) := by decide +kernel
theorem dX7_leastOf_7 : decode cX7_leastOf 7 = .ok (.aload_n 0, 1) := by decide +kernel
theorem dX7_leastOf_8 : decode cX7_leastOf 8 = .ok (.getfield 61, 3) := by decide +kernel
theorem dX7_leastOf_11 : decode cX7_leastOf 11 = .ok (.iload_n 2, 1) := by decide +kernel
theorem dX7_leastOf_12 : decode cX7_leastOf 12 = .ok (.aload_n 0, 1) := by decide +kernel
theorem dX7_leastOf_13 : decode cX7_leastOf 13 = .ok (.getfield 34, 3) := by decide +kernel
theorem dX7_leastOf_16 : decode cX7_leastOf 16 = .ok (.iload_n 2, 1) := by decide +kernel
theorem dX7_leastOf_17 : decode cX7_leastOf 17 = .ok (.iaload, 1) := by decide +kernel
theorem dX7_leastOf_18 : decode cX7_leastOf 18 = .ok (.ifCond .ne 27, 3) := by decide +kernel
theorem dX7_leastOf_21 : decode cX7_leastOf 21 = .ok (.aload_n 0, 1) := by decide +kernel
theorem dX7_leastOf_22 : decode cX7_leastOf 22 = .ok (.getfield 22, 3) := by decide +kernel
theorem dX7_leastOf_25 : decode cX7_leastOf 25 = .ok (.bipush 20, 2) := by decide +kernel
theorem dX7_leastOf_27 : decode cX7_leastOf 27 = .ok (.aload_n 0, 1) := by decide +kernel
theorem dX7_leastOf_28 : decode cX7_leastOf 28 = .ok (.getfield 40, 3) := by decide +kernel
theorem dX7_leastOf_31 : decode cX7_leastOf 31 = .ok (.iload_n 2, 1) := by decide +kernel
theorem dX7_leastOf_32 : decode cX7_leastOf 32 = .ok (.iaload, 1) := by decide +kernel
theorem dX7_leastOf_33 : decode cX7_leastOf 33 = .ok (.iadd, 1) := by decide +kernel
theorem dX7_leastOf_34 : decode cX7_leastOf 34 = .ok (.iaload, 1) := by decide +kernel
theorem dX7_leastOf_35 : decode cX7_leastOf 35 = .ok (.aload_n 0, 1) := by decide +kernel
theorem dX7_leastOf_36 : decode cX7_leastOf 36 = .ok (.getfield 43, 3) := by decide +kernel
theorem dX7_leastOf_39 : decode cX7_leastOf 39 = .ok (.iload_n 2, 1) := by decide +kernel
theorem dX7_leastOf_40 : decode cX7_leastOf 40 = .ok (.iaload, 1) := by decide +kernel
theorem dX7_leastOf_41 : decode cX7_leastOf 41 = .ok (.iadd, 1) := by decide +kernel
theorem dX7_leastOf_42 : decode cX7_leastOf 42 = .ok (.goto 5, 3) := by decide +kernel
theorem dX7_leastOf_45 : decode cX7_leastOf 45 = .ok (.bipush (-6), 2) := by decide +kernel
theorem dX7_leastOf_47 : decode cX7_leastOf 47 = .ok (.iastore, 1) := by decide +kernel
theorem dX7_leastOf_48 : decode cX7_leastOf 48 = .ok (.iconst 0, 1) := by decide +kernel
theorem dX7_leastOf_49 : decode cX7_leastOf 49 = .ok (.istore_n 3, 1) := by decide +kernel
theorem dX7_leastOf_50 : decode cX7_leastOf 50 = .ok (.iload_n 3, 1) := by decide +kernel
theorem dX7_leastOf_51 : decode cX7_leastOf 51 = .ok (.iload_n 2, 1) := by decide +kernel
theorem dX7_leastOf_52 : decode cX7_leastOf 52 = .ok (.if_icmp .ge 91, 3) := by decide +kernel
theorem dX7_leastOf_55 : decode cX7_leastOf 55 = .ok (.aload_n 0, 1) := by decide +kernel
theorem dX7_leastOf_56 : decode cX7_leastOf 56 = .ok (.iload_n 3, 1) := by decide +kernel
theorem dX7_leastOf_57 : decode cX7_leastOf 57 = .ok (.invokevirtual 130, 3) := by decide +kernel
theorem dX7_leastOf_60 : decode cX7_leastOf 60 = .ok (.aload_n 0, 1) := by decide +kernel
theorem dX7_leastOf_61 : decode cX7_leastOf 61 = .ok (.getfield 34, 3) := by decide +kernel
theorem dX7_leastOf_64 : decode cX7_leastOf 64 = .ok (.iload_n 2, 1) := by decide +kernel
theorem dX7_leastOf_65 : decode cX7_leastOf 65 = .ok (.iaload, 1) := by decide +kernel
theorem dX7_leastOf_66 : decode cX7_leastOf 66 = .ok (.if_icmp .ne 71, 3) := by decide +kernel
theorem dX7_leastOf_69 : decode cX7_leastOf 69 = .ok (.aload_n 0, 1) := by decide +kernel
theorem dX7_leastOf_70 : decode cX7_leastOf 70 = .ok (.getfield 61, 3) := by decide +kernel
theorem dX7_leastOf_73 : decode cX7_leastOf 73 = .ok (.iload_n 3, 1) := by decide +kernel
theorem dX7_leastOf_74 : decode cX7_leastOf 74 = .ok (.iaload, 1) := by decide +kernel
theorem dX7_leastOf_75 : decode cX7_leastOf 75 = .ok (.ifCond .lt 62, 3) := by decide +kernel
theorem dX7_leastOf_78 : decode cX7_leastOf 78 = .ok (.aload_n 0, 1) := by decide +kernel
theorem dX7_leastOf_79 : decode cX7_leastOf 79 = .ok (.getfield 61, 3) := by decide +kernel
theorem dX7_leastOf_82 : decode cX7_leastOf 82 = .ok (.iload_n 3, 1) := by decide +kernel
theorem dX7_leastOf_83 : decode cX7_leastOf 83 = .ok (.iaload, 1) := by decide +kernel
theorem dX7_leastOf_84 : decode cX7_leastOf 84 = .ok (.aload_n 0, 1) := by decide +kernel
theorem dX7_leastOf_85 : decode cX7_leastOf 85 = .ok (.iload_n 3, 1) := by decide +kernel
theorem dX7_leastOf_86 : decode cX7_leastOf 86 = .ok (.iload_n 2, 1) := by decide +kernel
theorem dX7_leastOf_87 : decode cX7_leastOf 87 = .ok (.invokevirtual 133, 3) := by decide +kernel
theorem dX7_leastOf_90 : decode cX7_leastOf 90 = .ok (.iadd, 1) := by decide +kernel
theorem dX7_leastOf_91 : decode cX7_leastOf 91 = .ok (.aload_n 0, 1) := by decide +kernel
theorem dX7_leastOf_92 : decode cX7_leastOf 92 = .ok (.getfield 43, 3) := by decide +kernel
theorem dX7_leastOf_95 : decode cX7_leastOf 95 = .ok (.iload_n 2, 1) := by decide +kernel
theorem dX7_leastOf_96 : decode cX7_leastOf 96 = .ok (.iaload, 1) := by decide +kernel
theorem dX7_leastOf_97 : decode cX7_leastOf 97 = .ok (.iadd, 1) := by decide +kernel
theorem dX7_leastOf_98 : decode cX7_leastOf 98 = .ok (.istore 4, 2) := by decide +kernel
theorem dX7_leastOf_100 : decode cX7_leastOf 100 = .ok (.aload_n 0, 1) := by decide +kernel
theorem dX7_leastOf_101 : decode cX7_leastOf 101 = .ok (.getfield 61, 3) := by decide +kernel
theorem dX7_leastOf_104 : decode cX7_leastOf 104 = .ok (.iload_n 2, 1) := by decide +kernel
theorem dX7_leastOf_105 : decode cX7_leastOf 105 = .ok (.aload_n 0, 1) := by decide +kernel
theorem dX7_leastOf_106 : decode cX7_leastOf 106 = .ok (.getfield 61, 3) := by decide +kernel
theorem dX7_leastOf_109 : decode cX7_leastOf 109 = .ok (.iload_n 2, 1) := by decide +kernel
theorem dX7_leastOf_110 : decode cX7_leastOf 110 = .ok (.iaload, 1) := by decide +kernel
theorem dX7_leastOf_111 : decode cX7_leastOf 111 = .ok (.ifCond .lt 14, 3) := by decide +kernel
theorem dX7_leastOf_114 : decode cX7_leastOf 114 = .ok (.iload 4, 2) := by decide +kernel
theorem dX7_leastOf_116 : decode cX7_leastOf 116 = .ok (.aload_n 0, 1) := by decide +kernel
theorem dX7_leastOf_117 : decode cX7_leastOf 117 = .ok (.getfield 61, 3) := by decide +kernel
theorem dX7_leastOf_120 : decode cX7_leastOf 120 = .ok (.iload_n 2, 1) := by decide +kernel
theorem dX7_leastOf_121 : decode cX7_leastOf 121 = .ok (.iaload, 1) := by decide +kernel
theorem dX7_leastOf_122 : decode cX7_leastOf 122 = .ok (.if_icmp .ge 8, 3) := by decide +kernel
theorem dX7_leastOf_125 : decode cX7_leastOf 125 = .ok (.iload 4, 2) := by decide +kernel
theorem dX7_leastOf_127 : decode cX7_leastOf 127 = .ok (.goto 9, 3) := by decide +kernel
theorem dX7_leastOf_130 : decode cX7_leastOf 130 = .ok (.aload_n 0, 1) := by decide +kernel
theorem dX7_leastOf_131 : decode cX7_leastOf 131 = .ok (.getfield 61, 3) := by decide +kernel
theorem dX7_leastOf_134 : decode cX7_leastOf 134 = .ok (.iload_n 2, 1) := by decide +kernel
theorem dX7_leastOf_135 : decode cX7_leastOf 135 = .ok (.iaload, 1) := by decide +kernel
theorem dX7_leastOf_136 : decode cX7_leastOf 136 = .ok (.iastore, 1) := by decide +kernel
theorem dX7_leastOf_137 : decode cX7_leastOf 137 = .ok (.iinc 3 1, 3) := by decide +kernel
theorem dX7_leastOf_140 : decode cX7_leastOf 140 = .ok (.goto (-90), 3) := by decide +kernel
theorem dX7_leastOf_143 : decode cX7_leastOf 143 = .ok (.iinc 2 1, 3) := by decide +kernel
theorem dX7_leastOf_146 : decode cX7_leastOf 146 = .ok (.goto (-144), 3) := by decide +kernel
theorem dX7_leastOf_149 : decode cX7_leastOf 149 = .ok (.aload_n 0, 1) := by decide +kernel
theorem dX7_leastOf_150 : decode cX7_leastOf 150 = .ok (.getfield 61, 3) := by decide +kernel
theorem dX7_leastOf_153 : decode cX7_leastOf 153 = .ok (.iload_n 1, 1) := by decide +kernel
theorem dX7_leastOf_154 : decode cX7_leastOf 154 = .ok (.iaload, 1) := by decide +kernel
theorem dX7_leastOf_155 : decode cX7_leastOf 155 = .ok (.ifCond .lt 12, 3) := by decide +kernel
theorem dX7_leastOf_158 : decode cX7_leastOf 158 = .ok (.aload_n 0, 1) := by decide +kernel
theorem dX7_leastOf_159 : decode cX7_leastOf 159 = .ok (.getfield 58, 3) := by decide +kernel
theorem dX7_leastOf_162 : decode cX7_leastOf 162 = .ok (.iload_n 1, 1) := by decide +kernel
theorem dX7_leastOf_163 : decode cX7_leastOf 163 = .ok (.iaload, 1) := by decide +kernel
theorem dX7_leastOf_164 : decode cX7_leastOf 164 = .ok (.ifCond .ne 8, 3) := by decide +kernel
theorem dX7_leastOf_167 : decode cX7_leastOf 167 = .ok (.bipush (-6), 2) := by decide +kernel
theorem dX7_leastOf_169 : decode cX7_leastOf 169 = .ok (.goto 26, 3) := by decide +kernel
theorem dX7_leastOf_172 : decode cX7_leastOf 172 = .ok (.aload_n 0, 1) := by decide +kernel
theorem dX7_leastOf_173 : decode cX7_leastOf 173 = .ok (.getfield 61, 3) := by decide +kernel
theorem dX7_leastOf_176 : decode cX7_leastOf 176 = .ok (.iload_n 1, 1) := by decide +kernel
theorem dX7_leastOf_177 : decode cX7_leastOf 177 = .ok (.iaload, 1) := by decide +kernel
theorem dX7_leastOf_178 : decode cX7_leastOf 178 = .ok (.aload_n 0, 1) := by decide +kernel
theorem dX7_leastOf_179 : decode cX7_leastOf 179 = .ok (.getfield 52, 3) := by decide +kernel
theorem dX7_leastOf_182 : decode cX7_leastOf 182 = .ok (.bipush 12, 2) := by decide +kernel
theorem dX7_leastOf_184 : decode cX7_leastOf 184 = .ok (.iload_n 1, 1) := by decide +kernel
theorem dX7_leastOf_185 : decode cX7_leastOf 185 = .ok (.imul, 1) := by decide +kernel
theorem dX7_leastOf_186 : decode cX7_leastOf 186 = .ok (.iaload, 1) := by decide +kernel
theorem dX7_leastOf_187 : decode cX7_leastOf 187 = .ok (.iadd, 1) := by decide +kernel
theorem dX7_leastOf_188 : decode cX7_leastOf 188 = .ok (.aload_n 0, 1) := by decide +kernel
theorem dX7_leastOf_189 : decode cX7_leastOf 189 = .ok (.getfield 43, 3) := by decide +kernel
theorem dX7_leastOf_192 : decode cX7_leastOf 192 = .ok (.iload_n 1, 1) := by decide +kernel
theorem dX7_leastOf_193 : decode cX7_leastOf 193 = .ok (.iaload, 1) := by decide +kernel
theorem dX7_leastOf_194 : decode cX7_leastOf 194 = .ok (.isub, 1) := by decide +kernel
theorem dX7_leastOf_195 : decode cX7_leastOf 195 = .ok (.ireturn, 1) := by decide +kernel
theorem dX7_piece_0 : decode cX7_piece 0 = .ok (.aload_n 0, 1) := by decide +kernel
theorem dX7_piece_1 : decode cX7_piece 1 = .ok (.getfield 109, 3) := by decide +kernel
theorem dX7_piece_4 : decode cX7_piece 4 = .ok (.ifCond .ne 6, 3) := by decide +kernel
theorem dX7_piece_7 : decode cX7_piece 7 = .ok (.bipush (-5), 2) := by decide +kernel
theorem dX7_piece_9 : decode cX7_piece 9 = .ok (.ireturn, 1) := by decide +kernel
theorem dX7_piece_10 : decode cX7_piece 10 = .ok (.aload_n 0, 1) := by decide +kernel
theorem dX7_piece_11 : decode cX7_piece 11 = .ok (.invokevirtual 136, 3) := by decide +kernel
theorem dX7_piece_14 : decode cX7_piece 14 = .ok (.iload_n 1, 1) := by decide +kernel
theorem dX7_piece_15 : decode cX7_piece 15 = .ok (.iconst 0, 1) := by decide +kernel
theorem dX7_piece_16 : decode cX7_piece 16 = .ok (.aload_n 0, 1) := by decide +kernel
theorem dX7_piece_17 : decode cX7_piece 17 = .ok (.getfield 112, 3) := by decide +kernel
theorem dX7_piece_20 : decode cX7_piece 20 = .ok (.iconst 1, 1) := by decide +kernel
theorem dX7_piece_21 : decode cX7_piece 21 = .ok (.isub, 1) := by decide +kernel
theorem dX7_piece_22 : decode cX7_piece 22 = .ok (.invokestatic 74, 3) := by decide +kernel
theorem dX7_piece_25 : decode cX7_piece 25 = .ok (.ifCond .ne 5, 3) := by decide +kernel
theorem dX7_piece_28 : decode cX7_piece 28 = .ok (.iconst (-1), 1) := by decide +kernel
theorem dX7_piece_29 : decode cX7_piece 29 = .ok (.ireturn, 1) := by decide +kernel
theorem dX7_piece_30 : decode cX7_piece 30 = .ok (.iload_n 2, 1) := by decide +kernel
theorem dX7_piece_31 : decode cX7_piece 31 = .ok (.tableswitch 68 0 4 #[33, 40, 47, 54, 61], 33) := by decide +kernel
theorem dX7_piece_64 : decode cX7_piece 64 = .ok (.aload_n 0, 1) := by decide +kernel
theorem dX7_piece_65 : decode cX7_piece 65 = .ok (.getfield 34, 3) := by decide +kernel
theorem dX7_piece_68 : decode cX7_piece 68 = .ok (.iload_n 1, 1) := by decide +kernel
theorem dX7_piece_69 : decode cX7_piece 69 = .ok (.iaload, 1) := by decide +kernel
theorem dX7_piece_70 : decode cX7_piece 70 = .ok (.ireturn, 1) := by decide +kernel
theorem dX7_piece_71 : decode cX7_piece 71 = .ok (.aload_n 0, 1) := by decide +kernel
theorem dX7_piece_72 : decode cX7_piece 72 = .ok (.getfield 37, 3) := by decide +kernel
theorem dX7_piece_75 : decode cX7_piece 75 = .ok (.iload_n 1, 1) := by decide +kernel
theorem dX7_piece_76 : decode cX7_piece 76 = .ok (.iaload, 1) := by decide +kernel
theorem dX7_piece_77 : decode cX7_piece 77 = .ok (.ireturn, 1) := by decide +kernel
theorem dX7_piece_78 : decode cX7_piece 78 = .ok (.aload_n 0, 1) := by decide +kernel
theorem dX7_piece_79 : decode cX7_piece 79 = .ok (.getfield 40, 3) := by decide +kernel
theorem dX7_piece_82 : decode cX7_piece 82 = .ok (.iload_n 1, 1) := by decide +kernel
theorem dX7_piece_83 : decode cX7_piece 83 = .ok (.iaload, 1) := by decide +kernel
theorem dX7_piece_84 : decode cX7_piece 84 = .ok (.ireturn, 1) := by decide +kernel
theorem dX7_piece_85 : decode cX7_piece 85 = .ok (.aload_n 0, 1) := by decide +kernel
theorem dX7_piece_86 : decode cX7_piece 86 = .ok (.getfield 43, 3) := by decide +kernel
theorem dX7_piece_89 : decode cX7_piece 89 = .ok (.iload_n 1, 1) := by decide +kernel
theorem dX7_piece_90 : decode cX7_piece 90 = .ok (.iaload, 1) := by decide +kernel
theorem dX7_piece_91 : decode cX7_piece 91 = .ok (.ireturn, 1) := by decide +kernel
theorem dX7_piece_92 : decode cX7_piece 92 = .ok (.aload_n 0, 1) := by decide +kernel
theorem dX7_piece_93 : decode cX7_piece 93 = .ok (.getfield 46, 3) := by decide +kernel
theorem dX7_piece_96 : decode cX7_piece 96 = .ok (.iload_n 1, 1) := by decide +kernel
theorem dX7_piece_97 : decode cX7_piece 97 = .ok (.iaload, 1) := by decide +kernel
theorem dX7_piece_98 : decode cX7_piece 98 = .ok (.ireturn, 1) := by decide +kernel
theorem dX7_piece_99 : decode cX7_piece 99 = .ok (.iload_n 2, 1) := by decide +kernel
theorem dX7_piece_100 : decode cX7_piece 100 = .ok (.iconst 5, 1) := by decide +kernel
theorem dX7_piece_101 : decode cX7_piece 101 = .ok (.if_icmp .ne 11, 3) := by decide +kernel
theorem dX7_piece_104 : decode cX7_piece 104 = .ok (.aload_n 0, 1) := by decide +kernel
theorem dX7_piece_105 : decode cX7_piece 105 = .ok (.iload_n 1, 1) := by decide +kernel
theorem dX7_piece_106 : decode cX7_piece 106 = .ok (.invokevirtual 139, 3) := by decide +kernel
theorem dX7_piece_109 : decode cX7_piece 109 = .ok (.goto 5, 3) := by decide +kernel
theorem dX7_piece_112 : decode cX7_piece 112 = .ok (.bipush (-2), 2) := by decide +kernel
theorem dX7_piece_114 : decode cX7_piece 114 = .ok (.ireturn, 1) := by decide +kernel
theorem dX7_ways_0 : decode cX7_ways 0 = .ok (.aload_n 0, 1) := by decide +kernel
theorem dX7_ways_1 : decode cX7_ways 1 = .ok (.getfield 109, 3) := by decide +kernel
theorem dX7_ways_4 : decode cX7_ways 4 = .ok (.ifCond .ne 6, 3) := by decide +kernel
theorem dX7_ways_7 : decode cX7_ways 7 = .ok (.bipush (-5), 2) := by decide +kernel
theorem dX7_ways_9 : decode cX7_ways 9 = .ok (.ireturn, 1) := by decide +kernel
theorem dX7_ways_10 : decode cX7_ways 10 = .ok (.aload_n 0, 1) := by decide +kernel
theorem dX7_ways_11 : decode cX7_ways 11 = .ok (.invokevirtual 127, 3) := by decide +kernel
theorem dX7_ways_14 : decode cX7_ways 14 = .ok (.iconst 0, 1) := by decide +kernel
theorem dX7_ways_15 : decode cX7_ways 15 = .ok (.istore_n 1, 1) := by decide +kernel
theorem dX7_ways_16 : decode cX7_ways 16 = .ok (.iload_n 1, 1) := by decide +kernel
theorem dX7_ways_17 : decode cX7_ways 17 = .ok (.aload_n 0, 1) := by decide +kernel
theorem dX7_ways_18 : decode cX7_ways 18 = .ok (.getfield 109, 3) := by decide +kernel
theorem dX7_ways_21 : decode cX7_ways 21 = .ok (.if_icmp .gt 85, 3) := by decide +kernel
theorem dX7_ways_24 : decode cX7_ways 24 = .ok (.aload_n 0, 1) := by decide +kernel
theorem dX7_ways_25 : decode cX7_ways 25 = .ok (.getfield 64, 3) := by decide +kernel
theorem dX7_ways_28 : decode cX7_ways 28 = .ok (.iload_n 1, 1) := by decide +kernel
theorem dX7_ways_29 : decode cX7_ways 29 = .ok (.iload_n 1, 1) := by decide +kernel
theorem dX7_ways_30 : decode cX7_ways 30 = .ok (.ifCond .ne 7, 3) := by decide +kernel
theorem dX7_ways_33 : decode cX7_ways 33 = .ok (.iconst 1, 1) := by decide +kernel
theorem dX7_ways_34 : decode cX7_ways 34 = .ok (.goto 4, 3) := by decide +kernel
theorem dX7_ways_37 : decode cX7_ways 37 = .ok (.iconst 0, 1) := by decide +kernel
theorem dX7_ways_38 : decode cX7_ways 38 = .ok (.iastore, 1) := by decide +kernel
theorem dX7_ways_39 : decode cX7_ways 39 = .ok (.iconst 0, 1) := by decide +kernel
theorem dX7_ways_40 : decode cX7_ways 40 = .ok (.istore_n 2, 1) := by decide +kernel
theorem dX7_ways_41 : decode cX7_ways 41 = .ok (.iload_n 2, 1) := by decide +kernel
theorem dX7_ways_42 : decode cX7_ways 42 = .ok (.aload_n 0, 1) := by decide +kernel
theorem dX7_ways_43 : decode cX7_ways 43 = .ok (.getfield 112, 3) := by decide +kernel
theorem dX7_ways_46 : decode cX7_ways 46 = .ok (.if_icmp .ge 54, 3) := by decide +kernel
theorem dX7_ways_49 : decode cX7_ways 49 = .ok (.aload_n 0, 1) := by decide +kernel
theorem dX7_ways_50 : decode cX7_ways 50 = .ok (.getfield 64, 3) := by decide +kernel
theorem dX7_ways_53 : decode cX7_ways 53 = .ok (.iload_n 1, 1) := by decide +kernel
theorem dX7_ways_54 : decode cX7_ways 54 = .ok (.aload_n 0, 1) := by decide +kernel
theorem dX7_ways_55 : decode cX7_ways 55 = .ok (.iload_n 2, 1) := by decide +kernel
theorem dX7_ways_56 : decode cX7_ways 56 = .ok (.invokevirtual 130, 3) := by decide +kernel
theorem dX7_ways_59 : decode cX7_ways 59 = .ok (.iload_n 1, 1) := by decide +kernel
theorem dX7_ways_60 : decode cX7_ways 60 = .ok (.if_icmp .ne 27, 3) := by decide +kernel
theorem dX7_ways_63 : decode cX7_ways 63 = .ok (.aload_n 0, 1) := by decide +kernel
theorem dX7_ways_64 : decode cX7_ways 64 = .ok (.getfield 64, 3) := by decide +kernel
theorem dX7_ways_67 : decode cX7_ways 67 = .ok (.iload_n 1, 1) := by decide +kernel
theorem dX7_ways_68 : decode cX7_ways 68 = .ok (.iaload, 1) := by decide +kernel
theorem dX7_ways_69 : decode cX7_ways 69 = .ok (.aload_n 0, 1) := by decide +kernel
theorem dX7_ways_70 : decode cX7_ways 70 = .ok (.getfield 64, 3) := by decide +kernel
theorem dX7_ways_73 : decode cX7_ways 73 = .ok (.aload_n 0, 1) := by decide +kernel
theorem dX7_ways_74 : decode cX7_ways 74 = .ok (.getfield 34, 3) := by decide +kernel
theorem dX7_ways_77 : decode cX7_ways 77 = .ok (.iload_n 2, 1) := by decide +kernel
theorem dX7_ways_78 : decode cX7_ways 78 = .ok (.iaload, 1) := by decide +kernel
theorem dX7_ways_79 : decode cX7_ways 79 = .ok (.iaload, 1) := by decide +kernel
theorem dX7_ways_80 : decode cX7_ways 80 = .ok (.iadd, 1) := by decide +kernel
theorem dX7_ways_81 : decode cX7_ways 81 = .ok (.ldc 142, 2) := by decide +kernel
theorem dX7_ways_83 : decode cX7_ways 83 = .ok (.irem, 1) := by decide +kernel
theorem dX7_ways_84 : decode cX7_ways 84 = .ok (.goto 9, 3) := by decide +kernel
theorem dX7_ways_87 : decode cX7_ways 87 = .ok (.aload_n 0, 1) := by decide +kernel
theorem dX7_ways_88 : decode cX7_ways 88 = .ok (.getfield 64, 3) := by decide +kernel
theorem dX7_ways_91 : decode cX7_ways 91 = .ok (.iload_n 1, 1) := by decide +kernel
theorem dX7_ways_92 : decode cX7_ways 92 = .ok (.iaload, 1) := by decide +kernel
theorem dX7_ways_93 : decode cX7_ways 93 = .ok (.iastore, 1) := by decide +kernel
theorem dX7_ways_94 : decode cX7_ways 94 = .ok (.iinc 2 1, 3) := by decide +kernel
theorem dX7_ways_97 : decode cX7_ways 97 = .ok (.goto (-56), 3) := by decide +kernel
theorem dX7_ways_100 : decode cX7_ways 100 = .ok (.iinc 1 1, 3) := by decide +kernel
theorem dX7_ways_103 : decode cX7_ways 103 = .ok (.goto (-87), 3) := by decide +kernel
theorem dX7_ways_106 : decode cX7_ways 106 = .ok (.aload_n 0, 1) := by decide +kernel
theorem dX7_ways_107 : decode cX7_ways 107 = .ok (.getfield 64, 3) := by decide +kernel
theorem dX7_ways_110 : decode cX7_ways 110 = .ok (.aload_n 0, 1) := by decide +kernel
theorem dX7_ways_111 : decode cX7_ways 111 = .ok (.getfield 109, 3) := by decide +kernel
theorem dX7_ways_114 : decode cX7_ways 114 = .ok (.iaload, 1) := by decide +kernel
theorem dX7_ways_115 : decode cX7_ways 115 = .ok (.ireturn, 1) := by decide +kernel
theorem dX7_cutting_0 : decode cX7_cutting 0 = .ok (.aload_n 0, 1) := by decide +kernel
theorem dX7_cutting_1 : decode cX7_cutting 1 = .ok (.getfield 109, 3) := by decide +kernel
theorem dX7_cutting_4 : decode cX7_cutting 4 = .ok (.ifCond .ne 6, 3) := by decide +kernel
theorem dX7_cutting_7 : decode cX7_cutting 7 = .ok (.bipush (-5), 2) := by decide +kernel
theorem dX7_cutting_9 : decode cX7_cutting 9 = .ok (.ireturn, 1) := by decide +kernel
theorem dX7_cutting_10 : decode cX7_cutting 10 = .ok (.iload_n 1, 1) := by decide +kernel
theorem dX7_cutting_11 : decode cX7_cutting 11 = .ok (.iconst 0, 1) := by decide +kernel
theorem dX7_cutting_12 : decode cX7_cutting 12 = .ok (.bipush 11, 2) := by decide +kernel
theorem dX7_cutting_14 : decode cX7_cutting 14 = .ok (.invokestatic 74, 3) := by decide +kernel
theorem dX7_cutting_17 : decode cX7_cutting 17 = .ok (.ifCond .ne 5, 3) := by decide +kernel
theorem dX7_cutting_20 : decode cX7_cutting 20 = .ok (.iconst (-1), 1) := by decide +kernel
theorem dX7_cutting_21 : decode cX7_cutting 21 = .ok (.ireturn, 1) := by decide +kernel
theorem dX7_cutting_22 : decode cX7_cutting 22 = .ok (.iload_n 2, 1) := by decide +kernel
theorem dX7_cutting_23 : decode cX7_cutting 23 = .ok (.bipush (-2), 2) := by decide +kernel
theorem dX7_cutting_25 : decode cX7_cutting 25 = .ok (.if_icmp .ge 6, 3) := by decide +kernel
theorem dX7_cutting_28 : decode cX7_cutting 28 = .ok (.bipush (-2), 2) := by decide +kernel
theorem dX7_cutting_30 : decode cX7_cutting 30 = .ok (.ireturn, 1) := by decide +kernel
theorem dX7_cutting_31 : decode cX7_cutting 31 = .ok (.aload_n 0, 1) := by decide +kernel
theorem dX7_cutting_32 : decode cX7_cutting 32 = .ok (.invokevirtual 136, 3) := by decide +kernel
theorem dX7_cutting_35 : decode cX7_cutting 35 = .ok (.aload_n 0, 1) := by decide +kernel
theorem dX7_cutting_36 : decode cX7_cutting 36 = .ok (.iload_n 1, 1) := by decide +kernel
theorem dX7_cutting_37 : decode cX7_cutting 37 = .ok (.invokevirtual 143, 3) := by decide +kernel
theorem dX7_cutting_40 : decode cX7_cutting 40 = .ok (.istore_n 3, 1) := by decide +kernel
theorem dX7_cutting_41 : decode cX7_cutting 41 = .ok (.iload_n 3, 1) := by decide +kernel
theorem dX7_cutting_42 : decode cX7_cutting 42 = .ok (.ifCond .ge 6, 3) := by decide +kernel
theorem dX7_cutting_45 : decode cX7_cutting 45 = .ok (.bipush (-6), 2) := by decide +kernel
theorem dX7_cutting_47 : decode cX7_cutting 47 = .ok (.ireturn, 1) := by decide +kernel
theorem dX7_cutting_48 : decode cX7_cutting 48 = .ok (.iload_n 2, 1) := by decide +kernel
theorem dX7_cutting_49 : decode cX7_cutting 49 = .ok (.iconst (-1), 1) := by decide +kernel
theorem dX7_cutting_50 : decode cX7_cutting 50 = .ok (.if_icmp .ne 9, 3) := by decide +kernel
theorem dX7_cutting_53 : decode cX7_cutting 53 = .ok (.aload_n 0, 1) := by decide +kernel
theorem dX7_cutting_54 : decode cX7_cutting 54 = .ok (.iload_n 3, 1) := by decide +kernel
theorem dX7_cutting_55 : decode cX7_cutting 55 = .ok (.invokevirtual 146, 3) := by decide +kernel
theorem dX7_cutting_58 : decode cX7_cutting 58 = .ok (.ireturn, 1) := by decide +kernel
theorem dX7_cutting_59 : decode cX7_cutting 59 = .ok (.iconst 0, 1) := by decide +kernel
theorem dX7_cutting_60 : decode cX7_cutting 60 = .ok (.istore 4, 2) := by decide +kernel
theorem dX7_cutting_62 : decode cX7_cutting 62 = .ok (.iload_n 3, 1) := by decide +kernel
theorem dX7_cutting_63 : decode cX7_cutting 63 = .ok (.istore 5, 2) := by decide +kernel
theorem dX7_cutting_65 : decode cX7_cutting 65 = .ok (.iload 5, 2) := by decide +kernel
theorem dX7_cutting_67 : decode cX7_cutting 67 = .ok (.ifCond .lt 29, 3) := by decide +kernel
theorem dX7_cutting_70 : decode cX7_cutting 70 = .ok (.iload 4, 2) := by decide +kernel
theorem dX7_cutting_72 : decode cX7_cutting 72 = .ok (.iload_n 2, 1) := by decide +kernel
theorem dX7_cutting_73 : decode cX7_cutting 73 = .ok (.if_icmp .ne 9, 3) := by decide +kernel
theorem dX7_cutting_76 : decode cX7_cutting 76 = .ok (.iload 5, 2) := by decide +kernel
theorem dX7_cutting_78 : decode cX7_cutting 78 = .ok (.bipush 16, 2) := by decide +kernel
theorem dX7_cutting_80 : decode cX7_cutting 80 = .ok (.idiv, 1) := by decide +kernel
theorem dX7_cutting_81 : decode cX7_cutting 81 = .ok (.ireturn, 1) := by decide +kernel
theorem dX7_cutting_82 : decode cX7_cutting 82 = .ok (.iinc 4 1, 3) := by decide +kernel
theorem dX7_cutting_85 : decode cX7_cutting 85 = .ok (.aload_n 0, 1) := by decide +kernel
theorem dX7_cutting_86 : decode cX7_cutting 86 = .ok (.iload 5, 2) := by decide +kernel
theorem dX7_cutting_88 : decode cX7_cutting 88 = .ok (.invokevirtual 149, 3) := by decide +kernel
theorem dX7_cutting_91 : decode cX7_cutting 91 = .ok (.istore 5, 2) := by decide +kernel
theorem dX7_cutting_93 : decode cX7_cutting 93 = .ok (.goto (-28), 3) := by decide +kernel
theorem dX7_cutting_96 : decode cX7_cutting 96 = .ok (.iload_n 2, 1) := by decide +kernel
theorem dX7_cutting_97 : decode cX7_cutting 97 = .ok (.bipush (-2), 2) := by decide +kernel
theorem dX7_cutting_99 : decode cX7_cutting 99 = .ok (.if_icmp .ne 8, 3) := by decide +kernel
theorem dX7_cutting_102 : decode cX7_cutting 102 = .ok (.iload 4, 2) := by decide +kernel
theorem dX7_cutting_104 : decode cX7_cutting 104 = .ok (.goto 5, 3) := by decide +kernel
theorem dX7_cutting_107 : decode cX7_cutting 107 = .ok (.bipush (-6), 2) := by decide +kernel
theorem dX7_cutting_109 : decode cX7_cutting 109 = .ok (.ireturn, 1) := by decide +kernel
theorem dX7_sure_0 : decode cX7_sure 0 = .ok (.aload_n 0, 1) := by decide +kernel
theorem dX7_sure_1 : decode cX7_sure 1 = .ok (.getfield 109, 3) := by decide +kernel
theorem dX7_sure_4 : decode cX7_sure 4 = .ok (.ifCond .ne 6, 3) := by decide +kernel
theorem dX7_sure_7 : decode cX7_sure 7 = .ok (.bipush (-5), 2) := by decide +kernel
theorem dX7_sure_9 : decode cX7_sure 9 = .ok (.ireturn, 1) := by decide +kernel
theorem dX7_sure_10 : decode cX7_sure 10 = .ok (.iload_n 1, 1) := by decide +kernel
theorem dX7_sure_11 : decode cX7_sure 11 = .ok (.iconst 0, 1) := by decide +kernel
theorem dX7_sure_12 : decode cX7_sure 12 = .ok (.sipush 999, 3) := by decide +kernel
theorem dX7_sure_15 : decode cX7_sure 15 = .ok (.invokestatic 74, 3) := by decide +kernel
theorem dX7_sure_18 : decode cX7_sure 18 = .ok (.ifCond .ne 6, 3) := by decide +kernel
theorem dX7_sure_21 : decode cX7_sure 21 = .ok (.bipush (-2), 2) := by decide +kernel
theorem dX7_sure_23 : decode cX7_sure 23 = .ok (.ireturn, 1) := by decide +kernel
theorem dX7_sure_24 : decode cX7_sure 24 = .ok (.aload_n 0, 1) := by decide +kernel
theorem dX7_sure_25 : decode cX7_sure 25 = .ok (.invokevirtual 136, 3) := by decide +kernel
theorem dX7_sure_28 : decode cX7_sure 28 = .ok (.aload_n 0, 1) := by decide +kernel
theorem dX7_sure_29 : decode cX7_sure 29 = .ok (.iconst 0, 1) := by decide +kernel
theorem dX7_sure_30 : decode cX7_sure 30 = .ok (.invokevirtual 143, 3) := by decide +kernel
theorem dX7_sure_33 : decode cX7_sure 33 = .ok (.istore_n 2, 1) := by decide +kernel
theorem dX7_sure_34 : decode cX7_sure 34 = .ok (.iload_n 2, 1) := by decide +kernel
theorem dX7_sure_35 : decode cX7_sure 35 = .ok (.ifCond .ge 6, 3) := by decide +kernel
theorem dX7_sure_38 : decode cX7_sure 38 = .ok (.bipush (-6), 2) := by decide +kernel
theorem dX7_sure_40 : decode cX7_sure 40 = .ok (.ireturn, 1) := by decide +kernel
theorem dX7_sure_41 : decode cX7_sure 41 = .ok (.aload_n 0, 1) := by decide +kernel
theorem dX7_sure_42 : decode cX7_sure 42 = .ok (.iload_n 2, 1) := by decide +kernel
theorem dX7_sure_43 : decode cX7_sure 43 = .ok (.invokevirtual 146, 3) := by decide +kernel
theorem dX7_sure_46 : decode cX7_sure 46 = .ok (.iload_n 1, 1) := by decide +kernel
theorem dX7_sure_47 : decode cX7_sure 47 = .ok (.iadd, 1) := by decide +kernel
theorem dX7_sure_48 : decode cX7_sure 48 = .ok (.istore_n 3, 1) := by decide +kernel
theorem dX7_sure_49 : decode cX7_sure 49 = .ok (.iconst 0, 1) := by decide +kernel
theorem dX7_sure_50 : decode cX7_sure 50 = .ok (.istore 4, 2) := by decide +kernel
theorem dX7_sure_52 : decode cX7_sure 52 = .ok (.iconst 1, 1) := by decide +kernel
theorem dX7_sure_53 : decode cX7_sure 53 = .ok (.istore 5, 2) := by decide +kernel
theorem dX7_sure_55 : decode cX7_sure 55 = .ok (.iload 5, 2) := by decide +kernel
theorem dX7_sure_57 : decode cX7_sure 57 = .ok (.aload_n 0, 1) := by decide +kernel
theorem dX7_sure_58 : decode cX7_sure 58 = .ok (.getfield 109, 3) := by decide +kernel
theorem dX7_sure_61 : decode cX7_sure 61 = .ok (.if_icmp .ge 18, 3) := by decide +kernel
theorem dX7_sure_64 : decode cX7_sure 64 = .ok (.iload 4, 2) := by decide +kernel
theorem dX7_sure_66 : decode cX7_sure 66 = .ok (.iconst 1, 1) := by decide +kernel
theorem dX7_sure_67 : decode cX7_sure 67 = .ok (.iload 5, 2) := by decide +kernel
theorem dX7_sure_69 : decode cX7_sure 69 = .ok (.ishl, 1) := by decide +kernel
theorem dX7_sure_70 : decode cX7_sure 70 = .ok (.ior, 1) := by decide +kernel
theorem dX7_sure_71 : decode cX7_sure 71 = .ok (.istore 4, 2) := by decide +kernel
theorem dX7_sure_73 : decode cX7_sure 73 = .ok (.iinc 5 1, 3) := by decide +kernel
theorem dX7_sure_76 : decode cX7_sure 76 = .ok (.goto (-21), 3) := by decide +kernel
theorem dX7_sure_79 : decode cX7_sure 79 = .ok (.aload_n 0, 1) := by decide +kernel
theorem dX7_sure_80 : decode cX7_sure 80 = .ok (.aload_n 0, 1) := by decide +kernel
theorem dX7_sure_81 : decode cX7_sure 81 = .ok (.getfield 112, 3) := by decide +kernel
theorem dX7_sure_84 : decode cX7_sure 84 = .ok (.iconst 1, 1) := by decide +kernel
theorem dX7_sure_85 : decode cX7_sure 85 = .ok (.isub, 1) := by decide +kernel
theorem dX7_sure_86 : decode cX7_sure 86 = .ok (.invokevirtual 139, 3) := by decide +kernel
theorem dX7_sure_89 : decode cX7_sure 89 = .ok (.pop, 1) := by decide +kernel
theorem dX7_sure_90 : decode cX7_sure 90 = .ok (.iconst 0, 1) := by decide +kernel
theorem dX7_sure_91 : decode cX7_sure 91 = .ok (.istore 5, 2) := by decide +kernel
theorem dX7_sure_93 : decode cX7_sure 93 = .ok (.iload 5, 2) := by decide +kernel
theorem dX7_sure_95 : decode cX7_sure 95 = .ok (.aload_n 0, 1) := by decide +kernel
theorem dX7_sure_96 : decode cX7_sure 96 = .ok (.getfield 112, 3) := by decide +kernel
theorem dX7_sure_99 : decode cX7_sure 99 = .ok (.if_icmp .ge 112, 3) := by decide +kernel
theorem dX7_sure_102 : decode cX7_sure 102 = .ok (.aload_n 0, 1) := by decide +kernel
theorem dX7_sure_103 : decode cX7_sure 103 = .ok (.getfield 61, 3) := by decide +kernel
theorem dX7_sure_106 : decode cX7_sure 106 = .ok (.iload 5, 2) := by decide +kernel
theorem dX7_sure_108 : decode cX7_sure 108 = .ok (.iaload, 1) := by decide +kernel
theorem dX7_sure_109 : decode cX7_sure 109 = .ok (.ifCond .lt 13, 3) := by decide +kernel
theorem dX7_sure_112 : decode cX7_sure 112 = .ok (.aload_n 0, 1) := by decide +kernel
theorem dX7_sure_113 : decode cX7_sure 113 = .ok (.getfield 58, 3) := by decide +kernel
theorem dX7_sure_116 : decode cX7_sure 116 = .ok (.iload 5, 2) := by decide +kernel
theorem dX7_sure_118 : decode cX7_sure 118 = .ok (.iaload, 1) := by decide +kernel
theorem dX7_sure_119 : decode cX7_sure 119 = .ok (.ifCond .ne 8, 3) := by decide +kernel
theorem dX7_sure_122 : decode cX7_sure 122 = .ok (.bipush (-6), 2) := by decide +kernel
theorem dX7_sure_124 : decode cX7_sure 124 = .ok (.goto 29, 3) := by decide +kernel
theorem dX7_sure_127 : decode cX7_sure 127 = .ok (.aload_n 0, 1) := by decide +kernel
theorem dX7_sure_128 : decode cX7_sure 128 = .ok (.getfield 61, 3) := by decide +kernel
theorem dX7_sure_131 : decode cX7_sure 131 = .ok (.iload 5, 2) := by decide +kernel
theorem dX7_sure_133 : decode cX7_sure 133 = .ok (.iaload, 1) := by decide +kernel
theorem dX7_sure_134 : decode cX7_sure 134 = .ok (.aload_n 0, 1) := by decide +kernel
theorem dX7_sure_135 : decode cX7_sure 135 = .ok (.getfield 52, 3) := by decide +kernel
theorem dX7_sure_138 : decode cX7_sure 138 = .ok (.bipush 12, 2) := by decide +kernel
theorem dX7_sure_140 : decode cX7_sure 140 = .ok (.iload 5, 2) := by decide +kernel
theorem dX7_sure_142 : decode cX7_sure 142 = .ok (.imul, 1) := by decide +kernel
theorem dX7_sure_143 : decode cX7_sure 143 = .ok (.iaload, 1) := by decide +kernel
theorem dX7_sure_144 : decode cX7_sure 144 = .ok (.iadd, 1) := by decide +kernel
theorem dX7_sure_145 : decode cX7_sure 145 = .ok (.aload_n 0, 1) := by decide +kernel
theorem dX7_sure_146 : decode cX7_sure 146 = .ok (.getfield 43, 3) := by decide +kernel
theorem dX7_sure_149 : decode cX7_sure 149 = .ok (.iload 5, 2) := by decide +kernel
theorem dX7_sure_151 : decode cX7_sure 151 = .ok (.iaload, 1) := by decide +kernel
theorem dX7_sure_152 : decode cX7_sure 152 = .ok (.isub, 1) := by decide +kernel
theorem dX7_sure_153 : decode cX7_sure 153 = .ok (.istore 6, 2) := by decide +kernel
theorem dX7_sure_155 : decode cX7_sure 155 = .ok (.aload_n 0, 1) := by decide +kernel
theorem dX7_sure_156 : decode cX7_sure 156 = .ok (.getfield 34, 3) := by decide +kernel
theorem dX7_sure_159 : decode cX7_sure 159 = .ok (.iload 5, 2) := by decide +kernel
theorem dX7_sure_161 : decode cX7_sure 161 = .ok (.iaload, 1) := by decide +kernel
theorem dX7_sure_162 : decode cX7_sure 162 = .ok (.iconst 1, 1) := by decide +kernel
theorem dX7_sure_163 : decode cX7_sure 163 = .ok (.iadd, 1) := by decide +kernel
theorem dX7_sure_164 : decode cX7_sure 164 = .ok (.istore 7, 2) := by decide +kernel
theorem dX7_sure_166 : decode cX7_sure 166 = .ok (.iload 7, 2) := by decide +kernel
theorem dX7_sure_168 : decode cX7_sure 168 = .ok (.aload_n 0, 1) := by decide +kernel
theorem dX7_sure_169 : decode cX7_sure 169 = .ok (.iload 5, 2) := by decide +kernel
theorem dX7_sure_171 : decode cX7_sure 171 = .ok (.invokevirtual 130, 3) := by decide +kernel
theorem dX7_sure_174 : decode cX7_sure 174 = .ok (.if_icmp .ge 31, 3) := by decide +kernel
theorem dX7_sure_177 : decode cX7_sure 177 = .ok (.iload 6, 2) := by decide +kernel
theorem dX7_sure_179 : decode cX7_sure 179 = .ok (.ifCond .lt 26, 3) := by decide +kernel
theorem dX7_sure_182 : decode cX7_sure 182 = .ok (.iload 6, 2) := by decide +kernel
theorem dX7_sure_184 : decode cX7_sure 184 = .ok (.iload_n 3, 1) := by decide +kernel
theorem dX7_sure_185 : decode cX7_sure 185 = .ok (.if_icmp .gt 20, 3) := by decide +kernel
theorem dX7_sure_188 : decode cX7_sure 188 = .ok (.iload 4, 2) := by decide +kernel
theorem dX7_sure_190 : decode cX7_sure 190 = .ok (.iconst 1, 1) := by decide +kernel
theorem dX7_sure_191 : decode cX7_sure 191 = .ok (.iload 7, 2) := by decide +kernel
theorem dX7_sure_193 : decode cX7_sure 193 = .ok (.ishl, 1) := by decide +kernel
theorem dX7_sure_194 : decode cX7_sure 194 = .ok (.iconst (-1), 1) := by decide +kernel
theorem dX7_sure_195 : decode cX7_sure 195 = .ok (.ixor, 1) := by decide +kernel
theorem dX7_sure_196 : decode cX7_sure 196 = .ok (.iand, 1) := by decide +kernel
theorem dX7_sure_197 : decode cX7_sure 197 = .ok (.istore 4, 2) := by decide +kernel
theorem dX7_sure_199 : decode cX7_sure 199 = .ok (.iinc 7 1, 3) := by decide +kernel
theorem dX7_sure_202 : decode cX7_sure 202 = .ok (.goto (-36), 3) := by decide +kernel
theorem dX7_sure_205 : decode cX7_sure 205 = .ok (.iinc 5 1, 3) := by decide +kernel
theorem dX7_sure_208 : decode cX7_sure 208 = .ok (.goto (-115), 3) := by decide +kernel
theorem dX7_sure_211 : decode cX7_sure 211 = .ok (.iload 4, 2) := by decide +kernel
theorem dX7_sure_213 : decode cX7_sure 213 = .ok (.ireturn, 1) := by decide +kernel
theorem dX7_sign_0 : decode cX7_sign 0 = .ok (.aload_n 0, 1) := by decide +kernel
theorem dX7_sign_1 : decode cX7_sign 1 = .ok (.getfield 109, 3) := by decide +kernel
theorem dX7_sign_4 : decode cX7_sign 4 = .ok (.ifCond .ne 6, 3) := by decide +kernel
theorem dX7_sign_7 : decode cX7_sign 7 = .ok (.bipush (-5), 2) := by decide +kernel
theorem dX7_sign_9 : decode cX7_sign 9 = .ok (.ireturn, 1) := by decide +kernel
theorem dX7_sign_10 : decode cX7_sign 10 = .ok (.iload_n 1, 1) := by decide +kernel
theorem dX7_sign_11 : decode cX7_sign 11 = .ok (.iconst 0, 1) := by decide +kernel
theorem dX7_sign_12 : decode cX7_sign 12 = .ok (.bipush 11, 2) := by decide +kernel
theorem dX7_sign_14 : decode cX7_sign 14 = .ok (.invokestatic 74, 3) := by decide +kernel
theorem dX7_sign_17 : decode cX7_sign 17 = .ok (.ifCond .ne 5, 3) := by decide +kernel
theorem dX7_sign_20 : decode cX7_sign 20 = .ok (.iconst (-1), 1) := by decide +kernel
theorem dX7_sign_21 : decode cX7_sign 21 = .ok (.ireturn, 1) := by decide +kernel
theorem dX7_sign_22 : decode cX7_sign 22 = .ok (.aload_n 0, 1) := by decide +kernel
theorem dX7_sign_23 : decode cX7_sign 23 = .ok (.invokevirtual 136, 3) := by decide +kernel
theorem dX7_sign_26 : decode cX7_sign 26 = .ok (.aload_n 0, 1) := by decide +kernel
theorem dX7_sign_27 : decode cX7_sign 27 = .ok (.iload_n 1, 1) := by decide +kernel
theorem dX7_sign_28 : decode cX7_sign 28 = .ok (.invokevirtual 143, 3) := by decide +kernel
theorem dX7_sign_31 : decode cX7_sign 31 = .ok (.istore_n 3, 1) := by decide +kernel
theorem dX7_sign_32 : decode cX7_sign 32 = .ok (.iload_n 3, 1) := by decide +kernel
theorem dX7_sign_33 : decode cX7_sign 33 = .ok (.ifCond .ge 6, 3) := by decide +kernel
theorem dX7_sign_36 : decode cX7_sign 36 = .ok (.bipush (-6), 2) := by decide +kernel
theorem dX7_sign_38 : decode cX7_sign 38 = .ok (.ireturn, 1) := by decide +kernel
theorem dX7_sign_39 : decode cX7_sign 39 = .ok (.iconst 0, 1) := by decide +kernel
theorem dX7_sign_40 : decode cX7_sign 40 = .ok (.istore 4, 2) := by decide +kernel
theorem dX7_sign_42 : decode cX7_sign 42 = .ok (.iload_n 3, 1) := by decide +kernel
theorem dX7_sign_43 : decode cX7_sign 43 = .ok (.istore 5, 2) := by decide +kernel
theorem dX7_sign_45 : decode cX7_sign 45 = .ok (.iload 5, 2) := by decide +kernel
theorem dX7_sign_47 : decode cX7_sign 47 = .ok (.ifCond .lt 151, 3) := by decide +kernel
theorem dX7_sign_50 : decode cX7_sign 50 = .ok (.iload 5, 2) := by decide +kernel
theorem dX7_sign_52 : decode cX7_sign 52 = .ok (.bipush 16, 2) := by decide +kernel
theorem dX7_sign_54 : decode cX7_sign 54 = .ok (.idiv, 1) := by decide +kernel
theorem dX7_sign_55 : decode cX7_sign 55 = .ok (.istore 6, 2) := by decide +kernel
theorem dX7_sign_57 : decode cX7_sign 57 = .ok (.aload_n 0, 1) := by decide +kernel
theorem dX7_sign_58 : decode cX7_sign 58 = .ok (.getfield 37, 3) := by decide +kernel
theorem dX7_sign_61 : decode cX7_sign 61 = .ok (.iload 6, 2) := by decide +kernel
theorem dX7_sign_63 : decode cX7_sign 63 = .ok (.iaload, 1) := by decide +kernel
theorem dX7_sign_64 : decode cX7_sign 64 = .ok (.aload_n 0, 1) := by decide +kernel
theorem dX7_sign_65 : decode cX7_sign 65 = .ok (.getfield 40, 3) := by decide +kernel
theorem dX7_sign_68 : decode cX7_sign 68 = .ok (.iload 6, 2) := by decide +kernel
theorem dX7_sign_70 : decode cX7_sign 70 = .ok (.iaload, 1) := by decide +kernel
theorem dX7_sign_71 : decode cX7_sign 71 = .ok (.iconst 3, 1) := by decide +kernel
theorem dX7_sign_72 : decode cX7_sign 72 = .ok (.if_icmp .ne 7, 3) := by decide +kernel
theorem dX7_sign_75 : decode cX7_sign 75 = .ok (.iconst 1, 1) := by decide +kernel
theorem dX7_sign_76 : decode cX7_sign 76 = .ok (.goto 4, 3) := by decide +kernel
theorem dX7_sign_79 : decode cX7_sign 79 = .ok (.iconst 0, 1) := by decide +kernel
theorem dX7_sign_80 : decode cX7_sign 80 = .ok (.iadd, 1) := by decide +kernel
theorem dX7_sign_81 : decode cX7_sign 81 = .ok (.aload_n 0, 1) := by decide +kernel
theorem dX7_sign_82 : decode cX7_sign 82 = .ok (.iload 5, 2) := by decide +kernel
theorem dX7_sign_84 : decode cX7_sign 84 = .ok (.invokevirtual 149, 3) := by decide +kernel
theorem dX7_sign_87 : decode cX7_sign 87 = .ok (.ifCond .lt 7, 3) := by decide +kernel
theorem dX7_sign_90 : decode cX7_sign 90 = .ok (.iconst 1, 1) := by decide +kernel
theorem dX7_sign_91 : decode cX7_sign 91 = .ok (.goto 4, 3) := by decide +kernel
theorem dX7_sign_94 : decode cX7_sign 94 = .ok (.iconst 0, 1) := by decide +kernel
theorem dX7_sign_95 : decode cX7_sign 95 = .ok (.iadd, 1) := by decide +kernel
theorem dX7_sign_96 : decode cX7_sign 96 = .ok (.istore 7, 2) := by decide +kernel
theorem dX7_sign_98 : decode cX7_sign 98 = .ok (.iload_n 2, 1) := by decide +kernel
theorem dX7_sign_99 : decode cX7_sign 99 = .ok (.iload 4, 2) := by decide +kernel
theorem dX7_sign_101 : decode cX7_sign 101 = .ok (.if_icmp .lt 79, 3) := by decide +kernel
theorem dX7_sign_104 : decode cX7_sign 104 = .ok (.iload_n 2, 1) := by decide +kernel
theorem dX7_sign_105 : decode cX7_sign 105 = .ok (.iload 4, 2) := by decide +kernel
theorem dX7_sign_107 : decode cX7_sign 107 = .ok (.iload 7, 2) := by decide +kernel
theorem dX7_sign_109 : decode cX7_sign 109 = .ok (.iadd, 1) := by decide +kernel
theorem dX7_sign_110 : decode cX7_sign 110 = .ok (.if_icmp .ge 70, 3) := by decide +kernel
theorem dX7_sign_113 : decode cX7_sign 113 = .ok (.iload_n 2, 1) := by decide +kernel
theorem dX7_sign_114 : decode cX7_sign 114 = .ok (.iload 4, 2) := by decide +kernel
theorem dX7_sign_116 : decode cX7_sign 116 = .ok (.isub, 1) := by decide +kernel
theorem dX7_sign_117 : decode cX7_sign 117 = .ok (.istore 8, 2) := by decide +kernel
theorem dX7_sign_119 : decode cX7_sign 119 = .ok (.iload 8, 2) := by decide +kernel
theorem dX7_sign_121 : decode cX7_sign 121 = .ok (.aload_n 0, 1) := by decide +kernel
theorem dX7_sign_122 : decode cX7_sign 122 = .ok (.getfield 37, 3) := by decide +kernel
theorem dX7_sign_125 : decode cX7_sign 125 = .ok (.iload 6, 2) := by decide +kernel
theorem dX7_sign_127 : decode cX7_sign 127 = .ok (.iaload, 1) := by decide +kernel
theorem dX7_sign_128 : decode cX7_sign 128 = .ok (.if_icmp .ge 21, 3) := by decide +kernel
theorem dX7_sign_131 : decode cX7_sign 131 = .ok (.aload_n 0, 1) := by decide +kernel
theorem dX7_sign_132 : decode cX7_sign 132 = .ok (.getfield 28, 3) := by decide +kernel
theorem dX7_sign_135 : decode cX7_sign 135 = .ok (.aload_n 0, 1) := by decide +kernel
theorem dX7_sign_136 : decode cX7_sign 136 = .ok (.getfield 34, 3) := by decide +kernel
theorem dX7_sign_139 : decode cX7_sign 139 = .ok (.iload 6, 2) := by decide +kernel
theorem dX7_sign_141 : decode cX7_sign 141 = .ok (.iaload, 1) := by decide +kernel
theorem dX7_sign_142 : decode cX7_sign 142 = .ok (.iload 8, 2) := by decide +kernel
theorem dX7_sign_144 : decode cX7_sign 144 = .ok (.iadd, 1) := by decide +kernel
theorem dX7_sign_145 : decode cX7_sign 145 = .ok (.iaload, 1) := by decide +kernel
theorem dX7_sign_146 : decode cX7_sign 146 = .ok (.goto 33, 3) := by decide +kernel
theorem dX7_sign_149 : decode cX7_sign 149 = .ok (.iload 8, 2) := by decide +kernel
theorem dX7_sign_151 : decode cX7_sign 151 = .ok (.aload_n 0, 1) := by decide +kernel
theorem dX7_sign_152 : decode cX7_sign 152 = .ok (.getfield 37, 3) := by decide +kernel
theorem dX7_sign_155 : decode cX7_sign 155 = .ok (.iload 6, 2) := by decide +kernel
theorem dX7_sign_157 : decode cX7_sign 157 = .ok (.iaload, 1) := by decide +kernel
theorem dX7_sign_158 : decode cX7_sign 158 = .ok (.if_icmp .ne 19, 3) := by decide +kernel
theorem dX7_sign_161 : decode cX7_sign 161 = .ok (.aload_n 0, 1) := by decide +kernel
theorem dX7_sign_162 : decode cX7_sign 162 = .ok (.getfield 40, 3) := by decide +kernel
theorem dX7_sign_165 : decode cX7_sign 165 = .ok (.iload 6, 2) := by decide +kernel
theorem dX7_sign_167 : decode cX7_sign 167 = .ok (.iaload, 1) := by decide +kernel
theorem dX7_sign_168 : decode cX7_sign 168 = .ok (.iconst 3, 1) := by decide +kernel
theorem dX7_sign_169 : decode cX7_sign 169 = .ok (.if_icmp .ne 8, 3) := by decide +kernel
theorem dX7_sign_172 : decode cX7_sign 172 = .ok (.bipush 63, 2) := by decide +kernel
theorem dX7_sign_174 : decode cX7_sign 174 = .ok (.goto 5, 3) := by decide +kernel
theorem dX7_sign_177 : decode cX7_sign 177 = .ok (.bipush 124, 2) := by decide +kernel
theorem dX7_sign_179 : decode cX7_sign 179 = .ok (.ireturn, 1) := by decide +kernel
theorem dX7_sign_180 : decode cX7_sign 180 = .ok (.iload 4, 2) := by decide +kernel
theorem dX7_sign_182 : decode cX7_sign 182 = .ok (.iload 7, 2) := by decide +kernel
theorem dX7_sign_184 : decode cX7_sign 184 = .ok (.iadd, 1) := by decide +kernel
theorem dX7_sign_185 : decode cX7_sign 185 = .ok (.istore 4, 2) := by decide +kernel
theorem dX7_sign_187 : decode cX7_sign 187 = .ok (.aload_n 0, 1) := by decide +kernel
theorem dX7_sign_188 : decode cX7_sign 188 = .ok (.iload 5, 2) := by decide +kernel
theorem dX7_sign_190 : decode cX7_sign 190 = .ok (.invokevirtual 149, 3) := by decide +kernel
theorem dX7_sign_193 : decode cX7_sign 193 = .ok (.istore 5, 2) := by decide +kernel
theorem dX7_sign_195 : decode cX7_sign 195 = .ok (.goto (-150), 3) := by decide +kernel
theorem dX7_sign_198 : decode cX7_sign 198 = .ok (.iload_n 2, 1) := by decide +kernel
theorem dX7_sign_199 : decode cX7_sign 199 = .ok (.iconst (-1), 1) := by decide +kernel
theorem dX7_sign_200 : decode cX7_sign 200 = .ok (.if_icmp .ne 8, 3) := by decide +kernel
theorem dX7_sign_203 : decode cX7_sign 203 = .ok (.iload 4, 2) := by decide +kernel
theorem dX7_sign_205 : decode cX7_sign 205 = .ok (.goto 5, 3) := by decide +kernel
theorem dX7_sign_208 : decode cX7_sign 208 = .ok (.bipush (-6), 2) := by decide +kernel
theorem dX7_sign_210 : decode cX7_sign 210 = .ok (.ireturn, 1) := by decide +kernel
theorem dX7_image_0 : decode cX7_image 0 = .ok (.iload_n 1, 1) := by decide +kernel
theorem dX7_image_1 : decode cX7_image 1 = .ok (.iconst 0, 1) := by decide +kernel
theorem dX7_image_2 : decode cX7_image 2 = .ok (.iconst 1, 1) := by decide +kernel
theorem dX7_image_3 : decode cX7_image 3 = .ok (.invokestatic 74, 3) := by decide +kernel
theorem dX7_image_6 : decode cX7_image 6 = .ok (.ifCond .ne 6, 3) := by decide +kernel
theorem dX7_image_9 : decode cX7_image 9 = .ok (.bipush (-2), 2) := by decide +kernel
theorem dX7_image_11 : decode cX7_image 11 = .ok (.ireturn, 1) := by decide +kernel
theorem dX7_image_12 : decode cX7_image 12 = .ok (.sipush 230, 3) := by decide +kernel
theorem dX7_image_15 : decode cX7_image 15 = .ok (.iload_n 1, 1) := by decide +kernel
theorem dX7_image_16 : decode cX7_image 16 = .ok (.imul, 1) := by decide +kernel
theorem dX7_image_17 : decode cX7_image 17 = .ok (.istore_n 2, 1) := by decide +kernel
theorem dX7_image_18 : decode cX7_image 18 = .ok (.iconst 0, 1) := by decide +kernel
theorem dX7_image_19 : decode cX7_image 19 = .ok (.istore_n 3, 1) := by decide +kernel
theorem dX7_image_20 : decode cX7_image 20 = .ok (.iload_n 3, 1) := by decide +kernel
theorem dX7_image_21 : decode cX7_image 21 = .ok (.bipush 96, 2) := by decide +kernel
theorem dX7_image_23 : decode cX7_image 23 = .ok (.if_icmp .ge 23, 3) := by decide +kernel
theorem dX7_image_26 : decode cX7_image 26 = .ok (.aload_n 0, 1) := by decide +kernel
theorem dX7_image_27 : decode cX7_image 27 = .ok (.getfield 67, 3) := by decide +kernel
theorem dX7_image_30 : decode cX7_image 30 = .ok (.iload_n 2, 1) := by decide +kernel
theorem dX7_image_31 : decode cX7_image 31 = .ok (.iload_n 3, 1) := by decide +kernel
theorem dX7_image_32 : decode cX7_image 32 = .ok (.iadd, 1) := by decide +kernel
theorem dX7_image_33 : decode cX7_image 33 = .ok (.aload_n 0, 1) := by decide +kernel
theorem dX7_image_34 : decode cX7_image 34 = .ok (.getfield 7, 3) := by decide +kernel
theorem dX7_image_37 : decode cX7_image 37 = .ok (.iload_n 3, 1) := by decide +kernel
theorem dX7_image_38 : decode cX7_image 38 = .ok (.iaload, 1) := by decide +kernel
theorem dX7_image_39 : decode cX7_image 39 = .ok (.iastore, 1) := by decide +kernel
theorem dX7_image_40 : decode cX7_image 40 = .ok (.iinc 3 1, 3) := by decide +kernel
theorem dX7_image_43 : decode cX7_image 43 = .ok (.goto (-23), 3) := by decide +kernel
theorem dX7_image_46 : decode cX7_image 46 = .ok (.iconst 0, 1) := by decide +kernel
theorem dX7_image_47 : decode cX7_image 47 = .ok (.istore_n 3, 1) := by decide +kernel
theorem dX7_image_48 : decode cX7_image 48 = .ok (.iload_n 3, 1) := by decide +kernel
theorem dX7_image_49 : decode cX7_image 49 = .ok (.bipush 16, 2) := by decide +kernel
theorem dX7_image_51 : decode cX7_image 51 = .ok (.if_icmp .ge 61, 3) := by decide +kernel
theorem dX7_image_54 : decode cX7_image 54 = .ok (.aload_n 0, 1) := by decide +kernel
theorem dX7_image_55 : decode cX7_image 55 = .ok (.getfield 67, 3) := by decide +kernel
theorem dX7_image_58 : decode cX7_image 58 = .ok (.iload_n 2, 1) := by decide +kernel
theorem dX7_image_59 : decode cX7_image 59 = .ok (.bipush 96, 2) := by decide +kernel
theorem dX7_image_61 : decode cX7_image 61 = .ok (.iadd, 1) := by decide +kernel
theorem dX7_image_62 : decode cX7_image 62 = .ok (.iload_n 3, 1) := by decide +kernel
theorem dX7_image_63 : decode cX7_image 63 = .ok (.iadd, 1) := by decide +kernel
theorem dX7_image_64 : decode cX7_image 64 = .ok (.aload_n 0, 1) := by decide +kernel
theorem dX7_image_65 : decode cX7_image 65 = .ok (.getfield 13, 3) := by decide +kernel
theorem dX7_image_68 : decode cX7_image 68 = .ok (.iload_n 3, 1) := by decide +kernel
theorem dX7_image_69 : decode cX7_image 69 = .ok (.iaload, 1) := by decide +kernel
theorem dX7_image_70 : decode cX7_image 70 = .ok (.iastore, 1) := by decide +kernel
theorem dX7_image_71 : decode cX7_image 71 = .ok (.aload_n 0, 1) := by decide +kernel
theorem dX7_image_72 : decode cX7_image 72 = .ok (.getfield 67, 3) := by decide +kernel
theorem dX7_image_75 : decode cX7_image 75 = .ok (.iload_n 2, 1) := by decide +kernel
theorem dX7_image_76 : decode cX7_image 76 = .ok (.bipush 112, 2) := by decide +kernel
theorem dX7_image_78 : decode cX7_image 78 = .ok (.iadd, 1) := by decide +kernel
theorem dX7_image_79 : decode cX7_image 79 = .ok (.iload_n 3, 1) := by decide +kernel
theorem dX7_image_80 : decode cX7_image 80 = .ok (.iadd, 1) := by decide +kernel
theorem dX7_image_81 : decode cX7_image 81 = .ok (.aload_n 0, 1) := by decide +kernel
theorem dX7_image_82 : decode cX7_image 82 = .ok (.getfield 16, 3) := by decide +kernel
theorem dX7_image_85 : decode cX7_image 85 = .ok (.iload_n 3, 1) := by decide +kernel
theorem dX7_image_86 : decode cX7_image 86 = .ok (.iaload, 1) := by decide +kernel
theorem dX7_image_87 : decode cX7_image 87 = .ok (.iastore, 1) := by decide +kernel
theorem dX7_image_88 : decode cX7_image 88 = .ok (.aload_n 0, 1) := by decide +kernel
theorem dX7_image_89 : decode cX7_image 89 = .ok (.getfield 67, 3) := by decide +kernel
theorem dX7_image_92 : decode cX7_image 92 = .ok (.iload_n 2, 1) := by decide +kernel
theorem dX7_image_93 : decode cX7_image 93 = .ok (.sipush 128, 3) := by decide +kernel
theorem dX7_image_96 : decode cX7_image 96 = .ok (.iadd, 1) := by decide +kernel
theorem dX7_image_97 : decode cX7_image 97 = .ok (.iload_n 3, 1) := by decide +kernel
theorem dX7_image_98 : decode cX7_image 98 = .ok (.iadd, 1) := by decide +kernel
theorem dX7_image_99 : decode cX7_image 99 = .ok (.aload_n 0, 1) := by decide +kernel
theorem dX7_image_100 : decode cX7_image 100 = .ok (.getfield 19, 3) := by decide +kernel
theorem dX7_image_103 : decode cX7_image 103 = .ok (.iload_n 3, 1) := by decide +kernel
theorem dX7_image_104 : decode cX7_image 104 = .ok (.iaload, 1) := by decide +kernel
theorem dX7_image_105 : decode cX7_image 105 = .ok (.iastore, 1) := by decide +kernel
theorem dX7_image_106 : decode cX7_image 106 = .ok (.iinc 3 1, 3) := by decide +kernel
theorem dX7_image_109 : decode cX7_image 109 = .ok (.goto (-61), 3) := by decide +kernel
theorem dX7_image_112 : decode cX7_image 112 = .ok (.iconst 0, 1) := by decide +kernel
theorem dX7_image_113 : decode cX7_image 113 = .ok (.istore_n 3, 1) := by decide +kernel
theorem dX7_image_114 : decode cX7_image 114 = .ok (.iload_n 3, 1) := by decide +kernel
theorem dX7_image_115 : decode cX7_image 115 = .ok (.bipush 25, 2) := by decide +kernel
theorem dX7_image_117 : decode cX7_image 117 = .ok (.if_icmp .ge 27, 3) := by decide +kernel
theorem dX7_image_120 : decode cX7_image 120 = .ok (.aload_n 0, 1) := by decide +kernel
theorem dX7_image_121 : decode cX7_image 121 = .ok (.getfield 67, 3) := by decide +kernel
theorem dX7_image_124 : decode cX7_image 124 = .ok (.iload_n 2, 1) := by decide +kernel
theorem dX7_image_125 : decode cX7_image 125 = .ok (.sipush 144, 3) := by decide +kernel
theorem dX7_image_128 : decode cX7_image 128 = .ok (.iadd, 1) := by decide +kernel
theorem dX7_image_129 : decode cX7_image 129 = .ok (.iload_n 3, 1) := by decide +kernel
theorem dX7_image_130 : decode cX7_image 130 = .ok (.iadd, 1) := by decide +kernel
theorem dX7_image_131 : decode cX7_image 131 = .ok (.aload_n 0, 1) := by decide +kernel
theorem dX7_image_132 : decode cX7_image 132 = .ok (.getfield 22, 3) := by decide +kernel
theorem dX7_image_135 : decode cX7_image 135 = .ok (.iload_n 3, 1) := by decide +kernel
theorem dX7_image_136 : decode cX7_image 136 = .ok (.iaload, 1) := by decide +kernel
theorem dX7_image_137 : decode cX7_image 137 = .ok (.iastore, 1) := by decide +kernel
theorem dX7_image_138 : decode cX7_image 138 = .ok (.iinc 3 1, 3) := by decide +kernel
theorem dX7_image_141 : decode cX7_image 141 = .ok (.goto (-27), 3) := by decide +kernel
theorem dX7_image_144 : decode cX7_image 144 = .ok (.iconst 0, 1) := by decide +kernel
theorem dX7_image_145 : decode cX7_image 145 = .ok (.istore_n 3, 1) := by decide +kernel
theorem dX7_image_146 : decode cX7_image 146 = .ok (.iload_n 3, 1) := by decide +kernel
theorem dX7_image_147 : decode cX7_image 147 = .ok (.iconst 4, 1) := by decide +kernel
theorem dX7_image_148 : decode cX7_image 148 = .ok (.if_icmp .ge 27, 3) := by decide +kernel
theorem dX7_image_151 : decode cX7_image 151 = .ok (.aload_n 0, 1) := by decide +kernel
theorem dX7_image_152 : decode cX7_image 152 = .ok (.getfield 67, 3) := by decide +kernel
theorem dX7_image_155 : decode cX7_image 155 = .ok (.iload_n 2, 1) := by decide +kernel
theorem dX7_image_156 : decode cX7_image 156 = .ok (.sipush 170, 3) := by decide +kernel
theorem dX7_image_159 : decode cX7_image 159 = .ok (.iadd, 1) := by decide +kernel
theorem dX7_image_160 : decode cX7_image 160 = .ok (.iload_n 3, 1) := by decide +kernel
theorem dX7_image_161 : decode cX7_image 161 = .ok (.iadd, 1) := by decide +kernel
theorem dX7_image_162 : decode cX7_image 162 = .ok (.aload_n 0, 1) := by decide +kernel
theorem dX7_image_163 : decode cX7_image 163 = .ok (.getfield 25, 3) := by decide +kernel
theorem dX7_image_166 : decode cX7_image 166 = .ok (.iload_n 3, 1) := by decide +kernel
theorem dX7_image_167 : decode cX7_image 167 = .ok (.iaload, 1) := by decide +kernel
theorem dX7_image_168 : decode cX7_image 168 = .ok (.iastore, 1) := by decide +kernel
theorem dX7_image_169 : decode cX7_image 169 = .ok (.iinc 3 1, 3) := by decide +kernel
theorem dX7_image_172 : decode cX7_image 172 = .ok (.goto (-26), 3) := by decide +kernel
theorem dX7_image_175 : decode cX7_image 175 = .ok (.iconst 0, 1) := by decide +kernel
theorem dX7_image_176 : decode cX7_image 176 = .ok (.istore_n 3, 1) := by decide +kernel
theorem dX7_image_177 : decode cX7_image 177 = .ok (.iload_n 3, 1) := by decide +kernel
theorem dX7_image_178 : decode cX7_image 178 = .ok (.bipush 24, 2) := by decide +kernel
theorem dX7_image_180 : decode cX7_image 180 = .ok (.if_icmp .ge 27, 3) := by decide +kernel
theorem dX7_image_183 : decode cX7_image 183 = .ok (.aload_n 0, 1) := by decide +kernel
theorem dX7_image_184 : decode cX7_image 184 = .ok (.getfield 67, 3) := by decide +kernel
theorem dX7_image_187 : decode cX7_image 187 = .ok (.iload_n 2, 1) := by decide +kernel
theorem dX7_image_188 : decode cX7_image 188 = .ok (.sipush 180, 3) := by decide +kernel
theorem dX7_image_191 : decode cX7_image 191 = .ok (.iadd, 1) := by decide +kernel
theorem dX7_image_192 : decode cX7_image 192 = .ok (.iload_n 3, 1) := by decide +kernel
theorem dX7_image_193 : decode cX7_image 193 = .ok (.iadd, 1) := by decide +kernel
theorem dX7_image_194 : decode cX7_image 194 = .ok (.aload_n 0, 1) := by decide +kernel
theorem dX7_image_195 : decode cX7_image 195 = .ok (.getfield 28, 3) := by decide +kernel
theorem dX7_image_198 : decode cX7_image 198 = .ok (.iload_n 3, 1) := by decide +kernel
theorem dX7_image_199 : decode cX7_image 199 = .ok (.iaload, 1) := by decide +kernel
theorem dX7_image_200 : decode cX7_image 200 = .ok (.iastore, 1) := by decide +kernel
theorem dX7_image_201 : decode cX7_image 201 = .ok (.iinc 3 1, 3) := by decide +kernel
theorem dX7_image_204 : decode cX7_image 204 = .ok (.goto (-27), 3) := by decide +kernel
theorem dX7_image_207 : decode cX7_image 207 = .ok (.aload_n 0, 1) := by decide +kernel
theorem dX7_image_208 : decode cX7_image 208 = .ok (.getfield 67, 3) := by decide +kernel
theorem dX7_image_211 : decode cX7_image 211 = .ok (.iload_n 2, 1) := by decide +kernel
theorem dX7_image_212 : decode cX7_image 212 = .ok (.sipush 210, 3) := by decide +kernel
theorem dX7_image_215 : decode cX7_image 215 = .ok (.iadd, 1) := by decide +kernel
theorem dX7_image_216 : decode cX7_image 216 = .ok (.aload_n 0, 1) := by decide +kernel
theorem dX7_image_217 : decode cX7_image 217 = .ok (.getfield 106, 3) := by decide +kernel
theorem dX7_image_220 : decode cX7_image 220 = .ok (.iastore, 1) := by decide +kernel
theorem dX7_image_221 : decode cX7_image 221 = .ok (.aload_n 0, 1) := by decide +kernel
theorem dX7_image_222 : decode cX7_image 222 = .ok (.getfield 67, 3) := by decide +kernel
theorem dX7_image_225 : decode cX7_image 225 = .ok (.iload_n 2, 1) := by decide +kernel
theorem dX7_image_226 : decode cX7_image 226 = .ok (.sipush 211, 3) := by decide +kernel
theorem dX7_image_229 : decode cX7_image 229 = .ok (.iadd, 1) := by decide +kernel
theorem dX7_image_230 : decode cX7_image 230 = .ok (.aload_n 0, 1) := by decide +kernel
theorem dX7_image_231 : decode cX7_image 231 = .ok (.getfield 109, 3) := by decide +kernel
theorem dX7_image_234 : decode cX7_image 234 = .ok (.iastore, 1) := by decide +kernel
theorem dX7_image_235 : decode cX7_image 235 = .ok (.aload_n 0, 1) := by decide +kernel
theorem dX7_image_236 : decode cX7_image 236 = .ok (.getfield 70, 3) := by decide +kernel
theorem dX7_image_239 : decode cX7_image 239 = .ok (.iload_n 1, 1) := by decide +kernel
theorem dX7_image_240 : decode cX7_image 240 = .ok (.iconst 1, 1) := by decide +kernel
theorem dX7_image_241 : decode cX7_image 241 = .ok (.bastore, 1) := by decide +kernel
theorem dX7_image_242 : decode cX7_image 242 = .ok (.iconst 1, 1) := by decide +kernel
theorem dX7_image_243 : decode cX7_image 243 = .ok (.ireturn, 1) := by decide +kernel
theorem dX7_restore_0 : decode cX7_restore 0 = .ok (.iload_n 1, 1) := by decide +kernel
theorem dX7_restore_1 : decode cX7_restore 1 = .ok (.iconst 0, 1) := by decide +kernel
theorem dX7_restore_2 : decode cX7_restore 2 = .ok (.iconst 1, 1) := by decide +kernel
theorem dX7_restore_3 : decode cX7_restore 3 = .ok (.invokestatic 74, 3) := by decide +kernel
theorem dX7_restore_6 : decode cX7_restore 6 = .ok (.ifCond .ne 6, 3) := by decide +kernel
theorem dX7_restore_9 : decode cX7_restore 9 = .ok (.bipush (-2), 2) := by decide +kernel
theorem dX7_restore_11 : decode cX7_restore 11 = .ok (.ireturn, 1) := by decide +kernel
theorem dX7_restore_12 : decode cX7_restore 12 = .ok (.aload_n 0, 1) := by decide +kernel
theorem dX7_restore_13 : decode cX7_restore 13 = .ok (.getfield 70, 3) := by decide +kernel
theorem dX7_restore_16 : decode cX7_restore 16 = .ok (.iload_n 1, 1) := by decide +kernel
theorem dX7_restore_17 : decode cX7_restore 17 = .ok (.baload, 1) := by decide +kernel
theorem dX7_restore_18 : decode cX7_restore 18 = .ok (.ifCond .ne 6, 3) := by decide +kernel
theorem dX7_restore_21 : decode cX7_restore 21 = .ok (.bipush (-3), 2) := by decide +kernel
theorem dX7_restore_23 : decode cX7_restore 23 = .ok (.ireturn, 1) := by decide +kernel
theorem dX7_restore_24 : decode cX7_restore 24 = .ok (.sipush 230, 3) := by decide +kernel
theorem dX7_restore_27 : decode cX7_restore 27 = .ok (.iload_n 1, 1) := by decide +kernel
theorem dX7_restore_28 : decode cX7_restore 28 = .ok (.imul, 1) := by decide +kernel
theorem dX7_restore_29 : decode cX7_restore 29 = .ok (.istore_n 2, 1) := by decide +kernel
theorem dX7_restore_30 : decode cX7_restore 30 = .ok (.iconst 0, 1) := by decide +kernel
theorem dX7_restore_31 : decode cX7_restore 31 = .ok (.istore_n 3, 1) := by decide +kernel
theorem dX7_restore_32 : decode cX7_restore 32 = .ok (.iload_n 3, 1) := by decide +kernel
theorem dX7_restore_33 : decode cX7_restore 33 = .ok (.bipush 96, 2) := by decide +kernel
theorem dX7_restore_35 : decode cX7_restore 35 = .ok (.if_icmp .ge 23, 3) := by decide +kernel
theorem dX7_restore_38 : decode cX7_restore 38 = .ok (.aload_n 0, 1) := by decide +kernel
theorem dX7_restore_39 : decode cX7_restore 39 = .ok (.getfield 7, 3) := by decide +kernel
theorem dX7_restore_42 : decode cX7_restore 42 = .ok (.iload_n 3, 1) := by decide +kernel
theorem dX7_restore_43 : decode cX7_restore 43 = .ok (.aload_n 0, 1) := by decide +kernel
theorem dX7_restore_44 : decode cX7_restore 44 = .ok (.getfield 67, 3) := by decide +kernel
theorem dX7_restore_47 : decode cX7_restore 47 = .ok (.iload_n 2, 1) := by decide +kernel
theorem dX7_restore_48 : decode cX7_restore 48 = .ok (.iload_n 3, 1) := by decide +kernel
theorem dX7_restore_49 : decode cX7_restore 49 = .ok (.iadd, 1) := by decide +kernel
theorem dX7_restore_50 : decode cX7_restore 50 = .ok (.iaload, 1) := by decide +kernel
theorem dX7_restore_51 : decode cX7_restore 51 = .ok (.iastore, 1) := by decide +kernel
theorem dX7_restore_52 : decode cX7_restore 52 = .ok (.iinc 3 1, 3) := by decide +kernel
theorem dX7_restore_55 : decode cX7_restore 55 = .ok (.goto (-23), 3) := by decide +kernel
theorem dX7_restore_58 : decode cX7_restore 58 = .ok (.iconst 0, 1) := by decide +kernel
theorem dX7_restore_59 : decode cX7_restore 59 = .ok (.istore_n 3, 1) := by decide +kernel
theorem dX7_restore_60 : decode cX7_restore 60 = .ok (.iload_n 3, 1) := by decide +kernel
theorem dX7_restore_61 : decode cX7_restore 61 = .ok (.bipush 16, 2) := by decide +kernel
theorem dX7_restore_63 : decode cX7_restore 63 = .ok (.if_icmp .ge 61, 3) := by decide +kernel
theorem dX7_restore_66 : decode cX7_restore 66 = .ok (.aload_n 0, 1) := by decide +kernel
theorem dX7_restore_67 : decode cX7_restore 67 = .ok (.getfield 13, 3) := by decide +kernel
theorem dX7_restore_70 : decode cX7_restore 70 = .ok (.iload_n 3, 1) := by decide +kernel
theorem dX7_restore_71 : decode cX7_restore 71 = .ok (.aload_n 0, 1) := by decide +kernel
theorem dX7_restore_72 : decode cX7_restore 72 = .ok (.getfield 67, 3) := by decide +kernel
theorem dX7_restore_75 : decode cX7_restore 75 = .ok (.iload_n 2, 1) := by decide +kernel
theorem dX7_restore_76 : decode cX7_restore 76 = .ok (.bipush 96, 2) := by decide +kernel
theorem dX7_restore_78 : decode cX7_restore 78 = .ok (.iadd, 1) := by decide +kernel
theorem dX7_restore_79 : decode cX7_restore 79 = .ok (.iload_n 3, 1) := by decide +kernel
theorem dX7_restore_80 : decode cX7_restore 80 = .ok (.iadd, 1) := by decide +kernel
theorem dX7_restore_81 : decode cX7_restore 81 = .ok (.iaload, 1) := by decide +kernel
theorem dX7_restore_82 : decode cX7_restore 82 = .ok (.iastore, 1) := by decide +kernel
theorem dX7_restore_83 : decode cX7_restore 83 = .ok (.aload_n 0, 1) := by decide +kernel
theorem dX7_restore_84 : decode cX7_restore 84 = .ok (.getfield 16, 3) := by decide +kernel
theorem dX7_restore_87 : decode cX7_restore 87 = .ok (.iload_n 3, 1) := by decide +kernel
theorem dX7_restore_88 : decode cX7_restore 88 = .ok (.aload_n 0, 1) := by decide +kernel
theorem dX7_restore_89 : decode cX7_restore 89 = .ok (.getfield 67, 3) := by decide +kernel
theorem dX7_restore_92 : decode cX7_restore 92 = .ok (.iload_n 2, 1) := by decide +kernel
theorem dX7_restore_93 : decode cX7_restore 93 = .ok (.bipush 112, 2) := by decide +kernel
theorem dX7_restore_95 : decode cX7_restore 95 = .ok (.iadd, 1) := by decide +kernel
theorem dX7_restore_96 : decode cX7_restore 96 = .ok (.iload_n 3, 1) := by decide +kernel
theorem dX7_restore_97 : decode cX7_restore 97 = .ok (.iadd, 1) := by decide +kernel
theorem dX7_restore_98 : decode cX7_restore 98 = .ok (.iaload, 1) := by decide +kernel
theorem dX7_restore_99 : decode cX7_restore 99 = .ok (.iastore, 1) := by decide +kernel
theorem dX7_restore_100 : decode cX7_restore 100 = .ok (.aload_n 0, 1) := by decide +kernel
theorem dX7_restore_101 : decode cX7_restore 101 = .ok (.getfield 19, 3) := by decide +kernel
theorem dX7_restore_104 : decode cX7_restore 104 = .ok (.iload_n 3, 1) := by decide +kernel
theorem dX7_restore_105 : decode cX7_restore 105 = .ok (.aload_n 0, 1) := by decide +kernel
theorem dX7_restore_106 : decode cX7_restore 106 = .ok (.getfield 67, 3) := by decide +kernel
theorem dX7_restore_109 : decode cX7_restore 109 = .ok (.iload_n 2, 1) := by decide +kernel
theorem dX7_restore_110 : decode cX7_restore 110 = .ok (.sipush 128, 3) := by decide +kernel
theorem dX7_restore_113 : decode cX7_restore 113 = .ok (.iadd, 1) := by decide +kernel
theorem dX7_restore_114 : decode cX7_restore 114 = .ok (.iload_n 3, 1) := by decide +kernel
theorem dX7_restore_115 : decode cX7_restore 115 = .ok (.iadd, 1) := by decide +kernel
theorem dX7_restore_116 : decode cX7_restore 116 = .ok (.iaload, 1) := by decide +kernel
theorem dX7_restore_117 : decode cX7_restore 117 = .ok (.iastore, 1) := by decide +kernel
theorem dX7_restore_118 : decode cX7_restore 118 = .ok (.iinc 3 1, 3) := by decide +kernel
theorem dX7_restore_121 : decode cX7_restore 121 = .ok (.goto (-61), 3) := by decide +kernel
theorem dX7_restore_124 : decode cX7_restore 124 = .ok (.iconst 0, 1) := by decide +kernel
theorem dX7_restore_125 : decode cX7_restore 125 = .ok (.istore_n 3, 1) := by decide +kernel
theorem dX7_restore_126 : decode cX7_restore 126 = .ok (.iload_n 3, 1) := by decide +kernel
theorem dX7_restore_127 : decode cX7_restore 127 = .ok (.bipush 25, 2) := by decide +kernel
theorem dX7_restore_129 : decode cX7_restore 129 = .ok (.if_icmp .ge 27, 3) := by decide +kernel
theorem dX7_restore_132 : decode cX7_restore 132 = .ok (.aload_n 0, 1) := by decide +kernel
theorem dX7_restore_133 : decode cX7_restore 133 = .ok (.getfield 22, 3) := by decide +kernel
theorem dX7_restore_136 : decode cX7_restore 136 = .ok (.iload_n 3, 1) := by decide +kernel
theorem dX7_restore_137 : decode cX7_restore 137 = .ok (.aload_n 0, 1) := by decide +kernel
theorem dX7_restore_138 : decode cX7_restore 138 = .ok (.getfield 67, 3) := by decide +kernel
theorem dX7_restore_141 : decode cX7_restore 141 = .ok (.iload_n 2, 1) := by decide +kernel
theorem dX7_restore_142 : decode cX7_restore 142 = .ok (.sipush 144, 3) := by decide +kernel
theorem dX7_restore_145 : decode cX7_restore 145 = .ok (.iadd, 1) := by decide +kernel
theorem dX7_restore_146 : decode cX7_restore 146 = .ok (.iload_n 3, 1) := by decide +kernel
theorem dX7_restore_147 : decode cX7_restore 147 = .ok (.iadd, 1) := by decide +kernel
theorem dX7_restore_148 : decode cX7_restore 148 = .ok (.iaload, 1) := by decide +kernel
theorem dX7_restore_149 : decode cX7_restore 149 = .ok (.iastore, 1) := by decide +kernel
theorem dX7_restore_150 : decode cX7_restore 150 = .ok (.iinc 3 1, 3) := by decide +kernel
theorem dX7_restore_153 : decode cX7_restore 153 = .ok (.goto (-27), 3) := by decide +kernel
theorem dX7_restore_156 : decode cX7_restore 156 = .ok (.iconst 0, 1) := by decide +kernel
theorem dX7_restore_157 : decode cX7_restore 157 = .ok (.istore_n 3, 1) := by decide +kernel
theorem dX7_restore_158 : decode cX7_restore 158 = .ok (.iload_n 3, 1) := by decide +kernel
theorem dX7_restore_159 : decode cX7_restore 159 = .ok (.iconst 4, 1) := by decide +kernel
theorem dX7_restore_160 : decode cX7_restore 160 = .ok (.if_icmp .ge 27, 3) := by decide +kernel
theorem dX7_restore_163 : decode cX7_restore 163 = .ok (.aload_n 0, 1) := by decide +kernel
theorem dX7_restore_164 : decode cX7_restore 164 = .ok (.getfield 25, 3) := by decide +kernel
theorem dX7_restore_167 : decode cX7_restore 167 = .ok (.iload_n 3, 1) := by decide +kernel
theorem dX7_restore_168 : decode cX7_restore 168 = .ok (.aload_n 0, 1) := by decide +kernel
theorem dX7_restore_169 : decode cX7_restore 169 = .ok (.getfield 67, 3) := by decide +kernel
theorem dX7_restore_172 : decode cX7_restore 172 = .ok (.iload_n 2, 1) := by decide +kernel
theorem dX7_restore_173 : decode cX7_restore 173 = .ok (.sipush 170, 3) := by decide +kernel
theorem dX7_restore_176 : decode cX7_restore 176 = .ok (.iadd, 1) := by decide +kernel
theorem dX7_restore_177 : decode cX7_restore 177 = .ok (.iload_n 3, 1) := by decide +kernel
theorem dX7_restore_178 : decode cX7_restore 178 = .ok (.iadd, 1) := by decide +kernel
theorem dX7_restore_179 : decode cX7_restore 179 = .ok (.iaload, 1) := by decide +kernel
theorem dX7_restore_180 : decode cX7_restore 180 = .ok (.iastore, 1) := by decide +kernel
theorem dX7_restore_181 : decode cX7_restore 181 = .ok (.iinc 3 1, 3) := by decide +kernel
theorem dX7_restore_184 : decode cX7_restore 184 = .ok (.goto (-26), 3) := by decide +kernel
theorem dX7_restore_187 : decode cX7_restore 187 = .ok (.iconst 0, 1) := by decide +kernel
theorem dX7_restore_188 : decode cX7_restore 188 = .ok (.istore_n 3, 1) := by decide +kernel
theorem dX7_restore_189 : decode cX7_restore 189 = .ok (.iload_n 3, 1) := by decide +kernel
theorem dX7_restore_190 : decode cX7_restore 190 = .ok (.bipush 24, 2) := by decide +kernel
theorem dX7_restore_192 : decode cX7_restore 192 = .ok (.if_icmp .ge 27, 3) := by decide +kernel
theorem dX7_restore_195 : decode cX7_restore 195 = .ok (.aload_n 0, 1) := by decide +kernel
theorem dX7_restore_196 : decode cX7_restore 196 = .ok (.getfield 28, 3) := by decide +kernel
theorem dX7_restore_199 : decode cX7_restore 199 = .ok (.iload_n 3, 1) := by decide +kernel
theorem dX7_restore_200 : decode cX7_restore 200 = .ok (.aload_n 0, 1) := by decide +kernel
theorem dX7_restore_201 : decode cX7_restore 201 = .ok (.getfield 67, 3) := by decide +kernel
theorem dX7_restore_204 : decode cX7_restore 204 = .ok (.iload_n 2, 1) := by decide +kernel
theorem dX7_restore_205 : decode cX7_restore 205 = .ok (.sipush 180, 3) := by decide +kernel
theorem dX7_restore_208 : decode cX7_restore 208 = .ok (.iadd, 1) := by decide +kernel
theorem dX7_restore_209 : decode cX7_restore 209 = .ok (.iload_n 3, 1) := by decide +kernel
theorem dX7_restore_210 : decode cX7_restore 210 = .ok (.iadd, 1) := by decide +kernel
theorem dX7_restore_211 : decode cX7_restore 211 = .ok (.iaload, 1) := by decide +kernel
theorem dX7_restore_212 : decode cX7_restore 212 = .ok (.iastore, 1) := by decide +kernel
theorem dX7_restore_213 : decode cX7_restore 213 = .ok (.iinc 3 1, 3) := by decide +kernel
theorem dX7_restore_216 : decode cX7_restore 216 = .ok (.goto (-27), 3) := by decide +kernel
theorem dX7_restore_219 : decode cX7_restore 219 = .ok (.aload_n 0, 1) := by decide +kernel
theorem dX7_restore_220 : decode cX7_restore 220 = .ok (.aload_n 0, 1) := by decide +kernel
theorem dX7_restore_221 : decode cX7_restore 221 = .ok (.getfield 67, 3) := by decide +kernel
theorem dX7_restore_224 : decode cX7_restore 224 = .ok (.iload_n 2, 1) := by decide +kernel
theorem dX7_restore_225 : decode cX7_restore 225 = .ok (.sipush 210, 3) := by decide +kernel
theorem dX7_restore_228 : decode cX7_restore 228 = .ok (.iadd, 1) := by decide +kernel
theorem dX7_restore_229 : decode cX7_restore 229 = .ok (.iaload, 1) := by decide +kernel
theorem dX7_restore_230 : decode cX7_restore 230 = .ok (.putfield 106, 3) := by decide +kernel
theorem dX7_restore_233 : decode cX7_restore 233 = .ok (.aload_n 0, 1) := by decide +kernel
theorem dX7_restore_234 : decode cX7_restore 234 = .ok (.aload_n 0, 1) := by decide +kernel
theorem dX7_restore_235 : decode cX7_restore 235 = .ok (.getfield 67, 3) := by decide +kernel
theorem dX7_restore_238 : decode cX7_restore 238 = .ok (.iload_n 2, 1) := by decide +kernel
theorem dX7_restore_239 : decode cX7_restore 239 = .ok (.sipush 211, 3) := by decide +kernel
theorem dX7_restore_242 : decode cX7_restore 242 = .ok (.iadd, 1) := by decide +kernel
theorem dX7_restore_243 : decode cX7_restore 243 = .ok (.iaload, 1) := by decide +kernel
theorem dX7_restore_244 : decode cX7_restore 244 = .ok (.putfield 109, 3) := by decide +kernel
theorem dX7_restore_247 : decode cX7_restore 247 = .ok (.iconst 1, 1) := by decide +kernel
theorem dX7_restore_248 : decode cX7_restore 248 = .ok (.ireturn, 1) := by decide +kernel
theorem dX7_told_0 : decode cX7_told 0 = .ok (.iload_n 1, 1) := by decide +kernel
theorem dX7_told_1 : decode cX7_told 1 = .ok (.bipush 100, 2) := by decide +kernel
theorem dX7_told_3 : decode cX7_told 3 = .ok (.if_icmp .lt 29, 3) := by decide +kernel
theorem dX7_told_6 : decode cX7_told 6 = .ok (.iload_n 1, 1) := by decide +kernel
theorem dX7_told_7 : decode cX7_told 7 = .ok (.bipush 100, 2) := by decide +kernel
theorem dX7_told_9 : decode cX7_told 9 = .ok (.isub, 1) := by decide +kernel
theorem dX7_told_10 : decode cX7_told 10 = .ok (.aload_n 0, 1) := by decide +kernel
theorem dX7_told_11 : decode cX7_told 11 = .ok (.getfield 109, 3) := by decide +kernel
theorem dX7_told_14 : decode cX7_told 14 = .ok (.if_icmp .ge 15, 3) := by decide +kernel
theorem dX7_told_17 : decode cX7_told 17 = .ok (.aload_n 0, 1) := by decide +kernel
theorem dX7_told_18 : decode cX7_told 18 = .ok (.getfield 28, 3) := by decide +kernel
theorem dX7_told_21 : decode cX7_told 21 = .ok (.iload_n 1, 1) := by decide +kernel
theorem dX7_told_22 : decode cX7_told 22 = .ok (.bipush 100, 2) := by decide +kernel
theorem dX7_told_24 : decode cX7_told 24 = .ok (.isub, 1) := by decide +kernel
theorem dX7_told_25 : decode cX7_told 25 = .ok (.iaload, 1) := by decide +kernel
theorem dX7_told_26 : decode cX7_told 26 = .ok (.goto 5, 3) := by decide +kernel
theorem dX7_told_29 : decode cX7_told 29 = .ok (.bipush (-2), 2) := by decide +kernel
theorem dX7_told_31 : decode cX7_told 31 = .ok (.ireturn, 1) := by decide +kernel
theorem dX7_told_32 : decode cX7_told 32 = .ok (.iload_n 1, 1) := by decide +kernel
theorem dX7_told_33 : decode cX7_told 33 = .ok (.bipush 10, 2) := by decide +kernel
theorem dX7_told_35 : decode cX7_told 35 = .ok (.if_icmp .lt 24, 3) := by decide +kernel
theorem dX7_told_38 : decode cX7_told 38 = .ok (.iload_n 1, 1) := by decide +kernel
theorem dX7_told_39 : decode cX7_told 39 = .ok (.bipush 34, 2) := by decide +kernel
theorem dX7_told_41 : decode cX7_told 41 = .ok (.if_icmp .ge 15, 3) := by decide +kernel
theorem dX7_told_44 : decode cX7_told 44 = .ok (.aload_n 0, 1) := by decide +kernel
theorem dX7_told_45 : decode cX7_told 45 = .ok (.getfield 22, 3) := by decide +kernel
theorem dX7_told_48 : decode cX7_told 48 = .ok (.iload_n 1, 1) := by decide +kernel
theorem dX7_told_49 : decode cX7_told 49 = .ok (.bipush 10, 2) := by decide +kernel
theorem dX7_told_51 : decode cX7_told 51 = .ok (.isub, 1) := by decide +kernel
theorem dX7_told_52 : decode cX7_told 52 = .ok (.iaload, 1) := by decide +kernel
theorem dX7_told_53 : decode cX7_told 53 = .ok (.goto 5, 3) := by decide +kernel
theorem dX7_told_56 : decode cX7_told 56 = .ok (.bipush (-2), 2) := by decide +kernel
theorem dX7_told_58 : decode cX7_told 58 = .ok (.ireturn, 1) := by decide +kernel
theorem dX7_told_59 : decode cX7_told 59 = .ok (.iload_n 1, 1) := by decide +kernel
theorem dX7_told_60 : decode cX7_told 60 = .ok (.tableswitch 43 0 2 #[28, 33, 38], 28) := by decide +kernel
theorem dX7_told_88 : decode cX7_told 88 = .ok (.aload_n 0, 1) := by decide +kernel
theorem dX7_told_89 : decode cX7_told 89 = .ok (.getfield 78, 3) := by decide +kernel
theorem dX7_told_92 : decode cX7_told 92 = .ok (.ireturn, 1) := by decide +kernel
theorem dX7_told_93 : decode cX7_told 93 = .ok (.aload_n 0, 1) := by decide +kernel
theorem dX7_told_94 : decode cX7_told 94 = .ok (.getfield 106, 3) := by decide +kernel
theorem dX7_told_97 : decode cX7_told 97 = .ok (.ireturn, 1) := by decide +kernel
theorem dX7_told_98 : decode cX7_told 98 = .ok (.aload_n 0, 1) := by decide +kernel
theorem dX7_told_99 : decode cX7_told 99 = .ok (.getfield 109, 3) := by decide +kernel
theorem dX7_told_102 : decode cX7_told 102 = .ok (.ireturn, 1) := by decide +kernel
theorem dX7_told_103 : decode cX7_told 103 = .ok (.iload_n 1, 1) := by decide +kernel
theorem dX7_told_104 : decode cX7_told 104 = .ok (.iconst 3, 1) := by decide +kernel
theorem dX7_told_105 : decode cX7_told 105 = .ok (.bipush 6, 2) := by decide +kernel
theorem dX7_told_107 : decode cX7_told 107 = .ok (.invokestatic 74, 3) := by decide +kernel
theorem dX7_told_110 : decode cX7_told 110 = .ok (.ifCond .eq 14, 3) := by decide +kernel
theorem dX7_told_113 : decode cX7_told 113 = .ok (.aload_n 0, 1) := by decide +kernel
theorem dX7_told_114 : decode cX7_told 114 = .ok (.getfield 25, 3) := by decide +kernel
theorem dX7_told_117 : decode cX7_told 117 = .ok (.iload_n 1, 1) := by decide +kernel
theorem dX7_told_118 : decode cX7_told 118 = .ok (.iconst 3, 1) := by decide +kernel
theorem dX7_told_119 : decode cX7_told 119 = .ok (.isub, 1) := by decide +kernel
theorem dX7_told_120 : decode cX7_told 120 = .ok (.iaload, 1) := by decide +kernel
theorem dX7_told_121 : decode cX7_told 121 = .ok (.goto 5, 3) := by decide +kernel
theorem dX7_told_124 : decode cX7_told 124 = .ok (.bipush (-2), 2) := by decide +kernel
theorem dX7_told_126 : decode cX7_told 126 = .ok (.ireturn, 1) := by decide +kernel
end
section
theorem dL_law_0 : decode cL_law 0 = .ok (.new 7, 3) := by decide +kernel
theorem dL_law_3 : decode cL_law 3 = .ok (.dup, 1) := by decide +kernel
theorem dL_law_4 : decode cL_law 4 = .ok (.invokespecial 9, 3) := by decide +kernel
theorem dL_law_7 : decode cL_law 7 = .ok (.astore_n 1, 1) := by decide +kernel
theorem dL_law_8 : decode cL_law 8 = .ok (.new 10, 3) := by decide +kernel
theorem dL_law_11 : decode cL_law 11 = .ok (.dup, 1) := by decide +kernel
theorem dL_law_12 : decode cL_law 12 = .ok (.invokespecial 12, 3) := by decide +kernel
theorem dL_law_15 : decode cL_law 15 = .ok (.astore_n 2, 1) := by decide +kernel
theorem dL_law_16 : decode cL_law 16 = .ok (.iconst 0, 1) := by decide +kernel
theorem dL_law_17 : decode cL_law 17 = .ok (.istore_n 3, 1) := by decide +kernel
theorem dL_law_18 : decode cL_law 18 = .ok (.iload_n 3, 1) := by decide +kernel
theorem dL_law_19 : decode cL_law 19 = .ok (.aload_n 0, 1) := by decide +kernel
theorem dL_law_20 : decode cL_law 20 = .ok (.arraylength, 1) := by decide +kernel
theorem dL_law_21 : decode cL_law 21 = .ok (.iconst 4, 1) := by decide +kernel
theorem dL_law_22 : decode cL_law 22 = .ok (.isub, 1) := by decide +kernel
theorem dL_law_23 : decode cL_law 23 = .ok (.if_icmp .gt 537, 3) := by decide +kernel
theorem dL_law_26 : decode cL_law 26 = .ok (.aload_n 0, 1) := by decide +kernel
theorem dL_law_27 : decode cL_law 27 = .ok (.iload_n 3, 1) := by decide +kernel
theorem dL_law_28 : decode cL_law 28 = .ok (.iaload, 1) := by decide +kernel
theorem dL_law_29 : decode cL_law 29 = .ok (.bipush 31, 2) := by decide +kernel
theorem dL_law_31 : decode cL_law 31 = .ok (.iand, 1) := by decide +kernel
theorem dL_law_32 : decode cL_law 32 = .ok (.tableswitch 522 0 17 #[88, 111, 124, 147, 160, 183, 216, 229, 272, 305, 318, 351, 364, 397, 420, 453, 476, 499], 88) := by decide +kernel
theorem dL_law_120 : decode cL_law 120 = .ok (.aload_n 1, 1) := by decide +kernel
theorem dL_law_121 : decode cL_law 121 = .ok (.aload_n 0, 1) := by decide +kernel
theorem dL_law_122 : decode cL_law 122 = .ok (.iload_n 3, 1) := by decide +kernel
theorem dL_law_123 : decode cL_law 123 = .ok (.iconst 1, 1) := by decide +kernel
theorem dL_law_124 : decode cL_law 124 = .ok (.iadd, 1) := by decide +kernel
theorem dL_law_125 : decode cL_law 125 = .ok (.iaload, 1) := by decide +kernel
theorem dL_law_126 : decode cL_law 126 = .ok (.invokevirtual 13, 3) := by decide +kernel
theorem dL_law_129 : decode cL_law 129 = .ok (.pop, 1) := by decide +kernel
theorem dL_law_130 : decode cL_law 130 = .ok (.aload_n 2, 1) := by decide +kernel
theorem dL_law_131 : decode cL_law 131 = .ok (.aload_n 0, 1) := by decide +kernel
theorem dL_law_132 : decode cL_law 132 = .ok (.iload_n 3, 1) := by decide +kernel
theorem dL_law_133 : decode cL_law 133 = .ok (.iconst 1, 1) := by decide +kernel
theorem dL_law_134 : decode cL_law 134 = .ok (.iadd, 1) := by decide +kernel
theorem dL_law_135 : decode cL_law 135 = .ok (.iaload, 1) := by decide +kernel
theorem dL_law_136 : decode cL_law 136 = .ok (.invokevirtual 17, 3) := by decide +kernel
theorem dL_law_139 : decode cL_law 139 = .ok (.pop, 1) := by decide +kernel
theorem dL_law_140 : decode cL_law 140 = .ok (.goto 414, 3) := by decide +kernel
theorem dL_law_143 : decode cL_law 143 = .ok (.aload_n 1, 1) := by decide +kernel
theorem dL_law_144 : decode cL_law 144 = .ok (.invokevirtual 18, 3) := by decide +kernel
theorem dL_law_147 : decode cL_law 147 = .ok (.pop, 1) := by decide +kernel
theorem dL_law_148 : decode cL_law 148 = .ok (.aload_n 2, 1) := by decide +kernel
theorem dL_law_149 : decode cL_law 149 = .ok (.invokevirtual 22, 3) := by decide +kernel
theorem dL_law_152 : decode cL_law 152 = .ok (.pop, 1) := by decide +kernel
theorem dL_law_153 : decode cL_law 153 = .ok (.goto 401, 3) := by decide +kernel
theorem dL_law_156 : decode cL_law 156 = .ok (.aload_n 1, 1) := by decide +kernel
theorem dL_law_157 : decode cL_law 157 = .ok (.aload_n 0, 1) := by decide +kernel
theorem dL_law_158 : decode cL_law 158 = .ok (.iload_n 3, 1) := by decide +kernel
theorem dL_law_159 : decode cL_law 159 = .ok (.iconst 1, 1) := by decide +kernel
theorem dL_law_160 : decode cL_law 160 = .ok (.iadd, 1) := by decide +kernel
theorem dL_law_161 : decode cL_law 161 = .ok (.iaload, 1) := by decide +kernel
theorem dL_law_162 : decode cL_law 162 = .ok (.invokevirtual 23, 3) := by decide +kernel
theorem dL_law_165 : decode cL_law 165 = .ok (.pop, 1) := by decide +kernel
theorem dL_law_166 : decode cL_law 166 = .ok (.aload_n 2, 1) := by decide +kernel
theorem dL_law_167 : decode cL_law 167 = .ok (.aload_n 0, 1) := by decide +kernel
theorem dL_law_168 : decode cL_law 168 = .ok (.iload_n 3, 1) := by decide +kernel
theorem dL_law_169 : decode cL_law 169 = .ok (.iconst 1, 1) := by decide +kernel
theorem dL_law_170 : decode cL_law 170 = .ok (.iadd, 1) := by decide +kernel
theorem dL_law_171 : decode cL_law 171 = .ok (.iaload, 1) := by decide +kernel
theorem dL_law_172 : decode cL_law 172 = .ok (.invokevirtual 26, 3) := by decide +kernel
theorem dL_law_175 : decode cL_law 175 = .ok (.pop, 1) := by decide +kernel
theorem dL_law_176 : decode cL_law 176 = .ok (.goto 378, 3) := by decide +kernel
theorem dL_law_179 : decode cL_law 179 = .ok (.aload_n 1, 1) := by decide +kernel
theorem dL_law_180 : decode cL_law 180 = .ok (.invokevirtual 27, 3) := by decide +kernel
theorem dL_law_183 : decode cL_law 183 = .ok (.pop, 1) := by decide +kernel
theorem dL_law_184 : decode cL_law 184 = .ok (.aload_n 2, 1) := by decide +kernel
theorem dL_law_185 : decode cL_law 185 = .ok (.invokevirtual 30, 3) := by decide +kernel
theorem dL_law_188 : decode cL_law 188 = .ok (.pop, 1) := by decide +kernel
theorem dL_law_189 : decode cL_law 189 = .ok (.goto 365, 3) := by decide +kernel
theorem dL_law_192 : decode cL_law 192 = .ok (.aload_n 1, 1) := by decide +kernel
theorem dL_law_193 : decode cL_law 193 = .ok (.aload_n 0, 1) := by decide +kernel
theorem dL_law_194 : decode cL_law 194 = .ok (.iload_n 3, 1) := by decide +kernel
theorem dL_law_195 : decode cL_law 195 = .ok (.iconst 1, 1) := by decide +kernel
theorem dL_law_196 : decode cL_law 196 = .ok (.iadd, 1) := by decide +kernel
theorem dL_law_197 : decode cL_law 197 = .ok (.iaload, 1) := by decide +kernel
theorem dL_law_198 : decode cL_law 198 = .ok (.invokevirtual 31, 3) := by decide +kernel
theorem dL_law_201 : decode cL_law 201 = .ok (.pop, 1) := by decide +kernel
theorem dL_law_202 : decode cL_law 202 = .ok (.aload_n 2, 1) := by decide +kernel
theorem dL_law_203 : decode cL_law 203 = .ok (.aload_n 0, 1) := by decide +kernel
theorem dL_law_204 : decode cL_law 204 = .ok (.iload_n 3, 1) := by decide +kernel
theorem dL_law_205 : decode cL_law 205 = .ok (.iconst 1, 1) := by decide +kernel
theorem dL_law_206 : decode cL_law 206 = .ok (.iadd, 1) := by decide +kernel
theorem dL_law_207 : decode cL_law 207 = .ok (.iaload, 1) := by decide +kernel
theorem dL_law_208 : decode cL_law 208 = .ok (.invokevirtual 34, 3) := by decide +kernel
theorem dL_law_211 : decode cL_law 211 = .ok (.pop, 1) := by decide +kernel
theorem dL_law_212 : decode cL_law 212 = .ok (.goto 342, 3) := by decide +kernel
theorem dL_law_215 : decode cL_law 215 = .ok (.aload_n 1, 1) := by decide +kernel
theorem dL_law_216 : decode cL_law 216 = .ok (.aload_n 0, 1) := by decide +kernel
theorem dL_law_217 : decode cL_law 217 = .ok (.iload_n 3, 1) := by decide +kernel
theorem dL_law_218 : decode cL_law 218 = .ok (.iconst 1, 1) := by decide +kernel
theorem dL_law_219 : decode cL_law 219 = .ok (.iadd, 1) := by decide +kernel
theorem dL_law_220 : decode cL_law 220 = .ok (.iaload, 1) := by decide +kernel
theorem dL_law_221 : decode cL_law 221 = .ok (.aload_n 0, 1) := by decide +kernel
theorem dL_law_222 : decode cL_law 222 = .ok (.iload_n 3, 1) := by decide +kernel
theorem dL_law_223 : decode cL_law 223 = .ok (.iconst 2, 1) := by decide +kernel
theorem dL_law_224 : decode cL_law 224 = .ok (.iadd, 1) := by decide +kernel
theorem dL_law_225 : decode cL_law 225 = .ok (.iaload, 1) := by decide +kernel
theorem dL_law_226 : decode cL_law 226 = .ok (.invokevirtual 35, 3) := by decide +kernel
theorem dL_law_229 : decode cL_law 229 = .ok (.pop, 1) := by decide +kernel
theorem dL_law_230 : decode cL_law 230 = .ok (.aload_n 2, 1) := by decide +kernel
theorem dL_law_231 : decode cL_law 231 = .ok (.aload_n 0, 1) := by decide +kernel
theorem dL_law_232 : decode cL_law 232 = .ok (.iload_n 3, 1) := by decide +kernel
theorem dL_law_233 : decode cL_law 233 = .ok (.iconst 1, 1) := by decide +kernel
theorem dL_law_234 : decode cL_law 234 = .ok (.iadd, 1) := by decide +kernel
theorem dL_law_235 : decode cL_law 235 = .ok (.iaload, 1) := by decide +kernel
theorem dL_law_236 : decode cL_law 236 = .ok (.aload_n 0, 1) := by decide +kernel
theorem dL_law_237 : decode cL_law 237 = .ok (.iload_n 3, 1) := by decide +kernel
theorem dL_law_238 : decode cL_law 238 = .ok (.iconst 2, 1) := by decide +kernel
theorem dL_law_239 : decode cL_law 239 = .ok (.iadd, 1) := by decide +kernel
theorem dL_law_240 : decode cL_law 240 = .ok (.iaload, 1) := by decide +kernel
theorem dL_law_241 : decode cL_law 241 = .ok (.invokevirtual 39, 3) := by decide +kernel
theorem dL_law_244 : decode cL_law 244 = .ok (.pop, 1) := by decide +kernel
theorem dL_law_245 : decode cL_law 245 = .ok (.goto 309, 3) := by decide +kernel
theorem dL_law_248 : decode cL_law 248 = .ok (.aload_n 1, 1) := by decide +kernel
theorem dL_law_249 : decode cL_law 249 = .ok (.invokevirtual 40, 3) := by decide +kernel
theorem dL_law_252 : decode cL_law 252 = .ok (.pop, 1) := by decide +kernel
theorem dL_law_253 : decode cL_law 253 = .ok (.aload_n 2, 1) := by decide +kernel
theorem dL_law_254 : decode cL_law 254 = .ok (.invokevirtual 43, 3) := by decide +kernel
theorem dL_law_257 : decode cL_law 257 = .ok (.pop, 1) := by decide +kernel
theorem dL_law_258 : decode cL_law 258 = .ok (.goto 296, 3) := by decide +kernel
theorem dL_law_261 : decode cL_law 261 = .ok (.aload_n 1, 1) := by decide +kernel
theorem dL_law_262 : decode cL_law 262 = .ok (.aload_n 0, 1) := by decide +kernel
theorem dL_law_263 : decode cL_law 263 = .ok (.iload_n 3, 1) := by decide +kernel
theorem dL_law_264 : decode cL_law 264 = .ok (.iconst 1, 1) := by decide +kernel
theorem dL_law_265 : decode cL_law 265 = .ok (.iadd, 1) := by decide +kernel
theorem dL_law_266 : decode cL_law 266 = .ok (.iaload, 1) := by decide +kernel
theorem dL_law_267 : decode cL_law 267 = .ok (.aload_n 0, 1) := by decide +kernel
theorem dL_law_268 : decode cL_law 268 = .ok (.iload_n 3, 1) := by decide +kernel
theorem dL_law_269 : decode cL_law 269 = .ok (.iconst 2, 1) := by decide +kernel
theorem dL_law_270 : decode cL_law 270 = .ok (.iadd, 1) := by decide +kernel
theorem dL_law_271 : decode cL_law 271 = .ok (.iaload, 1) := by decide +kernel
theorem dL_law_272 : decode cL_law 272 = .ok (.aload_n 0, 1) := by decide +kernel
theorem dL_law_273 : decode cL_law 273 = .ok (.iload_n 3, 1) := by decide +kernel
theorem dL_law_274 : decode cL_law 274 = .ok (.iconst 3, 1) := by decide +kernel
theorem dL_law_275 : decode cL_law 275 = .ok (.iadd, 1) := by decide +kernel
theorem dL_law_276 : decode cL_law 276 = .ok (.iaload, 1) := by decide +kernel
theorem dL_law_277 : decode cL_law 277 = .ok (.invokevirtual 44, 3) := by decide +kernel
theorem dL_law_280 : decode cL_law 280 = .ok (.pop, 1) := by decide +kernel
theorem dL_law_281 : decode cL_law 281 = .ok (.aload_n 2, 1) := by decide +kernel
theorem dL_law_282 : decode cL_law 282 = .ok (.aload_n 0, 1) := by decide +kernel
theorem dL_law_283 : decode cL_law 283 = .ok (.iload_n 3, 1) := by decide +kernel
theorem dL_law_284 : decode cL_law 284 = .ok (.iconst 1, 1) := by decide +kernel
theorem dL_law_285 : decode cL_law 285 = .ok (.iadd, 1) := by decide +kernel
theorem dL_law_286 : decode cL_law 286 = .ok (.iaload, 1) := by decide +kernel
theorem dL_law_287 : decode cL_law 287 = .ok (.aload_n 0, 1) := by decide +kernel
theorem dL_law_288 : decode cL_law 288 = .ok (.iload_n 3, 1) := by decide +kernel
theorem dL_law_289 : decode cL_law 289 = .ok (.iconst 2, 1) := by decide +kernel
theorem dL_law_290 : decode cL_law 290 = .ok (.iadd, 1) := by decide +kernel
theorem dL_law_291 : decode cL_law 291 = .ok (.iaload, 1) := by decide +kernel
theorem dL_law_292 : decode cL_law 292 = .ok (.aload_n 0, 1) := by decide +kernel
theorem dL_law_293 : decode cL_law 293 = .ok (.iload_n 3, 1) := by decide +kernel
theorem dL_law_294 : decode cL_law 294 = .ok (.iconst 3, 1) := by decide +kernel
theorem dL_law_295 : decode cL_law 295 = .ok (.iadd, 1) := by decide +kernel
theorem dL_law_296 : decode cL_law 296 = .ok (.iaload, 1) := by decide +kernel
theorem dL_law_297 : decode cL_law 297 = .ok (.invokevirtual 48, 3) := by decide +kernel
theorem dL_law_300 : decode cL_law 300 = .ok (.pop, 1) := by decide +kernel
theorem dL_law_301 : decode cL_law 301 = .ok (.goto 253, 3) := by decide +kernel
theorem dL_law_304 : decode cL_law 304 = .ok (.aload_n 1, 1) := by decide +kernel
theorem dL_law_305 : decode cL_law 305 = .ok (.aload_n 0, 1) := by decide +kernel
theorem dL_law_306 : decode cL_law 306 = .ok (.iload_n 3, 1) := by decide +kernel
theorem dL_law_307 : decode cL_law 307 = .ok (.iconst 1, 1) := by decide +kernel
theorem dL_law_308 : decode cL_law 308 = .ok (.iadd, 1) := by decide +kernel
theorem dL_law_309 : decode cL_law 309 = .ok (.iaload, 1) := by decide +kernel
theorem dL_law_310 : decode cL_law 310 = .ok (.aload_n 0, 1) := by decide +kernel
theorem dL_law_311 : decode cL_law 311 = .ok (.iload_n 3, 1) := by decide +kernel
theorem dL_law_312 : decode cL_law 312 = .ok (.iconst 2, 1) := by decide +kernel
theorem dL_law_313 : decode cL_law 313 = .ok (.iadd, 1) := by decide +kernel
theorem dL_law_314 : decode cL_law 314 = .ok (.iaload, 1) := by decide +kernel
theorem dL_law_315 : decode cL_law 315 = .ok (.invokevirtual 49, 3) := by decide +kernel
theorem dL_law_318 : decode cL_law 318 = .ok (.pop, 1) := by decide +kernel
theorem dL_law_319 : decode cL_law 319 = .ok (.aload_n 2, 1) := by decide +kernel
theorem dL_law_320 : decode cL_law 320 = .ok (.aload_n 0, 1) := by decide +kernel
theorem dL_law_321 : decode cL_law 321 = .ok (.iload_n 3, 1) := by decide +kernel
theorem dL_law_322 : decode cL_law 322 = .ok (.iconst 1, 1) := by decide +kernel
theorem dL_law_323 : decode cL_law 323 = .ok (.iadd, 1) := by decide +kernel
theorem dL_law_324 : decode cL_law 324 = .ok (.iaload, 1) := by decide +kernel
theorem dL_law_325 : decode cL_law 325 = .ok (.aload_n 0, 1) := by decide +kernel
theorem dL_law_326 : decode cL_law 326 = .ok (.iload_n 3, 1) := by decide +kernel
theorem dL_law_327 : decode cL_law 327 = .ok (.iconst 2, 1) := by decide +kernel
theorem dL_law_328 : decode cL_law 328 = .ok (.iadd, 1) := by decide +kernel
theorem dL_law_329 : decode cL_law 329 = .ok (.iaload, 1) := by decide +kernel
theorem dL_law_330 : decode cL_law 330 = .ok (.invokevirtual 52, 3) := by decide +kernel
theorem dL_law_333 : decode cL_law 333 = .ok (.pop, 1) := by decide +kernel
theorem dL_law_334 : decode cL_law 334 = .ok (.goto 220, 3) := by decide +kernel
theorem dL_law_337 : decode cL_law 337 = .ok (.aload_n 1, 1) := by decide +kernel
theorem dL_law_338 : decode cL_law 338 = .ok (.invokevirtual 53, 3) := by decide +kernel
theorem dL_law_341 : decode cL_law 341 = .ok (.aload_n 2, 1) := by decide +kernel
theorem dL_law_342 : decode cL_law 342 = .ok (.invokevirtual 56, 3) := by decide +kernel
theorem dL_law_345 : decode cL_law 345 = .ok (.if_icmp .eq 209, 3) := by decide +kernel
theorem dL_law_348 : decode cL_law 348 = .ok (.iconst 0, 1) := by decide +kernel
theorem dL_law_349 : decode cL_law 349 = .ok (.ireturn, 1) := by decide +kernel
theorem dL_law_350 : decode cL_law 350 = .ok (.aload_n 1, 1) := by decide +kernel
theorem dL_law_351 : decode cL_law 351 = .ok (.aload_n 0, 1) := by decide +kernel
theorem dL_law_352 : decode cL_law 352 = .ok (.iload_n 3, 1) := by decide +kernel
theorem dL_law_353 : decode cL_law 353 = .ok (.iconst 1, 1) := by decide +kernel
theorem dL_law_354 : decode cL_law 354 = .ok (.iadd, 1) := by decide +kernel
theorem dL_law_355 : decode cL_law 355 = .ok (.iaload, 1) := by decide +kernel
theorem dL_law_356 : decode cL_law 356 = .ok (.aload_n 0, 1) := by decide +kernel
theorem dL_law_357 : decode cL_law 357 = .ok (.iload_n 3, 1) := by decide +kernel
theorem dL_law_358 : decode cL_law 358 = .ok (.iconst 2, 1) := by decide +kernel
theorem dL_law_359 : decode cL_law 359 = .ok (.iadd, 1) := by decide +kernel
theorem dL_law_360 : decode cL_law 360 = .ok (.iaload, 1) := by decide +kernel
theorem dL_law_361 : decode cL_law 361 = .ok (.invokevirtual 57, 3) := by decide +kernel
theorem dL_law_364 : decode cL_law 364 = .ok (.pop, 1) := by decide +kernel
theorem dL_law_365 : decode cL_law 365 = .ok (.aload_n 2, 1) := by decide +kernel
theorem dL_law_366 : decode cL_law 366 = .ok (.aload_n 0, 1) := by decide +kernel
theorem dL_law_367 : decode cL_law 367 = .ok (.iload_n 3, 1) := by decide +kernel
theorem dL_law_368 : decode cL_law 368 = .ok (.iconst 1, 1) := by decide +kernel
theorem dL_law_369 : decode cL_law 369 = .ok (.iadd, 1) := by decide +kernel
theorem dL_law_370 : decode cL_law 370 = .ok (.iaload, 1) := by decide +kernel
theorem dL_law_371 : decode cL_law 371 = .ok (.aload_n 0, 1) := by decide +kernel
theorem dL_law_372 : decode cL_law 372 = .ok (.iload_n 3, 1) := by decide +kernel
theorem dL_law_373 : decode cL_law 373 = .ok (.iconst 2, 1) := by decide +kernel
theorem dL_law_374 : decode cL_law 374 = .ok (.iadd, 1) := by decide +kernel
theorem dL_law_375 : decode cL_law 375 = .ok (.iaload, 1) := by decide +kernel
theorem dL_law_376 : decode cL_law 376 = .ok (.invokevirtual 60, 3) := by decide +kernel
theorem dL_law_379 : decode cL_law 379 = .ok (.pop, 1) := by decide +kernel
theorem dL_law_380 : decode cL_law 380 = .ok (.goto 174, 3) := by decide +kernel
theorem dL_law_383 : decode cL_law 383 = .ok (.aload_n 1, 1) := by decide +kernel
theorem dL_law_384 : decode cL_law 384 = .ok (.invokevirtual 61, 3) := by decide +kernel
theorem dL_law_387 : decode cL_law 387 = .ok (.pop, 1) := by decide +kernel
theorem dL_law_388 : decode cL_law 388 = .ok (.aload_n 2, 1) := by decide +kernel
theorem dL_law_389 : decode cL_law 389 = .ok (.invokevirtual 64, 3) := by decide +kernel
theorem dL_law_392 : decode cL_law 392 = .ok (.pop, 1) := by decide +kernel
theorem dL_law_393 : decode cL_law 393 = .ok (.goto 161, 3) := by decide +kernel
theorem dL_law_396 : decode cL_law 396 = .ok (.aload_n 1, 1) := by decide +kernel
theorem dL_law_397 : decode cL_law 397 = .ok (.aload_n 0, 1) := by decide +kernel
theorem dL_law_398 : decode cL_law 398 = .ok (.iload_n 3, 1) := by decide +kernel
theorem dL_law_399 : decode cL_law 399 = .ok (.iconst 1, 1) := by decide +kernel
theorem dL_law_400 : decode cL_law 400 = .ok (.iadd, 1) := by decide +kernel
theorem dL_law_401 : decode cL_law 401 = .ok (.iaload, 1) := by decide +kernel
theorem dL_law_402 : decode cL_law 402 = .ok (.aload_n 0, 1) := by decide +kernel
theorem dL_law_403 : decode cL_law 403 = .ok (.iload_n 3, 1) := by decide +kernel
theorem dL_law_404 : decode cL_law 404 = .ok (.iconst 2, 1) := by decide +kernel
theorem dL_law_405 : decode cL_law 405 = .ok (.iadd, 1) := by decide +kernel
theorem dL_law_406 : decode cL_law 406 = .ok (.iaload, 1) := by decide +kernel
theorem dL_law_407 : decode cL_law 407 = .ok (.invokevirtual 65, 3) := by decide +kernel
theorem dL_law_410 : decode cL_law 410 = .ok (.pop, 1) := by decide +kernel
theorem dL_law_411 : decode cL_law 411 = .ok (.aload_n 2, 1) := by decide +kernel
theorem dL_law_412 : decode cL_law 412 = .ok (.aload_n 0, 1) := by decide +kernel
theorem dL_law_413 : decode cL_law 413 = .ok (.iload_n 3, 1) := by decide +kernel
theorem dL_law_414 : decode cL_law 414 = .ok (.iconst 1, 1) := by decide +kernel
theorem dL_law_415 : decode cL_law 415 = .ok (.iadd, 1) := by decide +kernel
theorem dL_law_416 : decode cL_law 416 = .ok (.iaload, 1) := by decide +kernel
theorem dL_law_417 : decode cL_law 417 = .ok (.aload_n 0, 1) := by decide +kernel
theorem dL_law_418 : decode cL_law 418 = .ok (.iload_n 3, 1) := by decide +kernel
theorem dL_law_419 : decode cL_law 419 = .ok (.iconst 2, 1) := by decide +kernel
theorem dL_law_420 : decode cL_law 420 = .ok (.iadd, 1) := by decide +kernel
theorem dL_law_421 : decode cL_law 421 = .ok (.iaload, 1) := by decide +kernel
theorem dL_law_422 : decode cL_law 422 = .ok (.invokevirtual 68, 3) := by decide +kernel
theorem dL_law_425 : decode cL_law 425 = .ok (.pop, 1) := by decide +kernel
theorem dL_law_426 : decode cL_law 426 = .ok (.goto 128, 3) := by decide +kernel
theorem dL_law_429 : decode cL_law 429 = .ok (.aload_n 1, 1) := by decide +kernel
theorem dL_law_430 : decode cL_law 430 = .ok (.aload_n 0, 1) := by decide +kernel
theorem dL_law_431 : decode cL_law 431 = .ok (.iload_n 3, 1) := by decide +kernel
theorem dL_law_432 : decode cL_law 432 = .ok (.iconst 1, 1) := by decide +kernel
theorem dL_law_433 : decode cL_law 433 = .ok (.iadd, 1) := by decide +kernel
theorem dL_law_434 : decode cL_law 434 = .ok (.iaload, 1) := by decide +kernel
theorem dL_law_435 : decode cL_law 435 = .ok (.invokevirtual 69, 3) := by decide +kernel
theorem dL_law_438 : decode cL_law 438 = .ok (.pop, 1) := by decide +kernel
theorem dL_law_439 : decode cL_law 439 = .ok (.aload_n 2, 1) := by decide +kernel
theorem dL_law_440 : decode cL_law 440 = .ok (.aload_n 0, 1) := by decide +kernel
theorem dL_law_441 : decode cL_law 441 = .ok (.iload_n 3, 1) := by decide +kernel
theorem dL_law_442 : decode cL_law 442 = .ok (.iconst 1, 1) := by decide +kernel
theorem dL_law_443 : decode cL_law 443 = .ok (.iadd, 1) := by decide +kernel
theorem dL_law_444 : decode cL_law 444 = .ok (.iaload, 1) := by decide +kernel
theorem dL_law_445 : decode cL_law 445 = .ok (.invokevirtual 72, 3) := by decide +kernel
theorem dL_law_448 : decode cL_law 448 = .ok (.pop, 1) := by decide +kernel
theorem dL_law_449 : decode cL_law 449 = .ok (.goto 105, 3) := by decide +kernel
theorem dL_law_452 : decode cL_law 452 = .ok (.aload_n 1, 1) := by decide +kernel
theorem dL_law_453 : decode cL_law 453 = .ok (.aload_n 0, 1) := by decide +kernel
theorem dL_law_454 : decode cL_law 454 = .ok (.iload_n 3, 1) := by decide +kernel
theorem dL_law_455 : decode cL_law 455 = .ok (.iconst 1, 1) := by decide +kernel
theorem dL_law_456 : decode cL_law 456 = .ok (.iadd, 1) := by decide +kernel
theorem dL_law_457 : decode cL_law 457 = .ok (.iaload, 1) := by decide +kernel
theorem dL_law_458 : decode cL_law 458 = .ok (.aload_n 0, 1) := by decide +kernel
theorem dL_law_459 : decode cL_law 459 = .ok (.iload_n 3, 1) := by decide +kernel
theorem dL_law_460 : decode cL_law 460 = .ok (.iconst 2, 1) := by decide +kernel
theorem dL_law_461 : decode cL_law 461 = .ok (.iadd, 1) := by decide +kernel
theorem dL_law_462 : decode cL_law 462 = .ok (.iaload, 1) := by decide +kernel
theorem dL_law_463 : decode cL_law 463 = .ok (.invokevirtual 73, 3) := by decide +kernel
theorem dL_law_466 : decode cL_law 466 = .ok (.pop, 1) := by decide +kernel
theorem dL_law_467 : decode cL_law 467 = .ok (.aload_n 2, 1) := by decide +kernel
theorem dL_law_468 : decode cL_law 468 = .ok (.aload_n 0, 1) := by decide +kernel
theorem dL_law_469 : decode cL_law 469 = .ok (.iload_n 3, 1) := by decide +kernel
theorem dL_law_470 : decode cL_law 470 = .ok (.iconst 1, 1) := by decide +kernel
theorem dL_law_471 : decode cL_law 471 = .ok (.iadd, 1) := by decide +kernel
theorem dL_law_472 : decode cL_law 472 = .ok (.iaload, 1) := by decide +kernel
theorem dL_law_473 : decode cL_law 473 = .ok (.aload_n 0, 1) := by decide +kernel
theorem dL_law_474 : decode cL_law 474 = .ok (.iload_n 3, 1) := by decide +kernel
theorem dL_law_475 : decode cL_law 475 = .ok (.iconst 2, 1) := by decide +kernel
theorem dL_law_476 : decode cL_law 476 = .ok (.iadd, 1) := by decide +kernel
theorem dL_law_477 : decode cL_law 477 = .ok (.iaload, 1) := by decide +kernel
theorem dL_law_478 : decode cL_law 478 = .ok (.invokevirtual 76, 3) := by decide +kernel
theorem dL_law_481 : decode cL_law 481 = .ok (.pop, 1) := by decide +kernel
theorem dL_law_482 : decode cL_law 482 = .ok (.goto 72, 3) := by decide +kernel
theorem dL_law_485 : decode cL_law 485 = .ok (.aload_n 1, 1) := by decide +kernel
theorem dL_law_486 : decode cL_law 486 = .ok (.aload_n 0, 1) := by decide +kernel
theorem dL_law_487 : decode cL_law 487 = .ok (.iload_n 3, 1) := by decide +kernel
theorem dL_law_488 : decode cL_law 488 = .ok (.iconst 1, 1) := by decide +kernel
theorem dL_law_489 : decode cL_law 489 = .ok (.iadd, 1) := by decide +kernel
theorem dL_law_490 : decode cL_law 490 = .ok (.iaload, 1) := by decide +kernel
theorem dL_law_491 : decode cL_law 491 = .ok (.invokevirtual 77, 3) := by decide +kernel
theorem dL_law_494 : decode cL_law 494 = .ok (.pop, 1) := by decide +kernel
theorem dL_law_495 : decode cL_law 495 = .ok (.aload_n 2, 1) := by decide +kernel
theorem dL_law_496 : decode cL_law 496 = .ok (.aload_n 0, 1) := by decide +kernel
theorem dL_law_497 : decode cL_law 497 = .ok (.iload_n 3, 1) := by decide +kernel
theorem dL_law_498 : decode cL_law 498 = .ok (.iconst 1, 1) := by decide +kernel
theorem dL_law_499 : decode cL_law 499 = .ok (.iadd, 1) := by decide +kernel
theorem dL_law_500 : decode cL_law 500 = .ok (.iaload, 1) := by decide +kernel
theorem dL_law_501 : decode cL_law 501 = .ok (.invokevirtual 80, 3) := by decide +kernel
theorem dL_law_504 : decode cL_law 504 = .ok (.pop, 1) := by decide +kernel
theorem dL_law_505 : decode cL_law 505 = .ok (.goto 49, 3) := by decide +kernel
theorem dL_law_508 : decode cL_law 508 = .ok (.aload_n 1, 1) := by decide +kernel
theorem dL_law_509 : decode cL_law 509 = .ok (.aload_n 0, 1) := by decide +kernel
theorem dL_law_510 : decode cL_law 510 = .ok (.iload_n 3, 1) := by decide +kernel
theorem dL_law_511 : decode cL_law 511 = .ok (.iconst 1, 1) := by decide +kernel
theorem dL_law_512 : decode cL_law 512 = .ok (.iadd, 1) := by decide +kernel
theorem dL_law_513 : decode cL_law 513 = .ok (.iaload, 1) := by decide +kernel
theorem dL_law_514 : decode cL_law 514 = .ok (.invokevirtual 81, 3) := by decide +kernel
theorem dL_law_517 : decode cL_law 517 = .ok (.pop, 1) := by decide +kernel
theorem dL_law_518 : decode cL_law 518 = .ok (.aload_n 2, 1) := by decide +kernel
theorem dL_law_519 : decode cL_law 519 = .ok (.aload_n 0, 1) := by decide +kernel
theorem dL_law_520 : decode cL_law 520 = .ok (.iload_n 3, 1) := by decide +kernel
theorem dL_law_521 : decode cL_law 521 = .ok (.iconst 1, 1) := by decide +kernel
theorem dL_law_522 : decode cL_law 522 = .ok (.iadd, 1) := by decide +kernel
theorem dL_law_523 : decode cL_law 523 = .ok (.iaload, 1) := by decide +kernel
theorem dL_law_524 : decode cL_law 524 = .ok (.invokevirtual 84, 3) := by decide +kernel
theorem dL_law_527 : decode cL_law 527 = .ok (.pop, 1) := by decide +kernel
theorem dL_law_528 : decode cL_law 528 = .ok (.goto 26, 3) := by decide +kernel
theorem dL_law_531 : decode cL_law 531 = .ok (.aload_n 1, 1) := by decide +kernel
theorem dL_law_532 : decode cL_law 532 = .ok (.aload_n 0, 1) := by decide +kernel
theorem dL_law_533 : decode cL_law 533 = .ok (.iload_n 3, 1) := by decide +kernel
theorem dL_law_534 : decode cL_law 534 = .ok (.iconst 1, 1) := by decide +kernel
theorem dL_law_535 : decode cL_law 535 = .ok (.iadd, 1) := by decide +kernel
theorem dL_law_536 : decode cL_law 536 = .ok (.iaload, 1) := by decide +kernel
theorem dL_law_537 : decode cL_law 537 = .ok (.invokevirtual 85, 3) := by decide +kernel
theorem dL_law_540 : decode cL_law 540 = .ok (.pop, 1) := by decide +kernel
theorem dL_law_541 : decode cL_law 541 = .ok (.aload_n 2, 1) := by decide +kernel
theorem dL_law_542 : decode cL_law 542 = .ok (.aload_n 0, 1) := by decide +kernel
theorem dL_law_543 : decode cL_law 543 = .ok (.iload_n 3, 1) := by decide +kernel
theorem dL_law_544 : decode cL_law 544 = .ok (.iconst 1, 1) := by decide +kernel
theorem dL_law_545 : decode cL_law 545 = .ok (.iadd, 1) := by decide +kernel
theorem dL_law_546 : decode cL_law 546 = .ok (.iaload, 1) := by decide +kernel
theorem dL_law_547 : decode cL_law 547 = .ok (.invokevirtual 88, 3) := by decide +kernel
theorem dL_law_550 : decode cL_law 550 = .ok (.pop, 1) := by decide +kernel
theorem dL_law_551 : decode cL_law 551 = .ok (.goto 3, 3) := by decide +kernel
theorem dL_law_554 : decode cL_law 554 = .ok (.iinc 3 4, 3) := by decide +kernel
theorem dL_law_557 : decode cL_law 557 = .ok (.goto (-539), 3) := by decide +kernel
theorem dL_law_560 : decode cL_law 560 = .ok (.iconst 1, 1) := by decide +kernel
theorem dL_law_561 : decode cL_law 561 = .ok (.ireturn, 1) := by decide +kernel
end
section
theorem dJ9_min_7cf53_0 : decode cJ9_min_7cf53 0 = .ok (.iload_n 0, 1) := by decide +kernel
theorem dJ9_min_7cf53_1 : decode cJ9_min_7cf53 1 = .ok (.iload_n 1, 1) := by decide +kernel
theorem dJ9_min_7cf53_2 : decode cJ9_min_7cf53 2 = .ok (.if_icmp .gt 7, 3) := by decide +kernel
theorem dJ9_min_7cf53_5 : decode cJ9_min_7cf53 5 = .ok (.iload_n 0, 1) := by decide +kernel
theorem dJ9_min_7cf53_6 : decode cJ9_min_7cf53 6 = .ok (.goto 4, 3) := by decide +kernel
theorem dJ9_min_7cf53_9 : decode cJ9_min_7cf53 9 = .ok (.iload_n 1, 1) := by decide +kernel
theorem dJ9_min_7cf53_10 : decode cJ9_min_7cf53 10 = .ok (.ireturn, 1) := by decide +kernel
theorem dJ0_charAt_5068e_0 : decode cJ0_charAt_5068e 0 = .ok (.aload_n 0, 1) := by decide +kernel
theorem dJ0_charAt_5068e_1 : decode cJ0_charAt_5068e 1 = .ok (.invokevirtual 492, 3) := by decide +kernel
theorem dJ0_charAt_5068e_4 : decode cJ0_charAt_5068e 4 = .ok (.ifCond .eq 12, 3) := by decide +kernel
theorem dJ0_charAt_5068e_7 : decode cJ0_charAt_5068e 7 = .ok (.aload_n 0, 1) := by decide +kernel
theorem dJ0_charAt_5068e_8 : decode cJ0_charAt_5068e 8 = .ok (.getfield 9, 3) := by decide +kernel
theorem dJ0_charAt_5068e_11 : decode cJ0_charAt_5068e 11 = .ok (.iload_n 1, 1) := by decide +kernel
theorem dJ0_charAt_5068e_12 : decode cJ0_charAt_5068e 12 = .ok (.invokestatic 495, 3) := by decide +kernel
theorem dJ0_charAt_5068e_15 : decode cJ0_charAt_5068e 15 = .ok (.ireturn, 1) := by decide +kernel
theorem dJ0_charAt_5068e_16 : decode cJ0_charAt_5068e 16 = .ok (.aload_n 0, 1) := by decide +kernel
theorem dJ0_charAt_5068e_17 : decode cJ0_charAt_5068e 17 = .ok (.getfield 9, 3) := by decide +kernel
theorem dJ0_charAt_5068e_20 : decode cJ0_charAt_5068e 20 = .ok (.iload_n 1, 1) := by decide +kernel
theorem dJ0_charAt_5068e_21 : decode cJ0_charAt_5068e 21 = .ok (.invokestatic 498, 3) := by decide +kernel
theorem dJ0_charAt_5068e_24 : decode cJ0_charAt_5068e 24 = .ok (.ireturn, 1) := by decide +kernel
theorem dJ0_isLatin1_aae02_0 : decode cJ0_isLatin1_aae02 0 = .ok (.getstatic 38, 3) := by decide +kernel
theorem dJ0_isLatin1_aae02_3 : decode cJ0_isLatin1_aae02 3 = .ok (.ifCond .eq 14, 3) := by decide +kernel
theorem dJ0_isLatin1_aae02_6 : decode cJ0_isLatin1_aae02 6 = .ok (.aload_n 0, 1) := by decide +kernel
theorem dJ0_isLatin1_aae02_7 : decode cJ0_isLatin1_aae02 7 = .ok (.getfield 15, 3) := by decide +kernel
theorem dJ0_isLatin1_aae02_10 : decode cJ0_isLatin1_aae02 10 = .ok (.ifCond .ne 7, 3) := by decide +kernel
theorem dJ0_isLatin1_aae02_13 : decode cJ0_isLatin1_aae02 13 = .ok (.iconst 1, 1) := by decide +kernel
theorem dJ0_isLatin1_aae02_14 : decode cJ0_isLatin1_aae02 14 = .ok (.goto 4, 3) := by decide +kernel
theorem dJ0_isLatin1_aae02_17 : decode cJ0_isLatin1_aae02 17 = .ok (.iconst 0, 1) := by decide +kernel
theorem dJ0_isLatin1_aae02_18 : decode cJ0_isLatin1_aae02 18 = .ok (.ireturn, 1) := by decide +kernel
theorem dJ0_checkIndex_df160_0 : decode cJ0_checkIndex_df160 0 = .ok (.iload_n 0, 1) := by decide +kernel
theorem dJ0_checkIndex_df160_1 : decode cJ0_checkIndex_df160 1 = .ok (.iload_n 1, 1) := by decide +kernel
theorem dJ0_checkIndex_df160_2 : decode cJ0_checkIndex_df160 2 = .ok (.getstatic 1053, 3) := by decide +kernel
theorem dJ0_checkIndex_df160_5 : decode cJ0_checkIndex_df160 5 = .ok (.invokestatic 1059, 3) := by decide +kernel
theorem dJ0_checkIndex_df160_8 : decode cJ0_checkIndex_df160 8 = .ok (.pop, 1) := by decide +kernel
theorem dJ0_checkIndex_df160_9 : decode cJ0_checkIndex_df160 9 = .ok (.return_, 1) := by decide +kernel
theorem dJ1_charAt_3b067_0 : decode cJ1_charAt_3b067 0 = .ok (.iload_n 1, 1) := by decide +kernel
theorem dJ1_charAt_3b067_1 : decode cJ1_charAt_3b067 1 = .ok (.aload_n 0, 1) := by decide +kernel
theorem dJ1_charAt_3b067_2 : decode cJ1_charAt_3b067 2 = .ok (.arraylength, 1) := by decide +kernel
theorem dJ1_charAt_3b067_3 : decode cJ1_charAt_3b067 3 = .ok (.invokestatic 9, 3) := by decide +kernel
theorem dJ1_charAt_3b067_6 : decode cJ1_charAt_3b067 6 = .ok (.aload_n 0, 1) := by decide +kernel
theorem dJ1_charAt_3b067_7 : decode cJ1_charAt_3b067 7 = .ok (.iload_n 1, 1) := by decide +kernel
theorem dJ1_charAt_3b067_8 : decode cJ1_charAt_3b067 8 = .ok (.baload, 1) := by decide +kernel
theorem dJ1_charAt_3b067_9 : decode cJ1_charAt_3b067 9 = .ok (.sipush 255, 3) := by decide +kernel
theorem dJ1_charAt_3b067_12 : decode cJ1_charAt_3b067 12 = .ok (.iand, 1) := by decide +kernel
theorem dJ1_charAt_3b067_13 : decode cJ1_charAt_3b067 13 = .ok (.i2c, 1) := by decide +kernel
theorem dJ1_charAt_3b067_14 : decode cJ1_charAt_3b067 14 = .ok (.ireturn, 1) := by decide +kernel
theorem dJ2_getChar_3b067_0 : decode cJ2_getChar_3b067 0 = .ok (.getstatic 44, 3) := by decide +kernel
theorem dJ2_getChar_3b067_3 : decode cJ2_getChar_3b067 3 = .ok (.ifCond .ne 25, 3) := by decide +kernel
theorem dJ2_getChar_3b067_6 : decode cJ2_getChar_3b067 6 = .ok (.iload_n 1, 1) := by decide +kernel
theorem dJ2_getChar_3b067_7 : decode cJ2_getChar_3b067 7 = .ok (.ifCond .lt 11, 3) := by decide +kernel
theorem dJ2_getChar_3b067_10 : decode cJ2_getChar_3b067 10 = .ok (.iload_n 1, 1) := by decide +kernel
theorem dJ2_getChar_3b067_11 : decode cJ2_getChar_3b067 11 = .ok (.aload_n 0, 1) := by decide +kernel
theorem dJ2_getChar_3b067_12 : decode cJ2_getChar_3b067 12 = .ok (.invokestatic 48, 3) := by decide +kernel
theorem dJ2_getChar_3b067_15 : decode cJ2_getChar_3b067 15 = .ok (.if_icmp .lt 13, 3) := by decide +kernel
theorem dJ2_getChar_3b067_18 : decode cJ2_getChar_3b067 18 = .ok (.new 52, 3) := by decide +kernel
theorem dJ2_getChar_3b067_21 : decode cJ2_getChar_3b067 21 = .ok (.dup, 1) := by decide +kernel
theorem dJ2_getChar_3b067_22 : decode cJ2_getChar_3b067 22 = .ok (.ldc 54, 2) := by decide +kernel
theorem dJ2_getChar_3b067_24 : decode cJ2_getChar_3b067 24 = .ok (.invokespecial 56, 3) := by decide +kernel
theorem dJ2_getChar_3b067_27 : decode cJ2_getChar_3b067 27 = .ok (.athrow, 1) := by decide +kernel
theorem dJ2_getChar_3b067_28 : decode cJ2_getChar_3b067 28 = .ok (.iload_n 1, 1) := by decide +kernel
theorem dJ2_getChar_3b067_29 : decode cJ2_getChar_3b067 29 = .ok (.iconst 1, 1) := by decide +kernel
theorem dJ2_getChar_3b067_30 : decode cJ2_getChar_3b067 30 = .ok (.ishl, 1) := by decide +kernel
theorem dJ2_getChar_3b067_31 : decode cJ2_getChar_3b067 31 = .ok (.istore_n 1, 1) := by decide +kernel
theorem dJ2_getChar_3b067_32 : decode cJ2_getChar_3b067 32 = .ok (.aload_n 0, 1) := by decide +kernel
theorem dJ2_getChar_3b067_33 : decode cJ2_getChar_3b067 33 = .ok (.iload_n 1, 1) := by decide +kernel
theorem dJ2_getChar_3b067_34 : decode cJ2_getChar_3b067 34 = .ok (.iinc 1 1, 3) := by decide +kernel
theorem dJ2_getChar_3b067_37 : decode cJ2_getChar_3b067 37 = .ok (.baload, 1) := by decide +kernel
theorem dJ2_getChar_3b067_38 : decode cJ2_getChar_3b067 38 = .ok (.sipush 255, 3) := by decide +kernel
theorem dJ2_getChar_3b067_41 : decode cJ2_getChar_3b067 41 = .ok (.iand, 1) := by decide +kernel
theorem dJ2_getChar_3b067_42 : decode cJ2_getChar_3b067 42 = .ok (.getstatic 59, 3) := by decide +kernel
theorem dJ2_getChar_3b067_45 : decode cJ2_getChar_3b067 45 = .ok (.ishl, 1) := by decide +kernel
theorem dJ2_getChar_3b067_46 : decode cJ2_getChar_3b067 46 = .ok (.aload_n 0, 1) := by decide +kernel
theorem dJ2_getChar_3b067_47 : decode cJ2_getChar_3b067 47 = .ok (.iload_n 1, 1) := by decide +kernel
theorem dJ2_getChar_3b067_48 : decode cJ2_getChar_3b067 48 = .ok (.baload, 1) := by decide +kernel
theorem dJ2_getChar_3b067_49 : decode cJ2_getChar_3b067 49 = .ok (.sipush 255, 3) := by decide +kernel
theorem dJ2_getChar_3b067_52 : decode cJ2_getChar_3b067 52 = .ok (.iand, 1) := by decide +kernel
theorem dJ2_getChar_3b067_53 : decode cJ2_getChar_3b067 53 = .ok (.getstatic 63, 3) := by decide +kernel
theorem dJ2_getChar_3b067_56 : decode cJ2_getChar_3b067 56 = .ok (.ishl, 1) := by decide +kernel
theorem dJ2_getChar_3b067_57 : decode cJ2_getChar_3b067 57 = .ok (.ior, 1) := by decide +kernel
theorem dJ2_getChar_3b067_58 : decode cJ2_getChar_3b067 58 = .ok (.i2c, 1) := by decide +kernel
theorem dJ2_getChar_3b067_59 : decode cJ2_getChar_3b067 59 = .ok (.ireturn, 1) := by decide +kernel
theorem dJ2_length_9d52b_0 : decode cJ2_length_9d52b 0 = .ok (.aload_n 0, 1) := by decide +kernel
theorem dJ2_length_9d52b_1 : decode cJ2_length_9d52b 1 = .ok (.arraylength, 1) := by decide +kernel
theorem dJ2_length_9d52b_2 : decode cJ2_length_9d52b 2 = .ok (.iconst 1, 1) := by decide +kernel
theorem dJ2_length_9d52b_3 : decode cJ2_length_9d52b 3 = .ok (.ishr, 1) := by decide +kernel
theorem dJ2_length_9d52b_4 : decode cJ2_length_9d52b 4 = .ok (.ireturn, 1) := by decide +kernel
theorem dJ2_charAt_3b067_0 : decode cJ2_charAt_3b067 0 = .ok (.iload_n 1, 1) := by decide +kernel
theorem dJ2_charAt_3b067_1 : decode cJ2_charAt_3b067 1 = .ok (.aload_n 0, 1) := by decide +kernel
theorem dJ2_charAt_3b067_2 : decode cJ2_charAt_3b067 2 = .ok (.invokestatic 67, 3) := by decide +kernel
theorem dJ2_charAt_3b067_5 : decode cJ2_charAt_3b067 5 = .ok (.aload_n 0, 1) := by decide +kernel
theorem dJ2_charAt_3b067_6 : decode cJ2_charAt_3b067 6 = .ok (.iload_n 1, 1) := by decide +kernel
theorem dJ2_charAt_3b067_7 : decode cJ2_charAt_3b067 7 = .ok (.invokestatic 71, 3) := by decide +kernel
theorem dJ2_charAt_3b067_10 : decode cJ2_charAt_3b067 10 = .ok (.ireturn, 1) := by decide +kernel
theorem dJ2_checkIndex_2214a_0 : decode cJ2_checkIndex_2214a 0 = .ok (.iload_n 0, 1) := by decide +kernel
theorem dJ2_checkIndex_2214a_1 : decode cJ2_checkIndex_2214a 1 = .ok (.aload_n 1, 1) := by decide +kernel
theorem dJ2_checkIndex_2214a_2 : decode cJ2_checkIndex_2214a 2 = .ok (.invokestatic 48, 3) := by decide +kernel
theorem dJ2_checkIndex_2214a_5 : decode cJ2_checkIndex_2214a 5 = .ok (.invokestatic 414, 3) := by decide +kernel
theorem dJ2_checkIndex_2214a_8 : decode cJ2_checkIndex_2214a 8 = .ok (.return_, 1) := by decide +kernel
theorem dJ3_checkIndex_8e157_0 : decode cJ3_checkIndex_8e157 0 = .ok (.iload_n 0, 1) := by decide +kernel
theorem dJ3_checkIndex_8e157_1 : decode cJ3_checkIndex_8e157 1 = .ok (.ifCond .lt 8, 3) := by decide +kernel
theorem dJ3_checkIndex_8e157_4 : decode cJ3_checkIndex_8e157 4 = .ok (.iload_n 0, 1) := by decide +kernel
theorem dJ3_checkIndex_8e157_5 : decode cJ3_checkIndex_8e157 5 = .ok (.iload_n 1, 1) := by decide +kernel
theorem dJ3_checkIndex_8e157_6 : decode cJ3_checkIndex_8e157 6 = .ok (.if_icmp .lt 10, 3) := by decide +kernel
theorem dJ3_checkIndex_8e157_9 : decode cJ3_checkIndex_8e157 9 = .ok (.aload_n 2, 1) := by decide +kernel
theorem dJ3_checkIndex_8e157_10 : decode cJ3_checkIndex_8e157 10 = .ok (.iload_n 0, 1) := by decide +kernel
theorem dJ3_checkIndex_8e157_11 : decode cJ3_checkIndex_8e157 11 = .ok (.iload_n 1, 1) := by decide +kernel
theorem dJ3_checkIndex_8e157_12 : decode cJ3_checkIndex_8e157 12 = .ok (.invokestatic 95, 3) := by decide +kernel
theorem dJ3_checkIndex_8e157_15 : decode cJ3_checkIndex_8e157 15 = .ok (.athrow, 1) := by decide +kernel
theorem dJ3_checkIndex_8e157_16 : decode cJ3_checkIndex_8e157 16 = .ok (.iload_n 0, 1) := by decide +kernel
theorem dJ3_checkIndex_8e157_17 : decode cJ3_checkIndex_8e157 17 = .ok (.ireturn, 1) := by decide +kernel
end
section
/-! THE PLAIN MACHINE: ints are integers in range, worlds are lists of cells with such ints; a method's walk speaks of a predicate Z alone, by the rules below -/
abbrev zV : Type := Int ⊕ Option Nat
abbrev zC : Type := (Bool × Nat × (Nat → Int)) ⊕ ((Nat × (Nat → Option Nat)) ⊕ (Nat × List zV))
abbrev zW : Type := List (Nat × zC)
abbrev zK : Type := ClassId × ClassId × ClassId
abbrev zP : Type := Nat → Nat → Nat → List (Option zV) → List zV → zW → Prop
def iZ (z : Int) : Int32 := Int32.ofInt z
def zR (z : Int) : Prop := -2147483648 ≤ z ∧ z ≤ 2147483647
def zv : zV → Value
  | .inl z => .int (iZ z)
  | .inr r => va_rf r
def zc (k : zK) : zC → va_E
  | .inl (b, n, g) => .inl (if b then k.2.1 else k.1, n, .inl (fun j => iZ (g j)))
  | .inr (.inl (n, f)) => .inl (k.2.2, n, .inr (.inr (.inr (.inr f))))
  | .inr (.inr (c, fs)) => .inr (c, fs.map zv)
def zw (k : zK) (ws : zW) : va_W := ws.map (fun q => (q.1, zc k q.2))
def zty (k : zK) : List (ClassId × FieldType) := [(k.1, .int), (k.2.1, .boolean), (k.2.2, .object "CutLetters$Book")]
def zVr : zV → Prop
  | .inl z => zR z
  | .inr _ => True
def zCr : zC → Prop
  | .inl (_, _, g) => ∀ j, zR (g j)
  | .inr (.inl _) => True
  | .inr (.inr (_, fs)) => ∀ v ∈ fs, zVr v
def zWr (ws : zW) : Prop := ∀ q ∈ ws, zCr q.2
def zup (g : Nat → Int) (k : Nat) (x : Int) : Nat → Int := fun j => if j = k then x else g j
def zcp (f g : Nat → Int) (sp dp n : Nat) : Nat → Int := fun k => if dp ≤ k ∧ k < dp + n then f (sp + (k - dp)) else g k
def zput : zW → List Nat → zW → zW
  | ws, [], cs => ws ++ cs
  | ws, _ :: _, [] => ws
  | ws, i :: is, c :: cs => zput (ws.set i c) is cs
-- ints
theorem iZ_add (x y : Int) : iZ x + iZ y = iZ (x + y) := (Int32.ofInt_add x y).symm
theorem iZ_sub (x y : Int) : iZ x - iZ y = iZ (x - y) := (Int32.ofInt_sub x y).symm
theorem iZ_mul (x y : Int) : iZ x * iZ y = iZ (x * y) := (Int32.ofInt_mul x y).symm
theorem iZ_toInt {x : Int} (h : zR x) : (iZ x).toInt = x := Int32.toInt_ofInt_of_le (by have := h.1; omega) (by have := h.2; omega)
theorem iZ_of (x : Int32) : iZ x.toInt = x := Int32.ofInt_toInt x
theorem zR_of (x : Int32) : zR x.toInt := ⟨by have := x.le_toInt; omega, by have := x.toInt_lt; omega⟩
theorem iZ_lt {x y : Int} (hx : zR x) (hy : zR y) : iZ x < iZ y ↔ x < y := by rw [Int32.lt_iff_toInt_lt, iZ_toInt hx, iZ_toInt hy]
theorem iZ_le {x y : Int} (hx : zR x) (hy : zR y) : iZ x ≤ iZ y ↔ x ≤ y := by rw [Int32.le_iff_toInt_le, iZ_toInt hx, iZ_toInt hy]
theorem iZ_eq {x y : Int} (hx : zR x) (hy : zR y) : iZ x = iZ y ↔ x = y := by
  constructor
  · intro h
    have := congrArg Int32.toInt h
    rwa [iZ_toInt hx, iZ_toInt hy] at this
  · intro h; rw [h]
theorem zR_0 : zR 0 := ⟨by decide, by decide⟩
theorem iZ_0 : iZ 0 = 0 := by decide +kernel
theorem iZ_nat {x : Int} (hx : zR x) (h0 : 0 ≤ x) : (iZ x).toNatClampNeg = x.toNat := by
  rw [Int32.toNatClampNeg, iZ_toInt hx]
theorem iZ_in {x : Int} {n : Nat} (hx : zR x) (h0 : 0 ≤ x) (h1 : x < n) : vp_in (iZ x) n := by
  rw [vp_in_iff, iZ_toInt hx]; exact ⟨h0, h1⟩
theorem iZ_upd {g : Nat → Int} {k : Nat} {x : Int} : upd (fun j => iZ (g j)) k (iZ x) = fun j => iZ (zup g k x j) := by
  funext j
  by_cases h : j = k
  · simp [upd, zup, h]
  · simp [upd, zup, h]
theorem iZ_cpy {f g : Nat → Int} {sp dp n : Nat} : va_cpy (fun j => iZ (f j)) (fun j => iZ (g j)) sp dp n = fun j => iZ (zcp f g sp dp n j) := by
  funext j
  by_cases h : dp ≤ j ∧ j < dp + n
  · simp [va_cpy, zcp, h]
  · simp [va_cpy, zcp, h]
theorem zup_r {g : Nat → Int} {k : Nat} {x : Int} (h : ∀ j, zR (g j)) (hx : zR x) : ∀ j, zR (zup g k x j) := by
  intro j
  by_cases e : j = k
  · simp [zup, e, hx]
  · simp [zup, e, h j]
theorem zcp_r {f g : Nat → Int} {sp dp n : Nat} (hf : ∀ j, zR (f j)) (hg : ∀ j, zR (g j)) : ∀ j, zR (zcp f g sp dp n j) := by
  intro j
  by_cases e : dp ≤ j ∧ j < dp + n
  · simp only [zcp, if_pos e]; exact hf _
  · simp only [zcp, if_neg e]; exact hg _
-- cells
theorem zw_at {k : zK} {ws : zW} {i a : Nat} {x : zC} (h : ws[i]? = some (a, x)) : (zw k ws)[i]? = some (a, zc k x) := by
  simp [zw, List.getElem?_map, h]
theorem zw_set {k : zK} {ws : zW} {i a : Nat} {x : zC} : (zw k ws).set i (a, zc k x) = zw k (ws.set i (a, x)) := by
  simp [zw, List.map_set]
theorem zw_app {k : zK} {ws vs : zW} : zw k (ws ++ vs) = zw k ws ++ zw k vs := by simp [zw]
theorem zWr_at {ws : zW} {i a : Nat} {x : zC} (h : zWr ws) (hi : ws[i]? = some (a, x)) : zCr x := h (a, x) (List.mem_of_getElem? hi)
theorem zWr_set {ws : zW} {i a : Nat} {x : zC} (h : zWr ws) (hx : zCr x) : zWr (ws.set i (a, x)) := by
  intro q hq
  rcases List.mem_or_eq_of_mem_set hq with h1 | h1
  · exact h q h1
  · rw [h1]; exact hx
theorem zfst_set {ws : zW} {i a : Nat} {x y : zC} (hi : ws[i]? = some (a, y)) : (ws.set i (a, x)).map Prod.fst = ws.map Prod.fst := by
  rw [List.map_set]
  apply List.ext_getElem?
  intro j
  rw [List.getElem?_set]
  by_cases hj : i = j
  · subst hj
    obtain ⟨h1, h2⟩ := List.getElem?_eq_some_iff.mp hi
    simp [h1, h2]
  · simp [hj]
theorem zcat (v : zV) : (zv v).category = 1 := by
  cases v with
  | inl z => rfl
  | inr r => cases r <;> rfl
theorem zcat_sum (st : List zV) : ((st.map zv).map fun v => v.category).sum = st.length := by
  induction st with
  | nil => rfl
  | cons v st ih => simp only [List.map_cons, List.sum_cons, List.length_cons, ih, zcat]; omega
-- locals
def zL (ls : Array Slot) (nL : Nat) (lv : List (Option zV)) : Prop := ∃ l, lv_has ls nL l ∧ (∀ q ∈ l, q.2.category = 1) ∧ ∀ i v, lv[i]? = some (some v) → (i, zv v) ∈ l
theorem zL_at {ls : Array Slot} {nL : Nat} {lv : List (Option zV)} (h : zL ls nL lv) {i : Nat} {v : zV} (hi : lv[i]? = some (some v)) : ls[i]? = some (.val (zv v)) := by
  obtain ⟨l, h1, -, h3⟩ := h
  exact h1.2.2 _ (h3 i v hi)
theorem zL_st {ls : Array Slot} {nL : Nat} {lv : List (Option zV)} {l : List (Nat × Value)} {i : Nat} {v : zV} (hc : ∀ q ∈ l, q.2.category = 1) (h3 : ∀ i v, lv[i]? = some (some v) → (i, zv v) ∈ l) (h : lv_has ls nL ((i, zv v) :: l.filter (fun q => !(q.1 == i) && !(q.1 + 1 == i && q.2.category == 2)))) : zL ls nL (lv.set i (some v)) := by
  refine ⟨_, h, ?_, ?_⟩
  · intro q hq
    rcases List.mem_cons.mp hq with rfl | hq
    · exact zcat v
    · exact hc q (List.mem_filter.mp hq).1
  · intro j w hj
    rw [List.getElem?_set] at hj
    by_cases e : i = j
    · subst e
      by_cases hl : i < lv.length
      · simp [hl] at hj
        subst hj
        exact List.mem_cons_self
      · simp [hl] at hj
    · simp [e] at hj
      refine List.mem_cons_of_mem _ (List.mem_filter.mpr ⟨h3 j w hj, ?_⟩)
      have h2 := hc _ (h3 j w hj)
      have e' : ¬ j = i := fun z => e z.symm
      simp [e', h2]
end
section
/-! what a walk may take as given of the launch's own cells: kept by everything that a method does -/
abbrev zE : Type := (Nat → Prop) → State → Heap → Prop
def zEok (E : zE) : Prop := (∀ (A : Nat → Prop) (u U : State) (H : Heap), u.WarmedH U.vm → E A u H → E A U H) ∧ (∀ (A : Nat → Prop) (u U : State) (H : Heap), U.vm = u.vm → E A u H → E A U H) ∧ (∀ (A : Nat → Prop) (U : State) (H H1 : Heap), E A U H → (∀ a : Nat, a < H.size → ¬ A a → H1[a]? = H[a]?) → E A U H1) ∧ (∀ (A B : Nat → Prop) (U : State) (H : Heap), E A U H → (∀ q, B q → A q) → E B U H)
/-- where a method's walk stands -/
def zS (p : Program) (l : Launch) (e : Env) (R : Room) (s : State) (m : MethodId) (args : Array Value) (below : List Frame) (meth : Method) (c : Code) (Q : State → Prop) (A : Nat → Prop) (D : va_G) (k : zK) (nL : Nat) (a0 : List Nat) : zP := fun kc ks pc lv st ws =>
  ∀ (H : Heap) (locs : List Loc) (ls : Array Slot), zWr ws → (∀ v ∈ st, zVr v) → (∀ (i : Nat) (v : zV), lv[i]? = some (some v) → zVr v) → a0 <+: ws.map Prod.fst → va_P D vwCl (zw k ws) H → va_D A (zw k ws) → va_S A s.heap H locs → zL ls nL lv → W p l e R s m args below meth c H locs kc ks Q (F0 m pc ls (st.map zv))
/-- the rule book of a method: its code cc, its class own, its words Ts, nL locals, the room R; PR: what must hold when it returns (an int, or 0) -/
def zB (l : Launch) (D : va_G) (k : zK) (E : zE) (cc : ByteArray) (own : String) (nL : Nat) (R : Room) (mc ms : Nat) (rt : Option FieldType) (ini : Prop) (a0 : List Nat) (PR : Int → zW → Prop) (Z : zP) : Prop :=
  ∃ (p : Program) (e : Env) (s : State) (m : MethodId) (args : Array Value) (below : List Frame) (meth : Method) (c : Code) (Q : State → Prop) (A : Nat → Prop),
    p.tables.exec = Jvm.exec ∧ c.code = cc ∧ c.maxLocals = nL ∧ s.vm.findClass own = some m.cls ∧ (∀ w ∈ zTs, w.before args s = true) ∧ va_K D vwCl (zty k) s ∧ (∀ q, s.heap.size ≤ q → A q) ∧ zEok E ∧ E A s s.heap ∧ (ini → meth.name = "<init>") ∧
    (∀ (H : Heap) (locs : List Loc) (ls : Array Slot) (pc : Nat) (z : Int) (ws : zW), rt ≠ none → decode cc pc = .ok (.ireturn, 1) → zR z → zWr ws → a0 <+: ws.map Prod.fst → PR z ws → va_P D vwCl (zw k ws) H → va_D A (zw k ws) → va_S A s.heap H locs → W p l e R s m args below meth c H locs mc ms Q (F0 m pc ls [.int (iZ z)])) ∧
    (∀ (H : Heap) (locs : List Loc) (ls : Array Slot) (pc : Nat) (ws : zW), rt = none → decode cc pc = .ok (.return_, 1) → zWr ws → a0 <+: ws.map Prod.fst → PR 0 ws → va_P D vwCl (zw k ws) H → va_D A (zw k ws) → va_S A s.heap H locs → W p l e R s m args below meth c H locs mc ms Q (F0 m pc ls [])) ∧
    Z = zS p l e R s m args below meth c Q A D k nL a0
section ZB
variable {l : Launch} {D : va_G} {k : zK} {E : zE} {cc : ByteArray} {own : String} {nL : Nat} {R : Room} {mc ms : Nat} {rt : Option FieldType} {ini : Prop} {a0 : List Nat} {PR : Int → zW → Prop} {Z : zP}
variable {kc ks pc : Nat} {lv : List (Option zV)} {st : List zV} {ws : zW} {x y : Int}
theorem zB.iconst (B : zB l D k E cc own nL R mc ms rt ini a0 PR Z) {n : Int} (hd : decode cc pc = .ok (.iconst n, 1)) (hr : zR n) (h : Z kc ks (pc + 1) lv (.inl n :: st) ws) : Z kc ks pc lv st ws := by
  obtain ⟨p, e, s, m, args, below, meth, c, Q, A, hx, hb, hml, hown, hts, hK, hA, hE, hEs, hin, hri, hrv, rfl⟩ := B
  intro H locs ls r1 r2 r3 r4 hP hD hS hl
  exact lv_iconst hx hb hd rfl (h H locs ls r1 (List.forall_mem_cons.mpr ⟨hr, r2⟩) r3 r4 hP hD hS hl)
theorem zB.bipush (B : zB l D k E cc own nL R mc ms rt ini a0 PR Z) {n : Int} (hd : decode cc pc = .ok (.bipush n, 2)) (hr : -128 ≤ n ∧ n ≤ 127) (h : Z kc ks (pc + 2) lv (.inl n :: st) ws) : Z kc ks pc lv st ws := by
  obtain ⟨p, e, s, m, args, below, meth, c, Q, A, hx, hb, hml, hown, hts, hK, hA, hE, hEs, hin, hri, hrv, rfl⟩ := B
  intro H locs ls r1 r2 r3 r4 hP hD hS hl
  refine lv_bipush hx hb hd (v := iZ n) ?_ (h H locs ls r1 (List.forall_mem_cons.mpr ⟨(⟨by omega, by omega⟩ : zR n), r2⟩) r3 r4 hP hD hS hl)
  apply Int32.toInt_inj.mp
  rw [iZ_toInt ⟨by omega, by omega⟩, Int8.toInt_toInt32, Int8.toInt_ofInt_of_le (by omega) (by omega)]
theorem zB.sipush (B : zB l D k E cc own nL R mc ms rt ini a0 PR Z) {n : Int} (hd : decode cc pc = .ok (.sipush n, 3)) (hr : -32768 ≤ n ∧ n ≤ 32767) (h : Z kc ks (pc + 3) lv (.inl n :: st) ws) : Z kc ks pc lv st ws := by
  obtain ⟨p, e, s, m, args, below, meth, c, Q, A, hx, hb, hml, hown, hts, hK, hA, hE, hEs, hin, hri, hrv, rfl⟩ := B
  intro H locs ls r1 r2 r3 r4 hP hD hS hl
  refine lv_sipush hx hb hd (v := iZ n) ?_ (h H locs ls r1 (List.forall_mem_cons.mpr ⟨(⟨by omega, by omega⟩ : zR n), r2⟩) r3 r4 hP hD hS hl)
  apply Int32.toInt_inj.mp
  rw [iZ_toInt ⟨by omega, by omega⟩, Int16.toInt_toInt32, Int16.toInt_ofInt_of_le (by omega) (by omega)]
theorem zB.ldc (B : zB l D k E cc own nL R mc ms rt ini a0 PR Z) {i : Nat} {n : Int} (hd : decode cc pc = .ok (.ldc i, 2)) (hw : Jvm.Cond.constant own i (iZ n) ∈ zTs) (hr : zR n) (h : Z kc ks (pc + 2) lv (.inl n :: st) ws) : Z kc ks pc lv st ws := by
  obtain ⟨p, e, s, m, args, below, meth, c, Q, A, hx, hb, hml, hown, hts, hK, hA, hE, hEs, hin, hri, hrv, rfl⟩ := B
  intro H locs ls r1 r2 r3 r4 hP hD hS hl
  exact lv_ldc hx hb hown (hts _ hw) hd (h H locs ls r1 (List.forall_mem_cons.mpr ⟨hr, r2⟩) r3 r4 hP hD hS hl)
theorem zB.iload_n (B : zB l D k E cc own nL R mc ms rt ini a0 PR Z) {i : Nat} {q : Fin 4} (hd : decode cc pc = .ok (.iload_n q, 1)) (hq : (q : Nat) = i) (hi : lv[i]? = some (some (.inl x))) (h : Z kc ks (pc + 1) lv (.inl x :: st) ws) : Z kc ks pc lv st ws := by
  obtain ⟨p, e, s, m, args, below, meth, c, Q, A, hx, hb, hml, hown, hts, hK, hA, hE, hEs, hin, hri, hrv, rfl⟩ := B
  intro H locs ls r1 r2 r3 r4 hP hD hS hl
  exact lv_iload_n hx hb hd hq (zL_at hl hi) (h H locs ls r1 (List.forall_mem_cons.mpr ⟨r3 i _ hi, r2⟩) r3 r4 hP hD hS hl)
theorem zB.iload (B : zB l D k E cc own nL R mc ms rt ini a0 PR Z) {i : Nat} (hd : decode cc pc = .ok (.iload i, 2)) (hi : lv[i]? = some (some (.inl x))) (h : Z kc ks (pc + 2) lv (.inl x :: st) ws) : Z kc ks pc lv st ws := by
  obtain ⟨p, e, s, m, args, below, meth, c, Q, A, hx, hb, hml, hown, hts, hK, hA, hE, hEs, hin, hri, hrv, rfl⟩ := B
  intro H locs ls r1 r2 r3 r4 hP hD hS hl
  exact lv_iload hx hb hd (zL_at hl hi) (h H locs ls r1 (List.forall_mem_cons.mpr ⟨r3 i _ hi, r2⟩) r3 r4 hP hD hS hl)
theorem zB.aload_n (B : zB l D k E cc own nL R mc ms rt ini a0 PR Z) {i a : Nat} {q : Fin 4} (hd : decode cc pc = .ok (.aload_n q, 1)) (hq : (q : Nat) = i) (hi : lv[i]? = some (some (.inr (some a)))) (h : Z kc ks (pc + 1) lv (.inr (some a) :: st) ws) : Z kc ks pc lv st ws := by
  obtain ⟨p, e, s, m, args, below, meth, c, Q, A, hx, hb, hml, hown, hts, hK, hA, hE, hEs, hin, hri, hrv, rfl⟩ := B
  intro H locs ls r1 r2 r3 r4 hP hD hS hl
  exact lv_aload_n hx hb hd hq (zL_at hl hi) (h H locs ls r1 (List.forall_mem_cons.mpr ⟨trivial, r2⟩) r3 r4 hP hD hS hl)
theorem zB.aload (B : zB l D k E cc own nL R mc ms rt ini a0 PR Z) {i a : Nat} (hd : decode cc pc = .ok (.aload i, 2)) (hi : lv[i]? = some (some (.inr (some a)))) (h : Z kc ks (pc + 2) lv (.inr (some a) :: st) ws) : Z kc ks pc lv st ws := by
  obtain ⟨p, e, s, m, args, below, meth, c, Q, A, hx, hb, hml, hown, hts, hK, hA, hE, hEs, hin, hri, hrv, rfl⟩ := B
  intro H locs ls r1 r2 r3 r4 hP hD hS hl
  exact lv_aload hx hb hd (zL_at hl hi) (h H locs ls r1 (List.forall_mem_cons.mpr ⟨trivial, r2⟩) r3 r4 hP hD hS hl)
theorem zlv_set {lv : List (Option zV)} {i : Nat} {v : zV} (h : ∀ (i : Nat) (v : zV), lv[i]? = some (some v) → zVr v) (hv : zVr v) : ∀ (j : Nat) (w : zV), (lv.set i (some v))[j]? = some (some w) → zVr w := by
  intro j w hj
  rw [List.getElem?_set] at hj
  by_cases e : i = j
  · subst e
    by_cases hl : i < lv.length
    · simp [hl] at hj
      subst hj
      exact hv
    · simp [hl] at hj
  · simp [e] at hj
    exact h j w hj
theorem zB.istore_n (B : zB l D k E cc own nL R mc ms rt ini a0 PR Z) {i : Nat} {q : Fin 4} (hd : decode cc pc = .ok (.istore_n q, 1)) (hq : (q : Nat) = i) (hn : i < nL) (h : Z kc ks (pc + 1) (lv.set i (some (.inl x))) st ws) : Z kc ks pc lv (.inl x :: st) ws := by
  obtain ⟨p, e, s, m, args, below, meth, c, Q, A, hx, hb, hml, hown, hts, hK, hA, hE, hEs, hin, hri, hrv, rfl⟩ := B
  intro H locs ls r1 r2 r3 r4 hP hD hS hl
  obtain ⟨h1, h2⟩ := List.forall_mem_cons.mp r2
  obtain ⟨ll, g1, g2, g3⟩ := hl
  exact lv_istore_n hx hb hd hq g1 hn rfl (fun ls' hl' => h H locs ls' r1 h2 (zlv_set r3 h1) r4 hP hD hS (zL_st g2 g3 hl'))
theorem zB.istore (B : zB l D k E cc own nL R mc ms rt ini a0 PR Z) {i : Nat} (hd : decode cc pc = .ok (.istore i, 2)) (hn : i < nL) (h : Z kc ks (pc + 2) (lv.set i (some (.inl x))) st ws) : Z kc ks pc lv (.inl x :: st) ws := by
  obtain ⟨p, e, s, m, args, below, meth, c, Q, A, hx, hb, hml, hown, hts, hK, hA, hE, hEs, hin, hri, hrv, rfl⟩ := B
  intro H locs ls r1 r2 r3 r4 hP hD hS hl
  obtain ⟨h1, h2⟩ := List.forall_mem_cons.mp r2
  obtain ⟨ll, g1, g2, g3⟩ := hl
  exact lv_istore hx hb hd g1 hn rfl (fun ls' hl' => h H locs ls' r1 h2 (zlv_set r3 h1) r4 hP hD hS (zL_st g2 g3 hl'))
theorem zB.astore_n (B : zB l D k E cc own nL R mc ms rt ini a0 PR Z) {i a : Nat} {q : Fin 4} (hd : decode cc pc = .ok (.astore_n q, 1)) (hq : (q : Nat) = i) (hn : i < nL) (h : Z kc ks (pc + 1) (lv.set i (some (.inr (some a)))) st ws) : Z kc ks pc lv (.inr (some a) :: st) ws := by
  obtain ⟨p, e, s, m, args, below, meth, c, Q, A, hx, hb, hml, hown, hts, hK, hA, hE, hEs, hin, hri, hrv, rfl⟩ := B
  intro H locs ls r1 r2 r3 r4 hP hD hS hl
  obtain ⟨h1, h2⟩ := List.forall_mem_cons.mp r2
  obtain ⟨ll, g1, g2, g3⟩ := hl
  exact lv_astore_n hx hb hd hq g1 hn rfl (fun ls' hl' => h H locs ls' r1 h2 (zlv_set r3 h1) r4 hP hD hS (zL_st (v := .inr (some a)) g2 g3 hl'))
theorem zB.iinc (B : zB l D k E cc own nL R mc ms rt ini a0 PR Z) {i : Nat} {n : Int} (hd : decode cc pc = .ok (.iinc i n, 3)) (hn : i < nL) (hi : lv[i]? = some (some (.inl x))) (hr : zR (x + n)) (h : Z kc ks (pc + 3) (lv.set i (some (.inl (x + n)))) st ws) : Z kc ks pc lv st ws := by
  obtain ⟨p, e, s, m, args, below, meth, c, Q, A, hx, hb, hml, hown, hts, hK, hA, hE, hEs, hin, hri, hrv, rfl⟩ := B
  intro H locs ls r1 r2 r3 r4 hP hD hS hl
  obtain ⟨ll, g1, g2, g3⟩ := hl
  obtain ⟨j, hj⟩ := List.getElem?_of_mem (g3 i _ hi)
  exact lv_iinc hx hb hd g1 hj (v := iZ (x + n)) (iZ_add x n) hn rfl (fun ls' hl' => h H locs ls' r1 r2 (zlv_set r3 hr) r4 hP hD hS (zL_st (v := .inl (x + n)) g2 g3 hl'))
-- arithmetic
theorem zB.iadd (B : zB l D k E cc own nL R mc ms rt ini a0 PR Z) (hd : decode cc pc = .ok (.iadd, 1)) (hr : zR (x + y)) (h : Z kc ks (pc + 1) lv (.inl (x + y) :: st) ws) : Z kc ks pc lv (.inl y :: .inl x :: st) ws := by
  obtain ⟨p, e, s, m, args, below, meth, c, Q, A, hx, hb, hml, hown, hts, hK, hA, hE, hEs, hin, hri, hrv, rfl⟩ := B
  intro H locs ls r1 r2 r3 r4 hP hD hS hl
  refine lv_iadd (x := iZ x) (y := iZ y) hx hb hd ?_
  rw [iZ_add]
  exact h H locs ls r1 (List.forall_mem_cons.mpr ⟨hr, (List.forall_mem_cons.mp (List.forall_mem_cons.mp r2).2).2⟩) r3 r4 hP hD hS hl
theorem zB.isub (B : zB l D k E cc own nL R mc ms rt ini a0 PR Z) (hd : decode cc pc = .ok (.isub, 1)) (hr : zR (x - y)) (h : Z kc ks (pc + 1) lv (.inl (x - y) :: st) ws) : Z kc ks pc lv (.inl y :: .inl x :: st) ws := by
  obtain ⟨p, e, s, m, args, below, meth, c, Q, A, hx, hb, hml, hown, hts, hK, hA, hE, hEs, hin, hri, hrv, rfl⟩ := B
  intro H locs ls r1 r2 r3 r4 hP hD hS hl
  refine lv_isub (x := iZ x) (y := iZ y) hx hb hd ?_
  rw [iZ_sub]
  exact h H locs ls r1 (List.forall_mem_cons.mpr ⟨hr, (List.forall_mem_cons.mp (List.forall_mem_cons.mp r2).2).2⟩) r3 r4 hP hD hS hl
theorem zB.imul (B : zB l D k E cc own nL R mc ms rt ini a0 PR Z) (hd : decode cc pc = .ok (.imul, 1)) (hr : zR (x * y)) (h : Z kc ks (pc + 1) lv (.inl (x * y) :: st) ws) : Z kc ks pc lv (.inl y :: .inl x :: st) ws := by
  obtain ⟨p, e, s, m, args, below, meth, c, Q, A, hx, hb, hml, hown, hts, hK, hA, hE, hEs, hin, hri, hrv, rfl⟩ := B
  intro H locs ls r1 r2 r3 r4 hP hD hS hl
  refine lv_imul (x := iZ x) (y := iZ y) hx hb hd ?_
  rw [iZ_mul]
  exact h H locs ls r1 (List.forall_mem_cons.mpr ⟨hr, (List.forall_mem_cons.mp (List.forall_mem_cons.mp r2).2).2⟩) r3 r4 hP hD hS hl
/-- a sum, a difference, a product that may wrap: some int -/
theorem zB.iaddw (B : zB l D k E cc own nL R mc ms rt ini a0 PR Z) (hd : decode cc pc = .ok (.iadd, 1)) (h : ∀ r : Int, zR r → (zR (x + y) → r = x + y) → Z kc ks (pc + 1) lv (.inl r :: st) ws) : Z kc ks pc lv (.inl y :: .inl x :: st) ws := by
  obtain ⟨p, e, s, m, args, below, meth, c, Q, A, hx, hb, hml, hown, hts, hK, hA, hE, hEs, hin, hri, hrv, rfl⟩ := B
  intro H locs ls r1 r2 r3 r4 hP hD hS hl
  refine lv_iadd (x := iZ x) (y := iZ y) hx hb hd ?_
  rw [iZ_add, ← iZ_of (iZ (x + y))]
  exact h _ (zR_of _) (fun q => iZ_toInt q) H locs ls r1 (List.forall_mem_cons.mpr ⟨zR_of _, (List.forall_mem_cons.mp (List.forall_mem_cons.mp r2).2).2⟩) r3 r4 hP hD hS hl
theorem zB.isubw (B : zB l D k E cc own nL R mc ms rt ini a0 PR Z) (hd : decode cc pc = .ok (.isub, 1)) (h : ∀ r : Int, zR r → (zR (x - y) → r = x - y) → Z kc ks (pc + 1) lv (.inl r :: st) ws) : Z kc ks pc lv (.inl y :: .inl x :: st) ws := by
  obtain ⟨p, e, s, m, args, below, meth, c, Q, A, hx, hb, hml, hown, hts, hK, hA, hE, hEs, hin, hri, hrv, rfl⟩ := B
  intro H locs ls r1 r2 r3 r4 hP hD hS hl
  refine lv_isub (x := iZ x) (y := iZ y) hx hb hd ?_
  rw [iZ_sub, ← iZ_of (iZ (x - y))]
  exact h _ (zR_of _) (fun q => iZ_toInt q) H locs ls r1 (List.forall_mem_cons.mpr ⟨zR_of _, (List.forall_mem_cons.mp (List.forall_mem_cons.mp r2).2).2⟩) r3 r4 hP hD hS hl
theorem zB.imulw (B : zB l D k E cc own nL R mc ms rt ini a0 PR Z) (hd : decode cc pc = .ok (.imul, 1)) (h : ∀ r : Int, zR r → (zR (x * y) → r = x * y) → Z kc ks (pc + 1) lv (.inl r :: st) ws) : Z kc ks pc lv (.inl y :: .inl x :: st) ws := by
  obtain ⟨p, e, s, m, args, below, meth, c, Q, A, hx, hb, hml, hown, hts, hK, hA, hE, hEs, hin, hri, hrv, rfl⟩ := B
  intro H locs ls r1 r2 r3 r4 hP hD hS hl
  refine lv_imul (x := iZ x) (y := iZ y) hx hb hd ?_
  rw [iZ_mul, ← iZ_of (iZ (x * y))]
  exact h _ (zR_of _) (fun q => iZ_toInt q) H locs ls r1 (List.forall_mem_cons.mpr ⟨zR_of _, (List.forall_mem_cons.mp (List.forall_mem_cons.mp r2).2).2⟩) r3 r4 hP hD hS hl
/-- and, or, xor, shl: the int that comes, by its own word -/
theorem zB.iand (B : zB l D k E cc own nL R mc ms rt ini a0 PR Z) (hd : decode cc pc = .ok (.iand, 1)) (h : ∀ r : Int, zR r → r = (iZ x &&& iZ y).toInt → Z kc ks (pc + 1) lv (.inl r :: st) ws) : Z kc ks pc lv (.inl y :: .inl x :: st) ws := by
  obtain ⟨p, e, s, m, args, below, meth, c, Q, A, hx, hb, hml, hown, hts, hK, hA, hE, hEs, hin, hri, hrv, rfl⟩ := B
  intro H locs ls r1 r2 r3 r4 hP hD hS hl
  refine lv_iand (x := iZ x) (y := iZ y) hx hb hd ?_
  rw [← iZ_of (iZ x &&& iZ y)]
  exact h _ (zR_of _) rfl H locs ls r1 (List.forall_mem_cons.mpr ⟨zR_of _, (List.forall_mem_cons.mp (List.forall_mem_cons.mp r2).2).2⟩) r3 r4 hP hD hS hl
theorem zB.ior (B : zB l D k E cc own nL R mc ms rt ini a0 PR Z) (hd : decode cc pc = .ok (.ior, 1)) (h : ∀ r : Int, zR r → r = (iZ x ||| iZ y).toInt → Z kc ks (pc + 1) lv (.inl r :: st) ws) : Z kc ks pc lv (.inl y :: .inl x :: st) ws := by
  obtain ⟨p, e, s, m, args, below, meth, c, Q, A, hx, hb, hml, hown, hts, hK, hA, hE, hEs, hin, hri, hrv, rfl⟩ := B
  intro H locs ls r1 r2 r3 r4 hP hD hS hl
  refine lv_ior (x := iZ x) (y := iZ y) hx hb hd ?_
  rw [← iZ_of (iZ x ||| iZ y)]
  exact h _ (zR_of _) rfl H locs ls r1 (List.forall_mem_cons.mpr ⟨zR_of _, (List.forall_mem_cons.mp (List.forall_mem_cons.mp r2).2).2⟩) r3 r4 hP hD hS hl
theorem zB.ixor (B : zB l D k E cc own nL R mc ms rt ini a0 PR Z) (hd : decode cc pc = .ok (.ixor, 1)) (h : ∀ r : Int, zR r → r = (iZ x ^^^ iZ y).toInt → Z kc ks (pc + 1) lv (.inl r :: st) ws) : Z kc ks pc lv (.inl y :: .inl x :: st) ws := by
  obtain ⟨p, e, s, m, args, below, meth, c, Q, A, hx, hb, hml, hown, hts, hK, hA, hE, hEs, hin, hri, hrv, rfl⟩ := B
  intro H locs ls r1 r2 r3 r4 hP hD hS hl
  refine lv_ixor (x := iZ x) (y := iZ y) hx hb hd ?_
  rw [← iZ_of (iZ x ^^^ iZ y)]
  exact h _ (zR_of _) rfl H locs ls r1 (List.forall_mem_cons.mpr ⟨zR_of _, (List.forall_mem_cons.mp (List.forall_mem_cons.mp r2).2).2⟩) r3 r4 hP hD hS hl
theorem zB.ishl (B : zB l D k E cc own nL R mc ms rt ini a0 PR Z) (hd : decode cc pc = .ok (.ishl, 1)) (h : ∀ r : Int, zR r → r = (iZ x <<< (iZ y &&& 31)).toInt → Z kc ks (pc + 1) lv (.inl r :: st) ws) : Z kc ks pc lv (.inl y :: .inl x :: st) ws := by
  obtain ⟨p, e, s, m, args, below, meth, c, Q, A, hx, hb, hml, hown, hts, hK, hA, hE, hEs, hin, hri, hrv, rfl⟩ := B
  intro H locs ls r1 r2 r3 r4 hP hD hS hl
  refine lv_ishl (x := iZ x) (y := iZ y) hx hb hd ?_
  rw [← iZ_of (iZ x <<< (iZ y &&& 31))]
  exact h _ (zR_of _) rfl H locs ls r1 (List.forall_mem_cons.mpr ⟨zR_of _, (List.forall_mem_cons.mp (List.forall_mem_cons.mp r2).2).2⟩) r3 r4 hP hD hS hl
theorem iZ_div {x y : Int} (hx : zR x) (h0 : 0 ≤ x) (hy : 0 < y) (hy2 : zR y) : iZ x / iZ y = iZ (x / y) := by
  obtain ⟨a, rfl⟩ := Int.eq_ofNat_of_zero_le h0
  obtain ⟨b, rfl⟩ := Int.eq_ofNat_of_zero_le (Int.le_of_lt hy)
  have ha : a < 2 ^ 31 := by have := hx.2; omega
  have hb : b < 2 ^ 31 := by have := hy2.2; omega
  have e := pk_div (a := a) (d := b) ha (by omega) hb
  have e1 : ∀ n : Nat, iZ (n : Int) = nI n := fun n => Int32.ofInt_eq_ofNat
  rw [e1, e1, e, ← e1]
  rfl
theorem iZ_rem {x y : Int} (hx : zR x) (h0 : 0 ≤ x) (hy : 0 < y) (hy2 : zR y) : iZ x - iZ x / iZ y * iZ y = iZ (x % y) := by
  rw [iZ_div hx h0 hy hy2, iZ_mul, iZ_sub]
  congr 1
  have := Int.emod_def x y
  rw [this, Int.mul_comm]
theorem zB.idiv (B : zB l D k E cc own nL R mc ms rt ini a0 PR Z) (hd : decode cc pc = .ok (.idiv, 1)) (h0 : 0 ≤ x) (hy : 0 < y) (h : Z kc ks (pc + 1) lv (.inl (x / y) :: st) ws) : Z kc ks pc lv (.inl y :: .inl x :: st) ws := by
  obtain ⟨p, e, s, m, args, below, meth, c, Q, A, hx, hb, hml, hown, hts, hK, hA, hE, hEs, hin, hri, hrv, rfl⟩ := B
  intro H locs ls r1 r2 r3 r4 hP hD hS hl
  obtain ⟨ry, rr⟩ := List.forall_mem_cons.mp r2
  obtain ⟨rx, rr⟩ := List.forall_mem_cons.mp rr
  have rx' : zR x := rx
  have ry' : zR y := ry
  refine lv_idiv (x := iZ x) (y := iZ y) hx hb hd (fun z => ?_) ?_
  · have := (iZ_eq ry' zR_0).mp (z.trans iZ_0.symm); omega
  · rw [iZ_div rx' h0 hy ry']
    refine h H locs ls r1 (List.forall_mem_cons.mpr ⟨?_, rr⟩) r3 r4 hP hD hS hl
    have h1 : 0 ≤ x / y := Int.ediv_nonneg h0 (by omega)
    have h2 : x / y ≤ x := Int.ediv_le_self y h0
    exact (⟨by omega, by have := rx'.2; omega⟩ : zR (x / y))
theorem zB.irem (B : zB l D k E cc own nL R mc ms rt ini a0 PR Z) (hd : decode cc pc = .ok (.irem, 1)) (h0 : 0 ≤ x) (hy : 0 < y) (h : Z kc ks (pc + 1) lv (.inl (x % y) :: st) ws) : Z kc ks pc lv (.inl y :: .inl x :: st) ws := by
  obtain ⟨p, e, s, m, args, below, meth, c, Q, A, hx, hb, hml, hown, hts, hK, hA, hE, hEs, hin, hri, hrv, rfl⟩ := B
  intro H locs ls r1 r2 r3 r4 hP hD hS hl
  obtain ⟨ry, rr⟩ := List.forall_mem_cons.mp r2
  obtain ⟨rx, rr⟩ := List.forall_mem_cons.mp rr
  have rx' : zR x := rx
  have ry' : zR y := ry
  refine lv_irem (x := iZ x) (y := iZ y) hx hb hd (fun z => ?_) ?_
  · have := (iZ_eq ry' zR_0).mp (z.trans iZ_0.symm); omega
  · rw [iZ_rem rx' h0 hy ry']
    refine h H locs ls r1 (List.forall_mem_cons.mpr ⟨?_, rr⟩) r3 r4 hP hD hS hl
    have h1 : 0 ≤ x % y := Int.emod_nonneg x (by omega)
    have h2 : x % y < y := Int.emod_lt_of_pos x hy
    exact (⟨by omega, by have := ry'.2; omega⟩ : zR (x % y))
/-- a quotient, a rest of any ints by a divisor that is no 0: some int -/
theorem zB.idivw (B : zB l D k E cc own nL R mc ms rt ini a0 PR Z) (hd : decode cc pc = .ok (.idiv, 1)) (hy : y ≠ 0) (h : ∀ r : Int, zR r → (0 ≤ x → 0 < y → r = x / y) → Z kc ks (pc + 1) lv (.inl r :: st) ws) : Z kc ks pc lv (.inl y :: .inl x :: st) ws := by
  obtain ⟨p, e, s, m, args, below, meth, c, Q, A, hx, hb, hml, hown, hts, hK, hA, hE, hEs, hin, hri, hrv, rfl⟩ := B
  intro H locs ls r1 r2 r3 r4 hP hD hS hl
  obtain ⟨ry, rr⟩ := List.forall_mem_cons.mp r2
  obtain ⟨rx, rr⟩ := List.forall_mem_cons.mp rr
  have rx' : zR x := rx
  have ry' : zR y := ry
  refine lv_idiv (x := iZ x) (y := iZ y) hx hb hd (fun z => ?_) ?_
  · exact hy ((iZ_eq ry' zR_0).mp (z.trans iZ_0.symm))
  · rw [← iZ_of (iZ x / iZ y)]
    refine h _ (zR_of _) (fun q1 q2 => ?_) H locs ls r1 (List.forall_mem_cons.mpr ⟨zR_of _, rr⟩) r3 r4 hP hD hS hl
    rw [iZ_div rx' q1 q2 ry']
    have h1 : 0 ≤ x / y := Int.ediv_nonneg q1 (by omega)
    have h2 : x / y ≤ x := Int.ediv_le_self y q1
    exact iZ_toInt ⟨by omega, by have := rx'.2; omega⟩
theorem zB.iremw (B : zB l D k E cc own nL R mc ms rt ini a0 PR Z) (hd : decode cc pc = .ok (.irem, 1)) (hy : y ≠ 0) (h : ∀ r : Int, zR r → (0 ≤ x → 0 < y → r = x % y) → Z kc ks (pc + 1) lv (.inl r :: st) ws) : Z kc ks pc lv (.inl y :: .inl x :: st) ws := by
  obtain ⟨p, e, s, m, args, below, meth, c, Q, A, hx, hb, hml, hown, hts, hK, hA, hE, hEs, hin, hri, hrv, rfl⟩ := B
  intro H locs ls r1 r2 r3 r4 hP hD hS hl
  obtain ⟨ry, rr⟩ := List.forall_mem_cons.mp r2
  obtain ⟨rx, rr⟩ := List.forall_mem_cons.mp rr
  have rx' : zR x := rx
  have ry' : zR y := ry
  refine lv_irem (x := iZ x) (y := iZ y) hx hb hd (fun z => ?_) ?_
  · exact hy ((iZ_eq ry' zR_0).mp (z.trans iZ_0.symm))
  · rw [← iZ_of (iZ x - iZ x / iZ y * iZ y)]
    refine h _ (zR_of _) (fun q1 q2 => ?_) H locs ls r1 (List.forall_mem_cons.mpr ⟨zR_of _, rr⟩) r3 r4 hP hD hS hl
    rw [iZ_rem rx' q1 q2 ry']
    have h1 : 0 ≤ x % y := Int.emod_nonneg x (by omega)
    have h2 : x % y < y := Int.emod_lt_of_pos x q2
    exact iZ_toInt ⟨by omega, by have := ry'.2; omega⟩
-- the stack
theorem zB.dup (B : zB l D k E cc own nL R mc ms rt ini a0 PR Z) {v : zV} (hd : decode cc pc = .ok (.dup, 1)) (h : Z kc ks (pc + 1) lv (v :: v :: st) ws) : Z kc ks pc lv (v :: st) ws := by
  obtain ⟨p, e, s, m, args, below, meth, c, Q, A, hx, hb, hml, hown, hts, hK, hA, hE, hEs, hin, hri, hrv, rfl⟩ := B
  intro H locs ls r1 r2 r3 r4 hP hD hS hl
  exact lv_dup (va := zv v) hx hb hd (zcat v) (h H locs ls r1 (List.forall_mem_cons.mpr ⟨r2 v List.mem_cons_self, r2⟩) r3 r4 hP hD hS hl)
theorem zB.pop (B : zB l D k E cc own nL R mc ms rt ini a0 PR Z) {v : zV} (hd : decode cc pc = .ok (.pop, 1)) (h : Z kc ks (pc + 1) lv st ws) : Z kc ks pc lv (v :: st) ws := by
  obtain ⟨p, e, s, m, args, below, meth, c, Q, A, hx, hb, hml, hown, hts, hK, hA, hE, hEs, hin, hri, hrv, rfl⟩ := B
  intro H locs ls r1 r2 r3 r4 hP hD hS hl
  exact lv_pop (va := zv v) hx hb hd (zcat v) (h H locs ls r1 (List.forall_mem_cons.mp r2).2 r3 r4 hP hD hS hl)
theorem zB.dup2 (B : zB l D k E cc own nL R mc ms rt ini a0 PR Z) {v w : zV} (hd : decode cc pc = .ok (.dup2, 1)) (h : Z kc ks (pc + 1) lv (v :: w :: v :: w :: st) ws) : Z kc ks pc lv (v :: w :: st) ws := by
  obtain ⟨p, e, s, m, args, below, meth, c, Q, A, hx, hb, hml, hown, hts, hK, hA, hE, hEs, hin, hri, hrv, rfl⟩ := B
  intro H locs ls r1 r2 r3 r4 hP hD hS hl
  exact lv_dup2_11 (va := zv v) (vb := zv w) hx hb hd (zcat v) (zcat w) (h H locs ls r1 (List.forall_mem_cons.mpr ⟨r2 v List.mem_cons_self, List.forall_mem_cons.mpr ⟨r2 w (List.mem_cons_of_mem _ List.mem_cons_self), r2⟩⟩) r3 r4 hP hD hS hl)
-- jumps
theorem zB.goto (B : zB l D k E cc own nL R mc ms rt ini a0 PR Z) {off : Int} {tgt : Nat} (hd : decode cc pc = .ok (.goto off, 3)) (ht : (pc : Int) + off = (tgt : Int)) (h : Z kc ks tgt lv st ws) : Z kc ks pc lv st ws := by
  obtain ⟨p, e, s, m, args, below, meth, c, Q, A, hx, hb, hml, hown, hts, hK, hA, hE, hEs, hin, hri, hrv, rfl⟩ := B
  intro H locs ls r1 r2 r3 r4 hP hD hS hl
  exact lv_goto hx hb hd ht (h H locs ls r1 r2 r3 r4 hP hD hS hl)
theorem zB.icmp_eq (B : zB l D k E cc own nL R mc ms rt ini a0 PR Z) {off : Int} {tgt : Nat} (hd : decode cc pc = .ok (.if_icmp .eq off, 3)) (ht : (pc : Int) + off = (tgt : Int)) (kt : x = y → Z kc ks tgt lv st ws) (kf : ¬ x = y → Z kc ks (pc + 3) lv st ws) : Z kc ks pc lv (.inl y :: .inl x :: st) ws := by
  obtain ⟨p, e, s, m, args, below, meth, c, Q, A, hx, hb, hml, hown, hts, hK, hA, hE, hEs, hin, hri, hrv, rfl⟩ := B
  intro H locs ls r1 r2 r3 r4 hP hD hS hl
  obtain ⟨ry, rr⟩ := List.forall_mem_cons.mp r2
  obtain ⟨rx, rr⟩ := List.forall_mem_cons.mp rr
  have rx : zR x := rx
  have ry : zR y := ry
  refine lv_icmp_eq (x := iZ x) (y := iZ y) hx hb hd ht (fun q => ?_) (fun q => ?_)
  · exact kt ((iZ_eq rx ry).mp q) H locs ls r1 rr r3 r4 hP hD hS hl
  · exact kf (fun z => q ((iZ_eq rx ry).mpr z)) H locs ls r1 rr r3 r4 hP hD hS hl
theorem zB.icmp_ne (B : zB l D k E cc own nL R mc ms rt ini a0 PR Z) {off : Int} {tgt : Nat} (hd : decode cc pc = .ok (.if_icmp .ne off, 3)) (ht : (pc : Int) + off = (tgt : Int)) (kt : x ≠ y → Z kc ks tgt lv st ws) (kf : x = y → Z kc ks (pc + 3) lv st ws) : Z kc ks pc lv (.inl y :: .inl x :: st) ws := by
  obtain ⟨p, e, s, m, args, below, meth, c, Q, A, hx, hb, hml, hown, hts, hK, hA, hE, hEs, hin, hri, hrv, rfl⟩ := B
  intro H locs ls r1 r2 r3 r4 hP hD hS hl
  obtain ⟨ry, rr⟩ := List.forall_mem_cons.mp r2
  obtain ⟨rx, rr⟩ := List.forall_mem_cons.mp rr
  have rx : zR x := rx
  have ry : zR y := ry
  refine lv_icmp_ne (x := iZ x) (y := iZ y) hx hb hd ht (fun q => ?_) (fun q => ?_)
  · exact kt (fun z => q ((iZ_eq rx ry).mpr z)) H locs ls r1 rr r3 r4 hP hD hS hl
  · exact kf ((iZ_eq rx ry).mp (q)) H locs ls r1 rr r3 r4 hP hD hS hl
theorem zB.icmp_lt (B : zB l D k E cc own nL R mc ms rt ini a0 PR Z) {off : Int} {tgt : Nat} (hd : decode cc pc = .ok (.if_icmp .lt off, 3)) (ht : (pc : Int) + off = (tgt : Int)) (kt : x < y → Z kc ks tgt lv st ws) (kf : ¬ x < y → Z kc ks (pc + 3) lv st ws) : Z kc ks pc lv (.inl y :: .inl x :: st) ws := by
  obtain ⟨p, e, s, m, args, below, meth, c, Q, A, hx, hb, hml, hown, hts, hK, hA, hE, hEs, hin, hri, hrv, rfl⟩ := B
  intro H locs ls r1 r2 r3 r4 hP hD hS hl
  obtain ⟨ry, rr⟩ := List.forall_mem_cons.mp r2
  obtain ⟨rx, rr⟩ := List.forall_mem_cons.mp rr
  have rx : zR x := rx
  have ry : zR y := ry
  refine lv_icmp_lt (x := iZ x) (y := iZ y) hx hb hd ht (fun q => ?_) (fun q => ?_)
  · exact kt ((iZ_lt rx ry).mp q) H locs ls r1 rr r3 r4 hP hD hS hl
  · exact kf (fun z => q ((iZ_lt rx ry).mpr z)) H locs ls r1 rr r3 r4 hP hD hS hl
theorem zB.icmp_ge (B : zB l D k E cc own nL R mc ms rt ini a0 PR Z) {off : Int} {tgt : Nat} (hd : decode cc pc = .ok (.if_icmp .ge off, 3)) (ht : (pc : Int) + off = (tgt : Int)) (kt : y ≤ x → Z kc ks tgt lv st ws) (kf : ¬ y ≤ x → Z kc ks (pc + 3) lv st ws) : Z kc ks pc lv (.inl y :: .inl x :: st) ws := by
  obtain ⟨p, e, s, m, args, below, meth, c, Q, A, hx, hb, hml, hown, hts, hK, hA, hE, hEs, hin, hri, hrv, rfl⟩ := B
  intro H locs ls r1 r2 r3 r4 hP hD hS hl
  obtain ⟨ry, rr⟩ := List.forall_mem_cons.mp r2
  obtain ⟨rx, rr⟩ := List.forall_mem_cons.mp rr
  have rx : zR x := rx
  have ry : zR y := ry
  refine lv_icmp_ge (x := iZ x) (y := iZ y) hx hb hd ht (fun q => ?_) (fun q => ?_)
  · exact kt ((iZ_le ry rx).mp q) H locs ls r1 rr r3 r4 hP hD hS hl
  · exact kf (fun z => q ((iZ_le ry rx).mpr z)) H locs ls r1 rr r3 r4 hP hD hS hl
theorem zB.icmp_gt (B : zB l D k E cc own nL R mc ms rt ini a0 PR Z) {off : Int} {tgt : Nat} (hd : decode cc pc = .ok (.if_icmp .gt off, 3)) (ht : (pc : Int) + off = (tgt : Int)) (kt : y < x → Z kc ks tgt lv st ws) (kf : ¬ y < x → Z kc ks (pc + 3) lv st ws) : Z kc ks pc lv (.inl y :: .inl x :: st) ws := by
  obtain ⟨p, e, s, m, args, below, meth, c, Q, A, hx, hb, hml, hown, hts, hK, hA, hE, hEs, hin, hri, hrv, rfl⟩ := B
  intro H locs ls r1 r2 r3 r4 hP hD hS hl
  obtain ⟨ry, rr⟩ := List.forall_mem_cons.mp r2
  obtain ⟨rx, rr⟩ := List.forall_mem_cons.mp rr
  have rx : zR x := rx
  have ry : zR y := ry
  refine lv_icmp_gt (x := iZ x) (y := iZ y) hx hb hd ht (fun q => ?_) (fun q => ?_)
  · exact kt ((iZ_lt ry rx).mp q) H locs ls r1 rr r3 r4 hP hD hS hl
  · exact kf (fun z => q ((iZ_lt ry rx).mpr z)) H locs ls r1 rr r3 r4 hP hD hS hl
theorem zB.icmp_le (B : zB l D k E cc own nL R mc ms rt ini a0 PR Z) {off : Int} {tgt : Nat} (hd : decode cc pc = .ok (.if_icmp .le off, 3)) (ht : (pc : Int) + off = (tgt : Int)) (kt : x ≤ y → Z kc ks tgt lv st ws) (kf : ¬ x ≤ y → Z kc ks (pc + 3) lv st ws) : Z kc ks pc lv (.inl y :: .inl x :: st) ws := by
  obtain ⟨p, e, s, m, args, below, meth, c, Q, A, hx, hb, hml, hown, hts, hK, hA, hE, hEs, hin, hri, hrv, rfl⟩ := B
  intro H locs ls r1 r2 r3 r4 hP hD hS hl
  obtain ⟨ry, rr⟩ := List.forall_mem_cons.mp r2
  obtain ⟨rx, rr⟩ := List.forall_mem_cons.mp rr
  have rx : zR x := rx
  have ry : zR y := ry
  refine lv_icmp_le (x := iZ x) (y := iZ y) hx hb hd ht (fun q => ?_) (fun q => ?_)
  · exact kt ((iZ_le rx ry).mp q) H locs ls r1 rr r3 r4 hP hD hS hl
  · exact kf (fun z => q ((iZ_le rx ry).mpr z)) H locs ls r1 rr r3 r4 hP hD hS hl
theorem zB.if_eq (B : zB l D k E cc own nL R mc ms rt ini a0 PR Z) {off : Int} {tgt : Nat} (hd : decode cc pc = .ok (.ifCond .eq off, 3)) (ht : (pc : Int) + off = (tgt : Int)) (kt : x = 0 → Z kc ks tgt lv st ws) (kf : ¬ x = 0 → Z kc ks (pc + 3) lv st ws) : Z kc ks pc lv (.inl x :: st) ws := by
  obtain ⟨p, e, s, m, args, below, meth, c, Q, A, hx, hb, hml, hown, hts, hK, hA, hE, hEs, hin, hri, hrv, rfl⟩ := B
  intro H locs ls r1 r2 r3 r4 hP hD hS hl
  obtain ⟨rx, rr⟩ := List.forall_mem_cons.mp r2
  have rx : zR x := rx
  refine lv_if_eq (x := iZ x) hx hb hd ht (fun q => ?_) (fun q => ?_) <;> rw [← iZ_0] at q
  · exact kt ((iZ_eq rx zR_0).mp q) H locs ls r1 rr r3 r4 hP hD hS hl
  · exact kf (fun z => q ((iZ_eq rx zR_0).mpr z)) H locs ls r1 rr r3 r4 hP hD hS hl
theorem zB.if_ne (B : zB l D k E cc own nL R mc ms rt ini a0 PR Z) {off : Int} {tgt : Nat} (hd : decode cc pc = .ok (.ifCond .ne off, 3)) (ht : (pc : Int) + off = (tgt : Int)) (kt : x ≠ 0 → Z kc ks tgt lv st ws) (kf : x = 0 → Z kc ks (pc + 3) lv st ws) : Z kc ks pc lv (.inl x :: st) ws := by
  obtain ⟨p, e, s, m, args, below, meth, c, Q, A, hx, hb, hml, hown, hts, hK, hA, hE, hEs, hin, hri, hrv, rfl⟩ := B
  intro H locs ls r1 r2 r3 r4 hP hD hS hl
  obtain ⟨rx, rr⟩ := List.forall_mem_cons.mp r2
  have rx : zR x := rx
  refine lv_if_ne (x := iZ x) hx hb hd ht (fun q => ?_) (fun q => ?_) <;> rw [← iZ_0] at q
  · exact kt (fun z => q ((iZ_eq rx zR_0).mpr z)) H locs ls r1 rr r3 r4 hP hD hS hl
  · exact kf ((iZ_eq rx zR_0).mp (q)) H locs ls r1 rr r3 r4 hP hD hS hl
theorem zB.if_lt (B : zB l D k E cc own nL R mc ms rt ini a0 PR Z) {off : Int} {tgt : Nat} (hd : decode cc pc = .ok (.ifCond .lt off, 3)) (ht : (pc : Int) + off = (tgt : Int)) (kt : x < 0 → Z kc ks tgt lv st ws) (kf : ¬ x < 0 → Z kc ks (pc + 3) lv st ws) : Z kc ks pc lv (.inl x :: st) ws := by
  obtain ⟨p, e, s, m, args, below, meth, c, Q, A, hx, hb, hml, hown, hts, hK, hA, hE, hEs, hin, hri, hrv, rfl⟩ := B
  intro H locs ls r1 r2 r3 r4 hP hD hS hl
  obtain ⟨rx, rr⟩ := List.forall_mem_cons.mp r2
  have rx : zR x := rx
  refine lv_if_lt (x := iZ x) hx hb hd ht (fun q => ?_) (fun q => ?_) <;> rw [← iZ_0] at q
  · exact kt ((iZ_lt rx zR_0).mp q) H locs ls r1 rr r3 r4 hP hD hS hl
  · exact kf (fun z => q ((iZ_lt rx zR_0).mpr z)) H locs ls r1 rr r3 r4 hP hD hS hl
theorem zB.if_ge (B : zB l D k E cc own nL R mc ms rt ini a0 PR Z) {off : Int} {tgt : Nat} (hd : decode cc pc = .ok (.ifCond .ge off, 3)) (ht : (pc : Int) + off = (tgt : Int)) (kt : 0 ≤ x → Z kc ks tgt lv st ws) (kf : ¬ 0 ≤ x → Z kc ks (pc + 3) lv st ws) : Z kc ks pc lv (.inl x :: st) ws := by
  obtain ⟨p, e, s, m, args, below, meth, c, Q, A, hx, hb, hml, hown, hts, hK, hA, hE, hEs, hin, hri, hrv, rfl⟩ := B
  intro H locs ls r1 r2 r3 r4 hP hD hS hl
  obtain ⟨rx, rr⟩ := List.forall_mem_cons.mp r2
  have rx : zR x := rx
  refine lv_if_ge (x := iZ x) hx hb hd ht (fun q => ?_) (fun q => ?_) <;> rw [← iZ_0] at q
  · exact kt ((iZ_le zR_0 rx).mp q) H locs ls r1 rr r3 r4 hP hD hS hl
  · exact kf (fun z => q ((iZ_le zR_0 rx).mpr z)) H locs ls r1 rr r3 r4 hP hD hS hl
theorem zB.if_gt (B : zB l D k E cc own nL R mc ms rt ini a0 PR Z) {off : Int} {tgt : Nat} (hd : decode cc pc = .ok (.ifCond .gt off, 3)) (ht : (pc : Int) + off = (tgt : Int)) (kt : 0 < x → Z kc ks tgt lv st ws) (kf : ¬ 0 < x → Z kc ks (pc + 3) lv st ws) : Z kc ks pc lv (.inl x :: st) ws := by
  obtain ⟨p, e, s, m, args, below, meth, c, Q, A, hx, hb, hml, hown, hts, hK, hA, hE, hEs, hin, hri, hrv, rfl⟩ := B
  intro H locs ls r1 r2 r3 r4 hP hD hS hl
  obtain ⟨rx, rr⟩ := List.forall_mem_cons.mp r2
  have rx : zR x := rx
  refine lv_if_gt (x := iZ x) hx hb hd ht (fun q => ?_) (fun q => ?_) <;> rw [← iZ_0] at q
  · exact kt ((iZ_lt zR_0 rx).mp q) H locs ls r1 rr r3 r4 hP hD hS hl
  · exact kf (fun z => q ((iZ_lt zR_0 rx).mpr z)) H locs ls r1 rr r3 r4 hP hD hS hl
theorem zB.if_le (B : zB l D k E cc own nL R mc ms rt ini a0 PR Z) {off : Int} {tgt : Nat} (hd : decode cc pc = .ok (.ifCond .le off, 3)) (ht : (pc : Int) + off = (tgt : Int)) (kt : x ≤ 0 → Z kc ks tgt lv st ws) (kf : ¬ x ≤ 0 → Z kc ks (pc + 3) lv st ws) : Z kc ks pc lv (.inl x :: st) ws := by
  obtain ⟨p, e, s, m, args, below, meth, c, Q, A, hx, hb, hml, hown, hts, hK, hA, hE, hEs, hin, hri, hrv, rfl⟩ := B
  intro H locs ls r1 r2 r3 r4 hP hD hS hl
  obtain ⟨rx, rr⟩ := List.forall_mem_cons.mp r2
  have rx : zR x := rx
  refine lv_if_le (x := iZ x) hx hb hd ht (fun q => ?_) (fun q => ?_) <;> rw [← iZ_0] at q
  · exact kt ((iZ_le rx zR_0).mp q) H locs ls r1 rr r3 r4 hP hD hS hl
  · exact kf (fun z => q ((iZ_le rx zR_0).mpr z)) H locs ls r1 rr r3 r4 hP hD hS hl
end ZB
end
section
section ZH
variable {l : Launch} {D : va_G} {k : zK} {E : zE} {cc : ByteArray} {own : String} {nL : Nat} {R : Room} {mc ms : Nat} {rt : Option FieldType} {ini : Prop} {a0 : List Nat} {PR : Int → zW → Prop} {Z : zP}
variable {kc ks pc : Nat} {lv : List (Option zV)} {st : List zV} {ws : zW} {x y : Int}
/-- ranges of what is held -/
theorem zB.rst (B : zB l D k E cc own nL R mc ms rt ini a0 PR Z) (h : zR x → Z kc ks pc lv (.inl x :: st) ws) : Z kc ks pc lv (.inl x :: st) ws := by
  obtain ⟨p, e, s, m, args, below, meth, c, Q, A, hx, hb, hml, hown, hts, hK, hA, hE, hEs, hin, hri, hrv, rfl⟩ := B
  intro H locs ls r1 r2 r3 r4 hP hD hS hl
  exact h (r2 _ List.mem_cons_self) H locs ls r1 r2 r3 r4 hP hD hS hl
theorem zB.rlv (B : zB l D k E cc own nL R mc ms rt ini a0 PR Z) (i : Nat) (hi : lv[i]? = some (some (.inl x))) (h : zR x → Z kc ks pc lv st ws) : Z kc ks pc lv st ws := by
  obtain ⟨p, e, s, m, args, below, meth, c, Q, A, hx, hb, hml, hown, hts, hK, hA, hE, hEs, hin, hri, hrv, rfl⟩ := B
  intro H locs ls r1 r2 r3 r4 hP hD hS hl
  exact h (r3 i _ hi) H locs ls r1 r2 r3 r4 hP hD hS hl
theorem zB.rws (B : zB l D k E cc own nL R mc ms rt ini a0 PR Z) (h : zWr ws → Z kc ks pc lv st ws) : Z kc ks pc lv st ws := by
  obtain ⟨p, e, s, m, args, below, meth, c, Q, A, hx, hb, hml, hown, hts, hK, hA, hE, hEs, hin, hri, hrv, rfl⟩ := B
  intro H locs ls r1 r2 r3 r4 hP hD hS hl
  exact h r1 H locs ls r1 r2 r3 r4 hP hD hS hl
/-- fewer cells counted is more -/
theorem zB.widen (B : zB l D k E cc own nL R mc ms rt ini a0 PR Z) {kc' ks' : Nat} (h1 : kc ≤ kc') (h2 : ks ≤ ks') (h : Z kc' ks' pc lv st ws) : Z kc ks pc lv st ws := by
  obtain ⟨p, e, s, m, args, below, meth, c, Q, A, hx, hb, hml, hown, hts, hK, hA, hE, hEs, hin, hri, hrv, rfl⟩ := B
  intro H locs ls r1 r2 r3 r4 hP hD hS hl
  exact W.widen h1 h2 (h H locs ls r1 r2 r3 r4 hP hD hS hl)
-- fields
theorem zB.getfield (B : zB l D k E cc own nL R mc ms rt ini a0 PR Z) {a index ci N : Nat} {C : String} {T : u_T} {fs : List zV} {v : zV} (i : Nat) (hi : ws[i]? = some (a, .inr (.inr (ci, fs)))) (hc : vwCl[ci]? = some (C, T, N)) (hin : ∀ w ∈ u_ws C T N, w ∈ zTs) (j : Nat) (hj : j < N) (hlink : Cond.fieldLink own index (T j).1 (T j).2.1 (T j).2.2.1 ∈ zTs) (hv : fs[j]? = some v) (hd : decode cc pc = .ok (.getfield index, 3))
    (h : Z kc ks (pc + 3) lv (v :: st) ws) : Z kc ks pc lv (.inr (some a) :: st) ws := by
  obtain ⟨p, e, s, m, args, below, meth, c, Q, A, hx, hb, hml, hown, hts, hK, hA, hE, hEs, hin0, hri, hrv, rfl⟩ := B
  intro H locs ls r1 r2 r3 r4 hP hD hS hl
  refine va_get (D := D) (v := zv v) hx hb hts hin hown hK hP i (zw_at hi) hc j hj (hts _ hlink) (fun _ q => q) (by rw [List.getElem?_map, hv]; rfl) hd ?_
  exact h H locs ls r1 (List.forall_mem_cons.mpr ⟨zWr_at r1 hi v (List.mem_of_getElem? hv), (List.forall_mem_cons.mp r2).2⟩) r3 r4 hP hD hS hl
theorem zCr_fs {ci j : Nat} {fs : List zV} {v : zV} (h : zCr (.inr (.inr (ci, fs)))) (hv : zVr v) : zCr (.inr (.inr (ci, fs.set j v))) := by
  intro q hq
  rcases List.mem_or_eq_of_mem_set hq with h1 | h1
  · exact h q h1
  · rw [h1]; exact hv
theorem zB.putfield (B : zB l D k E cc own nL R mc ms rt ini a0 PR Z) {a index ci N : Nat} {C : String} {T : u_T} {fs : List zV} {v : zV} (i : Nat) (hi : ws[i]? = some (a, .inr (.inr (ci, fs)))) (hc : vwCl[ci]? = some (C, T, N)) (hin : ∀ w ∈ u_ws C T N, w ∈ zTs) (ty0 : Nat → FieldType) (hty : ∀ k, k < N → parseFieldDescriptor (T k).2.2.1 = some (ty0 k)) (hnm : ∀ a, a < N → ∀ b, b < N → a ≠ b → (T a).2.1 ≠ (T b).2.1) (j : Nat) (hj : j < N) (hlink : Cond.fieldLink own index (T j).1 (T j).2.1 (T j).2.2.1 ∈ zTs) (hf : (T j).2.2.2 = false) (hn : narrow (ty0 j) (zv v) = zv v) (hfit : fits (ty0 j) (zv v) = true) (hl0 : j < fs.length) (hd : decode cc pc = .ok (.putfield index, 3))
    (h : Z kc ks (pc + 3) lv st (ws.set i (a, .inr (.inr (ci, fs.set j v))))) : Z kc ks pc lv (v :: .inr (some a) :: st) ws := by
  obtain ⟨p, e, s, m, args, below, meth, c, Q, A, hx, hb, hml, hown, hts, hK, hA, hE, hEs, hin0, hri, hrv, rfl⟩ := B
  intro H locs ls r1 r2 r3 r4 hP hD hS hl
  obtain ⟨rv, rr⟩ := List.forall_mem_cons.mp r2
  refine va_put (D := D) (v := zv v) hx hb hts hin ty0 hty hnm hown hK hP hD hS i (zw_at hi) hc j hj (hts _ hlink) (fun _ q => q) hf (hty j hj) hn hfit (by rw [List.length_map]; exact hl0) hd (fun H1 locs1 hP1 hD1 hS1 => ?_)
  have e2 : (zw k ws).set i (a, .inr (ci, (fs.map zv).set j (zv v))) = zw k (ws.set i (a, .inr (.inr (ci, fs.set j v)))) := by
    rw [← zw_set]; simp [zc, List.map_set]
  rw [e2] at hP1 hD1
  exact h H1 locs1 ls (zWr_set r1 (zCr_fs (zWr_at r1 hi) rv)) (List.forall_mem_cons.mp rr).2 r3 (by rw [zfst_set hi]; exact r4) hP1 hD1 hS1 hl
theorem zB.putfieldF (B : zB l D k E cc own nL R mc ms rt ini a0 PR Z) (hini : ini) {a index ci N : Nat} {C : String} {T : u_T} {fs : List zV} {v : zV} (i : Nat) (hi : ws[i]? = some (a, .inr (.inr (ci, fs)))) (hc : vwCl[ci]? = some (C, T, N)) (hin : ∀ w ∈ u_ws C T N, w ∈ zTs) (ty0 : Nat → FieldType) (hty : ∀ k, k < N → parseFieldDescriptor (T k).2.2.1 = some (ty0 k)) (hnm : ∀ a, a < N → ∀ b, b < N → a ≠ b → (T a).2.1 ≠ (T b).2.1) (j : Nat) (hj : j < N) (hlink : Cond.fieldLink own index (T j).1 (T j).2.1 (T j).2.2.1 ∈ zTs) (hf : (T j).2.2.2 = true) (hdecl : (T j).1 = own) (hn : narrow (ty0 j) (zv v) = zv v) (hfit : fits (ty0 j) (zv v) = true) (hl0 : j < fs.length) (hd : decode cc pc = .ok (.putfield index, 3))
    (h : Z kc ks (pc + 3) lv st (ws.set i (a, .inr (.inr (ci, fs.set j v))))) : Z kc ks pc lv (v :: .inr (some a) :: st) ws := by
  obtain ⟨p, e, s, m, args, below, meth, c, Q, A, hx, hb, hml, hown, hts, hK, hA, hE, hEs, hin0, hri, hrv, rfl⟩ := B
  intro H locs ls r1 r2 r3 r4 hP hD hS hl
  obtain ⟨rv, rr⟩ := List.forall_mem_cons.mp r2
  refine va_putF (D := D) (v := zv v) hx hb hts hin ty0 hty hnm hown hK hP hD hS i (zw_at hi) hc j hj (hts _ hlink) (fun _ q => q) hf (hin0 hini) hdecl (hty j hj) hn hfit (by rw [List.length_map]; exact hl0) hd (fun H1 locs1 hP1 hD1 hS1 => ?_)
  have e2 : (zw k ws).set i (a, .inr (ci, (fs.map zv).set j (zv v))) = zw k (ws.set i (a, .inr (.inr (ci, fs.set j v)))) := by
    rw [← zw_set]; simp [zc, List.map_set]
  rw [e2] at hP1 hD1
  exact h H1 locs1 ls (zWr_set r1 (zCr_fs (zWr_at r1 hi) rv)) (List.forall_mem_cons.mp rr).2 r3 (by rw [zfst_set hi]; exact r4) hP1 hD1 hS1 hl
-- arrays of ints
theorem zB.iaload (B : zB l D k E cc own nL R mc ms rt ini a0 PR Z) {a n : Nat} {g : Nat → Int} (i : Nat) (hi : ws[i]? = some (a, .inl (false, n, g))) (h0 : 0 ≤ x) (h1 : x < n) (hd : decode cc pc = .ok (.iaload, 1))
    (h : zR (g x.toNat) → Z kc ks (pc + 1) lv (.inl (g x.toNat) :: st) ws) : Z kc ks pc lv (.inl x :: .inr (some a) :: st) ws := by
  obtain ⟨p, e, s, m, args, below, meth, c, Q, A, hx, hb, hml, hown, hts, hK, hA, hE, hEs, hin0, hri, hrv, rfl⟩ := B
  intro H locs ls r1 r2 r3 r4 hP hD hS hl
  obtain ⟨rx, rr⟩ := List.forall_mem_cons.mp r2
  have rx : zR x := rx
  refine va_iald (D := D) hx hb hK hP i 0 (zw_at hi) rfl (iZ_in rx h0 h1) hd ?_
  rw [iZ_nat rx h0]
  have hg := zWr_at r1 hi x.toNat
  exact h hg H locs ls r1 (List.forall_mem_cons.mpr ⟨hg, (List.forall_mem_cons.mp rr).2⟩) r3 r4 hP hD hS hl
theorem zB.baload (B : zB l D k E cc own nL R mc ms rt ini a0 PR Z) {a n : Nat} {g : Nat → Int} (i : Nat) (hi : ws[i]? = some (a, .inl (true, n, g))) (h0 : 0 ≤ x) (h1 : x < n) (hd : decode cc pc = .ok (.baload, 1))
    (h : zR (g x.toNat) → Z kc ks (pc + 1) lv (.inl (g x.toNat) :: st) ws) : Z kc ks pc lv (.inl x :: .inr (some a) :: st) ws := by
  obtain ⟨p, e, s, m, args, below, meth, c, Q, A, hx, hb, hml, hown, hts, hK, hA, hE, hEs, hin0, hri, hrv, rfl⟩ := B
  intro H locs ls r1 r2 r3 r4 hP hD hS hl
  obtain ⟨rx, rr⟩ := List.forall_mem_cons.mp r2
  have rx : zR x := rx
  refine va_zald (D := D) hx hb hK hP i 1 (zw_at hi) rfl (iZ_in rx h0 h1) hd ?_
  rw [iZ_nat rx h0]
  have hg := zWr_at r1 hi x.toNat
  exact h hg H locs ls r1 (List.forall_mem_cons.mpr ⟨hg, (List.forall_mem_cons.mp rr).2⟩) r3 r4 hP hD hS hl
theorem zB.iastore (B : zB l D k E cc own nL R mc ms rt ini a0 PR Z) {a n : Nat} {g : Nat → Int} (i : Nat) (hi : ws[i]? = some (a, .inl (false, n, g))) (h0 : 0 ≤ x) (h1 : x < n) (hd : decode cc pc = .ok (.iastore, 1))
    (h : Z kc ks (pc + 1) lv st (ws.set i (a, .inl (false, n, zup g x.toNat y)))) : Z kc ks pc lv (.inl y :: .inl x :: .inr (some a) :: st) ws := by
  obtain ⟨p, e, s, m, args, below, meth, c, Q, A, hx, hb, hml, hown, hts, hK, hA, hE, hEs, hin0, hri, hrv, rfl⟩ := B
  intro H locs ls r1 r2 r3 r4 hP hD hS hl
  obtain ⟨ry, rr⟩ := List.forall_mem_cons.mp r2
  obtain ⟨rx, rr⟩ := List.forall_mem_cons.mp rr
  have rx : zR x := rx
  refine va_iast (D := D) hx hb hK hP hD hS i 0 (zw_at hi) rfl (iZ_in rx h0 h1) hd (fun H1 locs1 hP1 hD1 hS1 => ?_)
  rw [iZ_nat rx h0, iZ_upd] at hP1 hD1
  have e2 : (zw k ws).set i (a, zc k (.inl (false, n, zup g x.toNat y))) = zw k (ws.set i (a, .inl (false, n, zup g x.toNat y))) := zw_set
  exact h H1 locs1 ls (zWr_set r1 (zup_r (zWr_at r1 hi) ry)) (List.forall_mem_cons.mp rr).2 r3 (by rw [zfst_set hi]; exact r4) (by rw [← e2]; exact hP1) (by rw [← e2]; exact hD1) hS1 hl
theorem zB.bastore (B : zB l D k E cc own nL R mc ms rt ini a0 PR Z) {a n : Nat} {g : Nat → Int} (i : Nat) (hi : ws[i]? = some (a, .inl (true, n, g))) (h0 : 0 ≤ x) (h1 : x < n) (hy : vp_nar .boolean (iZ y) = iZ y) (hd : decode cc pc = .ok (.bastore, 1))
    (h : Z kc ks (pc + 1) lv st (ws.set i (a, .inl (true, n, zup g x.toNat y)))) : Z kc ks pc lv (.inl y :: .inl x :: .inr (some a) :: st) ws := by
  obtain ⟨p, e, s, m, args, below, meth, c, Q, A, hx, hb, hml, hown, hts, hK, hA, hE, hEs, hin0, hri, hrv, rfl⟩ := B
  intro H locs ls r1 r2 r3 r4 hP hD hS hl
  obtain ⟨ry, rr⟩ := List.forall_mem_cons.mp r2
  obtain ⟨rx, rr⟩ := List.forall_mem_cons.mp rr
  have rx : zR x := rx
  refine va_zast (D := D) hx hb hK hP hD hS i 1 (zw_at hi) rfl (iZ_in rx h0 h1) hd (fun H1 locs1 hP1 hD1 hS1 => ?_)
  rw [iZ_nat rx h0, hy, iZ_upd] at hP1 hD1
  have e2 : (zw k ws).set i (a, zc k (.inl (true, n, zup g x.toNat y))) = zw k (ws.set i (a, .inl (true, n, zup g x.toNat y))) := zw_set
  exact h H1 locs1 ls (zWr_set r1 (zup_r (zWr_at r1 hi) ry)) (List.forall_mem_cons.mp rr).2 r3 (by rw [zfst_set hi]; exact r4) (by rw [← e2]; exact hP1) (by rw [← e2]; exact hD1) hS1 hl
theorem zB.arraylength (B : zB l D k E cc own nL R mc ms rt ini a0 PR Z) {a n : Nat} {g : Nat → Int} (i : Nat) (hi : ws[i]? = some (a, .inl (false, n, g))) (hn : n ≤ 2147483647) (hd : decode cc pc = .ok (.arraylength, 1))
    (h : Z kc ks (pc + 1) lv (.inl (n : Int) :: st) ws) : Z kc ks pc lv (.inr (some a) :: st) ws := by
  obtain ⟨p, e, s, m, args, below, meth, c, Q, A, hx, hb, hml, hown, hts, hK, hA, hE, hEs, hin0, hri, hrv, rfl⟩ := B
  intro H locs ls r1 r2 r3 r4 hP hD hS hl
  exact va_alen (D := D) (v := iZ n) hx hb hK hP i 0 (zw_at hi) (ty := .int) rfl Int32.ofInt_eq_ofNat.symm hd (h H locs ls r1 (List.forall_mem_cons.mpr ⟨(⟨by omega, by omega⟩ : zR n), (List.forall_mem_cons.mp r2).2⟩) r3 r4 hP hD hS hl)
-- returns
theorem zB.ireturn (B : zB l D k E cc own nL R mc ms rt ini a0 PR Z) (hrt : rt ≠ none) (hd : decode cc pc = .ok (.ireturn, 1)) (h1 : kc ≤ mc) (h2 : ks ≤ ms) (h : zR x → zWr ws → PR x ws) : Z kc ks pc lv [.inl x] ws := by
  obtain ⟨p, e, s, m, args, below, meth, c, Q, A, hx, hb, hml, hown, hts, hK, hA, hE, hEs, hin0, hri, hrv, rfl⟩ := B
  intro H locs ls r1 r2 r3 r4 hP hD hS hl
  have rx := r2 _ List.mem_cons_self
  exact W.widen h1 h2 (hri H locs ls pc x ws hrt hd rx r1 r4 (h rx r1) hP hD hS)
theorem zB.vreturn (B : zB l D k E cc own nL R mc ms rt ini a0 PR Z) (hrt : rt = none) (hd : decode cc pc = .ok (.return_, 1)) (h1 : kc ≤ mc) (h2 : ks ≤ ms) (h : zWr ws → PR 0 ws) : Z kc ks pc lv [] ws := by
  obtain ⟨p, e, s, m, args, below, meth, c, Q, A, hx, hb, hml, hown, hts, hK, hA, hE, hEs, hin0, hri, hrv, rfl⟩ := B
  intro H locs ls r1 r2 r3 r4 hP hD hS hl
  exact W.widen h1 h2 (hrv H locs ls pc ws hrt hd r1 r4 (h r1) hP hD hS)
end ZH
end
section
/-! CONTRACTS over plain worlds, how a walk gives one, how a call takes one -/
def zPre (D : va_G) (k : zK) (E : zE) (av : List zV) (wc : zW) (sz : Nat) : Array Value → State → Prop := va_Pc (av.map zv) (fun U => U.heap.size = sz ∧ va_P D vwCl (zw k wc) U.heap ∧ va_K D vwCl (zty k) U ∧ va_D (fun _ => True) (zw k wc) ∧ E (va_A (zw k wc) sz) U U.heap)
def zQi (D : va_G) (k : zK) (wc : zW) (sz : Nat) (Po : Int → zW → Prop) : Array Value → State → Outcome → State → Prop := va_Qi (fun (r : Int32) (u : zW) => ∃ z : Int, r = iZ z ∧ zR z ∧ zWr u ∧ wc.map Prod.fst <+: u.map Prod.fst ∧ Po z u) (fun u t => va_P D vwCl (zw k u) t.heap ∧ va_D (va_A (zw k wc) sz) (zw k u)) (va_A (zw k wc) sz)
def zQv (D : va_G) (k : zK) (wc : zW) (sz : Nat) (Po : Int → zW → Prop) : Array Value → State → Outcome → State → Prop := va_Qv (fun (u : zW) => zWr u ∧ wc.map Prod.fst <+: u.map Prod.fst ∧ Po 0 u) (fun u t => va_P D vwCl (zw k u) t.heap ∧ va_D (va_A (zw k wc) sz) (zw k u)) (va_A (zw k wc) sz)
/-- a method that answers an int (a boolean): Pre of arguments and cells, Post of arguments, cells, answer, cells behind it -/
def zMi (l : Launch) (D : va_G) (k : zK) (E : zE) (y : MethodName) (b : ByteArray) (n : Nat) (rt : FieldType) (rm : Room) (mc ms : Nat) (av : List zV) (wc : zW) (P : Prop) (Po : Int → zW → Prop) : Prop :=
  ∀ (sz : Nat), zWr wc → (∀ v ∈ av, zVr v) → P → Met l y (Cond.code y b n (some rt) :: zTs) rm (zPre D k E av wc sz) (zQi D k wc sz Po) mc ms (va_A (zw k wc) sz)
def zMv (l : Launch) (D : va_G) (k : zK) (E : zE) (y : MethodName) (b : ByteArray) (n : Nat) (rm : Room) (mc ms : Nat) (av : List zV) (wc : zW) (P : Prop) (Po : Int → zW → Prop) : Prop :=
  ∀ (sz : Nat), zWr wc → (∀ v ∈ av, zVr v) → P → Met l y (Cond.code y b n none :: zTs) rm (zPre D k E av wc sz) (zQv D k wc sz Po) mc ms (va_A (zw k wc) sz)
/-- locals at the entry -/
def zlv (n : Nat) (av : List zV) : List (Option zV) := av.map some ++ List.replicate (n - av.length) none
theorem zsl_len (av : List zV) : (lg_sl (av.map zv)).length = av.length := by
  induction av with
  | nil => rfl
  | cons v av ih =>
    have h : ¬ (zv v).category = 2 := by rw [zcat]; decide
    simp only [lg_sl, List.map_cons, List.flatMap_cons, if_neg h, List.length_append, List.length_cons, List.length_nil] at ih ⊢
    omega
theorem zargs_mem (av : List zV) : ∀ (j i : Nat) (v : zV), av[i]? = some v → (j + i, zv v) ∈ lv_args j (av.map zv) := by
  induction av with
  | nil => intro j i v h; simp at h
  | cons w av ih =>
    intro j i v h
    have hc : ¬ (zv w).category = 2 := by rw [zcat]; decide
    simp only [List.map_cons, lv_args, if_neg hc]
    cases i with
    | zero =>
      simp at h
      subst h
      exact List.mem_cons_self
    | succ i =>
      simp at h
      have := ih (j + 1) i v h
      rw [show j + (i + 1) = j + 1 + i by omega]
      exact List.mem_cons_of_mem _ this
theorem zargs_cat (av : List zV) : ∀ (j : Nat), ∀ q ∈ lv_args j (av.map zv), q.2.category = 1 := by
  induction av with
  | nil => intro j q h; simp [lv_args] at h
  | cons w av ih =>
    intro j q h
    have hc : ¬ (zv w).category = 2 := by rw [zcat]; decide
    simp only [List.map_cons, lv_args, if_neg hc] at h
    rcases List.mem_cons.mp h with rfl | h
    · exact zcat w
    · exact ih _ q h
theorem zlv_at {n i : Nat} {av : List zV} {v : zV} (h : (zlv n av)[i]? = some (some v)) : av[i]? = some v := by
  unfold zlv at h
  by_cases hi : i < av.length
  · rw [List.getElem?_append_left (by simpa using hi), List.getElem?_map] at h
    cases hv : av[i]? with
    | none => rw [hv] at h; cases h
    | some w => rw [hv] at h; simp at h; rw [h]
  · rw [List.getElem?_append_right (by simpa using hi), List.getElem?_replicate] at h
    split at h <;> simp at h
theorem zL_entry {n : Nat} (av : List zV) (h : av.length ≤ n) : zL ((lg_sl (av.map zv) ++ List.replicate (n - (lg_sl (av.map zv)).length) Slot.unset).toArray) n (zlv n av) := by
  refine ⟨lv_args 0 (av.map zv), lv_entry (av.map zv) (by rw [zsl_len]; exact h), zargs_cat av 0, fun i v hi => ?_⟩
  have := zargs_mem av 0 i v (zlv_at hi)
  rwa [Nat.zero_add] at this
theorem zMi.of {l : Launch} {D : va_G} {k : zK} {E : zE} {y : MethodName} {b : ByteArray} {n : Nat} {rt : FieldType} {rm : Room} {mc ms : Nat} {av : List zV} {wc : zW} {P : Prop} {Po : Int → zW → Prop} (own : String) (hE : zEok E) (hy : plainName y.cls = true) (ho : y.cls = own)
    (hlen : av.length ≤ n) (hnar : ∀ z u, P → Po z u → narrow rt (.int (iZ z)) = .int (iZ z))
    (walk : ∀ Z, P → (∀ v ∈ av, zVr v) → zWr wc → zB l D k E b own n rm mc ms (some rt) False (wc.map Prod.fst) Po Z → Z 0 0 0 (zlv n av) [] wc) : zMi l D k E y b n rt rm mc ms av wc P Po := by
  intro sz hr hav hpre
  refine Met.ofW (cc := b) (maxL := n) (ret := some rt) hy rfl ?_
  intro p e s m args below meth c s₁ Bd hml hv
  obtain ⟨rfl, hsz, hP, hK, hD0, hEs⟩ := hv
  have hx := Bd.exec
  have hb := Bd.bytes
  have hrt := Bd.returns
  have hts0 := atoms_spec (ws := Cond.code y b n (some rt) :: zTs) Bd.pre
  have hown : s.vm.findClass own = some m.cls := ho ▸ findClass_of_methodNamed Bd.named
  have hlocks := Bd.notSynchronized
  subst hsz
  have hD := hD0.self (sz := s.heap.size)
  rw [lg_entry_eq]
  refine walk (zS p l e rm s m (av.map zv).toArray below meth c (MQ below (zQi D k wc s.heap.size Po) (av.map zv).toArray s mc ms (va_A (zw k wc) s.heap.size)) (va_A (zw k wc) s.heap.size) D k n (wc.map Prod.fst)) hpre hav hr
    ⟨p, e, s, m, (av.map zv).toArray, below, meth, c, (MQ below (zQi D k wc s.heap.size Po) (av.map zv).toArray s mc ms (va_A (zw k wc) s.heap.size)), va_A (zw k wc) s.heap.size, hx, hb, hml, hown, fun w hw => hts0 w (List.mem_cons_of_mem _ hw), hK, fun q h => Or.inr h, hE, hEs, fun h => h.elim, ?_, fun _ _ _ _ _ h => absurd h (Option.some_ne_none _), rfl⟩ s.heap [] _ hr (fun _ h => by cases h) (fun i v hi => hav v (List.mem_of_getElem? (zlv_at hi))) (List.prefix_refl _) hP hD va_S.rf (zL_entry av hlen)
  intro H locs ls pc z ws _ hd rz rw0 ra hPR hP1 hD1 hS1
  exact W.zret (v := iZ z) hx hb hrt (hnar z ws hpre hPR) (fun t ht hW => ⟨⟨iZ z, ws, rfl, ⟨z, rfl, rz, rw0, ra, hPR⟩, by rw [ht]; exact hP1, hD1⟩, hS1.F ht⟩) hS1.2.2 hd
theorem zMv.of {l : Launch} {D : va_G} {k : zK} {E : zE} {y : MethodName} {b : ByteArray} {n : Nat} {rm : Room} {mc ms : Nat} {av : List zV} {wc : zW} {P : Prop} {Po : Int → zW → Prop} (own : String) (hE : zEok E) (hy : plainName y.cls = true) (ho : y.cls = own)
    (hlen : av.length ≤ n)
    (walk : ∀ Z, P → (∀ v ∈ av, zVr v) → zWr wc → zB l D k E b own n rm mc ms none (y.name = "<init>") (wc.map Prod.fst) Po Z → Z 0 0 0 (zlv n av) [] wc) : zMv l D k E y b n rm mc ms av wc P Po := by
  intro sz hr hav hpre
  refine Met.ofW (cc := b) (maxL := n) (ret := none) hy rfl ?_
  intro p e s m args below meth c s₁ Bd hml hv
  obtain ⟨rfl, hsz, hP, hK, hD0, hEs⟩ := hv
  have hx := Bd.exec
  have hb := Bd.bytes
  have hrt := Bd.returns
  have hts0 := atoms_spec (ws := Cond.code y b n none :: zTs) Bd.pre
  have hown : s.vm.findClass own = some m.cls := ho ▸ findClass_of_methodNamed Bd.named
  have hlocks := Bd.notSynchronized
  subst hsz
  have hD := hD0.self (sz := s.heap.size)
  rw [lg_entry_eq]
  refine walk (zS p l e rm s m (av.map zv).toArray below meth c (MQ below (zQv D k wc s.heap.size Po) (av.map zv).toArray s mc ms (va_A (zw k wc) s.heap.size)) (va_A (zw k wc) s.heap.size) D k n (wc.map Prod.fst)) hpre hav hr
    ⟨p, e, s, m, (av.map zv).toArray, below, meth, c, (MQ below (zQv D k wc s.heap.size Po) (av.map zv).toArray s mc ms (va_A (zw k wc) s.heap.size)), va_A (zw k wc) s.heap.size, hx, hb, hml, hown, fun w hw => hts0 w (List.mem_cons_of_mem _ hw), hK, fun q h => Or.inr h, hE, hEs, fun h => (name_of_methodNamed Bd.named Bd.method).1.trans h, fun _ _ _ _ _ _ h => absurd rfl h, ?_, rfl⟩ s.heap [] _ hr (fun _ h => by cases h) (fun i v hi => hav v (List.mem_of_getElem? (zlv_at hi))) (List.prefix_refl _) hP hD va_S.rf (zL_entry av hlen)
  intro H locs ls pc ws _ hd rw0 ra hPR hP1 hD1 hS1
  exact W.vret hx hb hrt (fun t ht hW => ⟨⟨ws, rfl, ⟨rw0, ra, hPR⟩, by rw [ht]; exact hP1, hD1⟩, hS1.F ht⟩) hS1.2.2 hd
-- what a call leaves
theorem zput_len : ∀ (is : List Nat) (ws u : zW), is.length ≤ u.length → (zput ws is u).length = ws.length + (u.length - is.length)
  | [], ws, u, _ => by simp [zput]
  | i :: is, ws, [], h => by simp at h
  | i :: is, ws, c :: u, h => by
    rw [zput, zput_len is (ws.set i c) u (by simpa using h)]
    simp
theorem zput_out : ∀ (is : List Nat) (ws u : zW) (j : Nat), j < ws.length → j ∉ is → (zput ws is u)[j]? = ws[j]?
  | [], ws, u, j, hj, _ => by rw [zput, List.getElem?_append_left hj]
  | i :: is, ws, [], j, hj, _ => by rw [zput]
  | i :: is, ws, c :: u, j, hj, hn => by
    rw [zput, zput_out is (ws.set i c) u j (by simpa using hj) (fun h => hn (List.mem_cons_of_mem _ h))]
    exact List.getElem?_set_ne (fun h => hn (by rw [h]; exact List.mem_cons_self))
theorem zput_in : ∀ (is : List Nat) (ws u : zW) (r i : Nat), va_nd is = true → is.length ≤ u.length → is[r]? = some i → i < ws.length → (zput ws is u)[i]? = u[r]?
  | [], ws, u, r, i, _, _, h, _ => by simp at h
  | j :: is, ws, [], r, i, _, h, _, _ => by simp at h
  | j :: is, ws, c :: u, r, i, hn, hl, h, hi => by
    simp only [va_nd, Bool.and_eq_true, decide_eq_true_eq] at hn
    rw [zput]
    cases r with
    | zero =>
      simp at h
      subst h
      rw [zput_out is (ws.set j c) u j (by simpa using hi) hn.1]
      simp [hi]
    | succ r =>
      simp at h
      rw [zput_in is (ws.set j c) u r i hn.2 (by simpa using hl) h (by simpa using hi)]
      simp
theorem zput_new : ∀ (is : List Nat) (ws u : zW) (j : Nat), is.length ≤ u.length → (zput ws is u)[ws.length + j]? = u[is.length + j]?
  | [], ws, u, j, _ => by rw [zput, List.getElem?_append_right (by omega)]; simp
  | i :: is, ws, [], j, h => by simp at h
  | i :: is, ws, c :: u, j, h => by
    have := zput_new is (ws.set i c) u j (by simpa using h)
    rw [List.length_set] at this
    rw [zput, this, List.length_cons, show is.length + 1 + j = (is.length + j) + 1 by omega]
    simp
end
section
theorem zw_get {k : zK} {ws : zW} {i : Nat} {q : Nat × va_E} (h : (zw k ws)[i]? = some q) : ∃ x : zC, ws[i]? = some (q.1, x) ∧ q.2 = zc k x := by
  rw [zw, List.getElem?_map] at h
  cases hw : ws[i]? with
  | none => rw [hw] at h; cases h
  | some r =>
    rw [hw] at h
    simp at h
    subst h
    exact ⟨r.2, rfl, rfl⟩
theorem zsub_at {ws wc : zW} {is : List Nat} (h : is.map (fun i => ws[i]?) = wc.map some) {r : Nat} {q : Nat × zC} (hr : wc[r]? = some q) : ∃ i, is[r]? = some i ∧ ws[i]? = some q := by
  have h1 : (is.map (fun i => ws[i]?))[r]? = some (some q) := by rw [h, List.getElem?_map, hr]; rfl
  rw [List.getElem?_map] at h1
  cases hi : is[r]? with
  | none => rw [hi] at h1; cases h1
  | some i => rw [hi] at h1; exact ⟨i, rfl, Option.some.inj h1⟩
theorem zsub_len {ws wc : zW} {is : List Nat} (h : is.map (fun i => ws[i]?) = wc.map some) : is.length = wc.length := by
  have := congrArg List.length h
  simpa using this
theorem zsub_zw {k : zK} {ws wc : zW} {is : List Nat} (h : is.map (fun i => ws[i]?) = wc.map some) : is.map (fun i => (zw k ws)[i]?) = (zw k wc).map some := by
  have e : ∀ i : Nat, (zw k ws)[i]? = (ws[i]?).map (fun q : Nat × zC => (q.1, zc k q.2)) := fun i => by rw [zw, List.getElem?_map]
  have h2 := congrArg (List.map (Option.map (fun q : Nat × zC => (q.1, zc k q.2)))) h
  simp only [List.map_map] at h2
  have e1 : is.map (fun i => (zw k ws)[i]?) = is.map (Option.map (fun q : Nat × zC => (q.1, zc k q.2)) ∘ fun i => ws[i]?) := List.map_congr_left (fun i _ => e i)
  rw [e1, h2]
  simp [zw, Function.comp_def]
theorem zjoin {A : Nat → Prop} {D : va_G} {k : zK} {ws wc u : zW} {H H1 : Heap} {is : List Nat} (hP : va_P D vwCl (zw k ws) H) (hD : va_D A (zw k ws)) (hsub : is.map (fun i => ws[i]?) = wc.map some) (hnd : va_nd is = true)
    (hk : ∀ q : Nat, q < H.size → ¬ va_A (zw k wc) H.size q → H1[q]? = H[q]?) (hF : ∀ q, va_A (zw k wc) H.size q → A q) (hP1 : va_P D vwCl (zw k u) H1) (hD1 : va_D (va_A (zw k wc) H.size) (zw k u)) (ha : wc.map Prod.fst <+: u.map Prod.fst) :
    va_P D vwCl (zw k (zput ws is u)) H1 ∧ va_D A (zw k (zput ws is u)) ∧ (zput ws is u).map Prod.fst = ws.map Prod.fst ++ (u.map Prod.fst).drop is.length := by
  have hlen : is.length = wc.length := zsub_len hsub
  have hlu : is.length ≤ u.length := by
    have := ha.length_le
    simp at this
    omega
  -- the address of u's r-th is wc's
  have hadr : ∀ (r : Nat) (q : Nat × zC), wc[r]? = some q → ∃ x, u[r]? = some (q.1, x) := by
    intro r q hr
    obtain ⟨t, ht⟩ := ha
    have h1 : (u.map Prod.fst)[r]? = some q.1 := by
      rw [← ht, List.getElem?_append_left (by have := (List.getElem?_eq_some_iff.mp hr).1; simpa using this), List.getElem?_map, hr]; rfl
    rw [List.getElem?_map] at h1
    cases hu : u[r]? with
    | none => rw [hu] at h1; cases h1
    | some p => rw [hu] at h1; simp at h1; exact ⟨p.2, by rw [← h1]⟩
  -- which entries there are
  have key : ∀ (j a : Nat) (x : zC), (zput ws is u)[j]? = some (a, x) → (∃ r : Nat, is[r]? = some j ∧ u[r]? = some (a, x) ∧ ∃ y : zC, ws[j]? = some (a, y)) ∨ (j ∉ is ∧ ws[j]? = some (a, x)) ∨ (ws.length ≤ j ∧ u[is.length + (j - ws.length)]? = some (a, x)) := by
    intro j a x hj
    by_cases hlt : j < ws.length
    · by_cases hin : j ∈ is
      · obtain ⟨r, hr⟩ := List.getElem?_of_mem hin
        have h1 := zput_in is ws u r j hnd hlu hr hlt
        rw [hj] at h1
        have hrl : r < wc.length := by rw [← hlen]; exact (List.getElem?_eq_some_iff.mp hr).1
        obtain ⟨i, hi, hwi⟩ := zsub_at hsub (List.getElem?_eq_getElem hrl)
        rw [hr] at hi
        cases hi
        obtain ⟨x', hx'⟩ := hadr r _ (List.getElem?_eq_getElem hrl)
        rw [← h1] at hx'
        simp at hx'
        exact Or.inl ⟨r, hr, h1.symm, _, by rw [hwi, hx'.1]⟩
      · rw [zput_out is ws u j hlt hin] at hj
        exact Or.inr (Or.inl ⟨hin, hj⟩)
    · have h1 := zput_new is ws u (j - ws.length) hlu
      rw [show ws.length + (j - ws.length) = j by omega, hj] at h1
      exact Or.inr (Or.inr ⟨by omega, h1.symm⟩)
  -- an old entry that isn't the callee's
  have old : ∀ (j a : Nat) (x : zC), j ∉ is → ws[j]? = some (a, x) → a < H.size ∧ ¬ va_A (zw k wc) H.size a := by
    intro j a x hin hj
    have hl := (hP j _ (zw_at hj)).lt
    refine ⟨hl, fun h => ?_⟩
    rcases h with ⟨r, e, h⟩ | h
    · obtain ⟨y, hy, -⟩ := zw_get h
      obtain ⟨i, hi, hwi⟩ := zsub_at hsub hy
      have := hD.1 j i _ _ (zw_at hj) (zw_at hwi) rfl
      subst this
      exact hin (List.mem_of_getElem? hi)
    · exact absurd h (by have : a < H.size := hl; omega)
  refine ⟨?_, ⟨?_, ?_⟩, ?_⟩
  · intro j q hq
    obtain ⟨x, hx, he⟩ := zw_get hq
    obtain ⟨a, e⟩ := q
    simp only at hx he
    subst he
    rcases key j a x hx with ⟨r, -, hu, -⟩ | ⟨hin, hw⟩ | ⟨-, hu⟩
    · exact hP1 r _ (zw_at hu)
    · obtain ⟨h1, h2⟩ := old j a x hin hw
      exact (hP j _ (zw_at hw)).kept (hk a h1 h2)
    · exact hP1 _ _ (zw_at hu)
  · intro i j p q hi hj hpq
    obtain ⟨x, hx, -⟩ := zw_get hi
    obtain ⟨y, hy, -⟩ := zw_get hj
    rw [hpq] at hx
    rcases key i _ x hx with ⟨r, hr, hu, y1, hw⟩ | ⟨hin, hw⟩ | ⟨hge, hu⟩ <;> rcases key j _ y hy with ⟨r', hr', hu', y1', hw'⟩ | ⟨hin', hw'⟩ | ⟨hge', hu'⟩
    · exact hD.1 i j _ _ (zw_at hw) (zw_at hw') rfl
    · exact hD.1 i j _ _ (zw_at hw) (zw_at hw') rfl
    · have := hD1.1 _ _ _ _ (zw_at hu) (zw_at hu') rfl
      have := (List.getElem?_eq_some_iff.mp hr).1
      omega
    · exact hD.1 i j _ _ (zw_at hw) (zw_at hw') rfl
    · exact hD.1 i j _ _ (zw_at hw) (zw_at hw') rfl
    · exact absurd (hD1.2 _ _ (zw_at hu')) (old i _ x hin hw).2
    · have := hD1.1 _ _ _ _ (zw_at hu) (zw_at hu') rfl
      have := (List.getElem?_eq_some_iff.mp hr').1
      omega
    · exact absurd (hD1.2 _ _ (zw_at hu)) (old j _ y hin' hw').2
    · have := hD1.1 _ _ _ _ (zw_at hu) (zw_at hu') rfl
      omega
  · intro j q hq
    obtain ⟨x, hx, -⟩ := zw_get hq
    rcases key j _ x hx with ⟨r, -, -, y, hw⟩ | ⟨-, hw⟩ | ⟨-, hu⟩
    · have := hD.2 j _ (zw_at (k := k) hw); exact this
    · have := hD.2 j _ (zw_at (k := k) hw); exact this
    · have := hF _ (hD1.2 _ _ (zw_at (k := k) hu)); exact this
  · apply List.ext_getElem?
    intro j
    rw [List.getElem?_map]
    by_cases hlt : j < ws.length
    · rw [List.getElem?_append_left (by simpa using hlt), List.getElem?_map]
      have hl2 : j < (zput ws is u).length := by rw [zput_len is ws u hlu]; omega
      rw [List.getElem?_eq_getElem hl2]
      rcases key j _ _ (List.getElem?_eq_getElem hl2) with ⟨r, -, -, y, hw⟩ | ⟨-, hw⟩ | ⟨hge, -⟩
      · rw [hw]; rfl
      · rw [hw]; rfl
      · omega
    · have h1 := zput_new is ws u (j - ws.length) hlu
      rw [show ws.length + (j - ws.length) = j by omega] at h1
      rw [h1, List.getElem?_append_right (by simpa using hlt), List.getElem?_drop, List.getElem?_map]
      simp
theorem zput_r : ∀ (is : List Nat) (ws u : zW), zWr ws → zWr u → zWr (zput ws is u)
  | [], ws, u, h1, h2 => fun q hq => by
    rw [zput] at hq
    exact (List.mem_append.mp hq).elim (h1 q) (h2 q)
  | i :: is, ws, [], h1, h2 => by rw [zput]; exact h1
  | i :: is, ws, c :: u, h1, h2 => by
    rw [zput]
    refine zput_r is (ws.set i c) u ?_ (fun q hq => h2 q (List.mem_cons_of_mem _ hq))
    intro q hq
    rcases List.mem_or_eq_of_mem_set hq with h | h
    · exact h1 q h
    · rw [h]; exact h2 c List.mem_cons_self
theorem zpre_blind {D : va_G} {k : zK} {E : zE} (hE : zEok E) (av : List zV) (wc : zW) (sz : Nat) : FrameBlind (zPre D k E av wc sz) := by
  intro a U g mk q
  obtain ⟨q0, q1, qP, qK, qD, qE⟩ := q
  exact ⟨q0, q1, qP, va_K.moved (u := U) (U := U.calling g mk a) (Vm.Alike.refl U.vm) qK, qD, hE.2.1 _ U _ _ rfl qE⟩
theorem zgoodV {own C : String} {idx n : Nat} {y : MethodName} {b : ByteArray} {r : Option FieldType} (h1 : Cond.methodLink own idx y ∈ zTs) (h2 : Cond.instanceMethod y ∈ zTs) (h3 : Cond.selects C y y ∈ zTs) (h4 : Cond.initialized C ∈ zTs) (h5 : Cond.code y b n r ∈ zTs) : GoodIn zTs (wsV own idx C y (Cond.code y b n r :: zTs)) := by
  intro w hw
  have hm : w ∈ zTs := by
    rcases List.mem_append.mp hw with h | h
    · simp only [List.mem_cons, List.not_mem_nil, or_false] at h
      rcases h with rfl | rfl | rfl | rfl
      · exact h1
      · exact h2
      · exact h3
      · exact h4
    · rcases List.mem_cons.mp h with rfl | h
      · exact h5
      · exact h
  exact ⟨hm, good_of_word (zTs_good hm)⟩
theorem zgoodS {own : String} {idx n : Nat} {y : MethodName} {b : ByteArray} {r : Option FieldType} (h1 : Cond.methodLink own idx y ∈ zTs) (h2 : Cond.static y ∈ zTs) (h4 : Cond.initialized own ∈ zTs) (h5 : Cond.code y b n r ∈ zTs) : GoodIn zTs (wsS own idx y (Cond.code y b n r :: zTs)) := by
  intro w hw
  have hm : w ∈ zTs := by
    rcases List.mem_append.mp hw with h | h
    · simp only [List.mem_cons, List.not_mem_nil, or_false] at h
      rcases h with rfl | rfl | rfl
      · exact h1
      · exact h2
      · exact h4
    · rcases List.mem_cons.mp h with rfl | h
      · exact h5
      · exact h
  exact ⟨hm, good_of_word (zTs_good hm)⟩
theorem zgoodI {n : Nat} {y : MethodName} {b : ByteArray} {r : Option FieldType} (h5 : Cond.code y b n r ∈ zTs) : GoodIn zTs (Cond.code y b n r :: zTs) := by
  intro w hw
  have hm : w ∈ zTs := by
    rcases List.mem_cons.mp hw with rfl | h
    · exact h5
    · exact h
  exact ⟨hm, good_of_word (zTs_good hm)⟩
end
section
section ZC
variable {l : Launch} {D : va_G} {k : zK} {E : zE} {cc : ByteArray} {own : String} {nL : Nat} {R : Room} {mc ms : Nat} {rt : Option FieldType} {ini : Prop} {a0 : List Nat} {PR : Int → zW → Prop} {Z : zP}
variable {kc ks pc : Nat} {lv : List (Option zV)} {st stk : List zV} {ws wc : zW} {x y : Int}
theorem zB.callVi (B : zB l D k E cc own nL R mc ms rt ini a0 PR Z) {y : MethodName} {b : ByteArray} {n index mc' ms' : Nat} {rr : FieldType} {rm : Room} {P : Prop} {Po : Int → zW → Prop} {a : Nat} {As : List zV} (na : Nat) (M : zMi l D k E y b n rr rm mc' ms' (.inr (some a) :: As) wc P Po) {ci N : Nat} {C : String} {T : u_T} {fs : List zV} (i : Nat) (hi : ws[i]? = some (a, .inr (.inr (ci, fs)))) (hc : vwCl[ci]? = some (C, T, N)) (h1 : Cond.methodLink own index y ∈ zTs) (h2 : Cond.instanceMethod y ∈ zTs) (h3 : Cond.selects C y y ∈ zTs) (h4 : Cond.initialized C ∈ zTs) (h5 : Cond.code y b n (some rr) ∈ zTs) (hdn : y.cls = C ∧ y.cls ≠ "java/lang/invoke/MethodHandle" ∧ y.cls ≠ "java/lang/invoke/VarHandle" ∧ (parseMethodDescriptor y.desc).map (fun d => d.parameters.length) = some na) (hna : As.length = na) (hrc : rm.cells = mc') (hrs : rm.slots = ms') (hR : rm.frames + 1 ≤ R.frames ∧ 8 + (n + 11) + rm.locals ≤ R.locals) (hf : kc + mc' ≤ R.cells ∧ ks + ms' ≤ R.slots) (is : List Nat) (hsub : is.map (fun i => ws[i]?) = wc.map some) (hnd : va_nd is = true) (hstk : stk = As.reverse ++ .inr (some a) :: st) (hst : st.length ≤ 8) (hd : decode cc pc = .ok (.invokevirtual index, 3)) (hpre : (∀ v ∈ As, zVr v) → P)
    (h : ∀ (z : Int) (u : zW), zR z → zWr u → wc.map Prod.fst <+: u.map Prod.fst → Po z u → Z (kc + mc') (ks + ms') (pc + 3) lv (.inl z :: st) (zput ws is u)) : Z kc ks pc lv stk ws := by
  obtain ⟨p, e, s, m, args, below, meth, c, Q, A, hx, hb, hml, hown, hts, hK, hA, hE, hEs, hin0, hri, hrv, rfl⟩ := B
  intro H locs ls r1 r2 r3 r4 hP hD hS hl
  subst hstk
  have hAs : ∀ v ∈ As, zVr v := fun v hv => r2 v (List.mem_append_left _ (List.mem_reverse.mpr hv))
  have hav0 : ∀ v ∈ (.inr (some a) :: As : List zV), zVr v := List.forall_mem_cons.mpr ⟨trivial, hAs⟩
  have rst : ∀ v ∈ st, zVr v := fun v hv => r2 v (List.mem_append_right _ (List.mem_cons_of_mem _ hv))
  have hpre0 := hpre hAs
  have hrc0 : zWr wc := by
    intro q hq
    obtain ⟨r, hr⟩ := List.getElem?_of_mem hq
    obtain ⟨i, -, hwi⟩ := zsub_at hsub hr
    exact r1 q (List.mem_of_getElem? hwi)
  have hsz := zsub_zw (k := k) hsub
  have hPc : va_P D vwCl (zw k wc) H := by
    intro r q hr
    obtain ⟨x, hx1, he⟩ := zw_get hr
    obtain ⟨i, -, hwi⟩ := zsub_at hsub hx1
    have := hP i _ (zw_at hwi)
    obtain ⟨qa, qe⟩ := q
    simp only at he
    subst he
    exact this
  have hDc : va_D A (zw k wc) := hD.sub is hnd hsz
  have hFc := va_free hD hS hA is hsz
  have hPRE : ∀ U : State, U.heap = H → s.WarmedH U.vm → zPre D k E (.inr (some a) :: As) wc H.size (((.inr (some a) :: As : List zV)).map zv).toArray U := by
    intro U hU hW
    refine ⟨rfl, by rw [hU], by rw [hU]; exact hPc, va_K.moved hW.alike hK, hDc.weaken (fun _ _ _ _ => trivial), ?_⟩
    rw [hU]
    exact hE.1 _ _ _ _ hW (hE.2.2.2 _ _ _ _ (hE.2.2.1 _ _ _ _ hEs (fun q h1 h2 => hS.2.1 q h1 h2)) hFc)
  refine va_calli (va_runV (As := As.map zv) (rest := st.map zv) ⟨hx, hb, hml, hown, hts⟩ (M H.size hrc0 hav0 hpre0) (cwV na hts (zgoodV h1 h2 h3 h4 h5) rfl hrc hrs hdn hR) ⟨zpre_blind hE _ _ _, va_recv hK hP hc (zw_at hi), hPRE⟩ rfl (by rw [List.length_map]; exact hna) hl.choose_spec.1.1 (by simp [zv, va_rf]) (lv_room (by rw [zcat_sum]; exact hst)) hd hf) hS (fun q _ h => hFc q h) hFc (fun r u t H1 locs1 ht hvm hw hB hz1 hk1 hS1 => ?_)
  obtain ⟨z, rfl, rz, ru, ra, hPo⟩ := hw
  obtain ⟨hP1, hD1⟩ := hB
  rw [ht] at hP1
  obtain ⟨g1, g2, g3⟩ := zjoin hP hD hsub hnd hk1 hFc hP1 hD1 ra
  exact h z u rz ru ra hPo H1 locs1 ls (zput_r is ws u r1 ru) (List.forall_mem_cons.mpr ⟨rz, rst⟩) r3 (by rw [g3]; exact List.IsPrefix.trans r4 (List.prefix_append _ _)) g1 g2 hS1 hl
theorem zB.callVv (B : zB l D k E cc own nL R mc ms rt ini a0 PR Z) {y : MethodName} {b : ByteArray} {n index mc' ms' : Nat} {rm : Room} {P : Prop} {Po : Int → zW → Prop} {a : Nat} {As : List zV} (na : Nat) (M : zMv l D k E y b n rm mc' ms' (.inr (some a) :: As) wc P Po) {ci N : Nat} {C : String} {T : u_T} {fs : List zV} (i : Nat) (hi : ws[i]? = some (a, .inr (.inr (ci, fs)))) (hc : vwCl[ci]? = some (C, T, N)) (h1 : Cond.methodLink own index y ∈ zTs) (h2 : Cond.instanceMethod y ∈ zTs) (h3 : Cond.selects C y y ∈ zTs) (h4 : Cond.initialized C ∈ zTs) (h5 : Cond.code y b n none ∈ zTs) (hdn : y.cls = C ∧ y.cls ≠ "java/lang/invoke/MethodHandle" ∧ y.cls ≠ "java/lang/invoke/VarHandle" ∧ (parseMethodDescriptor y.desc).map (fun d => d.parameters.length) = some na) (hna : As.length = na) (hrc : rm.cells = mc') (hrs : rm.slots = ms') (hR : rm.frames + 1 ≤ R.frames ∧ 8 + (n + 11) + rm.locals ≤ R.locals) (hf : kc + mc' ≤ R.cells ∧ ks + ms' ≤ R.slots) (is : List Nat) (hsub : is.map (fun i => ws[i]?) = wc.map some) (hnd : va_nd is = true) (hstk : stk = As.reverse ++ .inr (some a) :: st) (hst : st.length ≤ 8) (hd : decode cc pc = .ok (.invokevirtual index, 3)) (hpre : (∀ v ∈ As, zVr v) → P)
    (h : ∀ (u : zW), zWr u → wc.map Prod.fst <+: u.map Prod.fst → Po 0 u → Z (kc + mc') (ks + ms') (pc + 3) lv st (zput ws is u)) : Z kc ks pc lv stk ws := by
  obtain ⟨p, e, s, m, args, below, meth, c, Q, A, hx, hb, hml, hown, hts, hK, hA, hE, hEs, hin0, hri, hrv, rfl⟩ := B
  intro H locs ls r1 r2 r3 r4 hP hD hS hl
  subst hstk
  have hAs : ∀ v ∈ As, zVr v := fun v hv => r2 v (List.mem_append_left _ (List.mem_reverse.mpr hv))
  have hav0 : ∀ v ∈ (.inr (some a) :: As : List zV), zVr v := List.forall_mem_cons.mpr ⟨trivial, hAs⟩
  have rst : ∀ v ∈ st, zVr v := fun v hv => r2 v (List.mem_append_right _ (List.mem_cons_of_mem _ hv))
  have hpre0 := hpre hAs
  have hrc0 : zWr wc := by
    intro q hq
    obtain ⟨r, hr⟩ := List.getElem?_of_mem hq
    obtain ⟨i, -, hwi⟩ := zsub_at hsub hr
    exact r1 q (List.mem_of_getElem? hwi)
  have hsz := zsub_zw (k := k) hsub
  have hPc : va_P D vwCl (zw k wc) H := by
    intro r q hr
    obtain ⟨x, hx1, he⟩ := zw_get hr
    obtain ⟨i, -, hwi⟩ := zsub_at hsub hx1
    have := hP i _ (zw_at hwi)
    obtain ⟨qa, qe⟩ := q
    simp only at he
    subst he
    exact this
  have hDc : va_D A (zw k wc) := hD.sub is hnd hsz
  have hFc := va_free hD hS hA is hsz
  have hPRE : ∀ U : State, U.heap = H → s.WarmedH U.vm → zPre D k E (.inr (some a) :: As) wc H.size (((.inr (some a) :: As : List zV)).map zv).toArray U := by
    intro U hU hW
    refine ⟨rfl, by rw [hU], by rw [hU]; exact hPc, va_K.moved hW.alike hK, hDc.weaken (fun _ _ _ _ => trivial), ?_⟩
    rw [hU]
    exact hE.1 _ _ _ _ hW (hE.2.2.2 _ _ _ _ (hE.2.2.1 _ _ _ _ hEs (fun q h1 h2 => hS.2.1 q h1 h2)) hFc)
  refine va_callv (va_runV (As := As.map zv) (rest := st.map zv) ⟨hx, hb, hml, hown, hts⟩ (M H.size hrc0 hav0 hpre0) (cwV na hts (zgoodV h1 h2 h3 h4 h5) rfl hrc hrs hdn hR) ⟨zpre_blind hE _ _ _, va_recv hK hP hc (zw_at hi), hPRE⟩ rfl (by rw [List.length_map]; exact hna) hl.choose_spec.1.1 (by simp [zv, va_rf]) (lv_room (by rw [zcat_sum]; exact hst)) hd hf) hS (fun q _ h => hFc q h) hFc (fun u t H1 locs1 ht hvm hw hB hz1 hk1 hS1 => ?_)
  obtain ⟨ru, ra, hPo⟩ := hw
  obtain ⟨hP1, hD1⟩ := hB
  rw [ht] at hP1
  obtain ⟨g1, g2, g3⟩ := zjoin hP hD hsub hnd hk1 hFc hP1 hD1 ra
  exact h u ru ra hPo H1 locs1 ls (zput_r is ws u r1 ru) rst r3 (by rw [g3]; exact List.IsPrefix.trans r4 (List.prefix_append _ _)) g1 g2 hS1 hl
theorem zB.callSi (B : zB l D k E cc own nL R mc ms rt ini a0 PR Z) {y : MethodName} {b : ByteArray} {n index mc' ms' : Nat} {rr : FieldType} {rm : Room} {P : Prop} {Po : Int → zW → Prop} {As : List zV} (na : Nat) (M : zMi l D k E y b n rr rm mc' ms' As wc P Po) (h1 : Cond.methodLink own index y ∈ zTs) (h2 : Cond.static y ∈ zTs) (h4 : Cond.initialized own ∈ zTs) (h5 : Cond.code y b n (some rr) ∈ zTs) (hdn : y.cls = own ∧ y.cls ≠ "java/lang/invoke/MethodHandle" ∧ y.cls ≠ "java/lang/invoke/VarHandle" ∧ (parseMethodDescriptor y.desc).map (fun d => d.parameters.length) = some na) (hna : As.length = na) (hrc : rm.cells = mc') (hrs : rm.slots = ms') (hR : rm.frames + 1 ≤ R.frames ∧ 8 + (n + 11) + rm.locals ≤ R.locals) (hf : kc + mc' ≤ R.cells ∧ ks + ms' ≤ R.slots) (is : List Nat) (hsub : is.map (fun i => ws[i]?) = wc.map some) (hnd : va_nd is = true) (hstk : stk = As.reverse ++ st) (hst : st.length ≤ 8) (hd : decode cc pc = .ok (.invokestatic index, 3)) (hpre : (∀ v ∈ As, zVr v) → P)
    (h : ∀ (z : Int) (u : zW), zR z → zWr u → wc.map Prod.fst <+: u.map Prod.fst → Po z u → Z (kc + mc') (ks + ms') (pc + 3) lv (.inl z :: st) (zput ws is u)) : Z kc ks pc lv stk ws := by
  obtain ⟨p, e, s, m, args, below, meth, c, Q, A, hx, hb, hml, hown, hts, hK, hA, hE, hEs, hin0, hri, hrv, rfl⟩ := B
  intro H locs ls r1 r2 r3 r4 hP hD hS hl
  subst hstk
  have hav0 : ∀ v ∈ As, zVr v := fun v hv => r2 v (List.mem_append_left _ (List.mem_reverse.mpr hv))
  have rst : ∀ v ∈ st, zVr v := fun v hv => r2 v (List.mem_append_right _ hv)
  have hpre0 := hpre hav0
  have hrc0 : zWr wc := by
    intro q hq
    obtain ⟨r, hr⟩ := List.getElem?_of_mem hq
    obtain ⟨i, -, hwi⟩ := zsub_at hsub hr
    exact r1 q (List.mem_of_getElem? hwi)
  have hsz := zsub_zw (k := k) hsub
  have hPc : va_P D vwCl (zw k wc) H := by
    intro r q hr
    obtain ⟨x, hx1, he⟩ := zw_get hr
    obtain ⟨i, -, hwi⟩ := zsub_at hsub hx1
    have := hP i _ (zw_at hwi)
    obtain ⟨qa, qe⟩ := q
    simp only at he
    subst he
    exact this
  have hDc : va_D A (zw k wc) := hD.sub is hnd hsz
  have hFc := va_free hD hS hA is hsz
  have hPRE : ∀ U : State, U.heap = H → s.WarmedH U.vm → zPre D k E (As) wc H.size (((As : List zV)).map zv).toArray U := by
    intro U hU hW
    refine ⟨rfl, by rw [hU], by rw [hU]; exact hPc, va_K.moved hW.alike hK, hDc.weaken (fun _ _ _ _ => trivial), ?_⟩
    rw [hU]
    exact hE.1 _ _ _ _ hW (hE.2.2.2 _ _ _ _ (hE.2.2.1 _ _ _ _ hEs (fun q h1 h2 => hS.2.1 q h1 h2)) hFc)
  refine va_calli (va_runS (As := As.map zv) (rest := st.map zv) ⟨hx, hb, hml, hown, hts⟩ (M H.size hrc0 hav0 hpre0) (cwS na hts (zgoodS h1 h2 h4 h5) rfl hrc hrs hdn hR) ⟨zpre_blind hE _ _ _, hPRE⟩ rfl (by rw [List.length_map]; exact hna) hl.choose_spec.1.1 (by simp) (lv_room (by rw [zcat_sum]; exact hst)) hd hf) hS (fun q _ h => hFc q h) hFc (fun r u t H1 locs1 ht hvm hw hB hz1 hk1 hS1 => ?_)
  obtain ⟨z, rfl, rz, ru, ra, hPo⟩ := hw
  obtain ⟨hP1, hD1⟩ := hB
  rw [ht] at hP1
  obtain ⟨g1, g2, g3⟩ := zjoin hP hD hsub hnd hk1 hFc hP1 hD1 ra
  exact h z u rz ru ra hPo H1 locs1 ls (zput_r is ws u r1 ru) (List.forall_mem_cons.mpr ⟨rz, rst⟩) r3 (by rw [g3]; exact List.IsPrefix.trans r4 (List.prefix_append _ _)) g1 g2 hS1 hl
theorem zB.callIv (B : zB l D k E cc own nL R mc ms rt ini a0 PR Z) {y : MethodName} {b : ByteArray} {n index mc' ms' : Nat} {rm : Room} {P : Prop} {Po : Int → zW → Prop} {a : Nat} {As : List zV} (na : Nat) (M : zMv l D k E y b n rm mc' ms' (.inr (some a) :: As) wc P Po) (h1 : Cond.methodLink own index y ∈ zTs) (h2 : Cond.instanceMethod y ∈ zTs) (h4 : Cond.initialized y.cls ∈ zTs) (h5 : Cond.code y b n none ∈ zTs) (hnm : y.name = "<init>") (hdn : y.cls ≠ "java/lang/invoke/MethodHandle" ∧ y.cls ≠ "java/lang/invoke/VarHandle" ∧ (parseMethodDescriptor y.desc).map (fun d => d.parameters.length) = some na) (hna : As.length = na) (hrc : rm.cells = mc') (hrs : rm.slots = ms') (hR : rm.frames + 1 ≤ R.frames ∧ 8 + (n + 11) + rm.locals ≤ R.locals) (hf : kc + mc' ≤ R.cells ∧ ks + ms' ≤ R.slots) (is : List Nat) (hsub : is.map (fun i => ws[i]?) = wc.map some) (hnd : va_nd is = true) (hstk : stk = As.reverse ++ .inr (some a) :: st) (hst : st.length ≤ 8) (hd : decode cc pc = .ok (.invokespecial index, 3)) (hpre : (∀ v ∈ As, zVr v) → P)
    (h : ∀ (u : zW), zWr u → wc.map Prod.fst <+: u.map Prod.fst → Po 0 u → Z (kc + mc') (ks + ms') (pc + 3) lv st (zput ws is u)) : Z kc ks pc lv stk ws := by
  obtain ⟨p, e, s, m, args, below, meth, c, Q, A, hx, hb, hml, hown, hts, hK, hA, hE, hEs, hin0, hri, hrv, rfl⟩ := B
  intro H locs ls r1 r2 r3 r4 hP hD hS hl
  subst hstk
  have hAs : ∀ v ∈ As, zVr v := fun v hv => r2 v (List.mem_append_left _ (List.mem_reverse.mpr hv))
  have hav0 : ∀ v ∈ (.inr (some a) :: As : List zV), zVr v := List.forall_mem_cons.mpr ⟨trivial, hAs⟩
  have rst : ∀ v ∈ st, zVr v := fun v hv => r2 v (List.mem_append_right _ (List.mem_cons_of_mem _ hv))
  have hpre0 := hpre hAs
  have hrc0 : zWr wc := by
    intro q hq
    obtain ⟨r, hr⟩ := List.getElem?_of_mem hq
    obtain ⟨i, -, hwi⟩ := zsub_at hsub hr
    exact r1 q (List.mem_of_getElem? hwi)
  have hsz := zsub_zw (k := k) hsub
  have hPc : va_P D vwCl (zw k wc) H := by
    intro r q hr
    obtain ⟨x, hx1, he⟩ := zw_get hr
    obtain ⟨i, -, hwi⟩ := zsub_at hsub hx1
    have := hP i _ (zw_at hwi)
    obtain ⟨qa, qe⟩ := q
    simp only at he
    subst he
    exact this
  have hDc : va_D A (zw k wc) := hD.sub is hnd hsz
  have hFc := va_free hD hS hA is hsz
  have hPRE : ∀ U : State, U.heap = H → s.WarmedH U.vm → zPre D k E (.inr (some a) :: As) wc H.size (((.inr (some a) :: As : List zV)).map zv).toArray U := by
    intro U hU hW
    refine ⟨rfl, by rw [hU], by rw [hU]; exact hPc, va_K.moved hW.alike hK, hDc.weaken (fun _ _ _ _ => trivial), ?_⟩
    rw [hU]
    exact hE.1 _ _ _ _ hW (hE.2.2.2 _ _ _ _ (hE.2.2.1 _ _ _ _ hEs (fun q h1 h2 => hS.2.1 q h1 h2)) hFc)
  refine va_callv (va_runI (As := As.map zv) (rest := st.map zv) ⟨hx, hb, hml, hown, hts⟩ (M H.size hrc0 hav0 hpre0) (cwI na hts (zgoodI h5) rfl hrc hrs (hts _ h4) (hts _ h1) (hts _ h2) hnm hdn hR) ⟨zpre_blind hE _ _ _, hPRE⟩ rfl (by rw [List.length_map]; exact hna) hl.choose_spec.1.1 (by simp [zv, va_rf]) (lv_room (by rw [zcat_sum]; exact hst)) hd hf) hS (fun q _ h => hFc q h) hFc (fun u t H1 locs1 ht hvm hw hB hz1 hk1 hS1 => ?_)
  obtain ⟨ru, ra, hPo⟩ := hw
  obtain ⟨hP1, hD1⟩ := hB
  rw [ht] at hP1
  obtain ⟨g1, g2, g3⟩ := zjoin hP hD hsub hnd hk1 hFc hP1 hD1 ra
  exact h u ru ra hPo H1 locs1 ls (zput_r is ws u r1 ru) rst r3 (by rw [g3]; exact List.IsPrefix.trans r4 (List.prefix_append _ _)) g1 g2 hS1 hl
end ZC
end
section
section ZM
variable {l : Launch} {D : va_G} {k : zK} {E : zE} {cc : ByteArray} {own : String} {nL : Nat} {R : Room} {mc ms : Nat} {rt : Option FieldType} {ini : Prop} {a0 : List Nat} {PR : Int → zW → Prop} {Z : zP}
variable {kc ks pc : Nat} {lv : List (Option zV)} {st : List zV} {ws : zW} {x y : Int}
theorem zsplit (v : Int) {X : Int → Prop} (h1 : X v) (h2 : x ≠ v → X x) : X x := by
  by_cases h : x = v
  · rw [h]; exact h1
  · exact h2 h
theorem zB.tsOut (B : zB l D k E cc own nL R mc ms rt ini a0 PR Z) {dflt lo hi : Int} {offs : Array Int} {len tgt : Nat} (hd : decode cc pc = .ok (.tableswitch dflt lo hi offs, len)) (h : x < lo ∨ hi < x) (ht : (pc : Int) + dflt = (tgt : Int)) (kk : Z kc ks tgt lv st ws) : Z kc ks pc lv (.inl x :: st) ws := by
  obtain ⟨p, e, s, m, args, below, meth, c, Q, A, hx, hb, hml, hown, hts, hK, hA, hE, hEs, hin, hri, hrv, rfl⟩ := B
  intro H locs ls r1 r2 r3 r4 hP hD hS hl
  obtain ⟨rx, rr⟩ := List.forall_mem_cons.mp r2
  exact lv_tableOut (x := iZ x) hx hb hd (by rw [iZ_toInt rx]; exact h) ht (kk H locs ls r1 rr r3 r4 hP hD hS hl)
theorem zB.tsIn (B : zB l D k E cc own nL R mc ms rt ini a0 PR Z) {dflt lo hi off : Int} {offs : Array Int} {len tgt : Nat} (hd : decode cc pc = .ok (.tableswitch dflt lo hi offs, len)) (h1 : ¬ x < lo) (h2 : ¬ hi < x) (ho : offs[(x - lo).toNat]? = some off) (ht : (pc : Int) + off = (tgt : Int)) (kk : Z kc ks tgt lv st ws) : Z kc ks pc lv (.inl x :: st) ws := by
  obtain ⟨p, e, s, m, args, below, meth, c, Q, A, hx, hb, hml, hown, hts, hK, hA, hE, hEs, hin, hri, hrv, rfl⟩ := B
  intro H locs ls r1 r2 r3 r4 hP hD hS hl
  obtain ⟨rx, rr⟩ := List.forall_mem_cons.mp r2
  have rx : zR x := rx
  exact lv_tableIn (x := iZ x) hx hb hd (by rw [iZ_toInt rx]; exact h1) (by rw [iZ_toInt rx]; exact h2) (by rw [iZ_toInt rx]; exact ho) ht (kk H locs ls r1 rr r3 r4 hP hD hS hl)
theorem zB.mmin (B : zB l D k E cc own nL R mc ms rt ini a0 PR Z) {index : Nat} (h1 : Cond.methodLink own index Lib.Math.min.name ∈ zTs) (h2 : Cond.static Lib.Math.min.name ∈ zTs) (h3 : Cond.initialized "java/lang/Math" ∈ zTs) (h4 : Cond.code Lib.Math.min.name Lib.Math.min.code 2 (some .int) ∈ zTs) (hfr : 1 ≤ R.frames) (hlo : st.length + 13 ≤ R.locals) (hcc : kc ≤ R.cells) (hss : ks ≤ R.slots) (hd : decode cc pc = .ok (.invokestatic index, 3))
    (h : ∀ r : Int, zR r → r ≤ x → r ≤ y → (r = x ∨ r = y) → Z kc ks (pc + 3) lv (.inl r :: st) ws) : Z kc ks pc lv (.inl y :: .inl x :: st) ws := by
  obtain ⟨p, e, s, m, args, below, meth, c, Q, A, hx, hb, hml, hown, hts, hK, hA, hE, hEs, hin, hri, hrv, rfl⟩ := B
  intro H locs ls r1 r2 r3 r4 hP hD hS hl
  obtain ⟨ry, rr⟩ := List.forall_mem_cons.mp r2
  obtain ⟨rx, rr⟩ := List.forall_mem_cons.mp rr
  have rx : zR x := rx
  have ry : zR y := ry
  refine va_mmin (x := iZ x) (y := iZ y) hx hb (hml.trans hl.choose_spec.1.1.symm) hown (hts _ h1) (hts _ h2) (hts _ h3) (hts _ h4) hfr (by rw [zcat_sum]; exact hlo) hcc hss hd ?_
  by_cases hlt : y < x
  · rw [if_pos ((iZ_lt ry rx).mpr hlt)]
    exact h y ry (by omega) (by omega) (Or.inr rfl) H locs ls r1 (List.forall_mem_cons.mpr ⟨ry, rr⟩) r3 r4 hP hD hS hl
  · rw [if_neg (fun z => hlt ((iZ_lt ry rx).mp z))]
    exact h x rx (by omega) (by omega) (Or.inl rfl) H locs ls r1 (List.forall_mem_cons.mpr ⟨rx, rr⟩) r3 r4 hP hD hS hl
theorem zB.acopy (B : zB l D k E cc own nL R mc ms rt ini a0 PR Z) {index a b n0 n1 : Nat} {f g : Nat → Int} {sp dp n : Int} (h1 : Cond.methodLink own index arraycopyName ∈ zTs) (h2 : Cond.native arraycopyName ∈ zTs) (h3 : Cond.static arraycopyName ∈ zTs) (h4 : Cond.initialized "java/lang/System" ∈ zTs) (i0 i1 : Nat) (hi0 : ws[i0]? = some (a, .inl (false, n0, f))) (hi1 : ws[i1]? = some (b, .inl (false, n1, g))) (g1 : 0 ≤ sp) (g2 : 0 ≤ dp) (g3 : 0 ≤ n) (g4 : sp + n ≤ n0) (g5 : dp + n ≤ n1) (hfr : 1 ≤ R.frames) (hlo : st.length + 18 ≤ R.locals) (hd : decode cc pc = .ok (.invokestatic index, 3))
    (h : Z kc ks (pc + 3) lv st (ws.set i1 (b, .inl (false, n1, zcp f g sp.toNat dp.toNat n.toNat)))) : Z kc ks pc lv (.inl n :: .inl dp :: .inr (some b) :: .inl sp :: .inr (some a) :: st) ws := by
  obtain ⟨p, e, s, m, args, below, meth, c, Q, A, hx, hb, hml, hown, hts, hK, hA, hE, hEs, hin, hri, hrv, rfl⟩ := B
  intro H locs ls r1 r2 r3 r4 hP hD hS hl
  obtain ⟨rn, rr⟩ := List.forall_mem_cons.mp r2
  obtain ⟨rd, rr⟩ := List.forall_mem_cons.mp rr
  obtain ⟨-, rr⟩ := List.forall_mem_cons.mp rr
  obtain ⟨rs, rr⟩ := List.forall_mem_cons.mp rr
  obtain ⟨-, rr⟩ := List.forall_mem_cons.mp rr
  have rn : zR n := rn
  have rd : zR dp := rd
  have rs : zR sp := rs
  refine va_copyi (D := D) (sp := iZ sp) (dp := iZ dp) (n := iZ n) hx hb (hml.trans hl.choose_spec.1.1.symm) hown (hts _ h1) (hts _ h2) (hts _ h3) (hts _ h4) hK hP hD hS i0 i1 0 0 (zw_at hi0) (zw_at hi1) (ty := .int) rfl rfl rfl ?_ ?_ ?_ ?_ ?_ (fun _ _ => rfl) hfr (by rw [zcat_sum]; exact hlo) hd (fun H1 locs1 hP1 hD1 hS1 => ?_)
  · rw [← iZ_0, iZ_lt rs zR_0]; omega
  · rw [← iZ_0, iZ_lt rd zR_0]; omega
  · rw [← iZ_0, iZ_lt rn zR_0]; omega
  · rw [iZ_nat rs g1, iZ_nat rn g3]; omega
  · rw [iZ_nat rd g2, iZ_nat rn g3]; omega
  · rw [iZ_nat rs g1, iZ_nat rn g3, iZ_nat rd g2, iZ_cpy] at hP1 hD1
    have e2 : (zw k ws).set i1 (b, zc k (.inl (false, n1, zcp f g sp.toNat dp.toNat n.toNat))) = zw k (ws.set i1 (b, .inl (false, n1, zcp f g sp.toNat dp.toNat n.toNat))) := zw_set
    exact h H1 locs1 ls (zWr_set r1 (zcp_r (zWr_at r1 hi0) (zWr_at r1 hi1))) rr r3 (by rw [zfst_set hi1]; exact r4) (by rw [← e2]; exact hP1) (by rw [← e2]; exact hD1) hS1 hl
theorem zWr_app {c : Nat × zC} (h : zWr ws) (hc : zCr c.2) : zWr (ws ++ [c]) := by
  intro q hq
  rcases List.mem_append.mp hq with h1 | h1
  · exact h q h1
  · rw [List.mem_singleton.mp h1]; exact hc
theorem zpfx_app {c : Nat × zC} (h : a0 <+: ws.map Prod.fst) : a0 <+: (ws ++ [c]).map Prod.fst := by
  rw [List.map_append]
  exact List.IsPrefix.trans h (List.prefix_append _ _)
theorem zB.newarrI (B : zB l D k E cc own nL R mc ms rt ini a0 PR Z) {n : Int} (hw : Cond.arrayClass .int ∈ zTs) (h0 : 0 ≤ n) (hn : n ≤ 100000) (hcc : kc + 1 ≤ R.cells) (hss : ks + n.toNat ≤ R.slots) (hd : decode cc pc = .ok (.newarray .int, 2))
    (h : ∀ q : Nat, Z (kc + 1) (ks + n.toNat) (pc + 2) lv (.inr (some q) :: st) (ws ++ [(q, .inl (false, n.toNat, fun _ => 0))])) : Z kc ks pc lv (.inl n :: st) ws := by
  obtain ⟨p, e, s, m, args, below, meth, c, Q, A, hx, hb, hml, hown, hts, hK, hA, hE, hEs, hin, hri, hrv, rfl⟩ := B
  intro H locs ls r1 r2 r3 r4 hP hD hS hl
  obtain ⟨rn, rr⟩ := List.forall_mem_cons.mp r2
  have rn : zR n := rn
  refine va_newa (D := D) (atype := .int) (n := iZ n) (N' := n.toNat) (a0 := (n.toNat, .inl (fun _ => iZ 0))) hx hb (hts _ hw) rfl hK hP hD hS hA (fun cA => by rw [vp_cell_i, iZ_0]; rfl) (by rw [← iZ_0, iZ_lt rn zR_0]; omega) (iZ_nat rn h0) (by show n.toNat * 4 ≤ _; omega) hcc hss hd (fun q cA H1 hK1 hP1 hD1 hS1 => ?_)
  have e1 : cA = k.1 := by
    have a1 := (hK1.2 3 (cA, .int) rfl).2
    have a2 := (hK.2 0 (k.1, .int) rfl).2
    exact Option.some.inj (a1.symm.trans a2)
  subst e1
  have e2 : zw k ws ++ [(q, zc k (.inl (false, n.toNat, fun _ => 0)))] = zw k (ws ++ [(q, .inl (false, n.toNat, fun _ => 0))]) := by rw [zw_app]; rfl
  exact h q H1 locs ls (zWr_app r1 (fun _ => zR_0)) (List.forall_mem_cons.mpr ⟨trivial, rr⟩) r3 (zpfx_app r4) (by rw [← e2]; exact hP1) (by rw [← e2]; exact hD1) hS1 hl
theorem zB.newarrZ (B : zB l D k E cc own nL R mc ms rt ini a0 PR Z) {n : Int} (hw : Cond.arrayClass .boolean ∈ zTs) (h0 : 0 ≤ n) (hn : n ≤ 100000) (hcc : kc + 1 ≤ R.cells) (hss : ks + n.toNat ≤ R.slots) (hd : decode cc pc = .ok (.newarray .boolean, 2))
    (h : ∀ q : Nat, Z (kc + 1) (ks + n.toNat) (pc + 2) lv (.inr (some q) :: st) (ws ++ [(q, .inl (true, n.toNat, fun _ => 0))])) : Z kc ks pc lv (.inl n :: st) ws := by
  obtain ⟨p, e, s, m, args, below, meth, c, Q, A, hx, hb, hml, hown, hts, hK, hA, hE, hEs, hin, hri, hrv, rfl⟩ := B
  intro H locs ls r1 r2 r3 r4 hP hD hS hl
  obtain ⟨rn, rr⟩ := List.forall_mem_cons.mp r2
  have rn : zR n := rn
  refine va_newa (D := D) (atype := .boolean) (n := iZ n) (N' := n.toNat) (a0 := (n.toNat, .inl (fun _ => iZ 0))) hx hb (hts _ hw) rfl hK hP hD hS hA (fun cA => by rw [vp_cell_i, iZ_0]; rfl) (by rw [← iZ_0, iZ_lt rn zR_0]; omega) (iZ_nat rn h0) (by show n.toNat * 1 ≤ _; omega) hcc hss hd (fun q cA H1 hK1 hP1 hD1 hS1 => ?_)
  have e1 : cA = k.2.1 := by
    have a1 := (hK1.2 3 (cA, .boolean) rfl).2
    have a2 := (hK.2 1 (k.2.1, .boolean) rfl).2
    exact Option.some.inj (a1.symm.trans a2)
  subst e1
  have e2 : zw k ws ++ [(q, zc k (.inl (true, n.toNat, fun _ => 0)))] = zw k (ws ++ [(q, .inl (true, n.toNat, fun _ => 0))]) := by rw [zw_app]; rfl
  exact h q H1 locs ls (zWr_app r1 (fun _ => zR_0)) (List.forall_mem_cons.mpr ⟨trivial, rr⟩) r3 (zpfx_app r4) (by rw [← e2]; exact hP1) (by rw [← e2]; exact hD1) hS1 hl
theorem zB.new (B : zB l D k E cc own nL R mc ms rt ini a0 PR Z) {index ci N : Nat} {C : String} {T : u_T} (ty : Nat → FieldType) (hty : ∀ k, k < N → parseFieldDescriptor (T k).2.2.1 = some (ty k)) (hc : vwCl[ci]? = some (C, T, N)) (hin : ∀ w ∈ u_ws C T N, w ∈ zTs) (h1 : Cond.classLink own index C ∈ zTs) (h2 : Cond.instantiable C N ∈ zTs) (h3 : Cond.initialized C ∈ zTs) (fs : List zV) (hfs : ∀ j, j < N → defaultValue (ty j) = vp_V (fs.map zv) j) (hfr : ∀ v ∈ fs, zVr v) (hcc : kc + 1 ≤ R.cells) (hss : ks + N ≤ R.slots) (hd : decode cc pc = .ok (.new index, 3))
    (h : ∀ q : Nat, Z (kc + 1) (ks + N) (pc + 3) lv (.inr (some q) :: st) (ws ++ [(q, .inr (.inr (ci, fs)))])) : Z kc ks pc lv st ws := by
  obtain ⟨p, e, s, m, args, below, meth, c, Q, A, hx, hb, hml, hown, hts, hK, hA, hE, hEs, hin0, hri, hrv, rfl⟩ := B
  intro H locs ls r1 r2 r3 r4 hP hD hS hl
  refine va_new (D := D) (ci := ci) (fs := fs.map zv) hx hb hts hin ty hty hown (hts _ h1) (hts _ h2) (hts _ h3) hK hP hD hS hA hc hfs hcc hss hd (fun q H1 hP1 hD1 hS1 => ?_)
  have e2 : zw k ws ++ [(q, zc k (.inr (.inr (ci, fs))))] = zw k (ws ++ [(q, .inr (.inr (ci, fs)))]) := by rw [zw_app]; rfl
  exact h q H1 locs ls (zWr_app r1 hfr) (List.forall_mem_cons.mpr ⟨trivial, r2⟩) r3 (zpfx_app r4) (by rw [← e2]; exact hP1) (by rw [← e2]; exact hD1) hS1 hl
theorem zB.objInit (B : zB l D k E cc own nL R mc ms rt ini a0 PR Z) {index a : Nat} (h1 : Cond.methodLink own index Lib.objectInit ∈ zTs) (h2 : Cond.instanceMethod Lib.objectInit ∈ zTs) (h3 : Cond.code Lib.objectInit ⟨#[0xb1]⟩ 1 none ∈ zTs) (hfr : 1 ≤ R.frames) (hlo : st.length + 12 ≤ R.locals) (hd : decode cc pc = .ok (.invokespecial index, 3))
    (h : Z kc ks (pc + 3) lv st ws) : Z kc ks pc lv (.inr (some a) :: st) ws := by
  obtain ⟨p, e, s, m, args, below, meth, c, Q, A, hx, hb, hml, hown, hts, hK, hA, hE, hEs, hin0, hri, hrv, rfl⟩ := B
  intro H locs ls r1 r2 r3 r4 hP hD hS hl
  refine W.objInit hx hb hown (hts _ h1) (hts _ h2) (hts _ h3) rfl (hl.choose_spec.1.1.trans hml.symm) (a := a) (rest := st.map zv) rfl hd hfr ?_ ?_
  · have : 2 * (F0 m pc ls ((.inr (some a) :: st : List zV).map zv)).monitorRoom = 0 := by rfl
    rw [this, zcat_sum]; omega
  · exact h H locs ls r1 (List.forall_mem_cons.mp r2).2 r3 r4 hP hD hS hl
theorem zB.ifnonnull (B : zB l D k E cc own nL R mc ms rt ini a0 PR Z) {a tgt : Nat} {off : Int} (hd : decode cc pc = .ok (.ifnonnull off, 3)) (ht : (pc : Int) + off = (tgt : Int)) (h : Z kc ks tgt lv st ws) : Z kc ks pc lv (.inr (some a) :: st) ws := by
  obtain ⟨p, e, s, m, args, below, meth, c, Q, A, hx, hb, hml, hown, hts, hK, hA, hE, hEs, hin0, hri, hrv, rfl⟩ := B
  intro H locs ls r1 r2 r3 r4 hP hD hS hl
  exact lv_ifnonnull (x := a) hx hb hd ht (h H locs ls r1 (List.forall_mem_cons.mp r2).2 r3 r4 hP hD hS hl)
theorem zB.ifnonnullN (B : zB l D k E cc own nL R mc ms rt ini a0 PR Z) {off : Int} (hd : decode cc pc = .ok (.ifnonnull off, 3)) (h : Z kc ks (pc + 3) lv st ws) : Z kc ks pc lv (.inr none :: st) ws := by
  obtain ⟨p, e, s, m, args, below, meth, c, Q, A, hx, hb, hml, hown, hts, hK, hA, hE, hEs, hin0, hri, hrv, rfl⟩ := B
  intro H locs ls r1 r2 r3 r4 hP hD hS hl
  exact lv_ifnonnullN hx hb hd (h H locs ls r1 (List.forall_mem_cons.mp r2).2 r3 r4 hP hD hS hl)
theorem zB.aaload (B : zB l D k E cc own nL R mc ms rt ini a0 PR Z) {a n : Nat} {f : Nat → Option Nat} {r : Option Nat} (i : Nat) (hi : ws[i]? = some (a, .inr (.inl (n, f)))) (h0 : 0 ≤ x) (h1 : x < n) (hr : f x.toNat = r) (hd : decode cc pc = .ok (.aaload, 1))
    (h : Z kc ks (pc + 1) lv (.inr r :: st) ws) : Z kc ks pc lv (.inl x :: .inr (some a) :: st) ws := by
  obtain ⟨p, e, s, m, args, below, meth, c, Q, A, hx, hb, hml, hown, hts, hK, hA, hE, hEs, hin0, hri, hrv, rfl⟩ := B
  intro H locs ls r1 r2 r3 r4 hP hD hS hl
  obtain ⟨rx, rr⟩ := List.forall_mem_cons.mp r2
  have rx : zR x := rx
  refine va_aldq (D := D) hx hb hK hP i 2 (zw_at hi) rfl (iZ_in rx h0 h1) hd ?_
  rw [iZ_nat rx h0, hr]
  exact h H locs ls r1 (List.forall_mem_cons.mpr ⟨trivial, (List.forall_mem_cons.mp rr).2⟩) r3 r4 hP hD hS hl
theorem zB.aastore (B : zB l D k E cc own nL R mc ms rt ini a0 PR Z) {a n v : Nat} {f : Nat → Option Nat} {fs : List zV} (i j : Nat) (hi : ws[i]? = some (a, .inr (.inl (n, f)))) (hj : ws[j]? = some (v, .inr (.inr (0, fs)))) (h0 : 0 ≤ x) (h1 : x < n) (hd : decode cc pc = .ok (.aastore, 1))
    (h : Z kc ks (pc + 1) lv st (ws.set i (a, .inr (.inl (n, va_up f x.toNat (some v)))))) : Z kc ks pc lv (.inr (some v) :: .inl x :: .inr (some a) :: st) ws := by
  obtain ⟨p, e, s, m, args, below, meth, c, Q, A, hx, hb, hml, hown, hts, hK, hA, hE, hEs, hin0, hri, hrv, rfl⟩ := B
  intro H locs ls r1 r2 r3 r4 hP hD hS hl
  obtain ⟨-, rr⟩ := List.forall_mem_cons.mp r2
  obtain ⟨rx, rr⟩ := List.forall_mem_cons.mp rr
  have rx : zR x := rx
  refine va_astq (D := D) (r := (RX0, TX0, 5)) hx hb hK hP hD hS i 2 j 0 (zw_at hi) rfl (zw_at hj) rfl (iZ_in rx h0 h1) hd (fun H1 locs1 hP1 hD1 hS1 => ?_)
  rw [iZ_nat rx h0] at hP1 hD1
  have e2 : (zw k ws).set i (a, zc k (.inr (.inl (n, va_up f x.toNat (some v))))) = zw k (ws.set i (a, .inr (.inl (n, va_up f x.toNat (some v))))) := zw_set
  exact h H1 locs1 ls (zWr_set r1 trivial) (List.forall_mem_cons.mp rr).2 r3 (by rw [zfst_set hi]; exact r4) (by rw [← e2]; exact hP1) (by rw [← e2]; exact hD1) hS1 hl
theorem zB.anewarr (B : zB l D k E cc own nL R mc ms rt ini a0 PR Z) {n : Int} {index : Nat} (hEA : ∀ A U H, E A U H → va_AO RX0 U) (h1 : Cond.classLink own index RX0 ∈ zTs) (h0 : 0 ≤ n) (hn : n ≤ 100000) (hcc : kc + 1 ≤ R.cells) (hss : ks + n.toNat ≤ R.slots) (hd : decode cc pc = .ok (.anewarray index, 3))
    (h : ∀ q : Nat, Z (kc + 1) (ks + n.toNat) (pc + 3) lv (.inr (some q) :: st) (ws ++ [(q, .inr (.inl (n.toNat, fun _ => none)))])) : Z kc ks pc lv (.inl n :: st) ws := by
  obtain ⟨p, e, s, m, args, below, meth, c, Q, A, hx, hb, hml, hown, hts, hK, hA, hE, hEs, hin, hri, hrv, rfl⟩ := B
  intro H locs ls r1 r2 r3 r4 hP hD hS hl
  obtain ⟨rn, rr⟩ := List.forall_mem_cons.mp r2
  have rn : zR n := rn
  refine va_newq (D := D) (C := RX0) (n := iZ n) (N' := n.toNat) hx hb hown (hts _ h1) (hEA _ _ _ hEs) hK hP hD hS hA (by rw [← iZ_0, iZ_lt rn zR_0]; omega) (iZ_nat rn h0) (by omega) hcc hss hd (fun q cA H1 hK1 hP1 hD1 hS1 => ?_)
  have e1 : cA = k.2.2 := by
    obtain ⟨kA, comp, -, -, -, a1⟩ := (hK1.2 3 (cA, .object RX0) rfl).2
    obtain ⟨kA', comp', -, -, -, a2⟩ := (hK.2 2 (k.2.2, .object "CutLetters$Book") rfl).2
    exact Option.some.inj (a1.symm.trans a2)
  subst e1
  have e2 : zw k ws ++ [(q, zc k (.inr (.inl (n.toNat, fun _ => none))))] = zw k (ws ++ [(q, .inr (.inl (n.toNat, fun _ => none)))]) := by rw [zw_app]; rfl
  exact h q H1 locs ls (zWr_app r1 trivial) (List.forall_mem_cons.mpr ⟨trivial, rr⟩) r3 (zpfx_app r4) (by rw [← e2]; exact hP1) (by rw [← e2]; exact hD1) hS1 hl
end ZM
end
section
/-! what the launch has of its own: the limits of the rules, the text of the names -/
def zlim (j : Nat) : Int := match j with
  | 0 => 2
  | 3 => 3
  | _ => 99
def ztxt (j : Nat) : Int := match j with
  | 0 => 110
  | 1 => 111
  | 2 => 117
  | 3 => 110
  | 4 => 118
  | 5 => 101
  | 6 => 114
  | 7 => 98
  | 8 => 109
  | 9 => 97
  | 10 => 114
  | _ => 107
def zEE (aR aS aV : Nat) : zE := fun A U H => va_AO RX0 U ∧ va_Z "CutLetters" "RULE_LIMITS" "[I" (.ref aR) A U H ∧ va_T .int aR 4 (fun j => .int (iZ (zlim j))) A U H ∧ va_Z "java/lang/String" "COMPACT_STRINGS" "Z" (.int 1) A U H ∧ (∃ r : Option Nat, va_Z "jdk/internal/util/Preconditions" "SIOOBE_FORMATTER" "Ljava/util/function/BiFunction;" (va_rf r) A U H) ∧ va_O "java/lang/String" aS A U H ∧ va_OF "java/lang/String" "coder" "B" (.int 0) aS A U H ∧ va_OF "java/lang/String" "value" "[B" (.ref aV) aS A U H ∧ va_T .byte aV 12 (fun j => .int (iZ (ztxt j))) A U H ∧ vk_R RX3 52 "nounverbmark" aS U
def zEx (E : zE) (aR aS aV : Nat) : Prop := ∀ A U H, E A U H → zEE aR aS aV A U H
theorem zEE_ok (aR aS aV : Nat) : zEok (zEE aR aS aV) := by
  refine ⟨?_, ?_, ?_, ?_⟩
  · intro A u U H hW h
    obtain ⟨h1, h2, h3, h4, ⟨r, h5⟩, h6, h7, h8, h9, h10⟩ := h
    have ha := hW.alike
    exact ⟨h1.moved ha, h2.moved ha, h3.moved ha, h4.moved ha, ⟨r, h5.moved ha⟩, h6.moved ha, h7.moved ha, h8.moved ha, h9.moved ha, h10.warm hW⟩
  · intro A u U H hv h
    obtain ⟨h1, h2, h3, h4, ⟨r, h5⟩, h6, h7, h8, h9, h10⟩ := h
    have ha : u.vm.Alike U.vm := by rw [hv]; exact Vm.Alike.refl u.vm
    exact ⟨h1.moved ha, h2.moved ha, h3.moved ha, h4.moved ha, ⟨r, h5.moved ha⟩, h6.moved ha, h7.moved ha, h8.moved ha, h9.moved ha, h10.same hv⟩
  · intro A U H H1 h hk
    obtain ⟨h1, h2, h3, h4, ⟨r, h5⟩, h6, h7, h8, h9, h10⟩ := h
    exact ⟨h1, h2.kept hk, h3.kept hk, h4.kept hk, ⟨r, h5.kept hk⟩, h6.kept hk, h7.kept hk, h8.kept hk, h9.kept hk, h10⟩
  · intro A B U H h hAB
    obtain ⟨h1, h2, h3, h4, ⟨r, h5⟩, h6, h7, h8, h9, h10⟩ := h
    exact ⟨h1, h2.narrow hAB, h3.narrow hAB, h4.narrow hAB, ⟨r, h5.narrow hAB⟩, h6.narrow hAB, h7.narrow hAB, h8.narrow hAB, h9.narrow hAB, h10⟩
theorem zlim_r : ∀ j, zR (zlim j) := by
  intro j
  unfold zlim zR
  split <;> omega
theorem ztxt_r : ∀ j, zR (ztxt j) ∧ 0 ≤ ztxt j ∧ ztxt j ≤ 127 := by
  intro j
  unfold ztxt zR
  split <;> omega
section ZX
variable {l : Launch} {D : va_G} {k : zK} {E : zE} {cc : ByteArray} {own : String} {nL : Nat} {R : Room} {mc ms : Nat} {rt : Option FieldType} {ini : Prop} {a0 : List Nat} {PR : Int → zW → Prop} {Z : zP}
variable {kc ks pc : Nat} {lv : List (Option zV)} {st : List zV} {ws : zW} {x y : Int} {aR aS aV : Nat}
theorem zB.ldcS (B : zB l D k E cc RX3 nL R mc ms rt ini a0 PR Z) (hEX : zEx E aR aS aV) (hd : decode cc pc = .ok (.ldc 52, 2)) (h : Z kc ks (pc + 2) lv (.inr (some aS) :: st) ws) : Z kc ks pc lv st ws := by
  obtain ⟨p, e, s, m, args, below, meth, c, Q, A, hx, hb, hml, hown, hts, hK, hA, hE, hEs, hin, hri, hrv, rfl⟩ := B
  intro H locs ls r1 r2 r3 r4 hP hD hS hl
  obtain ⟨-, -, -, -, -, -, -, -, -, h10⟩ := hEX _ _ _ hEs
  exact va_ldcS hx hb hown h10 hd (h H locs ls r1 (List.forall_mem_cons.mpr ⟨trivial, r2⟩) r3 r4 hP hD hS hl)
theorem zB.getsLim (B : zB l D k E cc own nL R mc ms rt ini a0 PR Z) (hEX : zEx E aR aS aV) {index : Nat} (hlink : Cond.fieldLink own index "CutLetters" "RULE_LIMITS" "[I" ∈ zTs) (hd : decode cc pc = .ok (.getstatic index, 3)) (h : Z kc ks (pc + 3) lv (.inr (some aR) :: st) ws) : Z kc ks pc lv st ws := by
  obtain ⟨p, e, s, m, args, below, meth, c, Q, A, hx, hb, hml, hown, hts, hK, hA, hE, hEs, hin, hri, hrv, rfl⟩ := B
  intro H locs ls r1 r2 r3 r4 hP hD hS hl
  obtain ⟨-, h2, -⟩ := hEX _ _ _ hEs
  exact va_gets hx hb h2 hS hown (hts _ hlink) (fun _ q => q) hd (h H locs ls r1 (List.forall_mem_cons.mpr ⟨trivial, r2⟩) r3 r4 hP hD hS hl)
theorem zB.limload (B : zB l D k E cc own nL R mc ms rt ini a0 PR Z) (hEX : zEx E aR aS aV) (h0 : 0 ≤ x) (h1 : x < 4) (hd : decode cc pc = .ok (.iaload, 1)) (h : Z kc ks (pc + 1) lv (.inl (zlim x.toNat) :: st) ws) : Z kc ks pc lv (.inl x :: .inr (some aR) :: st) ws := by
  obtain ⟨p, e, s, m, args, below, meth, c, Q, A, hx, hb, hml, hown, hts, hK, hA, hE, hEs, hin, hri, hrv, rfl⟩ := B
  intro H locs ls r1 r2 r3 r4 hP hD hS hl
  obtain ⟨-, -, h3, -⟩ := hEX _ _ _ hEs
  obtain ⟨rx, rr⟩ := List.forall_mem_cons.mp r2
  have rx : zR x := rx
  refine va_ti hx hb h3 hS (i := iZ x) (iZ_in rx h0 (by omega)) (v := .int (iZ (zlim x.toNat))) (by rw [iZ_nat rx h0]) hd ?_
  exact h H locs ls r1 (List.forall_mem_cons.mpr ⟨zlim_r _, (List.forall_mem_cons.mp rr).2⟩) r3 r4 hP hD hS hl
theorem zB.getsCompact (B : zB l D k E cc own nL R mc ms rt ini a0 PR Z) (hEX : zEx E aR aS aV) {index : Nat} (hlink : Cond.fieldLink own index "java/lang/String" "COMPACT_STRINGS" "Z" ∈ zTs) (hd : decode cc pc = .ok (.getstatic index, 3)) (h : Z kc ks (pc + 3) lv (.inl 1 :: st) ws) : Z kc ks pc lv st ws := by
  obtain ⟨p, e, s, m, args, below, meth, c, Q, A, hx, hb, hml, hown, hts, hK, hA, hE, hEs, hin, hri, hrv, rfl⟩ := B
  intro H locs ls r1 r2 r3 r4 hP hD hS hl
  obtain ⟨-, -, -, h4, -⟩ := hEX _ _ _ hEs
  exact va_gets hx hb h4 hS hown (hts _ hlink) (fun _ q => q) hd (h H locs ls r1 (List.forall_mem_cons.mpr ⟨⟨by decide, by decide⟩, r2⟩) r3 r4 hP hD hS hl)
theorem zB.getsFmt (B : zB l D k E cc own nL R mc ms rt ini a0 PR Z) (hEX : zEx E aR aS aV) {index : Nat} (hlink : Cond.fieldLink own index "jdk/internal/util/Preconditions" "SIOOBE_FORMATTER" "Ljava/util/function/BiFunction;" ∈ zTs) (hd : decode cc pc = .ok (.getstatic index, 3)) (h : ∀ r : Option Nat, Z kc ks (pc + 3) lv (.inr r :: st) ws) : Z kc ks pc lv st ws := by
  obtain ⟨p, e, s, m, args, below, meth, c, Q, A, hx, hb, hml, hown, hts, hK, hA, hE, hEs, hin, hri, hrv, rfl⟩ := B
  intro H locs ls r1 r2 r3 r4 hP hD hS hl
  obtain ⟨-, -, -, -, ⟨r, h5⟩, -⟩ := hEX _ _ _ hEs
  exact va_gets hx hb h5 hS hown (hts _ hlink) (fun _ q => q) hd (h r H locs ls r1 (List.forall_mem_cons.mpr ⟨trivial, r2⟩) r3 r4 hP hD hS hl)
theorem zB.strCoder (B : zB l D k E cc own nL R mc ms rt ini a0 PR Z) (hEX : zEx E aR aS aV) {index : Nat} (hlink : Cond.fieldLink own index "java/lang/String" "coder" "B" ∈ zTs) (hd : decode cc pc = .ok (.getfield index, 3)) (h : Z kc ks (pc + 3) lv (.inl 0 :: st) ws) : Z kc ks pc lv (.inr (some aS) :: st) ws := by
  obtain ⟨p, e, s, m, args, below, meth, c, Q, A, hx, hb, hml, hown, hts, hK, hA, hE, hEs, hin, hri, hrv, rfl⟩ := B
  intro H locs ls r1 r2 r3 r4 hP hD hS hl
  obtain ⟨-, -, -, -, -, -, h7, -⟩ := hEX _ _ _ hEs
  exact vk_getf hx hb h7 hS hown (hts _ hlink) (fun _ q => q) hd (h H locs ls r1 (List.forall_mem_cons.mpr ⟨zR_0, (List.forall_mem_cons.mp r2).2⟩) r3 r4 hP hD hS hl)
theorem zB.strValue (B : zB l D k E cc own nL R mc ms rt ini a0 PR Z) (hEX : zEx E aR aS aV) {index : Nat} (hlink : Cond.fieldLink own index "java/lang/String" "value" "[B" ∈ zTs) (hd : decode cc pc = .ok (.getfield index, 3)) (h : Z kc ks (pc + 3) lv (.inr (some aV) :: st) ws) : Z kc ks pc lv (.inr (some aS) :: st) ws := by
  obtain ⟨p, e, s, m, args, below, meth, c, Q, A, hx, hb, hml, hown, hts, hK, hA, hE, hEs, hin, hri, hrv, rfl⟩ := B
  intro H locs ls r1 r2 r3 r4 hP hD hS hl
  obtain ⟨-, -, -, -, -, -, -, h8, -⟩ := hEX _ _ _ hEs
  exact vk_getf hx hb h8 hS hown (hts _ hlink) (fun _ q => q) hd (h H locs ls r1 (List.forall_mem_cons.mpr ⟨trivial, (List.forall_mem_cons.mp r2).2⟩) r3 r4 hP hD hS hl)
theorem zB.strLen (B : zB l D k E cc own nL R mc ms rt ini a0 PR Z) (hEX : zEx E aR aS aV) (hd : decode cc pc = .ok (.arraylength, 1)) (h : Z kc ks (pc + 1) lv (.inl 12 :: st) ws) : Z kc ks pc lv (.inr (some aV) :: st) ws := by
  obtain ⟨p, e, s, m, args, below, meth, c, Q, A, hx, hb, hml, hown, hts, hK, hA, hE, hEs, hin, hri, hrv, rfl⟩ := B
  intro H locs ls r1 r2 r3 r4 hP hD hS hl
  obtain ⟨-, -, -, -, -, -, -, -, h9, -⟩ := hEX _ _ _ hEs
  exact va_tlen hx hb h9 hS (v := iZ 12) rfl hd (h H locs ls r1 (List.forall_mem_cons.mpr ⟨⟨by decide, by decide⟩, (List.forall_mem_cons.mp r2).2⟩) r3 r4 hP hD hS hl)
theorem zB.strByte (B : zB l D k E cc own nL R mc ms rt ini a0 PR Z) (hEX : zEx E aR aS aV) (h0 : 0 ≤ x) (h1 : x < 12) (hd : decode cc pc = .ok (.baload, 1)) (h : Z kc ks (pc + 1) lv (.inl (ztxt x.toNat) :: st) ws) : Z kc ks pc lv (.inl x :: .inr (some aV) :: st) ws := by
  obtain ⟨p, e, s, m, args, below, meth, c, Q, A, hx, hb, hml, hown, hts, hK, hA, hE, hEs, hin, hri, hrv, rfl⟩ := B
  intro H locs ls r1 r2 r3 r4 hP hD hS hl
  obtain ⟨-, -, -, -, -, -, -, -, h9, -⟩ := hEX _ _ _ hEs
  obtain ⟨rx, rr⟩ := List.forall_mem_cons.mp r2
  have rx : zR x := rx
  refine va_tb hx hb h9 hS (i := iZ x) (iZ_in rx h0 (by omega)) (v := .int (iZ (ztxt x.toNat))) (by rw [iZ_nat rx h0]) hd ?_
  exact h H locs ls r1 (List.forall_mem_cons.mpr ⟨(ztxt_r _).1, (List.forall_mem_cons.mp rr).2⟩) r3 r4 hP hD hS hl
theorem zB.i2c (B : zB l D k E cc own nL R mc ms rt ini a0 PR Z) (hd : decode cc pc = .ok (.i2c, 1)) (h : ∀ r : Int, zR r → 0 ≤ r → r < 65536 → Z kc ks (pc + 1) lv (.inl r :: st) ws) : Z kc ks pc lv (.inl x :: st) ws := by
  obtain ⟨p, e, s, m, args, below, meth, c, Q, A, hx, hb, hml, hown, hts, hK, hA, hE, hEs, hin, hri, hrv, rfl⟩ := B
  intro H locs ls r1 r2 r3 r4 hP hD hS hl
  have e1 := pk_char (iZ x)
  have hlt : (iZ x).toBitVec.toNat % 65536 < 65536 := Nat.mod_lt _ (by decide)
  have e2 : nI ((iZ x).toBitVec.toNat % 65536) = iZ (((iZ x).toBitVec.toNat % 65536 : Nat) : Int) := Int32.ofInt_eq_ofNat.symm
  refine lv_i2c hx hb hd (x := iZ x) (v := iZ (((iZ x).toBitVec.toNat % 65536 : Nat) : Int)) (e1.trans e2) ?_
  have hr : zR (((iZ x).toBitVec.toNat % 65536 : Nat) : Int) := ⟨by omega, by omega⟩
  exact h _ hr (by omega) (by omega) H locs ls r1 (List.forall_mem_cons.mpr ⟨hr, (List.forall_mem_cons.mp r2).2⟩) r3 r4 hP hD hS hl
end ZX
theorem zgoodX {own : String} {idx n : Nat} {y : MethodName} {b : ByteArray} {r : Option FieldType} (h1 : Cond.methodLink own idx y ∈ zTs) (h2 : Cond.static y ∈ zTs) (h4 : Cond.initialized y.cls ∈ zTs) (h5 : Cond.code y b n r ∈ zTs) : GoodIn zTs (va_wsS own idx y (Cond.code y b n r :: zTs)) := by
  intro w hw
  have hm : w ∈ zTs := by
    rcases List.mem_append.mp hw with h | h
    · simp only [List.mem_cons, List.not_mem_nil, or_false] at h
      rcases h with rfl | rfl | rfl
      · exact h1
      · exact h2
      · exact h4
    · rcases List.mem_cons.mp h with rfl | h
      · exact h5
      · exact h
  exact ⟨hm, good_of_word (zTs_good hm)⟩
section ZY
variable {l : Launch} {D : va_G} {k : zK} {E : zE} {cc : ByteArray} {own : String} {nL : Nat} {R : Room} {mc ms : Nat} {rt : Option FieldType} {ini : Prop} {a0 : List Nat} {PR : Int → zW → Prop} {Z : zP}
variable {kc ks pc : Nat} {lv : List (Option zV)} {st stk : List zV} {ws wc : zW} {x y : Int}
theorem zB.callViE (B : zB l D k E cc own nL R mc ms rt ini a0 PR Z) {y : MethodName} {b : ByteArray} {n index mc' ms' : Nat} {rr : FieldType} {rm : Room} {P : Prop} {Po : Int → zW → Prop} {a : Nat} {As : List zV} (na : Nat) (M : zMi l D k E y b n rr rm mc' ms' (.inr (some a) :: As) wc P Po) {C : String} (hrecv : ∀ (A : Nat → Prop) (s : State) (H : Heap) (locs : List Loc), E A s s.heap → va_S A s.heap H locs → ∃ cell : Cell, H[a]? = some cell ∧ cell.vm.isStatics = false ∧ s.vm.findClass C = some cell.cls) (h1 : Cond.methodLink own index y ∈ zTs) (h2 : Cond.instanceMethod y ∈ zTs) (h3 : Cond.selects C y y ∈ zTs) (h4 : Cond.initialized C ∈ zTs) (h5 : Cond.code y b n (some rr) ∈ zTs) (hdn : y.cls = C ∧ y.cls ≠ "java/lang/invoke/MethodHandle" ∧ y.cls ≠ "java/lang/invoke/VarHandle" ∧ (parseMethodDescriptor y.desc).map (fun d => d.parameters.length) = some na) (hna : As.length = na) (hrc : rm.cells = mc') (hrs : rm.slots = ms') (hR : rm.frames + 1 ≤ R.frames ∧ 8 + (n + 11) + rm.locals ≤ R.locals) (hf : kc + mc' ≤ R.cells ∧ ks + ms' ≤ R.slots) (is : List Nat) (hsub : is.map (fun i => ws[i]?) = wc.map some) (hnd : va_nd is = true) (hstk : stk = As.reverse ++ .inr (some a) :: st) (hst : st.length ≤ 8) (hd : decode cc pc = .ok (.invokevirtual index, 3)) (hpre : (∀ v ∈ As, zVr v) → P)
    (h : ∀ (z : Int) (u : zW), zR z → zWr u → wc.map Prod.fst <+: u.map Prod.fst → Po z u → Z (kc + mc') (ks + ms') (pc + 3) lv (.inl z :: st) (zput ws is u)) : Z kc ks pc lv stk ws := by
  obtain ⟨p, e, s, m, args, below, meth, c, Q, A, hx, hb, hml, hown, hts, hK, hA, hE, hEs, hin0, hri, hrv, rfl⟩ := B
  intro H locs ls r1 r2 r3 r4 hP hD hS hl
  subst hstk
  have hAs : ∀ v ∈ As, zVr v := fun v hv => r2 v (List.mem_append_left _ (List.mem_reverse.mpr hv))
  have hav0 : ∀ v ∈ (.inr (some a) :: As : List zV), zVr v := List.forall_mem_cons.mpr ⟨trivial, hAs⟩
  have rst : ∀ v ∈ st, zVr v := fun v hv => r2 v (List.mem_append_right _ (List.mem_cons_of_mem _ hv))
  have hpre0 := hpre hAs
  have hrc0 : zWr wc := by
    intro q hq
    obtain ⟨r, hr⟩ := List.getElem?_of_mem hq
    obtain ⟨i, -, hwi⟩ := zsub_at hsub hr
    exact r1 q (List.mem_of_getElem? hwi)
  have hsz := zsub_zw (k := k) hsub
  have hPc : va_P D vwCl (zw k wc) H := by
    intro r q hr
    obtain ⟨x, hx1, he⟩ := zw_get hr
    obtain ⟨i, -, hwi⟩ := zsub_at hsub hx1
    have := hP i _ (zw_at hwi)
    obtain ⟨qa, qe⟩ := q
    simp only at he
    subst he
    exact this
  have hDc : va_D A (zw k wc) := hD.sub is hnd hsz
  have hFc := va_free hD hS hA is hsz
  have hPRE : ∀ U : State, U.heap = H → s.WarmedH U.vm → zPre D k E (.inr (some a) :: As) wc H.size (((.inr (some a) :: As : List zV)).map zv).toArray U := by
    intro U hU hW
    refine ⟨rfl, by rw [hU], by rw [hU]; exact hPc, va_K.moved hW.alike hK, hDc.weaken (fun _ _ _ _ => trivial), ?_⟩
    rw [hU]
    exact hE.1 _ _ _ _ hW (hE.2.2.2 _ _ _ _ (hE.2.2.1 _ _ _ _ hEs (fun q h1 h2 => hS.2.1 q h1 h2)) hFc)
  refine va_calli (va_runV (As := As.map zv) (rest := st.map zv) ⟨hx, hb, hml, hown, hts⟩ (M H.size hrc0 hav0 hpre0) (cwV na hts (zgoodV h1 h2 h3 h4 h5) rfl hrc hrs hdn hR) ⟨zpre_blind hE _ _ _, hrecv A s H locs hEs hS, hPRE⟩ rfl (by rw [List.length_map]; exact hna) hl.choose_spec.1.1 (by simp [zv, va_rf]) (lv_room (by rw [zcat_sum]; exact hst)) hd hf) hS (fun q _ h => hFc q h) hFc (fun r u t H1 locs1 ht hvm hw hB hz1 hk1 hS1 => ?_)
  obtain ⟨z, rfl, rz, ru, ra, hPo⟩ := hw
  obtain ⟨hP1, hD1⟩ := hB
  rw [ht] at hP1
  obtain ⟨g1, g2, g3⟩ := zjoin hP hD hsub hnd hk1 hFc hP1 hD1 ra
  exact h z u rz ru ra hPo H1 locs1 ls (zput_r is ws u r1 ru) (List.forall_mem_cons.mpr ⟨rz, rst⟩) r3 (by rw [g3]; exact List.IsPrefix.trans r4 (List.prefix_append _ _)) g1 g2 hS1 hl
theorem zB.callSiX (B : zB l D k E cc own nL R mc ms rt ini a0 PR Z) {y : MethodName} {b : ByteArray} {n index mc' ms' : Nat} {rr : FieldType} {rm : Room} {P : Prop} {Po : Int → zW → Prop} {As : List zV} (na : Nat) (M : zMi l D k E y b n rr rm mc' ms' As wc P Po) (h1 : Cond.methodLink own index y ∈ zTs) (h2 : Cond.static y ∈ zTs) (h4 : Cond.initialized y.cls ∈ zTs) (h5 : Cond.code y b n (some rr) ∈ zTs) (hdn : y.cls ≠ "java/lang/invoke/MethodHandle" ∧ y.cls ≠ "java/lang/invoke/VarHandle" ∧ (parseMethodDescriptor y.desc).map (fun d => d.parameters.length) = some na) (hna : As.length = na) (hrc : rm.cells = mc') (hrs : rm.slots = ms') (hR : rm.frames + 1 ≤ R.frames ∧ 8 + (n + 11) + rm.locals ≤ R.locals) (hf : kc + mc' ≤ R.cells ∧ ks + ms' ≤ R.slots) (is : List Nat) (hsub : is.map (fun i => ws[i]?) = wc.map some) (hnd : va_nd is = true) (hstk : stk = As.reverse ++ st) (hst : st.length ≤ 8) (hd : decode cc pc = .ok (.invokestatic index, 3)) (hpre : (∀ v ∈ As, zVr v) → P)
    (h : ∀ (z : Int) (u : zW), zR z → zWr u → wc.map Prod.fst <+: u.map Prod.fst → Po z u → Z (kc + mc') (ks + ms') (pc + 3) lv (.inl z :: st) (zput ws is u)) : Z kc ks pc lv stk ws := by
  obtain ⟨p, e, s, m, args, below, meth, c, Q, A, hx, hb, hml, hown, hts, hK, hA, hE, hEs, hin0, hri, hrv, rfl⟩ := B
  intro H locs ls r1 r2 r3 r4 hP hD hS hl
  subst hstk
  have hav0 : ∀ v ∈ As, zVr v := fun v hv => r2 v (List.mem_append_left _ (List.mem_reverse.mpr hv))
  have rst : ∀ v ∈ st, zVr v := fun v hv => r2 v (List.mem_append_right _ hv)
  have hpre0 := hpre hav0
  have hrc0 : zWr wc := by
    intro q hq
    obtain ⟨r, hr⟩ := List.getElem?_of_mem hq
    obtain ⟨i, -, hwi⟩ := zsub_at hsub hr
    exact r1 q (List.mem_of_getElem? hwi)
  have hsz := zsub_zw (k := k) hsub
  have hPc : va_P D vwCl (zw k wc) H := by
    intro r q hr
    obtain ⟨x, hx1, he⟩ := zw_get hr
    obtain ⟨i, -, hwi⟩ := zsub_at hsub hx1
    have := hP i _ (zw_at hwi)
    obtain ⟨qa, qe⟩ := q
    simp only at he
    subst he
    exact this
  have hDc : va_D A (zw k wc) := hD.sub is hnd hsz
  have hFc := va_free hD hS hA is hsz
  have hPRE : ∀ U : State, U.heap = H → s.WarmedH U.vm → zPre D k E (As) wc H.size (((As : List zV)).map zv).toArray U := by
    intro U hU hW
    refine ⟨rfl, by rw [hU], by rw [hU]; exact hPc, va_K.moved hW.alike hK, hDc.weaken (fun _ _ _ _ => trivial), ?_⟩
    rw [hU]
    exact hE.1 _ _ _ _ hW (hE.2.2.2 _ _ _ _ (hE.2.2.1 _ _ _ _ hEs (fun q h1 h2 => hS.2.1 q h1 h2)) hFc)
  refine va_calli (va_runS (As := As.map zv) (rest := st.map zv) ⟨hx, hb, hml, hown, hts⟩ (M H.size hrc0 hav0 hpre0) (va_cwS na hts (zgoodX h1 h2 h4 h5) rfl hrc hrs hdn hR) ⟨zpre_blind hE _ _ _, hPRE⟩ rfl (by rw [List.length_map]; exact hna) hl.choose_spec.1.1 (by simp) (lv_room (by rw [zcat_sum]; exact hst)) hd hf) hS (fun q _ h => hFc q h) hFc (fun r u t H1 locs1 ht hvm hw hB hz1 hk1 hS1 => ?_)
  obtain ⟨z, rfl, rz, ru, ra, hPo⟩ := hw
  obtain ⟨hP1, hD1⟩ := hB
  rw [ht] at hP1
  obtain ⟨g1, g2, g3⟩ := zjoin hP hD hsub hnd hk1 hFc hP1 hD1 ra
  exact h z u rz ru ra hPo H1 locs1 ls (zput_r is ws u r1 ru) (List.forall_mem_cons.mpr ⟨rz, rst⟩) r3 (by rw [g3]; exact List.IsPrefix.trans r4 (List.prefix_append _ _)) g1 g2 hS1 hl
theorem zB.callSvX (B : zB l D k E cc own nL R mc ms rt ini a0 PR Z) {y : MethodName} {b : ByteArray} {n index mc' ms' : Nat} {rm : Room} {P : Prop} {Po : Int → zW → Prop} {As : List zV} (na : Nat) (M : zMv l D k E y b n rm mc' ms' As wc P Po) (h1 : Cond.methodLink own index y ∈ zTs) (h2 : Cond.static y ∈ zTs) (h4 : Cond.initialized y.cls ∈ zTs) (h5 : Cond.code y b n none ∈ zTs) (hdn : y.cls ≠ "java/lang/invoke/MethodHandle" ∧ y.cls ≠ "java/lang/invoke/VarHandle" ∧ (parseMethodDescriptor y.desc).map (fun d => d.parameters.length) = some na) (hna : As.length = na) (hrc : rm.cells = mc') (hrs : rm.slots = ms') (hR : rm.frames + 1 ≤ R.frames ∧ 8 + (n + 11) + rm.locals ≤ R.locals) (hf : kc + mc' ≤ R.cells ∧ ks + ms' ≤ R.slots) (is : List Nat) (hsub : is.map (fun i => ws[i]?) = wc.map some) (hnd : va_nd is = true) (hstk : stk = As.reverse ++ st) (hst : st.length ≤ 8) (hd : decode cc pc = .ok (.invokestatic index, 3)) (hpre : (∀ v ∈ As, zVr v) → P)
    (h : ∀ (u : zW), zWr u → wc.map Prod.fst <+: u.map Prod.fst → Po 0 u → Z (kc + mc') (ks + ms') (pc + 3) lv st (zput ws is u)) : Z kc ks pc lv stk ws := by
  obtain ⟨p, e, s, m, args, below, meth, c, Q, A, hx, hb, hml, hown, hts, hK, hA, hE, hEs, hin0, hri, hrv, rfl⟩ := B
  intro H locs ls r1 r2 r3 r4 hP hD hS hl
  subst hstk
  have hav0 : ∀ v ∈ As, zVr v := fun v hv => r2 v (List.mem_append_left _ (List.mem_reverse.mpr hv))
  have rst : ∀ v ∈ st, zVr v := fun v hv => r2 v (List.mem_append_right _ hv)
  have hpre0 := hpre hav0
  have hrc0 : zWr wc := by
    intro q hq
    obtain ⟨r, hr⟩ := List.getElem?_of_mem hq
    obtain ⟨i, -, hwi⟩ := zsub_at hsub hr
    exact r1 q (List.mem_of_getElem? hwi)
  have hsz := zsub_zw (k := k) hsub
  have hPc : va_P D vwCl (zw k wc) H := by
    intro r q hr
    obtain ⟨x, hx1, he⟩ := zw_get hr
    obtain ⟨i, -, hwi⟩ := zsub_at hsub hx1
    have := hP i _ (zw_at hwi)
    obtain ⟨qa, qe⟩ := q
    simp only at he
    subst he
    exact this
  have hDc : va_D A (zw k wc) := hD.sub is hnd hsz
  have hFc := va_free hD hS hA is hsz
  have hPRE : ∀ U : State, U.heap = H → s.WarmedH U.vm → zPre D k E (As) wc H.size (((As : List zV)).map zv).toArray U := by
    intro U hU hW
    refine ⟨rfl, by rw [hU], by rw [hU]; exact hPc, va_K.moved hW.alike hK, hDc.weaken (fun _ _ _ _ => trivial), ?_⟩
    rw [hU]
    exact hE.1 _ _ _ _ hW (hE.2.2.2 _ _ _ _ (hE.2.2.1 _ _ _ _ hEs (fun q h1 h2 => hS.2.1 q h1 h2)) hFc)
  refine va_callv (va_runS (As := As.map zv) (rest := st.map zv) ⟨hx, hb, hml, hown, hts⟩ (M H.size hrc0 hav0 hpre0) (va_cwS na hts (zgoodX h1 h2 h4 h5) rfl hrc hrs hdn hR) ⟨zpre_blind hE _ _ _, hPRE⟩ rfl (by rw [List.length_map]; exact hna) hl.choose_spec.1.1 (by simp) (lv_room (by rw [zcat_sum]; exact hst)) hd hf) hS (fun q _ h => hFc q h) hFc (fun u t H1 locs1 ht hvm hw hB hz1 hk1 hS1 => ?_)
  obtain ⟨ru, ra, hPo⟩ := hw
  obtain ⟨hP1, hD1⟩ := hB
  rw [ht] at hP1
  obtain ⟨g1, g2, g3⟩ := zjoin hP hD hsub hnd hk1 hFc hP1 hD1 ra
  exact h u ru ra hPo H1 locs1 ls (zput_r is ws u r1 ru) rst r3 (by rw [g3]; exact List.IsPrefix.trans r4 (List.prefix_append _ _)) g1 g2 hS1 hl
end ZY
theorem zchar {z : Int} (h0 : 0 ≤ z) (h1 : z < 65536) : narrow .char (.int (iZ z)) = .int (iZ z) := by
  have e : iZ z = nI z.toNat := by
    have : z = (z.toNat : Int) := by omega
    rw [this]
    exact Int32.ofInt_eq_ofNat
  rw [e]
  exact (pk_charN (q := z.toNat) (by omega)).1
theorem zrecS {E : zE} {aR aS aV : Nat} (hEX : zEx E aR aS aV) : ∀ (A : Nat → Prop) (s : State) (H : Heap) (locs : List Loc), E A s s.heap → va_S A s.heap H locs → ∃ cell : Cell, H[aS]? = some cell ∧ cell.vm.isStatics = false ∧ s.vm.findClass RJ0 = some cell.cls := by
  intro A s H locs h1 h2
  obtain ⟨-, -, -, -, -, h6, -⟩ := hEX _ _ _ h1
  obtain ⟨cell, a, b, c, -⟩ := h6.kept h2.2.1
  exact ⟨cell, a, b, c⟩
end
section
/-! what always holds of a dictionary, a book, a net, a ranking -/
def DI (c : Int) (le ki co : Nat → Int) : Prop := 0 ≤ c ∧ c ≤ 16 ∧ ∀ j : Nat, (j : Int) < c → 1 ≤ le j ∧ le j ≤ 6 ∧ 0 ≤ ki j ∧ ki j ≤ 2 ∧ 0 ≤ co j ∧ co j ≤ 99
theorem zup_eq {g : Nat → Int} {k : Nat} {x : Int} : zup g k x k = x := by simp [zup]
theorem zup_ne {g : Nat → Int} {k j : Nat} {x : Int} (h : j ≠ k) : zup g k x j = g j := by simp [zup, h]
theorem zcp_in {f g : Nat → Int} {sp dp n j : Nat} (h : dp ≤ j) (h2 : j < dp + n) : zcp f g sp dp n j = f (sp + (j - dp)) := by simp [zcp, h, h2]
theorem zcp_out {f g : Nat → Int} {sp dp n j : Nat} (h : j < dp ∨ dp + n ≤ j) : zcp f g sp dp n j = g j := by
  have : ¬ (dp ≤ j ∧ j < dp + n) := by omega
  simp [zcp, this]
theorem DI.at {c : Int} {le ki co : Nat → Int} (h : DI c le ki co) {x : Int} (h0 : 0 ≤ x) (h1 : x < c) : 1 ≤ le x.toNat ∧ le x.toNat ≤ 6 ∧ 0 ≤ ki x.toNat ∧ ki x.toNat ≤ 2 ∧ 0 ≤ co x.toNat ∧ co x.toNat ≤ 99 := h.2.2 x.toNat (by omega)
theorem DI.add {c : Int} {le ki co : Nat → Int} (h : DI c le ki co) (hc : c < 16) {x y w : Int} (hx : 1 ≤ x ∧ x ≤ 6) (hy : 0 ≤ y ∧ y ≤ 2) (hw : 0 ≤ w ∧ w ≤ 99) : DI (c + 1) (zup le c.toNat x) (zup ki c.toNat y) (zup co c.toNat w) := by
  obtain ⟨h1, h2, h3⟩ := h
  refine ⟨by omega, by omega, fun j hj => ?_⟩
  by_cases e : j = c.toNat
  · subst e
    rw [zup_eq, zup_eq, zup_eq]; omega
  · rw [zup_ne e, zup_ne e, zup_ne e]
    exact h3 j (by omega)
theorem DI.cost {c : Int} {le ki co : Nat → Int} (h : DI c le ki co) {x w : Int} (h0 : 0 ≤ x) (h1 : x < c) (hw : 0 ≤ w ∧ w ≤ 99) : DI c le ki (zup co x.toNat w) := by
  obtain ⟨g1, g2, g3⟩ := h
  refine ⟨g1, g2, fun j hj => ?_⟩
  have := g3 j hj
  by_cases e : j = x.toNat
  · subst e
    rw [zup_eq]; omega
  · rw [zup_ne e]
    exact this
theorem DI.rem {c : Int} {le ki co : Nat → Int} (h : DI c le ki co) {x : Int} (h0 : 0 ≤ x) (h1 : x < c) {a b n : Nat} (ha : a = x.toNat + 1) (hb : b = x.toNat) (hn : n = (c - x - 1).toNat) : DI (c - 1) (zcp le le a b n) (zcp ki ki a b n) (zcp co co a b n) := by
  obtain ⟨g1, g2, g3⟩ := h
  subst ha; subst hb; subst hn
  refine ⟨by omega, by omega, fun j hj => ?_⟩
  by_cases e : j < x.toNat
  · rw [zcp_out (Or.inl e), zcp_out (Or.inl e), zcp_out (Or.inl e)]
    exact g3 j (by omega)
  · rw [zcp_in (by omega) (by omega), zcp_in (by omega) (by omega), zcp_in (by omega) (by omega)]
    exact g3 _ (by omega)
theorem DI.eq {c : Int} {le ki co le' ki' co' : Nat → Int} (h : DI c le ki co) (h1 : ∀ j : Nat, j < 16 → le' j = le j) (h2 : ∀ j : Nat, j < 16 → ki' j = ki j) (h3 : ∀ j : Nat, j < 16 → co' j = co j) : DI c le' ki' co' := by
  obtain ⟨g1, g2, g3⟩ := h
  refine ⟨g1, g2, fun j hj => ?_⟩
  rw [h1 j (by omega), h2 j (by omega), h3 j (by omega)]
  exact g3 j hj
/-- joins, rules, the line's length -/
def BI (jo ru : Nat → Int) (len : Int) : Prop := (∀ j : Nat, j < 25 → 0 ≤ jo j ∧ jo j ≤ 99) ∧ 0 ≤ ru 0 ∧ ru 0 ≤ 2 ∧ 0 ≤ ru 1 ∧ ru 1 ≤ 99 ∧ 0 ≤ ru 2 ∧ ru 2 ≤ 99 ∧ 0 ≤ ru 3 ∧ ru 3 ≤ 3 ∧ 0 ≤ len ∧ len ≤ 24
theorem BI.eq {jo ru jo' ru' : Nat → Int} {len : Int} (h : BI jo ru len) (h1 : ∀ j : Nat, j < 25 → jo' j = jo j) (h2 : ∀ j : Nat, j < 4 → ru' j = ru j) : BI jo' ru' len := by
  obtain ⟨g, g1⟩ := h
  refine ⟨fun j hj => by rw [h1 j hj]; exact g j hj, ?_⟩
  rw [h2 0 (by omega), h2 1 (by omega), h2 2 (by omega), h2 3 (by omega)]
  exact g1
theorem zcp_all {f g : Nat → Int} {n j : Nat} (h : j < n) : zcp f g 0 0 n j = f j := by rw [zcp_in (by omega) (by omega)]; congr 1; omega
/-- what always holds of the pieces' rows, all of them -/
def PB (pl le ki co : Nat → Int) : Prop := ∀ i : Nat, i < 480 → 0 ≤ pl i ∧ 0 ≤ le i ∧ le i ≤ 6 ∧ pl i + le i ≤ 24 ∧ 0 ≤ ki i ∧ ki i ≤ 3 ∧ 0 ≤ co i ∧ co i ≤ 693
theorem PB.at {pl le ki co : Nat → Int} (h : PB pl le ki co) {x : Int} (h0 : 0 ≤ x) (h1 : x < 480) : 0 ≤ pl x.toNat ∧ 0 ≤ le x.toNat ∧ le x.toNat ≤ 6 ∧ pl x.toNat + le x.toNat ≤ 24 ∧ 0 ≤ ki x.toNat ∧ ki x.toNat ≤ 3 ∧ 0 ≤ co x.toNat ∧ co x.toNat ≤ 693 := h x.toNat (by omega)
theorem PB.add {pl le ki co : Nat → Int} (h : PB pl le ki co) (n : Nat) {a b c d : Int} (h1 : 0 ≤ a ∧ 0 ≤ b ∧ b ≤ 6 ∧ a + b ≤ 24 ∧ 0 ≤ c ∧ c ≤ 3 ∧ 0 ≤ d ∧ d ≤ 693) : PB (zup pl n a) (zup le n b) (zup ki n c) (zup co n d) := by
  intro i hi
  by_cases e : i = n
  · subst e
    rw [zup_eq, zup_eq, zup_eq, zup_eq]; exact h1
  · rw [zup_ne e, zup_ne e, zup_ne e, zup_ne e]
    exact h i hi
/-- what may stand in the slots of a place -/
def SI (sl : Nat → Int) (place len dc : Int) : Prop := ∀ s : Nat, s < 28 → sl s ≠ -1 → 4 ≤ s ∧ place + ((s / 4 : Nat) : Int) ≤ len ∧ (sl s = -6 ∨ (0 ≤ sl s ∧ sl s < dc))
theorem SI.put {sl : Nat → Int} {place len dc : Int} (h : SI sl place len dc) {x v : Int} (h0 : 4 ≤ x) (h1 : x < 28) (h2 : place + x / 4 ≤ len) (hv : v = -6 ∨ (0 ≤ v ∧ v < dc)) : SI (zup sl x.toNat v) place len dc := by
  intro s hs hn
  by_cases e : s = x.toNat
  · subst e
    rw [zup_eq]
    refine ⟨by omega, ?_, hv⟩
    omega
  · rw [zup_ne e] at hn ⊢
    exact h s hs hn
theorem SI.none {sl : Nat → Int} {place len dc : Int} (h : ∀ s : Nat, s < 28 → sl s = -1) : SI sl place len dc := fun s hs hn => absurd (h s hs) hn
/-- pieces by places, as far as they have been laid -/
def NP (pl le fi : Nat → Int) (place count : Int) : Prop := (∀ p : Nat, (p : Int) < place → 0 ≤ fi p ∧ fi p ≤ count) ∧ ∀ p i : Nat, (p : Int) < place → fi p ≤ i → (i : Int) < count → ((p : Int) + 1 < place → (i : Int) < fi (p + 1)) → pl i = p ∧ 1 ≤ le i
def NF (pl le fi : Nat → Int) (len : Int) : Prop := ∀ p i : Nat, (p : Int) < len → fi p ≤ i → (i : Int) < fi (p + 1) → pl i = p ∧ 1 ≤ le i
theorem NP.step {pl le fi pl' le' : Nat → Int} {place count count' : Int} (h : NP pl le fi place count) (h0 : 0 ≤ place) (hc : 0 ≤ count) (hcc : count ≤ count') (hold : ∀ i : Nat, (i : Int) < count → pl' i = pl i ∧ le' i = le i) (hnew : ∀ i : Nat, count ≤ i → (i : Int) < count' → pl' i = place ∧ 1 ≤ le' i) : NP pl' le' (zup fi place.toNat count) (place + 1) count' := by
  obtain ⟨g1, g2⟩ := h
  have hp : ∀ p : Nat, (p : Int) < place → zup fi place.toNat count p = fi p := fun p hp => zup_ne (by omega)
  have hp2 : ∀ p : Nat, (p : Int) = place → zup fi place.toNat count p = count := fun p hp => by
    have : p = place.toNat := by omega
    rw [this, zup_eq]
  refine ⟨fun p hlt => ?_, fun p i hlt h1 h2 h3 => ?_⟩
  · by_cases e : (p : Int) < place
    · rw [hp p e]; have := g1 p e; omega
    · rw [hp2 p (by omega)]; omega
  · by_cases e : (p : Int) < place
    · rw [hp p e] at h1
      have hi : (i : Int) < count := by
        by_cases e2 : ((p : Int) + 1) < place
        · have h4 := h3 (by omega)
          rw [hp (p + 1) (by omega)] at h4
          have := (g1 (p + 1) (by omega)).2
          omega
        · have h4 := h3 (by omega)
          rw [hp2 (p + 1) (by omega)] at h4
          exact h4
      have := g2 p i e h1 hi (fun q => by
        have h4 := h3 (by omega)
        rw [hp (p + 1) (by omega)] at h4
        exact h4)
      obtain ⟨a, b⟩ := hold i hi
      rw [a, b]; exact this
    · rw [hp2 p (by omega)] at h1
      have := hnew i h1 h2
      omega
theorem NP.done {pl le fi : Nat → Int} {len count : Int} (h : NP pl le fi len count) (h0 : 0 ≤ len) : NF pl le (zup fi len.toNat count) len := by
  obtain ⟨g1, g2⟩ := h
  intro p i hlt h1 h2
  rw [zup_ne (by omega)] at h1
  by_cases e : (p : Int) + 1 < len
  · rw [zup_ne (by omega)] at h2
    have := (g1 (p + 1) (by omega)).2
    exact g2 p i hlt h1 (by omega) (fun _ => h2)
  · have : p + 1 = len.toNat := by omega
    rw [this, zup_eq] at h2
    exact g2 p i hlt h1 h2 (fun q => absurd q e)
def FB (fi : Nat → Int) : Prop := ∀ p : Nat, p < 25 → 0 ≤ fi p ∧ fi p ≤ 480
theorem FB.put {fi : Nat → Int} (h : FB fi) (k : Nat) {c : Int} (hc : 0 ≤ c ∧ c ≤ 480) : FB (zup fi k c) := by
  intro p hp
  by_cases e : p = k
  · subst e; rw [zup_eq]; exact hc
  · rw [zup_ne e]; exact h p hp
def JB (jo : Nat → Int) : Prop := ∀ j : Nat, j < 25 → 0 ≤ jo j ∧ jo j ≤ 99
theorem JB.at {jo : Nat → Int} (h : JB jo) {x : Int} (h0 : 0 ≤ x) (h1 : x < 25) : 0 ≤ jo x.toNat ∧ jo x.toNat ≤ 99 := h x.toNat (by omega)
theorem zmul_b {x y a b : Int} (h0 : 0 ≤ x) (h1 : x ≤ a) (h2 : 0 ≤ y) (h3 : y ≤ b) : 0 ≤ x * y ∧ x * y ≤ a * b := ⟨Int.mul_nonneg h0 h2, Int.mul_le_mul h1 h3 h2 (by omega)⟩
theorem zmul_r {x y : Int} (h0 : 0 ≤ x) (h1 : x ≤ 1000) (h2 : 0 ≤ y) (h3 : y ≤ 1000) : zR (x * y) := by
  have := zmul_b h0 h1 h2 h3
  exact ⟨by omega, by omega⟩
theorem add_old {pl le pl' le' pl0 le0 : Nat → Int} {n n' c0 place v : Int} (_ : n' = n + 1) (hp : pl' = zup pl n.toNat place) (hl : le' = zup le n.toNat v) (hn : 0 ≤ n) (hc : c0 ≤ n) (old : ∀ i : Nat, (i : Int) < c0 → pl i = pl0 i ∧ le i = le0 i) : ∀ i : Nat, (i : Int) < c0 → pl' i = pl0 i ∧ le' i = le0 i := by
  intro i hi
  rw [hp, hl, zup_ne (by omega), zup_ne (by omega)]
  exact old i hi
theorem add_new {pl le pl' le' : Nat → Int} {n n' c0 place v : Int} (h1 : n' = n + 1) (hp : pl' = zup pl n.toNat place) (hl : le' = zup le n.toNat v) (hn : 0 ≤ n) (hc : c0 ≤ n) (hv : 1 ≤ v) (new : ∀ i : Nat, c0 ≤ i → (i : Int) < n → pl i = place ∧ 1 ≤ le i) : ∀ i : Nat, c0 ≤ i → (i : Int) < n' → pl' i = place ∧ 1 ≤ le' i := by
  intro i h2 h3
  by_cases e : i = n.toNat
  · rw [hp, hl, e, zup_eq, zup_eq]; exact ⟨rfl, hv⟩
  · rw [hp, hl, zup_ne e, zup_ne e]
    exact new i h2 (by omega)
theorem fill_step {g : Nat → Int} {s v : Int} (h : ∀ j : Nat, (j : Int) < s → g j = v) (h0 : 0 ≤ s) : ∀ j : Nat, (j : Int) < s + 1 → zup g s.toNat v j = v := by
  intro j hj
  by_cases e : j = s.toNat
  · rw [e, zup_eq]
  · rw [zup_ne e]; exact h j (by omega)
theorem FB.at {fi : Nat → Int} (h : FB fi) {x : Int} (h0 : 0 ≤ x) (h1 : x < 25) : 0 ≤ fi x.toNat ∧ fi x.toNat ≤ 480 := h x.toNat (by omega)
theorem NF.at {pl le fi : Nat → Int} {len : Int} (h : NF pl le fi len) {p x : Int} (h0 : 0 ≤ p) (h1 : p < len) (hx : 0 ≤ x) (h2 : fi p.toNat ≤ x) (h3 : x < fi (p + 1).toNat) : pl x.toNat = p ∧ 1 ≤ le x.toNat := by
  have e : (p + 1).toNat = p.toNat + 1 := by omega
  rw [e] at h3
  have := h p.toNat x.toNat (by omega) (by omega) (by omega)
  omega
/-- what always holds of the kept ways: a first piece that there may be, a cost that fits its place -/
def KB (ke : Nat → Int) : Prop := ∀ j : Nat, j < 1500 → 0 ≤ ke j ∧ ke j / 16 % 512 < 480 ∧ ke j / 8192 ≤ (24 - ((j / 60 : Nat) : Int)) * 792 + 99
theorem KB.at {ke : Nat → Int} (h : KB ke) {x : Int} (h0 : 0 ≤ x) (h1 : x < 1500) : 0 ≤ ke x.toNat ∧ ke x.toNat / 16 % 512 < 480 ∧ ke x.toNat / 8192 ≤ (24 - x / 60) * 792 + 99 := by
  have := h x.toNat (by omega)
  have e : ((x.toNat / 60 : Nat) : Int) = x / 60 := by omega
  rw [e] at this
  exact this
theorem KB.put {ke : Nat → Int} (h : KB ke) {x v : Int} (h0 : 0 ≤ x) (hv : 0 ≤ v) (h1 : v / 16 % 512 < 480) (h2 : v / 8192 ≤ (24 - x / 60) * 792 + 99) : KB (zup ke x.toNat v) := by
  intro j hj
  by_cases e : j = x.toNat
  · subst e
    rw [zup_eq]
    have e : ((x.toNat / 60 : Nat) : Int) = x / 60 := by omega
    rw [e]
    exact ⟨hv, h1, h2⟩
  · rw [zup_ne e]; exact h j hj
def CB (co : Nat → Int) : Prop := ∀ j : Nat, j < 125 → 0 ≤ co j ∧ co j ≤ 12
theorem CB.at {co : Nat → Int} (h : CB co) {x : Int} (h0 : 0 ≤ x) (h1 : x < 125) : 0 ≤ co x.toNat ∧ co x.toNat ≤ 12 := h x.toNat (by omega)
theorem CB.put {co : Nat → Int} (h : CB co) (k : Nat) {v : Int} (hv : 0 ≤ v ∧ v ≤ 12) : CB (zup co k v) := by
  intro j hj
  by_cases e : j = k
  · subst e; rw [zup_eq]; exact hv
  · rw [zup_ne e]; exact h j hj
def FO (fo : Nat → Int) : Prop := ∀ j : Nat, j < 24 → 0 ≤ fo j ∧ fo j < 480
theorem FO.at {fo : Nat → Int} (h : FO fo) {x : Int} (h0 : 0 ≤ x) (h1 : x < 24) : 0 ≤ fo x.toNat ∧ fo x.toNat < 480 := h x.toNat (by omega)
theorem FO.put {fo : Nat → Int} (h : FO fo) (k : Nat) {v : Int} (hv : 0 ≤ v ∧ v < 480) : FO (zup fo k v) := by
  intro j hj
  by_cases e : j = k
  · subst e; rw [zup_eq]; exact hv
  · rw [zup_ne e]; exact h j hj
theorem BI.len {jo ru : Nat → Int} {len len' : Int} (h : BI jo ru len) (h0 : 0 ≤ len') (h1 : len' ≤ 24) : BI jo ru len' := by
  obtain ⟨g, g1, g2, g3, g4, g5, g6, g7, g8, -, -⟩ := h
  exact ⟨g, g1, g2, g3, g4, g5, g6, g7, g8, h0, h1⟩
theorem BI.join {jo ru : Nat → Int} {len : Int} (h : BI jo ru len) (k : Nat) {c : Int} (hc : 0 ≤ c ∧ c ≤ 99) : BI (zup jo k c) ru len := by
  obtain ⟨g, g1⟩ := h
  refine ⟨fun j hj => ?_, g1⟩
  by_cases e : j = k
  · subst e; rw [zup_eq]; exact hc
  · rw [zup_ne e]; exact g j hj
-- ===== the reference
def II (im : Nat → Int) (b : Nat) : Prop := DI (im (b + 210)) (fun w => im (b + 96 + w)) (fun w => im (b + 112 + w)) (fun w => im (b + 128 + w)) ∧ BI (fun j => im (b + 144 + j)) (fun j => im (b + 170 + j)) (im (b + 211))
def MI (wd : Int) (sz kd co jo ru : Nat → Int) (ln sg : Int) (im kp : Nat → Int) : Prop := DI wd sz kd co ∧ BI jo ru ln ∧ (0 ≤ sg ∧ sg ≤ 40) ∧ (kp 0 ≠ 0 → II im 0) ∧ (kp 1 ≠ 0 → II im 230)
theorem DI.set {c : Int} {le ki co : Nat → Int} (h : DI c le ki co) {x a b d : Int} (h0 : 0 ≤ x) (h1 : x < c) (ha : 1 ≤ a ∧ a ≤ 6) (hb : 0 ≤ b ∧ b ≤ 2) (hd : 0 ≤ d ∧ d ≤ 99) : DI c (zup le x.toNat a) (zup ki x.toNat b) (zup co x.toNat d) := by
  obtain ⟨g1, g2, g3⟩ := h
  refine ⟨g1, g2, fun j hj => ?_⟩
  by_cases e : j = x.toNat
  · subst e
    rw [zup_eq, zup_eq, zup_eq]; omega
  · rw [zup_ne e, zup_ne e, zup_ne e]
    exact g3 j hj
theorem DI.less {c c' : Int} {le ki co : Nat → Int} (h : DI c le ki co) (h0 : 0 ≤ c') (h1 : c' ≤ c) : DI c' le ki co := ⟨h0, by have := h.2.1; omega, fun j hj => h.2.2 j (by omega)⟩
theorem BI.rule {jo ru : Nat → Int} {len : Int} (h : BI jo ru len) {w n : Int} (hw : 0 ≤ w ∧ w ≤ 3) (hn : 0 ≤ n ∧ n ≤ 99 ∧ (w = 0 → n ≤ 2) ∧ (w = 3 → n ≤ 3)) : BI jo (zup ru w.toNat n) len := by
  obtain ⟨g, g1, g2, g3, g4, g5, g6, g7, g8, g9, g10⟩ := h
  have hc : w = 0 ∨ w = 1 ∨ w = 2 ∨ w = 3 := by omega
  rcases hc with rfl | rfl | rfl | rfl
  · have e0 : zup ru (0 : Int).toNat n 0 = n := zup_eq
    have e1 : zup ru (0 : Int).toNat n 1 = ru 1 := zup_ne (by decide)
    have e2 : zup ru (0 : Int).toNat n 2 = ru 2 := zup_ne (by decide)
    have e3 : zup ru (0 : Int).toNat n 3 = ru 3 := zup_ne (by decide)
    refine ⟨g, ?_⟩
    rw [e0, e1, e2, e3]; omega
  · have e0 : zup ru (1 : Int).toNat n 0 = ru 0 := zup_ne (by decide)
    have e1 : zup ru (1 : Int).toNat n 1 = n := zup_eq
    have e2 : zup ru (1 : Int).toNat n 2 = ru 2 := zup_ne (by decide)
    have e3 : zup ru (1 : Int).toNat n 3 = ru 3 := zup_ne (by decide)
    refine ⟨g, ?_⟩
    rw [e0, e1, e2, e3]; omega
  · have e0 : zup ru (2 : Int).toNat n 0 = ru 0 := zup_ne (by decide)
    have e1 : zup ru (2 : Int).toNat n 1 = ru 1 := zup_ne (by decide)
    have e2 : zup ru (2 : Int).toNat n 2 = n := zup_eq
    have e3 : zup ru (2 : Int).toNat n 3 = ru 3 := zup_ne (by decide)
    refine ⟨g, ?_⟩
    rw [e0, e1, e2, e3]; omega
  · have e0 : zup ru (3 : Int).toNat n 0 = ru 0 := zup_ne (by decide)
    have e1 : zup ru (3 : Int).toNat n 1 = ru 1 := zup_ne (by decide)
    have e2 : zup ru (3 : Int).toNat n 2 = ru 2 := zup_ne (by decide)
    have e3 : zup ru (3 : Int).toNat n 3 = n := zup_eq
    refine ⟨g, ?_⟩
    rw [e0, e1, e2, e3]; omega
-- counting
def cn (P : Nat → Bool) : Nat → Nat
  | 0 => 0
  | m + 1 => cn P m + (if P m then 1 else 0)
theorem cn_le (P : Nat → Bool) : ∀ m, cn P m ≤ m
  | 0 => Nat.le_refl _
  | m + 1 => by
    have := cn_le P m
    unfold cn
    split <;> omega
theorem cn_mono {P Q : Nat → Bool} (h : ∀ i, P i = true → Q i = true) : ∀ m, cn P m ≤ cn Q m
  | 0 => Nat.le_refl _
  | m + 1 => by
    have := cn_mono h m
    unfold cn
    by_cases hp : P m = true
    · have := h m hp
      simp [hp, this]; omega
    · simp [hp]; split <;> omega
theorem cn_lt {P Q : Nat → Bool} (h : ∀ i, P i = true → Q i = true) {j : Nat} (hp : ¬ P j = true) (hq : Q j = true) : ∀ m, j < m → cn P m + 1 ≤ cn Q m
  | 0, hj => by omega
  | m + 1, hj => by
    unfold cn
    by_cases e : j = m
    · subst e
      have := cn_mono h j
      simp [hp, hq]; omega
    · have := cn_lt h hp hq m (by omega)
      by_cases hp' : P m = true
      · have := h m hp'
        simp [hp', this]; omega
      · simp [hp']; split <;> omega
/-- how many words come before: by size, kind, number -/
def ct (sz kd : Nat → Int) (wd n k w : Int) : Int := (cn (fun i => decide (sz i < n ∨ (sz i = n ∧ kd i < k) ∨ (sz i = n ∧ kd i = k ∧ (i : Int) < w))) wd.toNat : Nat)
theorem ct_le {sz kd : Nat → Int} {wd n k w : Int} (h : 0 ≤ wd) : ct sz kd wd n k w ≤ wd := by
  have := cn_le (fun i => decide (sz i < n ∨ (sz i = n ∧ kd i < k) ∨ (sz i = n ∧ kd i = k ∧ (i : Int) < w))) wd.toNat
  unfold ct
  omega
theorem ct_mono {sz kd : Nat → Int} {wd n k w n' k' w' : Int} (h : ∀ i : Nat, (sz i < n ∨ (sz i = n ∧ kd i < k) ∨ (sz i = n ∧ kd i = k ∧ (i : Int) < w)) → (sz i < n' ∨ (sz i = n' ∧ kd i < k') ∨ (sz i = n' ∧ kd i = k' ∧ (i : Int) < w'))) : ct sz kd wd n k w ≤ ct sz kd wd n' k' w' := by
  unfold ct
  have := cn_mono (P := fun i => decide (sz i < n ∨ (sz i = n ∧ kd i < k) ∨ (sz i = n ∧ kd i = k ∧ (i : Int) < w))) (Q := fun i => decide (sz i < n' ∨ (sz i = n' ∧ kd i < k') ∨ (sz i = n' ∧ kd i = k' ∧ (i : Int) < w'))) (fun i hi => decide_eq_true (h i (of_decide_eq_true hi))) wd.toNat
  omega
theorem ct_w {sz kd : Nat → Int} {wd n k w : Int} : ct sz kd wd n k w ≤ ct sz kd wd n k (w + 1) := ct_mono (fun i hi => by omega)
theorem ct_k {sz kd : Nat → Int} {wd n k w : Int} : ct sz kd wd n k w ≤ ct sz kd wd n (k + 1) 0 := ct_mono (fun i hi => by omega)
theorem ct_n {sz kd : Nat → Int} {wd n w : Int} (h : ∀ i : Nat, kd i ≤ kd i) : ct sz kd wd n 3 0 ≤ ct sz kd wd (n + 1) 0 0 := ct_mono (fun i hi => by omega)
theorem ct_put {sz kd : Nat → Int} {wd n k w : Int} (h0 : 0 ≤ w) (h1 : w < wd) (hs : sz w.toNat = n) (hk : kd w.toNat = k) : ct sz kd wd n k w + 1 ≤ ct sz kd wd n k (w + 1) := by
  unfold ct
  have := cn_lt (P := fun i => decide (sz i < n ∨ (sz i = n ∧ kd i < k) ∨ (sz i = n ∧ kd i = k ∧ (i : Int) < w))) (Q := fun i => decide (sz i < n ∨ (sz i = n ∧ kd i < k) ∨ (sz i = n ∧ kd i = k ∧ (i : Int) < w + 1))) (fun i hi => decide_eq_true (by have := of_decide_eq_true hi; omega)) (j := w.toNat) (fun hi => by have := of_decide_eq_true hi; omega) (decide_eq_true (Or.inr (Or.inr ⟨hs, hk, by omega⟩))) wd.toNat (by omega)
  omega
/-- the pieces that there are -/
def LB (pl le so : Nat → Int) (ln many : Int) : Prop := ∀ i : Nat, (i : Int) < many → 0 ≤ pl i ∧ 1 ≤ le i ∧ le i ≤ 6 ∧ pl i + le i ≤ ln ∧ 0 ≤ so i ∧ so i ≤ 3
theorem LB.at {pl le so : Nat → Int} {ln many : Int} (h : LB pl le so ln many) {x : Int} (h0 : 0 ≤ x) (h1 : x < many) : 0 ≤ pl x.toNat ∧ 1 ≤ le x.toNat ∧ le x.toNat ≤ 6 ∧ pl x.toNat + le x.toNat ≤ ln ∧ 0 ≤ so x.toNat ∧ so x.toNat ≤ 3 := h x.toNat (by omega)
theorem LB.push {pl le so : Nat → Int} {ln many : Int} (h : LB pl le so ln many) (h0 : 0 ≤ many) {a b c : Int} (hx : 0 ≤ a ∧ 1 ≤ b ∧ b ≤ 6 ∧ a + b ≤ ln ∧ 0 ≤ c ∧ c ≤ 3) : LB (zup pl many.toNat a) (zup le many.toNat b) (zup so many.toNat c) ln (many + 1) := by
  intro i hi
  by_cases e : i = many.toNat
  · subst e; rw [zup_eq, zup_eq, zup_eq]; exact hx
  · rw [zup_ne e, zup_ne e, zup_ne e]; exact h i (by omega)
theorem NP.begin_ {pl le fi : Nat → Int} {place count : Int} (h : NP pl le fi place count) (h0 : 0 ≤ place) (hc : 0 ≤ count) : NP pl le (zup fi place.toNat count) (place + 1) count := h.step h0 hc (Int.le_refl _) (fun _ _ => ⟨rfl, rfl⟩) (fun i h1 h2 => by omega)
theorem NP.push {pl le fi : Nat → Int} {place count n : Int} (h : NP pl le fi (place + 1) count) (h0 : 0 ≤ place) (hc : 0 ≤ count) (hn : 1 ≤ n) : NP (zup pl count.toNat place) (zup le count.toNat n) fi (place + 1) (count + 1) := by
  obtain ⟨g1, g2⟩ := h
  refine ⟨fun p hp => by have := g1 p hp; omega, fun p i hp h1 h2 h3 => ?_⟩
  by_cases e : i = count.toNat
  · subst e
    rw [zup_eq, zup_eq]
    by_cases e2 : (p : Int) + 1 < place + 1
    · have h4 := h3 e2
      have := (g1 (p + 1) (by omega)).2
      omega
    · exact ⟨by omega, hn⟩
  · rw [zup_ne e, zup_ne e]
    exact g2 p i hp h1 (by omega) h3
def BE (fi : Nat → Int) (ln many : Int) : Prop := ∀ p : Nat, (p : Int) ≤ ln → 0 ≤ fi p ∧ fi p ≤ many
theorem NP.be {pl le fi : Nat → Int} {len count : Int} (h : NP pl le fi len count) (h0 : 0 ≤ len) (hc : 0 ≤ count) : BE (zup fi len.toNat count) len count := by
  intro p hp
  by_cases e : p = len.toNat
  · subst e; rw [zup_eq]; omega
  · rw [zup_ne e]; exact h.1 p (by omega)
theorem BE.at {fi : Nat → Int} {ln many : Int} (h : BE fi ln many) {x : Int} (h0 : 0 ≤ x) (h1 : x ≤ ln) : 0 ≤ fi x.toNat ∧ fi x.toNat ≤ many := h x.toNat (by omega)
end
section
theorem NF.ge {pl le fi : Nat → Int} {ln many : Int} (h : NF pl le fi ln) (he : fi ln.toNat = many) : ∀ (d e : Nat) (x : Nat), (e : Int) + d = ln → fi e ≤ x → (x : Int) < many → (e : Int) ≤ pl x
  | 0, e, x, h1, h2, h3 => by
    have : ln.toNat = e := by omega
    rw [this] at he
    omega
  | d + 1, e, x, h1, h2, h3 => by
    by_cases hx : (x : Int) < fi (e + 1)
    · have := (h e x (by omega) h2 hx).1
      omega
    · have := NF.ge h he d (e + 1) x (by omega) (by omega) h3
      omega
/-- what begins behind a piece comes after it -/
theorem NF.after {pl le fi : Nat → Int} {ln many : Int} (h : NF pl le fi ln) (he : fi ln.toNat = many) {x e y : Int} (hx : 0 ≤ x) (hxm : x < many) (h0 : 0 ≤ e) (h1 : e ≤ ln) (h2 : pl x.toNat < e) (hy : fi e.toNat ≤ y) : x < y := by
  by_cases hlt : x < y
  · exact hlt
  · have := NF.ge h he (ln - e).toNat e.toNat x.toNat (by omega) (by omega) (by omega)
    omega
def RR (rw nx : Nat → Int) (lo many : Int) : Prop := ∀ i : Nat, lo ≤ (i : Int) → (i : Int) < many → 0 ≤ rw i ∧ rw i ≤ 12 ∧ ∀ r : Nat, (r : Int) < rw i → nx (12 * i + r) < 0 ∨ ((i : Int) < nx (12 * i + r) / 16 ∧ nx (12 * i + r) / 16 < many ∧ nx (12 * i + r) % 16 < rw (nx (12 * i + r) / 16).toNat)
theorem RR.at {rw nx : Nat → Int} {lo many : Int} (h : RR rw nx lo many) {x : Int} (h0 : 0 ≤ x) (h1 : lo ≤ x) (h2 : x < many) : 0 ≤ rw x.toNat ∧ rw x.toNat ≤ 12 := by
  have := h x.toNat (by omega) (by omega)
  exact ⟨this.1, this.2.1⟩
theorem RR.next {rw nx : Nat → Int} {many : Int} (h : RR rw nx 0 many) {c : Int} (h0 : 0 ≤ c) (h1 : c / 16 < many) (h2 : c % 16 < rw (c / 16).toNat) {v : Int} (hv : v = nx (12 * (c / 16) + c % 16).toNat) : v < 0 ∨ (c / 16 < v / 16 ∧ v / 16 < many ∧ v % 16 < rw (v / 16).toNat) := by
  have := (h (c / 16).toNat (by omega) (by omega)).2.2 (c % 16).toNat (by omega)
  have e : 12 * (c / 16).toNat + (c % 16).toNat = (12 * (c / 16) + c % 16).toNat := by omega
  rw [e, ← hv] at this
  rcases this with q | ⟨q1, q2, q3⟩
  · exact Or.inl q
  · exact Or.inr ⟨by omega, q2, q3⟩
theorem RR.zero {rw nx : Nat → Int} {x many : Int} (h : RR rw nx (x + 1) many) (h0 : 0 ≤ x) : RR (zup rw x.toNat 0) nx x many := by
  intro i h1 h2
  by_cases e : i = x.toNat
  · subst e
    rw [zup_eq]
    exact ⟨by omega, by omega, fun r hr => by omega⟩
  · rw [zup_ne e]
    obtain ⟨g1, g2, g3⟩ := h i (by omega) h2
    refine ⟨g1, g2, fun r hr => ?_⟩
    rcases g3 r hr with q | ⟨q1, q2, q3⟩
    · exact Or.inl q
    · exact Or.inr ⟨q1, q2, by rw [zup_ne (by omega)]; exact q3⟩
theorem RR.push {rw nx : Nat → Int} {x many b : Int} (h : RR rw nx x many) (h0 : 0 ≤ x) (hxm : x < many) (hr : rw x.toNat < 12) (hb : b < 0 ∨ (x < b / 16 ∧ b / 16 < many ∧ b % 16 < rw (b / 16).toNat)) : RR (zup rw x.toNat (rw x.toNat + 1)) (zup nx (12 * x + rw x.toNat).toNat b) x many := by
  have hx := h.at h0 (Int.le_refl _) hxm
  have far : ∀ (i r : Nat), x ≤ (i : Int) → r < 12 → ¬ (i = x.toNat ∧ (r : Int) = rw x.toNat) → zup nx (12 * x + rw x.toNat).toNat b (12 * i + r) = nx (12 * i + r) := fun i r hi hr hn => zup_ne (by omega)
  intro i h1 h2
  obtain ⟨g1, g2, g3⟩ := h i h1 h2
  have keep : ∀ v : Int, (i : Int) < v / 16 → zup rw x.toNat (rw x.toNat + 1) (v / 16).toNat = rw (v / 16).toNat := fun v hv => zup_ne (by omega)
  by_cases e : i = x.toNat
  · subst e
    rw [zup_eq]
    refine ⟨by omega, by omega, fun r hlt => ?_⟩
    by_cases er : (r : Int) = rw x.toNat
    · have e2 : 12 * x.toNat + r = (12 * x + rw x.toNat).toNat := by omega
      rw [e2, zup_eq]
      rcases hb with q | ⟨q1, q2, q3⟩
      · exact Or.inl q
      · exact Or.inr ⟨by omega, q2, by rw [keep b (by omega)]; exact q3⟩
    · rw [far x.toNat r (by omega) (by omega) (fun q => er q.2)]
      rcases g3 r (by omega) with q | ⟨q1, q2, q3⟩
      · exact Or.inl q
      · exact Or.inr ⟨q1, q2, by rw [keep _ q1]; exact q3⟩
  · rw [zup_ne e]
    refine ⟨g1, g2, fun r hlt => ?_⟩
    rw [far i r h1 (by omega) (fun q => e q.1)]
    rcases g3 r hlt with q | ⟨q1, q2, q3⟩
    · exact Or.inl q
    · exact Or.inr ⟨q1, q2, by rw [keep _ q1]; exact q3⟩
theorem RR.one {rw nx : Nat → Int} {x many : Int} (h : RR rw nx (x + 1) many) (h0 : 0 ≤ x) (hxm : x < many) : RR (zup (zup rw x.toNat 0) x.toNat 1) (zup nx (12 * x).toNat (-6)) x many := by
  have := (h.zero h0).push (b := -6) h0 hxm (by rw [zup_eq]; decide) (Or.inl (by decide))
  rw [zup_eq, Int.add_zero, Int.zero_add] at this
  exact this
end
section
/-- im holds f from b on, k of them -/
def CY (im f : Nat → Int) (b k : Int) : Prop := ∀ j : Nat, (j : Int) < k → im (b + j).toNat = f j
theorem CY.nil {im f : Nat → Int} {b : Int} : CY im f b 0 := fun j hj => by omega
theorem CY.step {im f : Nat → Int} {b k : Int} (h : CY im f b k) (hb : 0 ≤ b) (hk : 0 ≤ k) : CY (zup im (b + k).toNat (f k.toNat)) f b (k + 1) := by
  intro j hj
  by_cases e : (j : Int) = k
  · have e2 : (b + j).toNat = (b + k).toNat := by omega
    have e3 : j = k.toNat := by omega
    rw [e2, zup_eq, e3]
  · rw [zup_ne (by omega)]; exact h j (by omega)
theorem CY.keep {im f : Nat → Int} {b k : Int} (h : CY im f b k) (hb : 0 ≤ b) {x v : Int} (hx : 0 ≤ x) (ho : x < b ∨ b + k ≤ x) : CY (zup im x.toNat v) f b k := by
  intro j hj
  rw [zup_ne (by omega)]; exact h j hj
def CO (im im0 : Nat → Int) (b : Int) : Prop := ∀ j : Nat, ((j : Int) < b ∨ b + 230 ≤ j) → im j = im0 j
theorem CO.put {im im0 : Nat → Int} {b x v : Int} (h : CO im im0 b) (h0 : 0 ≤ x) (h1 : b ≤ x) (h2 : x < b + 230) : CO (zup im x.toNat v) im0 b := by
  intro j hj
  rw [zup_ne (by omega)]; exact h j hj
theorem II.of {im sz kd co jo ru : Nat → Int} {b wd ln : Int} (hb : 0 ≤ b) (h1 : DI wd sz kd co) (h2 : BI jo ru ln) (c1 : CY im sz (b + 96) 16) (c2 : CY im kd (b + 112) 16) (c3 : CY im co (b + 128) 16) (c4 : CY im jo (b + 144) 25) (c5 : CY im ru (b + 170) 4) (c6 : im (b + 210).toNat = wd) (c7 : im (b + 211).toNat = ln) : II im b.toNat := by
  have e1 : ∀ (d : Int) (n j : Nat), d = n → (b + d + j).toNat = b.toNat + n + j := fun d n j h => by omega
  refine ⟨?_, ?_⟩
  · rw [show b.toNat + 210 = (b + 210).toNat by omega, c6]
    refine h1.eq (fun j hj => ?_) (fun j hj => ?_) (fun j hj => ?_)
    · rw [← e1 96 96 j rfl]; exact c1 j (by omega)
    · rw [← e1 112 112 j rfl]; exact c2 j (by omega)
    · rw [← e1 128 128 j rfl]; exact c3 j (by omega)
  · rw [show b.toNat + 211 = (b + 211).toNat by omega, c7]
    refine h2.eq (fun j hj => ?_) (fun j hj => ?_)
    · rw [← e1 144 144 j rfl]; exact c4 j (by omega)
    · rw [← e1 170 170 j rfl]; exact c5 j (by omega)
theorem II.same {im im0 : Nat → Int} {b : Nat} (h : II im0 b) (hs : ∀ j : Nat, b ≤ j → j < b + 230 → im j = im0 j) : II im b := by
  obtain ⟨h1, h2⟩ := h
  refine ⟨?_, ?_⟩
  · rw [hs (b + 210) (by omega) (by omega)]
    exact h1.eq (fun j hj => hs _ (by omega) (by omega)) (fun j hj => hs _ (by omega) (by omega)) (fun j hj => hs _ (by omega) (by omega))
  · rw [hs (b + 211) (by omega) (by omega)]
    exact h2.eq (fun j hj => hs _ (by omega) (by omega)) (fun j hj => hs _ (by omega) (by omega))
theorem MI.image {wd ln sg n : Int} {sz kd co jo ru im im0 kp : Nat → Int} (h : MI wd sz kd co jo ru ln sg im0 kp) (hn : n = 0 ∨ n = 1) (ho : CO im im0 (230 * n)) (hi : II im (230 * n).toNat) : MI wd sz kd co jo ru ln sg im (zup kp n.toNat 1) := by
  obtain ⟨h1, h2, h3, h4, h5⟩ := h
  rcases hn with rfl | rfl
  · refine ⟨h1, h2, h3, fun _ => hi, fun q => ?_⟩
    rw [zup_ne (by decide)] at q
    exact (h5 q).same (fun j q1 q2 => ho j (by omega))
  · refine ⟨h1, h2, h3, fun q => ?_, fun _ => hi⟩
    rw [zup_ne (by decide)] at q
    exact (h4 q).same (fun j q1 q2 => ho j (by omega))
/-- f holds what im has from b on, k of them -/
def RY (f im : Nat → Int) (b k : Int) : Prop := ∀ j : Nat, (j : Int) < k → f j = im (b + j).toNat
theorem RY.nil {im f : Nat → Int} {b : Int} : RY f im b 0 := fun j hj => by omega
theorem RY.step {im f : Nat → Int} {b k : Int} (h : RY f im b k) (hk : 0 ≤ k) : RY (zup f k.toNat (im (b + k).toNat)) im b (k + 1) := by
  intro j hj
  by_cases e : (j : Int) = k
  · have e3 : j = k.toNat := by omega
    rw [e3, zup_eq]
    congr 2; omega
  · rw [zup_ne (by omega)]; exact h j (by omega)
theorem II.back {im sz kd co jo ru : Nat → Int} {b : Int} (hb : 0 ≤ b) (h : II im b.toNat) (c1 : RY sz im (b + 96) 16) (c2 : RY kd im (b + 112) 16) (c3 : RY co im (b + 128) 16) (c4 : RY jo im (b + 144) 25) (c5 : RY ru im (b + 170) 4) : DI (im (b + 210).toNat) sz kd co ∧ BI jo ru (im (b + 211).toNat) := by
  obtain ⟨h1, h2⟩ := h
  have e1 : ∀ (d : Int) (n j : Nat), d = n → (b + d + j).toNat = b.toNat + n + j := fun d n j h => by omega
  refine ⟨?_, ?_⟩
  · rw [show (b + 210).toNat = b.toNat + 210 by omega]
    refine h1.eq (fun j hj => ?_) (fun j hj => ?_) (fun j hj => ?_)
    · rw [← e1 96 96 j rfl]; exact c1 j (by omega)
    · rw [← e1 112 112 j rfl]; exact c2 j (by omega)
    · rw [← e1 128 128 j rfl]; exact c3 j (by omega)
  · rw [show (b + 211).toNat = b.toNat + 211 by omega]
    refine h2.eq (fun j hj => ?_) (fun j hj => ?_)
    · rw [← e1 144 144 j rfl]; exact c4 j (by omega)
    · rw [← e1 170 170 j rfl]; exact c5 j (by omega)
end
section
set_option maxHeartbeats 4000000 in
set_option maxRecDepth 100000 in
theorem mX3_init {l : Launch} {D : va_G} {k : zK} {E : zE} (hE : zEok E) (p_a : Nat) : zMv l D k E yX3_init cX3_init 1 { frames := 1, cells := 1, slots := 40, locals := 20 } 1 40 [.inr (some p_a)] [(p_a, .inr (.inr (3, [.inr none, .inl 0, .inl 0, .inl 0, .inl 0])))] True (fun z u => ∃ (p_signs_a : Nat) (p_signs : Nat → Int), u = [(p_a, .inr (.inr (3, [.inr (some p_signs_a), .inl 0, .inl 0, .inl 0, .inl 0]))), (p_signs_a, .inl (false, 40, p_signs))] ∧ ((∀ j, p_signs j = 0))) := by
  refine zMv.of RX3 hE (by decide) rfl (by simp) ?_
  intro Z hP hav hwr B
  show Z 0 0 0 [some (.inr (some p_a))] [] _
  refine B.aload_n (pc := 0) (i := 0) dX3_init_0 rfl rfl ?_
  refine B.objInit (pc := 1) ml_X3_3 im_java_lang_Object__init_ co_objInit (by decide) (Nat.le_of_ble_eq_true rfl) dX3_init_1 ?_
  refine B.aload_n (pc := 4) (i := 0) dX3_init_4 rfl rfl ?_
  refine B.bipush (pc := 5) dX3_init_5 ⟨by decide, by decide⟩ ?_
  refine B.newarrI (pc := 7) ac_Jvm_ClassFile_FieldType_int (by decide) (by decide) (Nat.le_of_ble_eq_true rfl) (Nat.le_of_ble_eq_true rfl) dX3_init_7 (fun q7 => ?_)
  simp only [List.cons_append, List.nil_append]
  refine B.putfieldF (pc := 9) rfl 0 rfl rfl inX3z tyX3 tyX3_ok nmX3 0 (by decide) fl_X3_9 rfl rfl rfl rfl (Nat.le_of_ble_eq_true rfl) dX3_init_9 ?_
  simp only [List.set_cons_zero, List.set_cons_succ]
  refine B.vreturn (pc := 12) rfl dX3_init_12 (Nat.le_of_ble_eq_true rfl) (Nat.le_of_ble_eq_true rfl) (fun rw => ⟨_, _, rfl, ?_⟩)
  exact fun _ => rfl
set_option maxHeartbeats 4000000 in
set_option maxRecDepth 100000 in
theorem mX1_init {l : Launch} {D : va_G} {k : zK} {E : zE} (hE : zEok E) (d_a : Nat) : zMv l D k E yX1_init cX1_init 1 { frames := 1, cells := 4, slots := 144, locals := 20 } 4 144 [.inr (some d_a)] [(d_a, .inr (.inr (1, [.inr none, .inr none, .inr none, .inr none, .inl 0])))] True (fun z u => ∃ (d_letters_a d_lengths_a d_kinds_a d_costs_a : Nat) (d_letters d_lengths d_kinds d_costs : Nat → Int), u = [(d_a, .inr (.inr (1, [.inr (some d_letters_a), .inr (some d_lengths_a), .inr (some d_kinds_a), .inr (some d_costs_a), .inl 0]))), (d_letters_a, .inl (false, 96, d_letters)), (d_lengths_a, .inl (false, 16, d_lengths)), (d_kinds_a, .inl (false, 16, d_kinds)), (d_costs_a, .inl (false, 16, d_costs))] ∧ ((∀ j, d_letters j = 0) ∧ (∀ j, d_lengths j = 0) ∧ (∀ j, d_kinds j = 0) ∧ (∀ j, d_costs j = 0))) := by
  refine zMv.of RX1 hE (by decide) rfl (by simp) ?_
  intro Z hP hav hwr B
  show Z 0 0 0 [some (.inr (some d_a))] [] _
  refine B.aload_n (pc := 0) (i := 0) dX1_init_0 rfl rfl ?_
  refine B.objInit (pc := 1) ml_X1_3 im_java_lang_Object__init_ co_objInit (by decide) (Nat.le_of_ble_eq_true rfl) dX1_init_1 ?_
  refine B.aload_n (pc := 4) (i := 0) dX1_init_4 rfl rfl ?_
  refine B.bipush (pc := 5) dX1_init_5 ⟨by decide, by decide⟩ ?_
  refine B.newarrI (pc := 7) ac_Jvm_ClassFile_FieldType_int (by decide) (by decide) (Nat.le_of_ble_eq_true rfl) (Nat.le_of_ble_eq_true rfl) dX1_init_7 (fun q7 => ?_)
  simp only [List.cons_append, List.nil_append]
  refine B.putfieldF (pc := 9) rfl 0 rfl rfl inX1z tyX1 tyX1_ok nmX1 0 (by decide) fl_X1_9 rfl rfl rfl rfl (Nat.le_of_ble_eq_true rfl) dX1_init_9 ?_
  simp only [List.set_cons_zero, List.set_cons_succ]
  refine B.aload_n (pc := 12) (i := 0) dX1_init_12 rfl rfl ?_
  refine B.bipush (pc := 13) dX1_init_13 ⟨by decide, by decide⟩ ?_
  refine B.newarrI (pc := 15) ac_Jvm_ClassFile_FieldType_int (by decide) (by decide) (Nat.le_of_ble_eq_true rfl) (Nat.le_of_ble_eq_true rfl) dX1_init_15 (fun q15 => ?_)
  simp only [List.cons_append, List.nil_append]
  refine B.putfieldF (pc := 17) rfl 0 rfl rfl inX1z tyX1 tyX1_ok nmX1 1 (by decide) fl_X1_15 rfl rfl rfl rfl (Nat.le_of_ble_eq_true rfl) dX1_init_17 ?_
  simp only [List.set_cons_zero, List.set_cons_succ]
  refine B.aload_n (pc := 20) (i := 0) dX1_init_20 rfl rfl ?_
  refine B.bipush (pc := 21) dX1_init_21 ⟨by decide, by decide⟩ ?_
  refine B.newarrI (pc := 23) ac_Jvm_ClassFile_FieldType_int (by decide) (by decide) (Nat.le_of_ble_eq_true rfl) (Nat.le_of_ble_eq_true rfl) dX1_init_23 (fun q23 => ?_)
  simp only [List.cons_append, List.nil_append]
  refine B.putfieldF (pc := 25) rfl 0 rfl rfl inX1z tyX1 tyX1_ok nmX1 2 (by decide) fl_X1_18 rfl rfl rfl rfl (Nat.le_of_ble_eq_true rfl) dX1_init_25 ?_
  simp only [List.set_cons_zero, List.set_cons_succ]
  refine B.aload_n (pc := 28) (i := 0) dX1_init_28 rfl rfl ?_
  refine B.bipush (pc := 29) dX1_init_29 ⟨by decide, by decide⟩ ?_
  refine B.newarrI (pc := 31) ac_Jvm_ClassFile_FieldType_int (by decide) (by decide) (Nat.le_of_ble_eq_true rfl) (Nat.le_of_ble_eq_true rfl) dX1_init_31 (fun q31 => ?_)
  simp only [List.cons_append, List.nil_append]
  refine B.putfieldF (pc := 33) rfl 0 rfl rfl inX1z tyX1 tyX1_ok nmX1 3 (by decide) fl_X1_21 rfl rfl rfl rfl (Nat.le_of_ble_eq_true rfl) dX1_init_33 ?_
  simp only [List.set_cons_zero, List.set_cons_succ]
  refine B.vreturn (pc := 36) rfl dX1_init_36 (Nat.le_of_ble_eq_true rfl) (Nat.le_of_ble_eq_true rfl) (fun rw => ⟨_, _, _, _, _, _, _, _, rfl, ?_⟩)
  exact ⟨fun _ => rfl, fun _ => rfl, fun _ => rfl, fun _ => rfl⟩
set_option maxHeartbeats 4000000 in
set_option maxRecDepth 100000 in
theorem mX0_init {l : Launch} {D : va_G} {k : zK} {E : zE} (hE : zEok E) (b_a : Nat) : zMv l D k E yX0_init cX0_init 1 { frames := 2, cells := 8, slots := 202, locals := 40 } 8 202 [.inr (some b_a)] [(b_a, .inr (.inr (0, [.inr none, .inr none, .inr none, .inr none, .inl 0])))] True (fun z u => ∃ (b_dictionary_a b_dictionary_letters_a b_dictionary_lengths_a b_dictionary_kinds_a b_dictionary_costs_a b_joins_a b_rules_a b_line_a : Nat) (b_dictionary_letters b_dictionary_lengths b_dictionary_kinds b_dictionary_costs b_joins b_rules b_line : Nat → Int), u = [(b_a, .inr (.inr (0, [.inr (some b_dictionary_a), .inr (some b_joins_a), .inr (some b_rules_a), .inr (some b_line_a), .inl 0]))), (b_dictionary_a, .inr (.inr (1, [.inr (some b_dictionary_letters_a), .inr (some b_dictionary_lengths_a), .inr (some b_dictionary_kinds_a), .inr (some b_dictionary_costs_a), .inl 0]))), (b_dictionary_letters_a, .inl (false, 96, b_dictionary_letters)), (b_dictionary_lengths_a, .inl (false, 16, b_dictionary_lengths)), (b_dictionary_kinds_a, .inl (false, 16, b_dictionary_kinds)), (b_dictionary_costs_a, .inl (false, 16, b_dictionary_costs)), (b_joins_a, .inl (false, 25, b_joins)), (b_rules_a, .inl (false, 4, b_rules)), (b_line_a, .inl (false, 24, b_line))] ∧ ((∀ j, b_dictionary_letters j = 0) ∧ (∀ j, b_dictionary_lengths j = 0) ∧ (∀ j, b_dictionary_kinds j = 0) ∧ (∀ j, b_dictionary_costs j = 0) ∧ (∀ j, b_joins j = 0) ∧ (∀ j, b_line j = 0) ∧ b_rules 0 = 0 ∧ b_rules 1 = 50 ∧ b_rules 2 = 10 ∧ b_rules 3 = 1)) := by
  refine zMv.of RX0 hE (by decide) rfl (by simp) ?_
  intro Z hP hav hwr B
  show Z 0 0 0 [some (.inr (some b_a))] [] _
  refine B.aload_n (pc := 0) (i := 0) dX0_init_0 rfl rfl ?_
  refine B.objInit (pc := 1) ml_X0_3 im_java_lang_Object__init_ co_objInit (by decide) (Nat.le_of_ble_eq_true rfl) dX0_init_1 ?_
  refine B.aload_n (pc := 4) (i := 0) dX0_init_4 rfl rfl ?_
  refine B.new (pc := 5) (ci := 1) tyX1 tyX1_ok rfl inX1z cl_X0_9 ia_X1 it_X1 [.inr none, .inr none, .inr none, .inr none, .inl 0] (fun j hj => by rcases (show j = 0 ∨ j = 1 ∨ j = 2 ∨ j = 3 ∨ j = 4 by omega) with rfl | rfl | rfl | rfl | rfl <;> rfl) (by simp [zVr, zR]) (Nat.le_of_ble_eq_true rfl) (Nat.le_of_ble_eq_true rfl) dX0_init_5 (fun q5 => ?_)
  simp only [List.cons_append, List.nil_append]
  refine B.dup (pc := 8) dX0_init_8 ?_
  refine B.callIv (pc := 9) 0 (mX1_init hE _) ml_X0_11 im_X1_init it_X1 co_X1_init rfl (by decide +kernel) rfl rfl rfl ⟨by decide, by decide⟩ ⟨(Nat.le_of_ble_eq_true rfl), (Nat.le_of_ble_eq_true rfl)⟩ [1] rfl rfl rfl (Nat.le_of_ble_eq_true rfl) dX0_init_9 (fun _ => trivial) (fun uk9 ruk9 rak9 hqk9 => ?_)
  obtain ⟨d_letters_a_k9, d_lengths_a_k9, d_kinds_a_k9, d_costs_a_k9, d_letters_k9, d_lengths_k9, d_kinds_k9, d_costs_k9, rfl, hk9⟩ := hqk9
  simp only [zput, List.set_cons_zero, List.set_cons_succ, List.cons_append, List.nil_append]
  refine B.putfieldF (pc := 12) rfl 0 rfl rfl inX0z tyX0 tyX0_ok nmX0 0 (by decide) fl_X0_12 rfl rfl rfl rfl (Nat.le_of_ble_eq_true rfl) dX0_init_12 ?_
  simp only [List.set_cons_zero, List.set_cons_succ]
  refine B.aload_n (pc := 15) (i := 0) dX0_init_15 rfl rfl ?_
  refine B.bipush (pc := 16) dX0_init_16 ⟨by decide, by decide⟩ ?_
  refine B.newarrI (pc := 18) ac_Jvm_ClassFile_FieldType_int (by decide) (by decide) (Nat.le_of_ble_eq_true rfl) (Nat.le_of_ble_eq_true rfl) dX0_init_18 (fun q18 => ?_)
  simp only [List.cons_append, List.nil_append]
  refine B.putfieldF (pc := 20) rfl 0 rfl rfl inX0z tyX0 tyX0_ok nmX0 1 (by decide) fl_X0_18 rfl rfl rfl rfl (Nat.le_of_ble_eq_true rfl) dX0_init_20 ?_
  simp only [List.set_cons_zero, List.set_cons_succ]
  refine B.aload_n (pc := 23) (i := 0) dX0_init_23 rfl rfl ?_
  refine B.iconst (pc := 24) dX0_init_24 ⟨by decide, by decide⟩ ?_
  refine B.newarrI (pc := 25) ac_Jvm_ClassFile_FieldType_int (by decide) (by decide) (Nat.le_of_ble_eq_true rfl) (Nat.le_of_ble_eq_true rfl) dX0_init_25 (fun q25 => ?_)
  simp only [List.cons_append, List.nil_append]
  refine B.dup (pc := 27) dX0_init_27 ?_
  refine B.iconst (pc := 28) dX0_init_28 ⟨by decide, by decide⟩ ?_
  refine B.iconst (pc := 29) dX0_init_29 ⟨by decide, by decide⟩ ?_
  refine B.iastore (pc := 30) 7 rfl (by omega) (by omega) dX0_init_30 ?_
  simp only [List.set_cons_zero, List.set_cons_succ]
  refine B.dup (pc := 31) dX0_init_31 ?_
  refine B.iconst (pc := 32) dX0_init_32 ⟨by decide, by decide⟩ ?_
  refine B.bipush (pc := 33) dX0_init_33 ⟨by decide, by decide⟩ ?_
  refine B.iastore (pc := 35) 7 rfl (by omega) (by omega) dX0_init_35 ?_
  simp only [List.set_cons_zero, List.set_cons_succ]
  refine B.dup (pc := 36) dX0_init_36 ?_
  refine B.iconst (pc := 37) dX0_init_37 ⟨by decide, by decide⟩ ?_
  refine B.bipush (pc := 38) dX0_init_38 ⟨by decide, by decide⟩ ?_
  refine B.iastore (pc := 40) 7 rfl (by omega) (by omega) dX0_init_40 ?_
  simp only [List.set_cons_zero, List.set_cons_succ]
  refine B.dup (pc := 41) dX0_init_41 ?_
  refine B.iconst (pc := 42) dX0_init_42 ⟨by decide, by decide⟩ ?_
  refine B.iconst (pc := 43) dX0_init_43 ⟨by decide, by decide⟩ ?_
  refine B.iastore (pc := 44) 7 rfl (by omega) (by omega) dX0_init_44 ?_
  simp only [List.set_cons_zero, List.set_cons_succ]
  refine B.putfieldF (pc := 45) rfl 0 rfl rfl inX0z tyX0 tyX0_ok nmX0 2 (by decide) fl_X0_22 rfl rfl rfl rfl (Nat.le_of_ble_eq_true rfl) dX0_init_45 ?_
  simp only [List.set_cons_zero, List.set_cons_succ]
  refine B.aload_n (pc := 48) (i := 0) dX0_init_48 rfl rfl ?_
  refine B.bipush (pc := 49) dX0_init_49 ⟨by decide, by decide⟩ ?_
  refine B.newarrI (pc := 51) ac_Jvm_ClassFile_FieldType_int (by decide) (by decide) (Nat.le_of_ble_eq_true rfl) (Nat.le_of_ble_eq_true rfl) dX0_init_51 (fun q51 => ?_)
  simp only [List.cons_append, List.nil_append]
  refine B.putfieldF (pc := 53) rfl 0 rfl rfl inX0z tyX0 tyX0_ok nmX0 3 (by decide) fl_X0_25 rfl rfl rfl rfl (Nat.le_of_ble_eq_true rfl) dX0_init_53 ?_
  simp only [List.set_cons_zero, List.set_cons_succ]
  refine B.vreturn (pc := 56) rfl dX0_init_56 (Nat.le_of_ble_eq_true rfl) (Nat.le_of_ble_eq_true rfl) (fun rw => ⟨_, _, _, _, _, _, _, _, _, _, _, _, _, _, _, rfl, ?_⟩)
  exact ⟨hk9.1, hk9.2.1, hk9.2.2.1, hk9.2.2.2, fun _ => rfl, fun _ => rfl, rfl, rfl, rfl, rfl⟩
set_option maxHeartbeats 4000000 in
set_option maxRecDepth 100000 in
theorem mX2_init {l : Launch} {D : va_G} {k : zK} {E : zE} (hE : zEok E) (n_a : Nat) : zMv l D k E yX2_init cX2_init 1 { frames := 1, cells := 9, slots := 2503, locals := 20 } 9 2503 [.inr (some n_a)] [(n_a, .inr (.inr (2, [.inl 0, .inl 0, .inr none, .inr none, .inr none, .inr none, .inr none, .inr none, .inr none, .inr none, .inr none])))] True (fun z u => ∃ (n_places_a n_lengths_a n_kinds_a n_costs_a n_words_a n_firsts_a n_joins_a n_slots_a n_routes_a : Nat) (n_places n_lengths n_kinds n_costs n_words n_firsts n_joins n_slots n_routes : Nat → Int), u = [(n_a, .inr (.inr (2, [.inl 0, .inl 0, .inr (some n_places_a), .inr (some n_lengths_a), .inr (some n_kinds_a), .inr (some n_costs_a), .inr (some n_words_a), .inr (some n_firsts_a), .inr (some n_joins_a), .inr (some n_slots_a), .inr (some n_routes_a)]))), (n_places_a, .inl (false, 480, n_places)), (n_lengths_a, .inl (false, 480, n_lengths)), (n_kinds_a, .inl (false, 480, n_kinds)), (n_costs_a, .inl (false, 480, n_costs)), (n_words_a, .inl (false, 480, n_words)), (n_firsts_a, .inl (false, 25, n_firsts)), (n_joins_a, .inl (false, 25, n_joins)), (n_slots_a, .inl (false, 28, n_slots)), (n_routes_a, .inl (false, 25, n_routes))] ∧ ((∀ j, n_places j = 0) ∧ (∀ j, n_lengths j = 0) ∧ (∀ j, n_kinds j = 0) ∧ (∀ j, n_costs j = 0) ∧ (∀ j, n_words j = 0) ∧ (∀ j, n_firsts j = 0) ∧ (∀ j, n_joins j = 0) ∧ (∀ j, n_slots j = 0) ∧ (∀ j, n_routes j = 0))) := by
  refine zMv.of RX2 hE (by decide) rfl (by simp) ?_
  intro Z hP hav hwr B
  show Z 0 0 0 [some (.inr (some n_a))] [] _
  refine B.aload_n (pc := 0) (i := 0) dX2_init_0 rfl rfl ?_
  refine B.objInit (pc := 1) ml_X2_3 im_java_lang_Object__init_ co_objInit (by decide) (Nat.le_of_ble_eq_true rfl) dX2_init_1 ?_
  refine B.aload_n (pc := 4) (i := 0) dX2_init_4 rfl rfl ?_
  refine B.sipush (pc := 5) dX2_init_5 ⟨by decide, by decide⟩ ?_
  refine B.newarrI (pc := 8) ac_Jvm_ClassFile_FieldType_int (by decide) (by decide) (Nat.le_of_ble_eq_true rfl) (Nat.le_of_ble_eq_true rfl) dX2_init_8 (fun q8 => ?_)
  simp only [List.cons_append, List.nil_append]
  refine B.putfieldF (pc := 10) rfl 0 rfl rfl inX2z tyX2 tyX2_ok nmX2 2 (by decide) fl_X2_9 rfl rfl rfl rfl (Nat.le_of_ble_eq_true rfl) dX2_init_10 ?_
  simp only [List.set_cons_zero, List.set_cons_succ]
  refine B.aload_n (pc := 13) (i := 0) dX2_init_13 rfl rfl ?_
  refine B.sipush (pc := 14) dX2_init_14 ⟨by decide, by decide⟩ ?_
  refine B.newarrI (pc := 17) ac_Jvm_ClassFile_FieldType_int (by decide) (by decide) (Nat.le_of_ble_eq_true rfl) (Nat.le_of_ble_eq_true rfl) dX2_init_17 (fun q17 => ?_)
  simp only [List.cons_append, List.nil_append]
  refine B.putfieldF (pc := 19) rfl 0 rfl rfl inX2z tyX2 tyX2_ok nmX2 3 (by decide) fl_X2_15 rfl rfl rfl rfl (Nat.le_of_ble_eq_true rfl) dX2_init_19 ?_
  simp only [List.set_cons_zero, List.set_cons_succ]
  refine B.aload_n (pc := 22) (i := 0) dX2_init_22 rfl rfl ?_
  refine B.sipush (pc := 23) dX2_init_23 ⟨by decide, by decide⟩ ?_
  refine B.newarrI (pc := 26) ac_Jvm_ClassFile_FieldType_int (by decide) (by decide) (Nat.le_of_ble_eq_true rfl) (Nat.le_of_ble_eq_true rfl) dX2_init_26 (fun q26 => ?_)
  simp only [List.cons_append, List.nil_append]
  refine B.putfieldF (pc := 28) rfl 0 rfl rfl inX2z tyX2 tyX2_ok nmX2 4 (by decide) fl_X2_18 rfl rfl rfl rfl (Nat.le_of_ble_eq_true rfl) dX2_init_28 ?_
  simp only [List.set_cons_zero, List.set_cons_succ]
  refine B.aload_n (pc := 31) (i := 0) dX2_init_31 rfl rfl ?_
  refine B.sipush (pc := 32) dX2_init_32 ⟨by decide, by decide⟩ ?_
  refine B.newarrI (pc := 35) ac_Jvm_ClassFile_FieldType_int (by decide) (by decide) (Nat.le_of_ble_eq_true rfl) (Nat.le_of_ble_eq_true rfl) dX2_init_35 (fun q35 => ?_)
  simp only [List.cons_append, List.nil_append]
  refine B.putfieldF (pc := 37) rfl 0 rfl rfl inX2z tyX2 tyX2_ok nmX2 5 (by decide) fl_X2_21 rfl rfl rfl rfl (Nat.le_of_ble_eq_true rfl) dX2_init_37 ?_
  simp only [List.set_cons_zero, List.set_cons_succ]
  refine B.aload_n (pc := 40) (i := 0) dX2_init_40 rfl rfl ?_
  refine B.sipush (pc := 41) dX2_init_41 ⟨by decide, by decide⟩ ?_
  refine B.newarrI (pc := 44) ac_Jvm_ClassFile_FieldType_int (by decide) (by decide) (Nat.le_of_ble_eq_true rfl) (Nat.le_of_ble_eq_true rfl) dX2_init_44 (fun q44 => ?_)
  simp only [List.cons_append, List.nil_append]
  refine B.putfieldF (pc := 46) rfl 0 rfl rfl inX2z tyX2 tyX2_ok nmX2 6 (by decide) fl_X2_24 rfl rfl rfl rfl (Nat.le_of_ble_eq_true rfl) dX2_init_46 ?_
  simp only [List.set_cons_zero, List.set_cons_succ]
  refine B.aload_n (pc := 49) (i := 0) dX2_init_49 rfl rfl ?_
  refine B.bipush (pc := 50) dX2_init_50 ⟨by decide, by decide⟩ ?_
  refine B.newarrI (pc := 52) ac_Jvm_ClassFile_FieldType_int (by decide) (by decide) (Nat.le_of_ble_eq_true rfl) (Nat.le_of_ble_eq_true rfl) dX2_init_52 (fun q52 => ?_)
  simp only [List.cons_append, List.nil_append]
  refine B.putfieldF (pc := 54) rfl 0 rfl rfl inX2z tyX2 tyX2_ok nmX2 7 (by decide) fl_X2_27 rfl rfl rfl rfl (Nat.le_of_ble_eq_true rfl) dX2_init_54 ?_
  simp only [List.set_cons_zero, List.set_cons_succ]
  refine B.aload_n (pc := 57) (i := 0) dX2_init_57 rfl rfl ?_
  refine B.bipush (pc := 58) dX2_init_58 ⟨by decide, by decide⟩ ?_
  refine B.newarrI (pc := 60) ac_Jvm_ClassFile_FieldType_int (by decide) (by decide) (Nat.le_of_ble_eq_true rfl) (Nat.le_of_ble_eq_true rfl) dX2_init_60 (fun q60 => ?_)
  simp only [List.cons_append, List.nil_append]
  refine B.putfieldF (pc := 62) rfl 0 rfl rfl inX2z tyX2 tyX2_ok nmX2 8 (by decide) fl_X2_30 rfl rfl rfl rfl (Nat.le_of_ble_eq_true rfl) dX2_init_62 ?_
  simp only [List.set_cons_zero, List.set_cons_succ]
  refine B.aload_n (pc := 65) (i := 0) dX2_init_65 rfl rfl ?_
  refine B.bipush (pc := 66) dX2_init_66 ⟨by decide, by decide⟩ ?_
  refine B.newarrI (pc := 68) ac_Jvm_ClassFile_FieldType_int (by decide) (by decide) (Nat.le_of_ble_eq_true rfl) (Nat.le_of_ble_eq_true rfl) dX2_init_68 (fun q68 => ?_)
  simp only [List.cons_append, List.nil_append]
  refine B.putfieldF (pc := 70) rfl 0 rfl rfl inX2z tyX2 tyX2_ok nmX2 9 (by decide) fl_X2_33 rfl rfl rfl rfl (Nat.le_of_ble_eq_true rfl) dX2_init_70 ?_
  simp only [List.set_cons_zero, List.set_cons_succ]
  refine B.aload_n (pc := 73) (i := 0) dX2_init_73 rfl rfl ?_
  refine B.bipush (pc := 74) dX2_init_74 ⟨by decide, by decide⟩ ?_
  refine B.newarrI (pc := 76) ac_Jvm_ClassFile_FieldType_int (by decide) (by decide) (Nat.le_of_ble_eq_true rfl) (Nat.le_of_ble_eq_true rfl) dX2_init_76 (fun q76 => ?_)
  simp only [List.cons_append, List.nil_append]
  refine B.putfieldF (pc := 78) rfl 0 rfl rfl inX2z tyX2 tyX2_ok nmX2 10 (by decide) fl_X2_36 rfl rfl rfl rfl (Nat.le_of_ble_eq_true rfl) dX2_init_78 ?_
  simp only [List.set_cons_zero, List.set_cons_succ]
  refine B.vreturn (pc := 81) rfl dX2_init_81 (Nat.le_of_ble_eq_true rfl) (Nat.le_of_ble_eq_true rfl) (fun rw => ⟨_, _, _, _, _, _, _, _, _, _, _, _, _, _, _, _, _, _, rfl, ?_⟩)
  exact ⟨fun _ => rfl, fun _ => rfl, fun _ => rfl, fun _ => rfl, fun _ => rfl, fun _ => rfl, fun _ => rfl, fun _ => rfl, fun _ => rfl⟩
set_option maxHeartbeats 4000000 in
set_option maxRecDepth 100000 in
theorem mX4_init {l : Launch} {D : va_G} {k : zK} {E : zE} (hE : zEok E) (k_a : Nat) : zMv l D k E yX4_init cX4_init 1 { frames := 1, cells := 4, slots := 1774, locals := 20 } 4 1774 [.inr (some k_a)] [(k_a, .inr (.inr (4, [.inr none, .inr none, .inr none, .inr none])))] True (fun z u => ∃ (k_before_a k_counts_a k_kept_a k_followed_a : Nat) (k_before k_counts k_kept k_followed : Nat → Int), u = [(k_a, .inr (.inr (4, [.inr (some k_before_a), .inr (some k_counts_a), .inr (some k_kept_a), .inr (some k_followed_a)]))), (k_before_a, .inl (false, 125, k_before)), (k_counts_a, .inl (false, 125, k_counts)), (k_kept_a, .inl (false, 1500, k_kept)), (k_followed_a, .inl (false, 24, k_followed))] ∧ ((∀ j, k_before j = 0) ∧ (∀ j, k_counts j = 0) ∧ (∀ j, k_kept j = 0) ∧ (∀ j, k_followed j = 0))) := by
  refine zMv.of RX4 hE (by decide) rfl (by simp) ?_
  intro Z hP hav hwr B
  show Z 0 0 0 [some (.inr (some k_a))] [] _
  refine B.aload_n (pc := 0) (i := 0) dX4_init_0 rfl rfl ?_
  refine B.objInit (pc := 1) ml_X4_5 im_java_lang_Object__init_ co_objInit (by decide) (Nat.le_of_ble_eq_true rfl) dX4_init_1 ?_
  refine B.aload_n (pc := 4) (i := 0) dX4_init_4 rfl rfl ?_
  refine B.bipush (pc := 5) dX4_init_5 ⟨by decide, by decide⟩ ?_
  refine B.newarrI (pc := 7) ac_Jvm_ClassFile_FieldType_int (by decide) (by decide) (Nat.le_of_ble_eq_true rfl) (Nat.le_of_ble_eq_true rfl) dX4_init_7 (fun q7 => ?_)
  simp only [List.cons_append, List.nil_append]
  refine B.putfieldF (pc := 9) rfl 0 rfl rfl inX4z tyX4 tyX4_ok nmX4 0 (by decide) fl_X4_11 rfl rfl rfl rfl (Nat.le_of_ble_eq_true rfl) dX4_init_9 ?_
  simp only [List.set_cons_zero, List.set_cons_succ]
  refine B.aload_n (pc := 12) (i := 0) dX4_init_12 rfl rfl ?_
  refine B.bipush (pc := 13) dX4_init_13 ⟨by decide, by decide⟩ ?_
  refine B.newarrI (pc := 15) ac_Jvm_ClassFile_FieldType_int (by decide) (by decide) (Nat.le_of_ble_eq_true rfl) (Nat.le_of_ble_eq_true rfl) dX4_init_15 (fun q15 => ?_)
  simp only [List.cons_append, List.nil_append]
  refine B.putfieldF (pc := 17) rfl 0 rfl rfl inX4z tyX4 tyX4_ok nmX4 1 (by decide) fl_X4_15 rfl rfl rfl rfl (Nat.le_of_ble_eq_true rfl) dX4_init_17 ?_
  simp only [List.set_cons_zero, List.set_cons_succ]
  refine B.aload_n (pc := 20) (i := 0) dX4_init_20 rfl rfl ?_
  refine B.sipush (pc := 21) dX4_init_21 ⟨by decide, by decide⟩ ?_
  refine B.newarrI (pc := 24) ac_Jvm_ClassFile_FieldType_int (by decide) (by decide) (Nat.le_of_ble_eq_true rfl) (Nat.le_of_ble_eq_true rfl) dX4_init_24 (fun q24 => ?_)
  simp only [List.cons_append, List.nil_append]
  refine B.putfieldF (pc := 26) rfl 0 rfl rfl inX4z tyX4 tyX4_ok nmX4 2 (by decide) fl_X4_18 rfl rfl rfl rfl (Nat.le_of_ble_eq_true rfl) dX4_init_26 ?_
  simp only [List.set_cons_zero, List.set_cons_succ]
  refine B.aload_n (pc := 29) (i := 0) dX4_init_29 rfl rfl ?_
  refine B.bipush (pc := 30) dX4_init_30 ⟨by decide, by decide⟩ ?_
  refine B.newarrI (pc := 32) ac_Jvm_ClassFile_FieldType_int (by decide) (by decide) (Nat.le_of_ble_eq_true rfl) (Nat.le_of_ble_eq_true rfl) dX4_init_32 (fun q32 => ?_)
  simp only [List.cons_append, List.nil_append]
  refine B.putfieldF (pc := 34) rfl 0 rfl rfl inX4z tyX4 tyX4_ok nmX4 3 (by decide) fl_X4_21 rfl rfl rfl rfl (Nat.le_of_ble_eq_true rfl) dX4_init_34 ?_
  simp only [List.set_cons_zero, List.set_cons_succ]
  refine B.vreturn (pc := 37) rfl dX4_init_37 (Nat.le_of_ble_eq_true rfl) (Nat.le_of_ble_eq_true rfl) (fun rw => ⟨_, _, _, _, _, _, _, _, rfl, ?_⟩)
  exact ⟨fun _ => rfl, fun _ => rfl, fun _ => rfl, fun _ => rfl⟩
set_option maxHeartbeats 4000000 in
set_option maxRecDepth 100000 in
theorem mX5_init {l : Launch} {D : va_G} {k : zK} {E : zE} (hE : zEok E) (w_a : Nat) : zMv l D k E yX5_init cX5_init 1 { frames := 1, cells := 1, slots := 71, locals := 20 } 1 71 [.inr (some w_a)] [(w_a, .inr (.inr (5, [.inr none, .inl 0])))] True (fun z u => ∃ (w_signs_a : Nat) (w_signs : Nat → Int), u = [(w_a, .inr (.inr (5, [.inr (some w_signs_a), .inl 0]))), (w_signs_a, .inl (false, 71, w_signs))] ∧ ((∀ j, w_signs j = 0))) := by
  refine zMv.of RX5 hE (by decide) rfl (by simp) ?_
  intro Z hP hav hwr B
  show Z 0 0 0 [some (.inr (some w_a))] [] _
  refine B.aload_n (pc := 0) (i := 0) dX5_init_0 rfl rfl ?_
  refine B.objInit (pc := 1) ml_X5_3 im_java_lang_Object__init_ co_objInit (by decide) (Nat.le_of_ble_eq_true rfl) dX5_init_1 ?_
  refine B.aload_n (pc := 4) (i := 0) dX5_init_4 rfl rfl ?_
  refine B.bipush (pc := 5) dX5_init_5 ⟨by decide, by decide⟩ ?_
  refine B.newarrI (pc := 7) ac_Jvm_ClassFile_FieldType_int (by decide) (by decide) (Nat.le_of_ble_eq_true rfl) (Nat.le_of_ble_eq_true rfl) dX5_init_7 (fun q7 => ?_)
  simp only [List.cons_append, List.nil_append]
  refine B.putfieldF (pc := 9) rfl 0 rfl rfl inX5z tyX5 tyX5_ok nmX5 0 (by decide) fl_X5_9 rfl rfl rfl rfl (Nat.le_of_ble_eq_true rfl) dX5_init_9 ?_
  simp only [List.set_cons_zero, List.set_cons_succ]
  refine B.vreturn (pc := 12) rfl dX5_init_12 (Nat.le_of_ble_eq_true rfl) (Nat.le_of_ble_eq_true rfl) (fun rw => ⟨_, _, rfl, ?_⟩)
  exact fun _ => rfl
set_option maxHeartbeats 4000000 in
set_option maxRecDepth 100000 in
theorem mX6_init {l : Launch} {D : va_G} {k : zK} {E : zE} (hE : zEok E) (hEA : ∀ A U H, E A U H → va_AO RX0 U) (c_a : Nat) : zMv l D k E yX6_init cX6_init 1 { frames := 3, cells := 29, slots := 4619, locals := 60 } 29 4619 [.inr (some c_a)] [(c_a, .inr (.inr (6, [.inr none, .inr none, .inr none, .inr none, .inr none, .inr none, .inl 0, .inl 0])))] True (fun z u => ∃ (c_pad_a c_pad_signs_a c_book_a c_book_dictionary_a c_book_dictionary_letters_a c_book_dictionary_lengths_a c_book_dictionary_kinds_a c_book_dictionary_costs_a c_book_joins_a c_book_rules_a c_book_line_a c_images_a c_net_a c_net_places_a c_net_lengths_a c_net_kinds_a c_net_costs_a c_net_words_a c_net_firsts_a c_net_joins_a c_net_slots_a c_net_routes_a c_ranking_a c_ranking_before_a c_ranking_counts_a c_ranking_kept_a c_ranking_followed_a c_writing_a c_writing_signs_a : Nat) (c_pad_signs c_book_dictionary_letters c_book_dictionary_lengths c_book_dictionary_kinds c_book_dictionary_costs c_book_joins c_book_rules c_book_line c_net_places c_net_lengths c_net_kinds c_net_costs c_net_words c_net_firsts c_net_joins c_net_slots c_net_routes c_ranking_before c_ranking_counts c_ranking_kept c_ranking_followed c_writing_signs : Nat → Int) (c_images : Nat → Option Nat), u = [(c_a, .inr (.inr (6, [.inr (some c_pad_a), .inr (some c_book_a), .inr (some c_images_a), .inr (some c_net_a), .inr (some c_ranking_a), .inr (some c_writing_a), .inl 0, .inl 0]))), (c_pad_a, .inr (.inr (3, [.inr (some c_pad_signs_a), .inl 0, .inl 0, .inl 0, .inl 0]))), (c_pad_signs_a, .inl (false, 40, c_pad_signs)), (c_book_a, .inr (.inr (0, [.inr (some c_book_dictionary_a), .inr (some c_book_joins_a), .inr (some c_book_rules_a), .inr (some c_book_line_a), .inl 0]))), (c_book_dictionary_a, .inr (.inr (1, [.inr (some c_book_dictionary_letters_a), .inr (some c_book_dictionary_lengths_a), .inr (some c_book_dictionary_kinds_a), .inr (some c_book_dictionary_costs_a), .inl 0]))), (c_book_dictionary_letters_a, .inl (false, 96, c_book_dictionary_letters)), (c_book_dictionary_lengths_a, .inl (false, 16, c_book_dictionary_lengths)), (c_book_dictionary_kinds_a, .inl (false, 16, c_book_dictionary_kinds)), (c_book_dictionary_costs_a, .inl (false, 16, c_book_dictionary_costs)), (c_book_joins_a, .inl (false, 25, c_book_joins)), (c_book_rules_a, .inl (false, 4, c_book_rules)), (c_book_line_a, .inl (false, 24, c_book_line)), (c_images_a, .inr (.inl (2, c_images))), (c_net_a, .inr (.inr (2, [.inl 0, .inl 0, .inr (some c_net_places_a), .inr (some c_net_lengths_a), .inr (some c_net_kinds_a), .inr (some c_net_costs_a), .inr (some c_net_words_a), .inr (some c_net_firsts_a), .inr (some c_net_joins_a), .inr (some c_net_slots_a), .inr (some c_net_routes_a)]))), (c_net_places_a, .inl (false, 480, c_net_places)), (c_net_lengths_a, .inl (false, 480, c_net_lengths)), (c_net_kinds_a, .inl (false, 480, c_net_kinds)), (c_net_costs_a, .inl (false, 480, c_net_costs)), (c_net_words_a, .inl (false, 480, c_net_words)), (c_net_firsts_a, .inl (false, 25, c_net_firsts)), (c_net_joins_a, .inl (false, 25, c_net_joins)), (c_net_slots_a, .inl (false, 28, c_net_slots)), (c_net_routes_a, .inl (false, 25, c_net_routes)), (c_ranking_a, .inr (.inr (4, [.inr (some c_ranking_before_a), .inr (some c_ranking_counts_a), .inr (some c_ranking_kept_a), .inr (some c_ranking_followed_a)]))), (c_ranking_before_a, .inl (false, 125, c_ranking_before)), (c_ranking_counts_a, .inl (false, 125, c_ranking_counts)), (c_ranking_kept_a, .inl (false, 1500, c_ranking_kept)), (c_ranking_followed_a, .inl (false, 24, c_ranking_followed)), (c_writing_a, .inr (.inr (5, [.inr (some c_writing_signs_a), .inl 0]))), (c_writing_signs_a, .inl (false, 71, c_writing_signs))] ∧ ((∀ j, c_pad_signs j = 0) ∧ (∀ j, c_book_dictionary_letters j = 0) ∧ (∀ j, c_book_dictionary_lengths j = 0) ∧ (∀ j, c_book_dictionary_kinds j = 0) ∧ (∀ j, c_book_dictionary_costs j = 0) ∧ (∀ j, c_book_joins j = 0) ∧ (∀ j, c_book_line j = 0) ∧ c_book_rules 0 = 0 ∧ c_book_rules 1 = 50 ∧ c_book_rules 2 = 10 ∧ c_book_rules 3 = 1 ∧ (∀ j, c_net_places j = 0) ∧ (∀ j, c_net_lengths j = 0) ∧ (∀ j, c_net_kinds j = 0) ∧ (∀ j, c_net_costs j = 0) ∧ (∀ j, c_net_words j = 0) ∧ (∀ j, c_net_firsts j = 0) ∧ (∀ j, c_net_joins j = 0) ∧ (∀ j, c_net_slots j = 0) ∧ (∀ j, c_net_routes j = 0) ∧ (∀ j, c_ranking_before j = 0) ∧ (∀ j, c_ranking_counts j = 0) ∧ (∀ j, c_ranking_kept j = 0) ∧ (∀ j, c_ranking_followed j = 0) ∧ (∀ j, c_writing_signs j = 0) ∧ (∀ j, c_images j = none))) := by
  refine zMv.of RX6 hE (by decide) rfl (by simp) ?_
  intro Z hP hav hwr B
  show Z 0 0 0 [some (.inr (some c_a))] [] _
  refine B.aload_n (pc := 0) (i := 0) dX6_init_0 rfl rfl ?_
  refine B.objInit (pc := 1) ml_X6_1 im_java_lang_Object__init_ co_objInit (by decide) (Nat.le_of_ble_eq_true rfl) dX6_init_1 ?_
  refine B.aload_n (pc := 4) (i := 0) dX6_init_4 rfl rfl ?_
  refine B.new (pc := 5) (ci := 3) tyX3 tyX3_ok rfl inX3z cl_X6_7 ia_X3 it_X3 [.inr none, .inl 0, .inl 0, .inl 0, .inl 0] (fun j hj => by rcases (show j = 0 ∨ j = 1 ∨ j = 2 ∨ j = 3 ∨ j = 4 by omega) with rfl | rfl | rfl | rfl | rfl <;> rfl) (by simp [zVr, zR]) (Nat.le_of_ble_eq_true rfl) (Nat.le_of_ble_eq_true rfl) dX6_init_5 (fun q5 => ?_)
  simp only [List.cons_append, List.nil_append]
  refine B.dup (pc := 8) dX6_init_8 ?_
  refine B.callIv (pc := 9) 0 (mX3_init hE _) ml_X6_9 im_X3_init it_X3 co_X3_init rfl (by decide +kernel) rfl rfl rfl ⟨by decide, by decide⟩ ⟨(Nat.le_of_ble_eq_true rfl), (Nat.le_of_ble_eq_true rfl)⟩ [1] rfl rfl rfl (Nat.le_of_ble_eq_true rfl) dX6_init_9 (fun _ => trivial) (fun uk9 ruk9 rak9 hqk9 => ?_)
  obtain ⟨p_signs_a_k9, p_signs_k9, rfl, hk9⟩ := hqk9
  simp only [zput, List.set_cons_zero, List.set_cons_succ, List.cons_append, List.nil_append]
  refine B.putfieldF (pc := 12) rfl 0 rfl rfl inX6z tyX6 tyX6_ok nmX6 0 (by decide) fl_X6_10 rfl rfl rfl rfl (Nat.le_of_ble_eq_true rfl) dX6_init_12 ?_
  simp only [List.set_cons_zero, List.set_cons_succ]
  refine B.aload_n (pc := 15) (i := 0) dX6_init_15 rfl rfl ?_
  refine B.new (pc := 16) (ci := 0) tyX0 tyX0_ok rfl inX0z cl_X6_16 ia_X0 it_X0 [.inr none, .inr none, .inr none, .inr none, .inl 0] (fun j hj => by rcases (show j = 0 ∨ j = 1 ∨ j = 2 ∨ j = 3 ∨ j = 4 by omega) with rfl | rfl | rfl | rfl | rfl <;> rfl) (by simp [zVr, zR]) (Nat.le_of_ble_eq_true rfl) (Nat.le_of_ble_eq_true rfl) dX6_init_16 (fun q16 => ?_)
  simp only [List.cons_append, List.nil_append]
  refine B.dup (pc := 19) dX6_init_19 ?_
  refine B.callIv (pc := 20) 0 (mX0_init hE _) ml_X6_18 im_X0_init it_X0 co_X0_init rfl (by decide +kernel) rfl rfl rfl ⟨by decide, by decide⟩ ⟨(Nat.le_of_ble_eq_true rfl), (Nat.le_of_ble_eq_true rfl)⟩ [3] rfl rfl rfl (Nat.le_of_ble_eq_true rfl) dX6_init_20 (fun _ => trivial) (fun uk20 ruk20 rak20 hqk20 => ?_)
  obtain ⟨b_dictionary_a_k20, b_dictionary_letters_a_k20, b_dictionary_lengths_a_k20, b_dictionary_kinds_a_k20, b_dictionary_costs_a_k20, b_joins_a_k20, b_rules_a_k20, b_line_a_k20, b_dictionary_letters_k20, b_dictionary_lengths_k20, b_dictionary_kinds_k20, b_dictionary_costs_k20, b_joins_k20, b_rules_k20, b_line_k20, rfl, hk20⟩ := hqk20
  simp only [zput, List.set_cons_zero, List.set_cons_succ, List.cons_append, List.nil_append]
  refine B.putfieldF (pc := 23) rfl 0 rfl rfl inX6z tyX6 tyX6_ok nmX6 1 (by decide) fl_X6_19 rfl rfl rfl rfl (Nat.le_of_ble_eq_true rfl) dX6_init_23 ?_
  simp only [List.set_cons_zero, List.set_cons_succ]
  refine B.aload_n (pc := 26) (i := 0) dX6_init_26 rfl rfl ?_
  refine B.iconst (pc := 27) dX6_init_27 ⟨by decide, by decide⟩ ?_
  refine B.anewarr (pc := 28) hEA cl_X6_16 (by decide) (by decide) (Nat.le_of_ble_eq_true rfl) (Nat.le_of_ble_eq_true rfl) dX6_init_28 (fun q28 => ?_)
  simp only [List.cons_append, List.nil_append]
  refine B.putfieldF (pc := 31) rfl 0 rfl rfl inX6z tyX6 tyX6_ok nmX6 2 (by decide) fl_X6_23 rfl rfl rfl rfl (Nat.le_of_ble_eq_true rfl) dX6_init_31 ?_
  simp only [List.set_cons_zero, List.set_cons_succ]
  refine B.aload_n (pc := 34) (i := 0) dX6_init_34 rfl rfl ?_
  refine B.new (pc := 35) (ci := 2) tyX2 tyX2_ok rfl inX2z cl_X6_27 ia_X2 it_X2 [.inl 0, .inl 0, .inr none, .inr none, .inr none, .inr none, .inr none, .inr none, .inr none, .inr none, .inr none] (fun j hj => by rcases (show j = 0 ∨ j = 1 ∨ j = 2 ∨ j = 3 ∨ j = 4 ∨ j = 5 ∨ j = 6 ∨ j = 7 ∨ j = 8 ∨ j = 9 ∨ j = 10 by omega) with rfl | rfl | rfl | rfl | rfl | rfl | rfl | rfl | rfl | rfl | rfl <;> rfl) (by simp [zVr, zR]) (Nat.le_of_ble_eq_true rfl) (Nat.le_of_ble_eq_true rfl) dX6_init_35 (fun q35 => ?_)
  simp only [List.cons_append, List.nil_append]
  refine B.dup (pc := 38) dX6_init_38 ?_
  refine B.callIv (pc := 39) 0 (mX2_init hE _) ml_X6_29 im_X2_init it_X2 co_X2_init rfl (by decide +kernel) rfl rfl rfl ⟨by decide, by decide⟩ ⟨(Nat.le_of_ble_eq_true rfl), (Nat.le_of_ble_eq_true rfl)⟩ [13] rfl rfl rfl (Nat.le_of_ble_eq_true rfl) dX6_init_39 (fun _ => trivial) (fun uk39 ruk39 rak39 hqk39 => ?_)
  obtain ⟨n_places_a_k39, n_lengths_a_k39, n_kinds_a_k39, n_costs_a_k39, n_words_a_k39, n_firsts_a_k39, n_joins_a_k39, n_slots_a_k39, n_routes_a_k39, n_places_k39, n_lengths_k39, n_kinds_k39, n_costs_k39, n_words_k39, n_firsts_k39, n_joins_k39, n_slots_k39, n_routes_k39, rfl, hk39⟩ := hqk39
  simp only [zput, List.set_cons_zero, List.set_cons_succ, List.cons_append, List.nil_append]
  refine B.putfieldF (pc := 42) rfl 0 rfl rfl inX6z tyX6 tyX6_ok nmX6 3 (by decide) fl_X6_30 rfl rfl rfl rfl (Nat.le_of_ble_eq_true rfl) dX6_init_42 ?_
  simp only [List.set_cons_zero, List.set_cons_succ]
  refine B.aload_n (pc := 45) (i := 0) dX6_init_45 rfl rfl ?_
  refine B.new (pc := 46) (ci := 4) tyX4 tyX4_ok rfl inX4z cl_X6_34 ia_X4 it_X4 [.inr none, .inr none, .inr none, .inr none] (fun j hj => by rcases (show j = 0 ∨ j = 1 ∨ j = 2 ∨ j = 3 by omega) with rfl | rfl | rfl | rfl <;> rfl) (by simp [zVr, zR]) (Nat.le_of_ble_eq_true rfl) (Nat.le_of_ble_eq_true rfl) dX6_init_46 (fun q46 => ?_)
  simp only [List.cons_append, List.nil_append]
  refine B.dup (pc := 49) dX6_init_49 ?_
  refine B.callIv (pc := 50) 0 (mX4_init hE _) ml_X6_36 im_X4_init it_X4 co_X4_init rfl (by decide +kernel) rfl rfl rfl ⟨by decide, by decide⟩ ⟨(Nat.le_of_ble_eq_true rfl), (Nat.le_of_ble_eq_true rfl)⟩ [23] rfl rfl rfl (Nat.le_of_ble_eq_true rfl) dX6_init_50 (fun _ => trivial) (fun uk50 ruk50 rak50 hqk50 => ?_)
  obtain ⟨k_before_a_k50, k_counts_a_k50, k_kept_a_k50, k_followed_a_k50, k_before_k50, k_counts_k50, k_kept_k50, k_followed_k50, rfl, hk50⟩ := hqk50
  simp only [zput, List.set_cons_zero, List.set_cons_succ, List.cons_append, List.nil_append]
  refine B.putfieldF (pc := 53) rfl 0 rfl rfl inX6z tyX6 tyX6_ok nmX6 4 (by decide) fl_X6_37 rfl rfl rfl rfl (Nat.le_of_ble_eq_true rfl) dX6_init_53 ?_
  simp only [List.set_cons_zero, List.set_cons_succ]
  refine B.aload_n (pc := 56) (i := 0) dX6_init_56 rfl rfl ?_
  refine B.new (pc := 57) (ci := 5) tyX5 tyX5_ok rfl inX5z cl_X6_41 ia_X5 it_X5 [.inr none, .inl 0] (fun j hj => by rcases (show j = 0 ∨ j = 1 by omega) with rfl | rfl <;> rfl) (by simp [zVr, zR]) (Nat.le_of_ble_eq_true rfl) (Nat.le_of_ble_eq_true rfl) dX6_init_57 (fun q57 => ?_)
  simp only [List.cons_append, List.nil_append]
  refine B.dup (pc := 60) dX6_init_60 ?_
  refine B.callIv (pc := 61) 0 (mX5_init hE _) ml_X6_43 im_X5_init it_X5 co_X5_init rfl (by decide +kernel) rfl rfl rfl ⟨by decide, by decide⟩ ⟨(Nat.le_of_ble_eq_true rfl), (Nat.le_of_ble_eq_true rfl)⟩ [28] rfl rfl rfl (Nat.le_of_ble_eq_true rfl) dX6_init_61 (fun _ => trivial) (fun uk61 ruk61 rak61 hqk61 => ?_)
  obtain ⟨w_signs_a_k61, w_signs_k61, rfl, hk61⟩ := hqk61
  simp only [zput, List.set_cons_zero, List.set_cons_succ, List.cons_append, List.nil_append]
  refine B.putfieldF (pc := 64) rfl 0 rfl rfl inX6z tyX6 tyX6_ok nmX6 5 (by decide) fl_X6_44 rfl rfl rfl rfl (Nat.le_of_ble_eq_true rfl) dX6_init_64 ?_
  simp only [List.set_cons_zero, List.set_cons_succ]
  refine B.vreturn (pc := 67) rfl dX6_init_67 (Nat.le_of_ble_eq_true rfl) (Nat.le_of_ble_eq_true rfl) (fun rw => ⟨_, _, _, _, _, _, _, _, _, _, _, _, _, _, _, _, _, _, _, _, _, _, _, _, _, _, _, _, _, _, _, _, _, _, _, _, _, _, _, _, _, _, _, _, _, _, _, _, _, _, _, _, rfl, ?_⟩)
  obtain ⟨b1, b2, b3, b4, b5, b6, b7, b8, b9, b10⟩ := hk20
  obtain ⟨n1, n2, n3, n4, n5, n6, n7, n8, n9⟩ := hk39
  obtain ⟨r1, r2, r3, r4⟩ := hk50
  exact ⟨hk9, b1, b2, b3, b4, b5, b6, b7, b8, b9, b10, n1, n2, n3, n4, n5, n6, n7, n8, n9, r1, r2, r3, r4, hk61, fun _ => rfl⟩
set_option maxHeartbeats 4000000 in
set_option maxRecDepth 100000 in
theorem mX7_init {l : Launch} {D : va_G} {k : zK} {E : zE} (hE : zEok E) (m_a : Nat) : zMv l D k E yX7_init cX7_init 1 { frames := 1, cells := 21, slots := 15631, locals := 20 } 21 15631 [.inr (some m_a)] [(m_a, .inr (.inr (7, [.inr none, .inr none, .inr none, .inr none, .inl 0, .inr none, .inr none, .inr none, .inl 0, .inl 0, .inr none, .inl 0, .inl 0, .inl 0, .inr none, .inr none, .inr none, .inr none, .inr none, .inr none, .inl 0, .inr none, .inr none, .inr none, .inr none, .inr none, .inr none, .inr none])))] True (fun z u => ∃ (m_letters_a m_size_a m_kind_a m_cost_a m_joins_a m_rules_a m_line_a m_pad_a m_place_a m_length_a m_sort_a m_price_a m_of_a m_begins_a m_rowCost_a m_rowNext_a m_rows_a m_ahead_a m_waysTo_a m_image_a m_isKept_a : Nat) (m_letters m_size m_kind m_cost m_joins m_rules m_line m_pad m_place m_length m_sort m_price m_of m_begins m_rowCost m_rowNext m_rows m_ahead m_waysTo m_image m_isKept : Nat → Int), u = [(m_a, .inr (.inr (7, [.inr (some m_letters_a), .inr (some m_size_a), .inr (some m_kind_a), .inr (some m_cost_a), .inl 0, .inr (some m_joins_a), .inr (some m_rules_a), .inr (some m_line_a), .inl 0, .inl 0, .inr (some m_pad_a), .inl 0, .inl 0, .inl 0, .inr (some m_place_a), .inr (some m_length_a), .inr (some m_sort_a), .inr (some m_price_a), .inr (some m_of_a), .inr (some m_begins_a), .inl 0, .inr (some m_rowCost_a), .inr (some m_rowNext_a), .inr (some m_rows_a), .inr (some m_ahead_a), .inr (some m_waysTo_a), .inr (some m_image_a), .inr (some m_isKept_a)]))), (m_letters_a, .inl (false, 96, m_letters)), (m_size_a, .inl (false, 16, m_size)), (m_kind_a, .inl (false, 16, m_kind)), (m_cost_a, .inl (false, 16, m_cost)), (m_joins_a, .inl (false, 25, m_joins)), (m_rules_a, .inl (false, 4, m_rules)), (m_line_a, .inl (false, 24, m_line)), (m_pad_a, .inl (false, 40, m_pad)), (m_place_a, .inl (false, 480, m_place)), (m_length_a, .inl (false, 480, m_length)), (m_sort_a, .inl (false, 480, m_sort)), (m_price_a, .inl (false, 480, m_price)), (m_of_a, .inl (false, 480, m_of)), (m_begins_a, .inl (false, 26, m_begins)), (m_rowCost_a, .inl (false, 5760, m_rowCost)), (m_rowNext_a, .inl (false, 5760, m_rowNext)), (m_rows_a, .inl (false, 480, m_rows)), (m_ahead_a, .inl (false, 480, m_ahead)), (m_waysTo_a, .inl (false, 26, m_waysTo)), (m_image_a, .inl (false, 460, m_image)), (m_isKept_a, .inl (true, 2, m_isKept))] ∧ ((∀ j, m_letters j = 0) ∧ (∀ j, m_size j = 0) ∧ (∀ j, m_kind j = 0) ∧ (∀ j, m_cost j = 0) ∧ (∀ j, m_joins j = 0) ∧ (∀ j, m_line j = 0) ∧ (∀ j, m_pad j = 0) ∧ (∀ j, m_place j = 0) ∧ (∀ j, m_length j = 0) ∧ (∀ j, m_sort j = 0) ∧ (∀ j, m_price j = 0) ∧ (∀ j, m_of j = 0) ∧ (∀ j, m_begins j = 0) ∧ (∀ j, m_rowCost j = 0) ∧ (∀ j, m_rowNext j = 0) ∧ (∀ j, m_rows j = 0) ∧ (∀ j, m_ahead j = 0) ∧ (∀ j, m_waysTo j = 0) ∧ (∀ j, m_image j = 0) ∧ (∀ j, m_isKept j = 0) ∧ m_rules 0 = 0 ∧ m_rules 1 = 50 ∧ m_rules 2 = 10 ∧ m_rules 3 = 1)) := by
  refine zMv.of RX7 hE (by decide) rfl (by simp) ?_
  intro Z hP hav hwr B
  show Z 0 0 0 [some (.inr (some m_a))] [] _
  refine B.aload_n (pc := 0) (i := 0) dX7_init_0 rfl rfl ?_
  refine B.objInit (pc := 1) ml_X7_1 im_java_lang_Object__init_ co_objInit (by decide) (Nat.le_of_ble_eq_true rfl) dX7_init_1 ?_
  refine B.aload_n (pc := 4) (i := 0) dX7_init_4 rfl rfl ?_
  refine B.bipush (pc := 5) dX7_init_5 ⟨by decide, by decide⟩ ?_
  refine B.newarrI (pc := 7) ac_Jvm_ClassFile_FieldType_int (by decide) (by decide) (Nat.le_of_ble_eq_true rfl) (Nat.le_of_ble_eq_true rfl) dX7_init_7 (fun q7 => ?_)
  simp only [List.cons_append, List.nil_append]
  refine B.putfieldF (pc := 9) rfl 0 rfl rfl inX7z tyX7 tyX7_ok nmX7 0 (by decide) fl_X7_7 rfl rfl rfl rfl (Nat.le_of_ble_eq_true rfl) dX7_init_9 ?_
  simp only [List.set_cons_zero, List.set_cons_succ]
  refine B.aload_n (pc := 12) (i := 0) dX7_init_12 rfl rfl ?_
  refine B.bipush (pc := 13) dX7_init_13 ⟨by decide, by decide⟩ ?_
  refine B.newarrI (pc := 15) ac_Jvm_ClassFile_FieldType_int (by decide) (by decide) (Nat.le_of_ble_eq_true rfl) (Nat.le_of_ble_eq_true rfl) dX7_init_15 (fun q15 => ?_)
  simp only [List.cons_append, List.nil_append]
  refine B.putfieldF (pc := 17) rfl 0 rfl rfl inX7z tyX7 tyX7_ok nmX7 1 (by decide) fl_X7_13 rfl rfl rfl rfl (Nat.le_of_ble_eq_true rfl) dX7_init_17 ?_
  simp only [List.set_cons_zero, List.set_cons_succ]
  refine B.aload_n (pc := 20) (i := 0) dX7_init_20 rfl rfl ?_
  refine B.bipush (pc := 21) dX7_init_21 ⟨by decide, by decide⟩ ?_
  refine B.newarrI (pc := 23) ac_Jvm_ClassFile_FieldType_int (by decide) (by decide) (Nat.le_of_ble_eq_true rfl) (Nat.le_of_ble_eq_true rfl) dX7_init_23 (fun q23 => ?_)
  simp only [List.cons_append, List.nil_append]
  refine B.putfieldF (pc := 25) rfl 0 rfl rfl inX7z tyX7 tyX7_ok nmX7 2 (by decide) fl_X7_16 rfl rfl rfl rfl (Nat.le_of_ble_eq_true rfl) dX7_init_25 ?_
  simp only [List.set_cons_zero, List.set_cons_succ]
  refine B.aload_n (pc := 28) (i := 0) dX7_init_28 rfl rfl ?_
  refine B.bipush (pc := 29) dX7_init_29 ⟨by decide, by decide⟩ ?_
  refine B.newarrI (pc := 31) ac_Jvm_ClassFile_FieldType_int (by decide) (by decide) (Nat.le_of_ble_eq_true rfl) (Nat.le_of_ble_eq_true rfl) dX7_init_31 (fun q31 => ?_)
  simp only [List.cons_append, List.nil_append]
  refine B.putfieldF (pc := 33) rfl 0 rfl rfl inX7z tyX7 tyX7_ok nmX7 3 (by decide) fl_X7_19 rfl rfl rfl rfl (Nat.le_of_ble_eq_true rfl) dX7_init_33 ?_
  simp only [List.set_cons_zero, List.set_cons_succ]
  refine B.aload_n (pc := 36) (i := 0) dX7_init_36 rfl rfl ?_
  refine B.bipush (pc := 37) dX7_init_37 ⟨by decide, by decide⟩ ?_
  refine B.newarrI (pc := 39) ac_Jvm_ClassFile_FieldType_int (by decide) (by decide) (Nat.le_of_ble_eq_true rfl) (Nat.le_of_ble_eq_true rfl) dX7_init_39 (fun q39 => ?_)
  simp only [List.cons_append, List.nil_append]
  refine B.putfieldF (pc := 41) rfl 0 rfl rfl inX7z tyX7 tyX7_ok nmX7 5 (by decide) fl_X7_22 rfl rfl rfl rfl (Nat.le_of_ble_eq_true rfl) dX7_init_41 ?_
  simp only [List.set_cons_zero, List.set_cons_succ]
  refine B.aload_n (pc := 44) (i := 0) dX7_init_44 rfl rfl ?_
  refine B.iconst (pc := 45) dX7_init_45 ⟨by decide, by decide⟩ ?_
  refine B.newarrI (pc := 46) ac_Jvm_ClassFile_FieldType_int (by decide) (by decide) (Nat.le_of_ble_eq_true rfl) (Nat.le_of_ble_eq_true rfl) dX7_init_46 (fun q46 => ?_)
  simp only [List.cons_append, List.nil_append]
  refine B.putfieldF (pc := 48) rfl 0 rfl rfl inX7z tyX7 tyX7_ok nmX7 6 (by decide) fl_X7_25 rfl rfl rfl rfl (Nat.le_of_ble_eq_true rfl) dX7_init_48 ?_
  simp only [List.set_cons_zero, List.set_cons_succ]
  refine B.aload_n (pc := 51) (i := 0) dX7_init_51 rfl rfl ?_
  refine B.bipush (pc := 52) dX7_init_52 ⟨by decide, by decide⟩ ?_
  refine B.newarrI (pc := 54) ac_Jvm_ClassFile_FieldType_int (by decide) (by decide) (Nat.le_of_ble_eq_true rfl) (Nat.le_of_ble_eq_true rfl) dX7_init_54 (fun q54 => ?_)
  simp only [List.cons_append, List.nil_append]
  refine B.putfieldF (pc := 56) rfl 0 rfl rfl inX7z tyX7 tyX7_ok nmX7 7 (by decide) fl_X7_28 rfl rfl rfl rfl (Nat.le_of_ble_eq_true rfl) dX7_init_56 ?_
  simp only [List.set_cons_zero, List.set_cons_succ]
  refine B.aload_n (pc := 59) (i := 0) dX7_init_59 rfl rfl ?_
  refine B.bipush (pc := 60) dX7_init_60 ⟨by decide, by decide⟩ ?_
  refine B.newarrI (pc := 62) ac_Jvm_ClassFile_FieldType_int (by decide) (by decide) (Nat.le_of_ble_eq_true rfl) (Nat.le_of_ble_eq_true rfl) dX7_init_62 (fun q62 => ?_)
  simp only [List.cons_append, List.nil_append]
  refine B.putfieldF (pc := 64) rfl 0 rfl rfl inX7z tyX7 tyX7_ok nmX7 10 (by decide) fl_X7_31 rfl rfl rfl rfl (Nat.le_of_ble_eq_true rfl) dX7_init_64 ?_
  simp only [List.set_cons_zero, List.set_cons_succ]
  refine B.aload_n (pc := 67) (i := 0) dX7_init_67 rfl rfl ?_
  refine B.sipush (pc := 68) dX7_init_68 ⟨by decide, by decide⟩ ?_
  refine B.newarrI (pc := 71) ac_Jvm_ClassFile_FieldType_int (by decide) (by decide) (Nat.le_of_ble_eq_true rfl) (Nat.le_of_ble_eq_true rfl) dX7_init_71 (fun q71 => ?_)
  simp only [List.cons_append, List.nil_append]
  refine B.putfieldF (pc := 73) rfl 0 rfl rfl inX7z tyX7 tyX7_ok nmX7 14 (by decide) fl_X7_34 rfl rfl rfl rfl (Nat.le_of_ble_eq_true rfl) dX7_init_73 ?_
  simp only [List.set_cons_zero, List.set_cons_succ]
  refine B.aload_n (pc := 76) (i := 0) dX7_init_76 rfl rfl ?_
  refine B.sipush (pc := 77) dX7_init_77 ⟨by decide, by decide⟩ ?_
  refine B.newarrI (pc := 80) ac_Jvm_ClassFile_FieldType_int (by decide) (by decide) (Nat.le_of_ble_eq_true rfl) (Nat.le_of_ble_eq_true rfl) dX7_init_80 (fun q80 => ?_)
  simp only [List.cons_append, List.nil_append]
  refine B.putfieldF (pc := 82) rfl 0 rfl rfl inX7z tyX7 tyX7_ok nmX7 15 (by decide) fl_X7_37 rfl rfl rfl rfl (Nat.le_of_ble_eq_true rfl) dX7_init_82 ?_
  simp only [List.set_cons_zero, List.set_cons_succ]
  refine B.aload_n (pc := 85) (i := 0) dX7_init_85 rfl rfl ?_
  refine B.sipush (pc := 86) dX7_init_86 ⟨by decide, by decide⟩ ?_
  refine B.newarrI (pc := 89) ac_Jvm_ClassFile_FieldType_int (by decide) (by decide) (Nat.le_of_ble_eq_true rfl) (Nat.le_of_ble_eq_true rfl) dX7_init_89 (fun q89 => ?_)
  simp only [List.cons_append, List.nil_append]
  refine B.putfieldF (pc := 91) rfl 0 rfl rfl inX7z tyX7 tyX7_ok nmX7 16 (by decide) fl_X7_40 rfl rfl rfl rfl (Nat.le_of_ble_eq_true rfl) dX7_init_91 ?_
  simp only [List.set_cons_zero, List.set_cons_succ]
  refine B.aload_n (pc := 94) (i := 0) dX7_init_94 rfl rfl ?_
  refine B.sipush (pc := 95) dX7_init_95 ⟨by decide, by decide⟩ ?_
  refine B.newarrI (pc := 98) ac_Jvm_ClassFile_FieldType_int (by decide) (by decide) (Nat.le_of_ble_eq_true rfl) (Nat.le_of_ble_eq_true rfl) dX7_init_98 (fun q98 => ?_)
  simp only [List.cons_append, List.nil_append]
  refine B.putfieldF (pc := 100) rfl 0 rfl rfl inX7z tyX7 tyX7_ok nmX7 17 (by decide) fl_X7_43 rfl rfl rfl rfl (Nat.le_of_ble_eq_true rfl) dX7_init_100 ?_
  simp only [List.set_cons_zero, List.set_cons_succ]
  refine B.aload_n (pc := 103) (i := 0) dX7_init_103 rfl rfl ?_
  refine B.sipush (pc := 104) dX7_init_104 ⟨by decide, by decide⟩ ?_
  refine B.newarrI (pc := 107) ac_Jvm_ClassFile_FieldType_int (by decide) (by decide) (Nat.le_of_ble_eq_true rfl) (Nat.le_of_ble_eq_true rfl) dX7_init_107 (fun q107 => ?_)
  simp only [List.cons_append, List.nil_append]
  refine B.putfieldF (pc := 109) rfl 0 rfl rfl inX7z tyX7 tyX7_ok nmX7 18 (by decide) fl_X7_46 rfl rfl rfl rfl (Nat.le_of_ble_eq_true rfl) dX7_init_109 ?_
  simp only [List.set_cons_zero, List.set_cons_succ]
  refine B.aload_n (pc := 112) (i := 0) dX7_init_112 rfl rfl ?_
  refine B.bipush (pc := 113) dX7_init_113 ⟨by decide, by decide⟩ ?_
  refine B.newarrI (pc := 115) ac_Jvm_ClassFile_FieldType_int (by decide) (by decide) (Nat.le_of_ble_eq_true rfl) (Nat.le_of_ble_eq_true rfl) dX7_init_115 (fun q115 => ?_)
  simp only [List.cons_append, List.nil_append]
  refine B.putfieldF (pc := 117) rfl 0 rfl rfl inX7z tyX7 tyX7_ok nmX7 19 (by decide) fl_X7_49 rfl rfl rfl rfl (Nat.le_of_ble_eq_true rfl) dX7_init_117 ?_
  simp only [List.set_cons_zero, List.set_cons_succ]
  refine B.aload_n (pc := 120) (i := 0) dX7_init_120 rfl rfl ?_
  refine B.sipush (pc := 121) dX7_init_121 ⟨by decide, by decide⟩ ?_
  refine B.newarrI (pc := 124) ac_Jvm_ClassFile_FieldType_int (by decide) (by decide) (Nat.le_of_ble_eq_true rfl) (Nat.le_of_ble_eq_true rfl) dX7_init_124 (fun q124 => ?_)
  simp only [List.cons_append, List.nil_append]
  refine B.putfieldF (pc := 126) rfl 0 rfl rfl inX7z tyX7 tyX7_ok nmX7 21 (by decide) fl_X7_52 rfl rfl rfl rfl (Nat.le_of_ble_eq_true rfl) dX7_init_126 ?_
  simp only [List.set_cons_zero, List.set_cons_succ]
  refine B.aload_n (pc := 129) (i := 0) dX7_init_129 rfl rfl ?_
  refine B.sipush (pc := 130) dX7_init_130 ⟨by decide, by decide⟩ ?_
  refine B.newarrI (pc := 133) ac_Jvm_ClassFile_FieldType_int (by decide) (by decide) (Nat.le_of_ble_eq_true rfl) (Nat.le_of_ble_eq_true rfl) dX7_init_133 (fun q133 => ?_)
  simp only [List.cons_append, List.nil_append]
  refine B.putfieldF (pc := 135) rfl 0 rfl rfl inX7z tyX7 tyX7_ok nmX7 22 (by decide) fl_X7_55 rfl rfl rfl rfl (Nat.le_of_ble_eq_true rfl) dX7_init_135 ?_
  simp only [List.set_cons_zero, List.set_cons_succ]
  refine B.aload_n (pc := 138) (i := 0) dX7_init_138 rfl rfl ?_
  refine B.sipush (pc := 139) dX7_init_139 ⟨by decide, by decide⟩ ?_
  refine B.newarrI (pc := 142) ac_Jvm_ClassFile_FieldType_int (by decide) (by decide) (Nat.le_of_ble_eq_true rfl) (Nat.le_of_ble_eq_true rfl) dX7_init_142 (fun q142 => ?_)
  simp only [List.cons_append, List.nil_append]
  refine B.putfieldF (pc := 144) rfl 0 rfl rfl inX7z tyX7 tyX7_ok nmX7 23 (by decide) fl_X7_58 rfl rfl rfl rfl (Nat.le_of_ble_eq_true rfl) dX7_init_144 ?_
  simp only [List.set_cons_zero, List.set_cons_succ]
  refine B.aload_n (pc := 147) (i := 0) dX7_init_147 rfl rfl ?_
  refine B.sipush (pc := 148) dX7_init_148 ⟨by decide, by decide⟩ ?_
  refine B.newarrI (pc := 151) ac_Jvm_ClassFile_FieldType_int (by decide) (by decide) (Nat.le_of_ble_eq_true rfl) (Nat.le_of_ble_eq_true rfl) dX7_init_151 (fun q151 => ?_)
  simp only [List.cons_append, List.nil_append]
  refine B.putfieldF (pc := 153) rfl 0 rfl rfl inX7z tyX7 tyX7_ok nmX7 24 (by decide) fl_X7_61 rfl rfl rfl rfl (Nat.le_of_ble_eq_true rfl) dX7_init_153 ?_
  simp only [List.set_cons_zero, List.set_cons_succ]
  refine B.aload_n (pc := 156) (i := 0) dX7_init_156 rfl rfl ?_
  refine B.bipush (pc := 157) dX7_init_157 ⟨by decide, by decide⟩ ?_
  refine B.newarrI (pc := 159) ac_Jvm_ClassFile_FieldType_int (by decide) (by decide) (Nat.le_of_ble_eq_true rfl) (Nat.le_of_ble_eq_true rfl) dX7_init_159 (fun q159 => ?_)
  simp only [List.cons_append, List.nil_append]
  refine B.putfieldF (pc := 161) rfl 0 rfl rfl inX7z tyX7 tyX7_ok nmX7 25 (by decide) fl_X7_64 rfl rfl rfl rfl (Nat.le_of_ble_eq_true rfl) dX7_init_161 ?_
  simp only [List.set_cons_zero, List.set_cons_succ]
  refine B.aload_n (pc := 164) (i := 0) dX7_init_164 rfl rfl ?_
  refine B.sipush (pc := 165) dX7_init_165 ⟨by decide, by decide⟩ ?_
  refine B.newarrI (pc := 168) ac_Jvm_ClassFile_FieldType_int (by decide) (by decide) (Nat.le_of_ble_eq_true rfl) (Nat.le_of_ble_eq_true rfl) dX7_init_168 (fun q168 => ?_)
  simp only [List.cons_append, List.nil_append]
  refine B.putfieldF (pc := 170) rfl 0 rfl rfl inX7z tyX7 tyX7_ok nmX7 26 (by decide) fl_X7_67 rfl rfl rfl rfl (Nat.le_of_ble_eq_true rfl) dX7_init_170 ?_
  simp only [List.set_cons_zero, List.set_cons_succ]
  refine B.aload_n (pc := 173) (i := 0) dX7_init_173 rfl rfl ?_
  refine B.iconst (pc := 174) dX7_init_174 ⟨by decide, by decide⟩ ?_
  refine B.newarrZ (pc := 175) ac_Jvm_ClassFile_FieldType_boolean (by decide) (by decide) (Nat.le_of_ble_eq_true rfl) (Nat.le_of_ble_eq_true rfl) dX7_init_175 (fun q175 => ?_)
  simp only [List.cons_append, List.nil_append]
  refine B.putfieldF (pc := 177) rfl 0 rfl rfl inX7z tyX7 tyX7_ok nmX7 27 (by decide) fl_X7_70 rfl rfl rfl rfl (Nat.le_of_ble_eq_true rfl) dX7_init_177 ?_
  simp only [List.set_cons_zero, List.set_cons_succ]
  refine B.aload_n (pc := 180) (i := 0) dX7_init_180 rfl rfl ?_
  refine B.getfield (pc := 181) 0 rfl rfl inX7z 6 (by decide) fl_X7_25 rfl dX7_init_181 ?_
  refine B.iconst (pc := 184) dX7_init_184 ⟨by decide, by decide⟩ ?_
  refine B.bipush (pc := 185) dX7_init_185 ⟨by decide, by decide⟩ ?_
  refine B.iastore (pc := 187) 6 rfl (by omega) (by omega) dX7_init_187 ?_
  simp only [List.set_cons_zero, List.set_cons_succ]
  refine B.aload_n (pc := 188) (i := 0) dX7_init_188 rfl rfl ?_
  refine B.getfield (pc := 189) 0 rfl rfl inX7z 6 (by decide) fl_X7_25 rfl dX7_init_189 ?_
  refine B.iconst (pc := 192) dX7_init_192 ⟨by decide, by decide⟩ ?_
  refine B.bipush (pc := 193) dX7_init_193 ⟨by decide, by decide⟩ ?_
  refine B.iastore (pc := 195) 6 rfl (by omega) (by omega) dX7_init_195 ?_
  simp only [List.set_cons_zero, List.set_cons_succ]
  refine B.aload_n (pc := 196) (i := 0) dX7_init_196 rfl rfl ?_
  refine B.getfield (pc := 197) 0 rfl rfl inX7z 6 (by decide) fl_X7_25 rfl dX7_init_197 ?_
  refine B.iconst (pc := 200) dX7_init_200 ⟨by decide, by decide⟩ ?_
  refine B.iconst (pc := 201) dX7_init_201 ⟨by decide, by decide⟩ ?_
  refine B.iastore (pc := 202) 6 rfl (by omega) (by omega) dX7_init_202 ?_
  simp only [List.set_cons_zero, List.set_cons_succ]
  refine B.vreturn (pc := 203) rfl dX7_init_203 (Nat.le_of_ble_eq_true rfl) (Nat.le_of_ble_eq_true rfl) (fun rw => ⟨_, _, _, _, _, _, _, _, _, _, _, _, _, _, _, _, _, _, _, _, _, _, _, _, _, _, _, _, _, _, _, _, _, _, _, _, _, _, _, _, _, _, rfl, ?_⟩)
  exact ⟨fun _ => rfl, fun _ => rfl, fun _ => rfl, fun _ => rfl, fun _ => rfl, fun _ => rfl, fun _ => rfl, fun _ => rfl, fun _ => rfl, fun _ => rfl, fun _ => rfl, fun _ => rfl, fun _ => rfl, fun _ => rfl, fun _ => rfl, fun _ => rfl, fun _ => rfl, fun _ => rfl, fun _ => rfl, fun _ => rfl, rfl, rfl, rfl, rfl⟩
end
section
/-! what both sides share: joins, rules, images -/
def JV (one other : Int) : Prop := 0 ≤ one ∧ one ≤ 4 ∧ 0 ≤ other ∧ other ≤ 4 ∧ ¬ (one = 4 ∧ other = 4)
def JS (one other cost z : Int) (jo jo' : Nat → Int) : Prop := (¬ JV one other ∧ z = -1 ∧ jo' = jo) ∨ (JV one other ∧ (cost < 0 ∨ 99 < cost) ∧ z = -2 ∧ jo' = jo) ∨ (JV one other ∧ 0 ≤ cost ∧ cost ≤ 99 ∧ z = jo (one * 5 + other).toNat ∧ jo' = zup jo (one * 5 + other).toNat cost)
theorem JS.same {one other cost z z' : Int} {jo jo' mo mo' : Nat → Int} (h : JS one other cost z jo jo') (g : JS one other cost z' mo mo') (e : ∀ j : Nat, j < 25 → jo j = mo j) : z = z' ∧ ∀ j : Nat, j < 25 → jo' j = mo' j := by
  rcases h with ⟨h1, h2, h3⟩ | ⟨h1, h2, h3, h4⟩ | ⟨h1, h2, h3, h4, h5⟩ <;> rcases g with ⟨g1, g2, g3⟩ | ⟨g1, g2, g3, g4⟩ | ⟨g1, g2, g3, g4, g5⟩
  · subst h2; subst g2; subst h3; subst g3; exact ⟨rfl, e⟩
  · exact absurd g1 h1
  · exact absurd g1 h1
  · exact absurd h1 g1
  · subst h3; subst g3; subst h4; subst g4; exact ⟨rfl, e⟩
  · omega
  · exact absurd h1 g1
  · omega
  · obtain ⟨a1, a2, a3, a4, -⟩ := h1
    subst h4; subst g4; subst h5; subst g5
    refine ⟨e _ (by omega), fun j hj => ?_⟩
    by_cases q : j = (one * 5 + other).toNat
    · rw [q, zup_eq, zup_eq]
    · rw [zup_ne q, zup_ne q]; exact e j hj
def RV (what n : Int) : Prop := 0 ≤ what ∧ what ≤ 3 ∧ 0 ≤ n ∧ n ≤ 99 ∧ (what = 0 → n ≤ 2) ∧ (what = 3 → n ≤ 3)
def RS (what n z : Int) (ru ru' : Nat → Int) : Prop := (¬ RV what n ∧ z = -2 ∧ ru' = ru) ∨ (RV what n ∧ z = ru what.toNat ∧ ru' = zup ru what.toNat n)
theorem RS.same {what n z z' : Int} {jo jo' mo mo' : Nat → Int} (h : RS what n z jo jo') (g : RS what n z' mo mo') (e : ∀ j : Nat, j < 4 → jo j = mo j) : z = z' ∧ ∀ j : Nat, j < 4 → jo' j = mo' j := by
  rcases h with ⟨h1, h2, h3⟩ | ⟨h1, h2, h3⟩ <;> rcases g with ⟨g1, g2, g3⟩ | ⟨g1, g2, g3⟩
  · subst h2; subst g2; subst h3; subst g3; exact ⟨rfl, e⟩
  · exact absurd g1 h1
  · exact absurd h1 g1
  · obtain ⟨a1, a2, -⟩ := h1
    subst h2; subst g2; subst h3; subst g3
    refine ⟨e _ (by omega), fun j hj => ?_⟩
    by_cases q : j = what.toNat
    · rw [q, zup_eq, zup_eq]
    · rw [zup_ne q, zup_ne q]; exact e j hj
/-- what a book holds: count, letters, lengths, kinds, costs, joins, rules, line, the line's length -/
abbrev zBQ : Type := Int → (Nat → Int) → (Nat → Int) → (Nat → Int) → (Nat → Int) → (Nat → Int) → (Nat → Int) → (Nat → Int) → Int → Prop
/-- it holds the same -/
def QB (dc : Int) (le si ki co jo ru li : Nat → Int) (ll : Int) : zBQ := fun dc' le' si' ki' co' jo' ru' li' ll' => dc' = dc ∧ (∀ j : Nat, j < 96 → le' j = le j) ∧ (∀ j : Nat, j < 16 → si' j = si j) ∧ (∀ j : Nat, j < 16 → ki' j = ki j) ∧ (∀ j : Nat, j < 16 → co' j = co j) ∧ (∀ j : Nat, j < 25 → jo' j = jo j) ∧ (∀ j : Nat, j < 4 → ru' j = ru j) ∧ (∀ j : Nat, j < 24 → li' j = li j) ∧ ll' = ll
/-- it holds what the image's row has from b on: joins, rules -/
def QJ (im : Nat → Int) (b : Nat) : zBQ := fun _ _ _ _ _ jo ru _ _ => (∀ j : Nat, j < 25 → jo j = im (b + 144 + j)) ∧ (∀ j : Nat, j < 4 → ru j = im (b + 170 + j))
/-- the reference's image: what it does to its row -/
def zMQ (n z : Int) (wd ln : Int) (le sz kd co jo ru li im im' kp kp' : Nat → Int) : Prop := (¬ (n = 0 ∨ n = 1) ∧ z = -2 ∧ im' = im ∧ kp' = kp) ∨ ((n = 0 ∨ n = 1) ∧ z = 1 ∧ kp' = zup kp n.toNat 1 ∧ CO im' im (230 * n) ∧ CY im' le (230 * n) 96 ∧ CY im' sz (230 * n + 96) 16 ∧ CY im' kd (230 * n + 112) 16 ∧ CY im' co (230 * n + 128) 16 ∧ CY im' jo (230 * n + 144) 25 ∧ CY im' ru (230 * n + 170) 4 ∧ CY im' li (230 * n + 180) 24 ∧ im' (230 * n + 210).toNat = wd ∧ im' (230 * n + 211).toNat = ln)
def zMR (n z : Int) (im kp : Nat → Int) (wd ln : Int) (le sz kd co jo ru li : Nat → Int) (wd' ln' : Int) (le' sz' kd' co' jo' ru' li' : Nat → Int) : Prop :=
  (¬ (n = 0 ∨ n = 1) ∧ z = -2 ∧ wd' = wd ∧ ln' = ln ∧ le' = le ∧ sz' = sz ∧ kd' = kd ∧ co' = co ∧ jo' = jo ∧ ru' = ru ∧ li' = li) ∨
  ((n = 0 ∨ n = 1) ∧ kp n.toNat = 0 ∧ z = -3 ∧ wd' = wd ∧ ln' = ln ∧ le' = le ∧ sz' = sz ∧ kd' = kd ∧ co' = co ∧ jo' = jo ∧ ru' = ru ∧ li' = li) ∨
  ((n = 0 ∨ n = 1) ∧ kp n.toNat ≠ 0 ∧ z = 1 ∧ wd' = im (230 * n + 210).toNat ∧ ln' = im (230 * n + 211).toNat ∧ RY le' im (230 * n) 96 ∧ RY sz' im (230 * n + 96) 16 ∧ RY kd' im (230 * n + 112) 16 ∧ RY co' im (230 * n + 128) 16 ∧ RY jo' im (230 * n + 144) 25 ∧ RY ru' im (230 * n + 170) 4 ∧ RY li' im (230 * n + 180) 24)
end
section
/-! the basic state, as both sides read it -/
def lt_ (v : Int) : Prop := 97 ≤ v ∧ v ≤ 104
def dg_ (v : Int) : Prop := 48 ≤ v ∧ v ≤ 57
/-- the sign at a place, 0 where none stands -/
def sA (n : Int) (sg : Nat → Int) (a : Int) : Int := if 0 ≤ a ∧ a < n then sg a.toNat else 0
theorem sA_in {n : Int} {sg : Nat → Int} {a : Int} (h0 : 0 ≤ a) (h1 : a < n) : sA n sg a = sg a.toNat := if_pos ⟨h0, h1⟩
theorem sA_out {n : Int} {sg : Nat → Int} {a : Int} (h : a < 0 ∨ n ≤ a) : sA n sg a = 0 := if_neg (by omega)
theorem sA.same {n : Int} {sg sg' : Nat → Int} (e : ∀ j : Nat, (j : Int) < n → sg j = sg' j) (a : Int) : sA n sg a = sA n sg' a := by
  unfold sA
  split
  · exact e _ (by omega)
  · rfl
def LD (n : Int) (sg : Nat → Int) (most L : Int) : Prop := 0 ≤ L ∧ L ≤ most ∧ L ≤ n ∧ (∀ j : Nat, (j : Int) < L → lt_ (sg j)) ∧ (L = most ∨ L = n ∨ ¬ lt_ (sg L.toNat))
theorem LD.same {n most L L' : Int} {sg sg' : Nat → Int} (h : LD n sg most L) (g : LD n sg' most L') (e : ∀ j : Nat, (j : Int) < n → sg j = sg' j) : L = L' := by
  obtain ⟨h1, h2, h3, h4, h5⟩ := h
  obtain ⟨g1, g2, g3, g4, g5⟩ := g
  rcases Int.lt_trichotomy L L' with q | q | q
  · have := g4 L.toNat (by omega)
    rw [← e L.toNat (by omega)] at this
    rcases h5 with r | r | r
    · omega
    · omega
    · exact absurd this r
  · exact q
  · have := h4 L'.toNat (by omega)
    rw [e L'.toNat (by omega)] at this
    rcases g5 with r | r | r
    · omega
    · omega
    · exact absurd this r
theorem LD.step {sg : Nat → Int} {f : Int} (h : ∀ j : Nat, (j : Int) < f → lt_ (sg j)) (h0 : 0 ≤ f) (hs : lt_ (sg f.toNat)) : ∀ j : Nat, (j : Int) < f + 1 → lt_ (sg j) := by
  intro j hj
  by_cases e : j = f.toNat
  · rw [e]; exact hs
  · exact h j (by omega)
/-- the fault as a line -/
def LF (n : Int) (sg : Nat → Int) (z : Int) : Prop := ∃ L, LD n sg 24 L ∧ ((0 < L ∧ L = n ∧ z = -6) ∨ (¬ (0 < L ∧ L = n) ∧ z = L))
theorem LF.same {n z z' : Int} {sg sg' : Nat → Int} (h : LF n sg z) (g : LF n sg' z') (e : ∀ j : Nat, (j : Int) < n → sg j = sg' j) : z = z' := by
  obtain ⟨L, h1, h2⟩ := h
  obtain ⟨L', g1, g2⟩ := g
  have := h1.same g1 e
  omega
def KD (v K : Int) : Prop := (v = 110 ∧ K = 0) ∨ (v = 118 ∧ K = 1) ∨ (v = 109 ∧ K = 2) ∨ (v ≠ 110 ∧ v ≠ 118 ∧ v ≠ 109 ∧ K = -6)
def WN (n : Int) (sg : Nat → Int) (a K : Int) : Prop := ∀ j : Int, 0 ≤ j → j < 4 → sA n sg (a + j) = ztxt (4 * K + j).toNat
def AD (n : Int) (sg : Nat → Int) (a K b : Int) : Prop := (WN n sg a K ∧ b = a + 4) ∨ (¬ WN n sg a K ∧ b = a + 1)
def EN (n b z : Int) : Prop := (b = n ∧ z = -6) ∨ (b ≠ n ∧ z = b)
def CF (n : Int) (sg : Nat → Int) (a z co : Int) : Prop := (¬ dg_ (sA n sg a) ∧ z = a) ∨ (dg_ (sA n sg a) ∧ ((dg_ (sA n sg (a + 1)) ∧ co = (sA n sg a - 48) * 10 + sA n sg (a + 1) - 48 ∧ EN n (a + 2) z) ∨ (¬ dg_ (sA n sg (a + 1)) ∧ co = sA n sg a - 48 ∧ EN n (a + 1) z)))
/-- the fault as a word; what is read -/
def WF (n : Int) (sg : Nat → Int) (z le ki co : Int) : Prop := ∃ L, LD n sg 6 L ∧ le = L ∧ ((¬ (1 ≤ L ∧ sA n sg L = 61) ∧ z = L) ∨ (1 ≤ L ∧ sA n sg L = 61 ∧ ∃ K, KD (sA n sg (L + 1)) K ∧ ki = K ∧ ((K = -6 ∧ z = L + 1) ∨ (K ≠ -6 ∧ ∃ a, AD n sg (L + 1) K a ∧ CF n sg a z co))))
theorem KD.same {v K K' : Int} (h : KD v K) (g : KD v K') : K = K' := by
  unfold KD at h g; omega
theorem CF.same {n a z z' co co' : Int} {sg sg' : Nat → Int} (h : CF n sg a z co) (g : CF n sg' a z' co') (h0 : 0 ≤ a) (e : ∀ j : Nat, (j : Int) < n → sg j = sg' j) : z = z' ∧ (z = -6 → co = co') := by
  unfold CF EN dg_ at h g
  rw [sA.same e a, sA.same e (a + 1)] at h
  omega
theorem WF.same {n z z' le le' ki ki' co co' : Int} {sg sg' : Nat → Int} (h : WF n sg z le ki co) (g : WF n sg' z' le' ki' co') (e : ∀ j : Nat, (j : Int) < n → sg j = sg' j) : z = z' ∧ le = le' ∧ (z = -6 → ki = ki' ∧ co = co') := by
  obtain ⟨L, h1, h2, h3⟩ := h
  obtain ⟨L', g1, g2, g3⟩ := g
  have hL := h1.same g1 e
  subst hL
  have e1 := sA.same e L
  have hLn := h1.1
  rcases h3 with ⟨h3, h4⟩ | ⟨h3, h4, K, h5, h6, h7⟩ <;> rcases g3 with ⟨g3, g4⟩ | ⟨g3, g4, K', g5, g6, g7⟩
  · exact ⟨by omega, by omega, fun q => by omega⟩
  · exact absurd ⟨g3, e1.trans g4⟩ h3
  · exact absurd ⟨h3, e1.symm.trans h4⟩ g3
  · rw [sA.same e (L + 1)] at h5
    have hK := h5.same g5
    subst hK
    rcases h7 with ⟨h7, h8⟩ | ⟨h7, a, h8, h9⟩ <;> rcases g7 with ⟨g7, g8⟩ | ⟨g7, a', g8, g9⟩
    · exact ⟨by omega, by omega, fun q => by omega⟩
    · exact absurd h7 g7
    · exact absurd g7 h7
    · have hW : WN n sg (L + 1) K ↔ WN n sg' (L + 1) K := by
        constructor
        · intro h j j0 j1; rw [← sA.same e]; exact h j j0 j1
        · intro h j j0 j1; rw [sA.same e]; exact h j j0 j1
      have ha : a = a' ∧ 0 ≤ a := by
        rcases h8 with ⟨u, v⟩ | ⟨u, v⟩ <;> rcases g8 with ⟨u', v'⟩ | ⟨u', v'⟩
        · omega
        · exact absurd (hW.mp u) u'
        · exact absurd (hW.mpr u') u
        · omega
      obtain ⟨rfl, ha0⟩ := ha
      have := h9.same g9 ha0 e
      exact ⟨this.1, by omega, fun q => ⟨by omega, this.2 q⟩⟩
theorem ztxt_p : ∀ j, 97 ≤ ztxt j := by
  intro j
  unfold ztxt
  split <;> decide
theorem ztxt_and : ∀ j : Nat, j < 12 → (iZ (ztxt j) &&& iZ 255).toInt = ztxt j := by decide +kernel
theorem KD.z {v K : Int} (h : KD v K) (hk : K ≠ -6) : v = ztxt (4 * K + 0).toNat := by
  rcases h with ⟨h1, h2⟩ | ⟨h1, h2⟩ | ⟨h1, h2⟩ | ⟨-, -, -, h2⟩
  · subst h1; subst h2; rfl
  · subst h1; subst h2; rfl
  · subst h1; subst h2; rfl
  · exact absurd h2 hk
def KQ (v q K : Int) : Prop := (v = 110 ∧ 1 ≤ q ∧ K = 0) ∨ (v = 118 ∧ 2 ≤ q ∧ K = 1) ∨ (v = 109 ∧ 3 ≤ q ∧ K = 2) ∨ (¬ (v = 110 ∧ 1 ≤ q) ∧ ¬ (v = 118 ∧ 2 ≤ q) ∧ ¬ (v = 109 ∧ 3 ≤ q) ∧ K = -6)
def zSS (sg z n : Int) (p : Nat → Int) (n' : Int) (p' : Nat → Int) : Prop := (¬ (33 ≤ sg ∧ sg ≤ 126) ∧ z = -2 ∧ n' = n ∧ p' = p) ∨ (33 ≤ sg ∧ sg ≤ 126 ∧ n = 40 ∧ z = -4 ∧ n' = n ∧ p' = p) ∨ (33 ≤ sg ∧ sg ≤ 126 ∧ n ≠ 40 ∧ z = n + 1 ∧ n' = n + 1 ∧ p' = zup p n.toNat sg)
theorem zSS.same {sg z z2 n n2 n' n2' : Int} {p p2 p' p2' : Nat → Int} (h : zSS sg z n p n' p') (g : zSS sg z2 n2 p2 n2' p2') (h0 : 0 ≤ n) (e1 : n = n2) (e2 : ∀ j : Nat, (j : Int) < n → p j = p2 j) : z = z2 ∧ n' = n2' ∧ ∀ j : Nat, (j : Int) < n' → p' j = p2' j := by
  subst e1
  rcases h with ⟨h1, h2, h3, h4⟩ | ⟨h1, h2, h3, h4, h5, h6⟩ | ⟨h1, h2, h3, h4, h5, h6⟩ <;> rcases g with ⟨g1, g2, g3, g4⟩ | ⟨g1, g2, g3, g4, g5, g6⟩ | ⟨g1, g2, g3, g4, g5, g6⟩
  · subst h3; subst h4; subst g3; subst g4; exact ⟨by omega, rfl, e2⟩
  · omega
  · omega
  · omega
  · subst h5; subst h6; subst g5; subst g6; exact ⟨by omega, rfl, e2⟩
  · omega
  · omega
  · omega
  · subst h6; subst g6
    refine ⟨by omega, by omega, fun j hj => ?_⟩
    by_cases q : j = n.toNat
    · rw [q, zup_eq, zup_eq]
    · rw [zup_ne q, zup_ne q]; exact e2 j (by omega)
def zWP (n z n' : Int) : Prop := z = n ∧ n' = 0
def zFT (as_ n : Int) (sg : Nat → Int) (z : Int) : Prop := (as_ = 0 → ∃ a b c, WF n sg z a b c) ∧ (as_ = 1 → LF n sg z) ∧ (as_ ≠ 0 → as_ ≠ 1 → z = -2)
theorem zFT.same {as_ n n2 z z2 : Int} {sg sg2 : Nat → Int} (h : zFT as_ n sg z) (g : zFT as_ n2 sg2 z2) (e1 : n = n2) (e2 : ∀ j : Nat, (j : Int) < n → sg j = sg2 j) : z = z2 := by
  subst e1
  obtain ⟨h1, h2, h3⟩ := h
  obtain ⟨g1, g2, g3⟩ := g
  by_cases q0 : as_ = 0
  · obtain ⟨a, b, c, h1⟩ := h1 q0
    obtain ⟨a2, b2, c2, g1⟩ := g1 q0
    exact (h1.same g1 e2).1
  · by_cases q1 : as_ = 1
    · exact (h2 q1).same (g2 q1) e2
    · rw [h3 q0 q1, g3 q0 q1]
/-- a word that the pad has read: its letters, its kind -/
def MT (le si ki sg : Nat → Int) (L K : Int) (w : Nat) : Prop := si w = L ∧ ki w = K ∧ ∀ i : Nat, (i : Int) < L → le (6 * w + i) = sg i
def ST (le : Nat → Int) (len : Int) (w : Nat) (row : Nat → Int) (place end_ : Int) : Prop := len ≤ end_ - place ∧ ∀ i : Nat, (i : Int) < len → le (6 * w + i) = row (place.toNat + i)
def UQ (dc : Int) (le si ki : Nat → Int) : Prop := ∀ v w : Nat, (v : Int) < dc → (w : Int) < dc → si v = si w → ki v = ki w → (∀ i : Nat, (i : Int) < si v → le (6 * v + i) = le (6 * w + i)) → v = w
def DQ (dc : Int) (le si ki co : Nat → Int) (wd : Int) (le2 sz kd co2 : Nat → Int) : Prop := dc = wd ∧ ∀ w : Nat, (w : Int) < dc → si w = sz w ∧ ki w = kd w ∧ co w = co2 w ∧ ∀ i : Nat, (i : Int) < si w → le (6 * w + i) = le2 (6 * w + i)
def DS (dc : Int) (le si ki co : Nat → Int) (dc' : Int) (le' si' ki' co' : Nat → Int) : Prop := dc' = dc ∧ le' = le ∧ si' = si ∧ ki' = ki ∧ co' = co
/-- a word that was read is put -/
def zPT (sg : Nat → Int) (L K C z dc : Int) (le si ki co : Nat → Int) (dc' : Int) (le' si' ki' co' : Nat → Int) : Prop :=
  (z = -4 ∧ dc = 16 ∧ (∀ v : Nat, (v : Int) < dc → ¬ MT le si ki sg L K v) ∧ DS dc le si ki co dc' le' si' ki' co') ∨
  (z = dc ∧ dc < 16 ∧ (∀ v : Nat, (v : Int) < dc → ¬ MT le si ki sg L K v) ∧ dc' = dc + 1 ∧ (∀ v : Nat, (v : Int) < dc → si' v = si v ∧ ki' v = ki v ∧ co' v = co v ∧ ∀ i : Nat, i < 6 → le' (6 * v + i) = le (6 * v + i)) ∧ co' dc.toNat = C ∧ MT le' si' ki' sg L K dc.toNat) ∨
  (∃ w : Nat, z = w ∧ (w : Int) < dc ∧ MT le si ki sg L K w ∧ dc' = dc ∧ (∀ v : Nat, (v : Int) < dc → si' v = si v ∧ ki' v = ki v ∧ (v ≠ w → co' v = co v) ∧ ∀ i : Nat, i < 6 → le' (6 * v + i) = le (6 * v + i)) ∧ co' w = C)
def zLE (n : Int) (sg : Nat → Int) (z n' dc : Int) (le si ki co : Nat → Int) (dc' : Int) (le' si' ki' co' : Nat → Int) : Prop := ∃ f L K C, WF n sg f L K C ∧ ((f ≠ -6 ∧ z = -5 ∧ n' = n ∧ DS dc le si ki co dc' le' si' ki' co') ∨ (f = -6 ∧ zPT sg L K C z dc le si ki co dc' le' si' ki' co' ∧ (z = -4 → n' = n) ∧ (z ≠ -4 → n' = 0)))
theorem WF.len {n f L K C : Int} {sg : Nat → Int} (h : WF n sg f L K C) : 0 ≤ L ∧ L ≤ 6 ∧ L ≤ n := by
  obtain ⟨L', h1, h2, -⟩ := h
  subst h2
  exact ⟨h1.1, h1.2.1, h1.2.2.1⟩
theorem MT.same {le si ki sg le2 sz kd sg2 : Nat → Int} {L K : Int} {w : Nat} (h : MT le si ki sg L K w) (d : si w = sz w ∧ ki w = kd w ∧ ∀ i : Nat, (i : Int) < si w → le (6 * w + i) = le2 (6 * w + i)) (e : ∀ j : Nat, (j : Int) < L → sg j = sg2 j) : MT le2 sz kd sg2 L K w := by
  obtain ⟨h1, h2, h3⟩ := h
  obtain ⟨d1, d2, d3⟩ := d
  refine ⟨by omega, by omega, fun i hi => ?_⟩
  rw [← d3 i (by omega), h3 i hi, e i hi]
theorem zPT.same {sg sg2 : Nat → Int} {L K C z z2 dc wd dc' wd' : Int} {le si ki co le' si' ki' co' le2 sz kd co2 le2' sz' kd' co2' : Nat → Int} (h : zPT sg L K C z dc le si ki co dc' le' si' ki' co') (g : zPT sg2 L K C z2 wd le2 sz kd co2 wd' le2' sz' kd' co2') (hL : L ≤ 6) (hD : DI dc si ki co) (e : ∀ j : Nat, (j : Int) < L → sg j = sg2 j) (d : DQ dc le si ki co wd le2 sz kd co2) (u : UQ dc le si ki) : z = z2 ∧ DQ dc' le' si' ki' co' wd' le2' sz' kd' co2' ∧ UQ dc' le' si' ki' := by
  obtain ⟨d1, d2⟩ := id d
  subst d1
  have m1 : ∀ v : Nat, (v : Int) < dc → MT le si ki sg L K v → MT le2 sz kd sg2 L K v := fun v hv hm => hm.same ⟨(d2 v hv).1, (d2 v hv).2.1, (d2 v hv).2.2.2⟩ e
  have m2 : ∀ v : Nat, (v : Int) < dc → MT le2 sz kd sg2 L K v → MT le si ki sg L K v := by
    intro v hv hm
    obtain ⟨a1, a2, a3, a4⟩ := d2 v hv
    exact hm.same ⟨a1.symm, a2.symm, fun i hi => (a4 i (by omega)).symm⟩ (fun j hj => (e j hj).symm)
  have h6 : ∀ v : Nat, (v : Int) < dc → si v ≤ 6 := fun v hv => by have := hD.2.2 v hv; omega
  rcases h with ⟨h1, h2, h3, h4⟩ | ⟨h1, h2, h3, h4, h5, h7, h8⟩ | ⟨w, h1, h2, h3, h4, h5, h7⟩ <;> rcases g with ⟨g1, g2, g3, g4⟩ | ⟨g1, g2, g3, g4, g5, g7, g8⟩ | ⟨w2, g1, g2, g3, g4, g5, g7⟩
  · obtain ⟨rfl, rfl, rfl, rfl, rfl⟩ := h4
    obtain ⟨rfl, rfl, rfl, rfl, rfl⟩ := g4
    exact ⟨by omega, d, u⟩
  · omega
  · exact absurd (m2 w2 g2 g3) (h3 w2 g2)
  · omega
  · subst h4; subst g4
    refine ⟨by omega, ⟨rfl, fun v hv => ?_⟩, fun v w hv hw k1 k2 k3 => ?_⟩
    · by_cases q : v = dc.toNat
      · subst q
        obtain ⟨a1, a2, a3⟩ := h8
        obtain ⟨b1, b2, b3⟩ := g8
        refine ⟨by omega, by omega, by omega, fun i hi => ?_⟩
        rw [a3 i (by omega), b3 i (by omega), e i (by omega)]
      · have hv2 : (v : Int) < dc := by omega
        obtain ⟨a1, a2, a3, a4⟩ := h5 v hv2
        obtain ⟨b1, b2, b3, b4⟩ := g5 v hv2
        obtain ⟨c1, c2, c3, c4⟩ := d2 v hv2
        have := h6 v hv2
        refine ⟨by omega, by omega, by omega, fun i hi => ?_⟩
        rw [a4 i (by omega), b4 i (by omega), c4 i (by omega)]
    · have key : ∀ a : Nat, (a : Int) < dc → si' a = si' dc.toNat → ki' a = ki' dc.toNat → (∀ i : Nat, (i : Int) < si' a → le' (6 * a + i) = le' (6 * dc.toNat + i)) → False := by
        intro a ha q1 q2 q3
        obtain ⟨a1, a2, a3, a4⟩ := h5 a ha
        obtain ⟨b1, b2, b3⟩ := h8
        have := h6 a ha
        refine h3 a ha ⟨by omega, by omega, fun i hi => ?_⟩
        rw [← a4 i (by omega), q3 i (by omega), b3 i hi]
      by_cases qv : v = dc.toNat <;> by_cases qw : w = dc.toNat
      · omega
      · subst qv
        exact (key w (by omega) k1.symm k2.symm (fun i hi => (k3 i (by omega)).symm)).elim
      · subst qw
        exact (key v (by omega) k1 k2 k3).elim
      · have hv2 : (v : Int) < dc := by omega
        have hw2 : (w : Int) < dc := by omega
        obtain ⟨a1, a2, a3, a4⟩ := h5 v hv2
        obtain ⟨b1, b2, b3, b4⟩ := h5 w hw2
        have := h6 v hv2
        refine u v w hv2 hw2 (by omega) (by omega) (fun i hi => ?_)
        rw [← a4 i (by omega), k3 i (by omega), b4 i (by omega)]
  · exact absurd (m2 w2 g2 g3) (h3 w2 g2)
  · exact absurd (m1 w h2 h3) (g3 w h2)
  · exact absurd (m1 w h2 h3) (g3 w h2)
  · have hw : w = w2 := by
      have h3' := m2 w2 g2 g3
      refine u w w2 h2 g2 (by have := h3.1; have := h3'.1; omega) (by have := h3.2.1; have := h3'.2.1; omega) (fun i hi => ?_)
      rw [h3.2.2 i (by have := h3.1; omega), h3'.2.2 i (by have := h3.1; omega)]
    subst hw
    subst h4; subst g4
    refine ⟨by omega, ⟨rfl, fun v hv => ?_⟩, fun v x hv hx k1 k2 k3 => ?_⟩
    · obtain ⟨a1, a2, a3, a4⟩ := h5 v hv
      obtain ⟨b1, b2, b3, b4⟩ := g5 v hv
      obtain ⟨c1, c2, c3, c4⟩ := d2 v hv
      have := h6 v hv
      refine ⟨by omega, by omega, ?_, fun i hi => ?_⟩
      · by_cases q : v = w
        · subst q; omega
        · rw [a3 q, b3 q, c3]
      · rw [a4 i (by omega), b4 i (by omega), c4 i (by omega)]
    · obtain ⟨a1, a2, a3, a4⟩ := h5 v hv
      obtain ⟨b1, b2, b3, b4⟩ := h5 x hx
      have := h6 v hv
      refine u v x hv hx (by omega) (by omega) (fun i hi => ?_)
      rw [← a4 i (by omega), k3 i (by omega), b4 i (by omega)]
theorem zLE.same {n n2 z z2 n' n2' dc wd dc' wd' : Int} {sg sg2 le si ki co le' si' ki' co' le2 sz kd co2 le2' sz' kd' co2' : Nat → Int} (h : zLE n sg z n' dc le si ki co dc' le' si' ki' co') (g : zLE n2 sg2 z2 n2' wd le2 sz kd co2 wd' le2' sz' kd' co2') (hD : DI dc si ki co) (e1 : n = n2) (e2 : ∀ j : Nat, (j : Int) < n → sg j = sg2 j) (d : DQ dc le si ki co wd le2 sz kd co2) (u : UQ dc le si ki) : z = z2 ∧ (n' = n2' ∧ ∀ j : Nat, (j : Int) < n' → sg j = sg2 j) ∧ DQ dc' le' si' ki' co' wd' le2' sz' kd' co2' ∧ UQ dc' le' si' ki' := by
  subst e1
  obtain ⟨f, L, K, C, h1, h2⟩ := h
  obtain ⟨f2, L2, K2, C2, g1, g2⟩ := g
  obtain ⟨w1, w2, w3⟩ := h1.same g1 e2
  have hl := h1.len
  subst w1; subst w2
  rcases h2 with ⟨h2, h3, h4, h5⟩ | ⟨h2, h3, h4, h5⟩ <;> rcases g2 with ⟨g2, g3, g4, g5⟩ | ⟨g2, g3, g4, g5⟩
  · obtain ⟨rfl, rfl, rfl, rfl, rfl⟩ := h5
    obtain ⟨rfl, rfl, rfl, rfl, rfl⟩ := g5
    exact ⟨by omega, ⟨by omega, fun j hj => e2 j (by omega)⟩, d, u⟩
  · exact absurd g2 h2
  · exact absurd h2 g2
  · obtain ⟨rfl, rfl⟩ := w3 h2
    obtain ⟨r1, r2, r3⟩ := h3.same g3 hl.2.1 hD (fun j hj => e2 j (by omega)) d u
    exact ⟨r1, ⟨by omega, fun j hj => e2 j (by omega)⟩, r2, r3⟩
def sh (w v : Nat) : Nat := if v < w then v else v + 1
theorem sh_lo {w v : Nat} (h : v < w) : sh w v = v := if_pos h
theorem sh_hi {w v : Nat} (h : ¬ v < w) : sh w v = v + 1 := if_neg h
theorem sh_lt {w v : Nat} : sh w v ≤ v + 1 := by unfold sh; split <;> omega
theorem sh_inj {w v x : Nat} (h : sh w v = sh w x) : v = x := by unfold sh at h; split at h <;> split at h <;> omega
theorem zcp_sh {f : Nat → Int} {a b n w v : Nat} (ha : a = w + 1) (hb : b = w) (hv : v < w + n) : zcp f f a b n v = f (sh w v) := by
  by_cases h : v < w
  · rw [zcp_out (by omega), sh_lo h]
  · rw [zcp_in (by omega) (by omega), sh_hi h]; congr 1; omega
theorem zcp_sh6 {f : Nat → Int} {a b n w v i m : Nat} (ha : a = 6 * w + 6) (hb : b = 6 * w) (hn : n = 6 * m) (hv : v < w + m) (hi : i < 6) : zcp f f a b n (6 * v + i) = f (6 * sh w v + i) := by
  by_cases h : v < w
  · rw [zcp_out (by omega), sh_lo h]
  · rw [zcp_in (by omega) (by omega), sh_hi h]; congr 1; omega
def zRM (w : Nat) (dc : Int) (le si ki co le' si' ki' co' : Nat → Int) : Prop := ∀ v : Nat, (v : Int) < dc - 1 → si' v = si (sh w v) ∧ ki' v = ki (sh w v) ∧ co' v = co (sh w v) ∧ ∀ i : Nat, i < 6 → le' (6 * v + i) = le (6 * sh w v + i)
def zFG (w z dc : Int) (le si ki co : Nat → Int) (dc' : Int) (le' si' ki' co' : Nat → Int) : Prop := (¬ (0 ≤ w ∧ w < dc) ∧ z = -1 ∧ DS dc le si ki co dc' le' si' ki' co') ∨ (0 ≤ w ∧ w < dc ∧ z = dc - 1 ∧ dc' = dc - 1 ∧ zRM w.toNat dc le si ki co le' si' ki' co')
theorem zFG.same {w z z2 dc wd dc' wd' : Int} {le si ki co le' si' ki' co' le2 sz kd co2 le2' sz' kd' co2' : Nat → Int} (h : zFG w z dc le si ki co dc' le' si' ki' co') (g : zFG w z2 wd le2 sz kd co2 wd' le2' sz' kd' co2') (hD : DI dc si ki co) (d : DQ dc le si ki co wd le2 sz kd co2) (u : UQ dc le si ki) : z = z2 ∧ DQ dc' le' si' ki' co' wd' le2' sz' kd' co2' ∧ UQ dc' le' si' ki' := by
  obtain ⟨d1, d2⟩ := id d
  subst d1
  rcases h with ⟨h1, h2, h3⟩ | ⟨h1, h2, h3, h4, h5⟩ <;> rcases g with ⟨g1, g2, g3⟩ | ⟨g1, g2, g3, g4, g5⟩
  · obtain ⟨rfl, rfl, rfl, rfl, rfl⟩ := h3
    obtain ⟨rfl, rfl, rfl, rfl, rfl⟩ := g3
    exact ⟨by omega, d, u⟩
  · exact absurd ⟨g1, g2⟩ h1
  · exact absurd ⟨h1, h2⟩ g1
  · subst h4; subst g4
    have hlt : ∀ v : Nat, (v : Int) < dc - 1 → ((sh w.toNat v : Nat) : Int) < dc := fun v hv => by have := sh_lt (w := w.toNat) (v := v); omega
    have h6 : ∀ v : Nat, (v : Int) < dc → si v ≤ 6 := fun v hv => by have := hD.2.2 v hv; omega
    refine ⟨by omega, ⟨rfl, fun v hv => ?_⟩, fun v x hv hx k1 k2 k3 => ?_⟩
    · obtain ⟨a1, a2, a3, a4⟩ := h5 v hv
      obtain ⟨b1, b2, b3, b4⟩ := g5 v hv
      obtain ⟨c1, c2, c3, c4⟩ := d2 _ (hlt v hv)
      have := h6 _ (hlt v hv)
      refine ⟨by omega, by omega, by omega, fun i hi => ?_⟩
      rw [a4 i (by omega), b4 i (by omega), c4 i (by omega)]
    · obtain ⟨a1, a2, a3, a4⟩ := h5 v hv
      obtain ⟨b1, b2, b3, b4⟩ := h5 x hx
      have := h6 _ (hlt v hv)
      refine sh_inj (u _ _ (hlt v hv) (hlt x hx) (by omega) (by omega) (fun i hi => ?_))
      rw [← a4 i (by omega), k3 i (by omega), b4 i (by omega)]
def TL (le si ki co : Nat → Int) (w : Nat) (what z : Int) : Prop := (what = 0 → z = si w) ∧ (what = 1 → z = ki w) ∧ (what = 2 → z = co w) ∧ (3 ≤ what → what - 3 < si w → z = le (6 * w + (what - 3).toNat)) ∧ (3 ≤ what → si w ≤ what - 3 → z = -6)
def zWS (dc : Int) (le si ki co : Nat → Int) (w what z : Int) : Prop := (¬ (0 ≤ w ∧ w < dc) ∧ z = -1) ∨ (0 ≤ w ∧ w < dc ∧ what < 0 ∧ z = -2) ∨ (0 ≤ w ∧ w < dc ∧ 0 ≤ what ∧ TL le si ki co w.toNat what z)
theorem zWS.same {dc wd w what z z2 : Int} {le si ki co le2 sz kd co2 : Nat → Int} (h : zWS dc le si ki co w what z) (g : zWS wd le2 sz kd co2 w what z2) (d : DQ dc le si ki co wd le2 sz kd co2) : z = z2 := by
  obtain ⟨d1, d2⟩ := d
  subst d1
  rcases h with ⟨h1, h2⟩ | ⟨h1, h2, h3, h4⟩ | ⟨h1, h2, h3, h4⟩ <;> rcases g with ⟨g1, g2⟩ | ⟨g1, g2, g3, g4⟩ | ⟨g1, g2, g3, g4⟩ <;> try omega
  obtain ⟨c1, c2, c3, c4⟩ := d2 w.toNat (by omega)
  obtain ⟨a1, a2, a3, a4, a5⟩ := h4
  obtain ⟨b1, b2, b3, b4, b5⟩ := g4
  by_cases q : 3 ≤ what ∧ what - 3 < si w.toNat
  · have := c4 (what - 3).toNat (by omega)
    rw [a4 q.1 q.2, b4 q.1 (by omega), this]
  · omega
def zLN (n : Int) (sg : Nat → Int) (z n' : Int) (li : Nat → Int) (ll : Int) (li' : Nat → Int) (ll' : Int) : Prop := ∃ f, LF n sg f ∧ ((f ≠ -6 ∧ z = -5 ∧ n' = n ∧ li' = li ∧ ll' = ll) ∨ (f = -6 ∧ z = n ∧ ll' = n ∧ (∀ j : Nat, (j : Int) < n → li' j = sg j) ∧ n' = 0))
theorem zLN.same {n n2 z z2 n' n2' ll ln ll' ln' : Int} {sg sg2 li li2 li' li2' : Nat → Int} (h : zLN n sg z n' li ll li' ll') (g : zLN n2 sg2 z2 n2' li2 ln li2' ln') (e1 : n = n2) (e2 : ∀ j : Nat, (j : Int) < n → sg j = sg2 j) (l1 : ll = ln) (l2 : ∀ j : Nat, (j : Int) < ll → li j = li2 j) : z = z2 ∧ (n' = n2' ∧ ∀ j : Nat, (j : Int) < n' → sg j = sg2 j) ∧ ll' = ln' ∧ ∀ j : Nat, (j : Int) < ll' → li' j = li2' j := by
  subst e1; subst l1
  obtain ⟨f, h1, h2⟩ := h
  obtain ⟨f2, g1, g2⟩ := g
  have hf := h1.same g1 e2
  subst hf
  rcases h2 with ⟨h2, h3, h4, h5, h6⟩ | ⟨h2, h3, h4, h5, h6⟩ <;> rcases g2 with ⟨g2, g3, g4, g5, g6⟩ | ⟨g2, g3, g4, g5, g6⟩
  · subst h5; subst h6; subst g5; subst g6
    exact ⟨by omega, ⟨by omega, fun j hj => e2 j (by omega)⟩, rfl, l2⟩
  · exact absurd g2 h2
  · exact absurd h2 g2
  · refine ⟨by omega, ⟨by omega, fun j hj => e2 j (by omega)⟩, by omega, fun j hj => ?_⟩
    rw [h5 j (by omega), g5 j (by omega), e2 j (by omega)]
def zTS (n dc ll : Int) (ru jo li : Nat → Int) (what z : Int) : Prop := (what = 0 → z = n) ∧ (what = 1 → z = dc) ∧ (what = 2 → z = ll) ∧ (3 ≤ what → what ≤ 6 → z = ru (what - 3).toNat) ∧ (10 ≤ what → what < 34 → z = jo (what - 10).toNat) ∧ (100 ≤ what → what - 100 < ll → z = li (what - 100).toNat) ∧ (what < 0 ∨ (7 ≤ what ∧ what < 10) ∨ (34 ≤ what ∧ what < 100) ∨ (100 ≤ what ∧ ll ≤ what - 100) → z = -2)
theorem zTS.same {n n2 dc wd ll ln what z z2 : Int} {ru jo li ru2 jo2 li2 : Nat → Int} (h : zTS n dc ll ru jo li what z) (g : zTS n2 wd ln ru2 jo2 li2 what z2) (e1 : n = n2) (d1 : dc = wd) (l1 : ll = ln) (E1 : ∀ j : Nat, j < 25 → jo j = jo2 j) (E2 : ∀ j : Nat, j < 4 → ru j = ru2 j) (l2 : ∀ j : Nat, (j : Int) < ll → li j = li2 j) : z = z2 := by
  subst e1; subst d1; subst l1
  obtain ⟨a1, a2, a3, a4, a5, a6, a7⟩ := h
  obtain ⟨b1, b2, b3, b4, b5, b6, b7⟩ := g
  by_cases q1 : 3 ≤ what ∧ what ≤ 6
  · rw [a4 q1.1 q1.2, b4 q1.1 q1.2]; exact E2 _ (by omega)
  · by_cases q2 : 10 ≤ what ∧ what < 34
    · rw [a5 q2.1 q2.2, b5 q2.1 q2.2]; exact E1 _ (by omega)
    · by_cases q3 : 100 ≤ what ∧ what - 100 < ll
      · rw [a6 q3.1 q3.2, b6 q3.1 q3.2]; exact l2 _ (by omega)
      · clear a4 a5 a6 b4 b5 b6 E1 E2 l2
        by_cases p0 : what = 0
        · rw [a1 p0, b1 p0]
        · by_cases p1 : what = 1
          · rw [a2 p1, b2 p1]
          · by_cases p2 : what = 2
            · rw [a3 p2, b3 p2]
            · clear a1 a2 a3 b1 b2 b3
              have ho : what < 0 ∨ (7 ≤ what ∧ what < 10) ∨ (34 ≤ what ∧ what < 100) ∨ (100 ≤ what ∧ ll ≤ what - 100) := by
                clear a7 b7
                omega
              rw [a7 ho, b7 ho]
/-- a book and the reference's rows hold the same -/
def BQ (dc : Int) (le si ki co jo ru li : Nat → Int) (ll wd : Int) (le2 sz kd co2 jo2 ru2 li2 : Nat → Int) (ln : Int) : Prop := DQ dc le si ki co wd le2 sz kd co2 ∧ UQ dc le si ki ∧ (∀ j : Nat, j < 25 → jo j = jo2 j) ∧ (∀ j : Nat, j < 4 → ru j = ru2 j) ∧ ll = ln ∧ ∀ j : Nat, (j : Int) < ll → li j = li2 j
theorem BQ.cp {dc ll wd ln dc' ll' wd' ln' : Int} {le si ki co jo ru li le2 sz kd co2 jo2 ru2 li2 le' si' ki' co' jo' ru' li' le2' sz' kd' co2' jo2' ru2' li2' : Nat → Int} (h : BQ dc le si ki co jo ru li ll wd le2 sz kd co2 jo2 ru2 li2 ln) (hD : DI dc si ki co) (hl : ll ≤ 24) (q : QB dc le si ki co jo ru li ll dc' le' si' ki' co' jo' ru' li' ll') (r : QB wd le2 sz kd co2 jo2 ru2 li2 ln wd' le2' sz' kd' co2' jo2' ru2' li2' ln') : BQ dc' le' si' ki' co' jo' ru' li' ll' wd' le2' sz' kd' co2' jo2' ru2' li2' ln' := by
  obtain ⟨⟨h1, h2⟩, h3, h4, h5, h6, h7⟩ := h
  obtain ⟨q1, q2, q3, q4, q5, q6, q7, q8, q9⟩ := q
  obtain ⟨r1, r2, r3, r4, r5, r6, r7, r8, r9⟩ := r
  have hc := hD.2.1
  have h6' : ∀ v : Nat, (v : Int) < dc → si v ≤ 6 := fun v hv => by have := hD.2.2 v hv; omega
  refine ⟨⟨by omega, fun v hv => ?_⟩, fun v w hv hw k1 k2 k3 => ?_, fun j hj => ?_, fun j hj => ?_, by omega, fun j hj => ?_⟩
  · obtain ⟨a1, a2, a3, a4⟩ := h2 v (by omega)
    have e3 := q3 v (by omega); have e4 := q4 v (by omega); have e5 := q5 v (by omega)
    have f3 := r3 v (by omega); have f4 := r4 v (by omega); have f5 := r5 v (by omega)
    have := h6' v (by omega)
    refine ⟨by omega, by omega, by omega, fun i hi => ?_⟩
    rw [q2 _ (by omega), r2 _ (by omega), a4 i (by omega)]
  · have e3 := q3 v (by omega); have e4 := q4 v (by omega)
    have f3 := q3 w (by omega); have f4 := q4 w (by omega)
    have := h6' v (by omega)
    refine h3 v w (by omega) (by omega) (by omega) (by omega) (fun i hi => ?_)
    rw [← q2 _ (by omega), ← q2 _ (by omega)]
    exact k3 i (by omega)
  · rw [q6 j hj, r6 j hj, h4 j hj]
  · rw [q7 j hj, r7 j hj, h5 j hj]
  · rw [q8 j (by omega), r8 j (by omega), h7 j (by omega)]
/-- it holds what the image's row has from b on -/
def QI (im : Nat → Int) (b : Nat) : zBQ := fun dc le si ki co jo ru li ll => BQ dc le si ki co jo ru li ll (im (b + 210)) (fun j => im (b + j)) (fun j => im (b + 96 + j)) (fun j => im (b + 112 + j)) (fun j => im (b + 128 + j)) (fun j => im (b + 144 + j)) (fun j => im (b + 170 + j)) (fun j => im (b + 180 + j)) (im (b + 211))
section ZI2
variable {l : Launch} {D : va_G} {k : zK} {E : zE} {cc : ByteArray} {own : String} {nL : Nat} {R : Room} {mc ms : Nat} {rt : Option FieldType} {ini : Prop} {a0 : List Nat} {PR : Int → zW → Prop} {Z : zP}
variable {kc ks pc : Nat} {lv : List (Option zV)} {st : List zV} {ws : zW} {x y : Int}
theorem zB.i2cF (B : zB l D k E cc own nL R mc ms rt ini a0 PR Z) (hd : decode cc pc = .ok (.i2c, 1)) (h : ∀ r : Int, zR r → 0 ≤ r → r < 65536 → (0 ≤ x → x < 65536 → r = x) → Z kc ks (pc + 1) lv (.inl r :: st) ws) : Z kc ks pc lv (.inl x :: st) ws := by
  by_cases hx0 : 0 ≤ x ∧ x < 65536
  · obtain ⟨p, e, s, m, args, below, meth, c, Q, A, hx, hb, hml, hown, hts, hK, hA, hE, hEs, hin, hri, hrv, rfl⟩ := B
    intro H locs ls r1 r2 r3 r4 hP hD hS hl
    have e1 := pk_char (iZ x)
    have e3 : (iZ x).toBitVec.toNat = x.toNat := by
      show (BitVec.ofInt 32 x).toNat = x.toNat
      rw [BitVec.toNat_ofInt]
      omega
    have e2 : nI ((iZ x).toBitVec.toNat % 65536) = iZ x := by
      rw [e3, show x.toNat % 65536 = x.toNat by omega]
      refine Int32.ofInt_eq_ofNat.symm.trans ?_
      show iZ ((x.toNat : Nat) : Int) = iZ x
      rw [show ((x.toNat : Nat) : Int) = x by omega]
    refine lv_i2c hx hb hd (x := iZ x) (v := iZ x) (e1.trans e2) ?_
    exact h x ⟨by omega, by omega⟩ hx0.1 hx0.2 (fun _ _ => rfl) H locs ls r1 r2 r3 r4 hP hD hS hl
  · exact B.i2c hd (fun r a b c => h r a b c (fun g1 g2 => absurd ⟨g1, g2⟩ hx0))
theorem zsplitE (v : Int) {X : Int → Prop} (h1 : x = v → X v) (h2 : x ≠ v → X x) : X x := by
  by_cases h : x = v
  · rw [h]; exact h1 h
  · exact h2 h
end ZI2
theorem BI.l24 {jo ru : Nat → Int} {len : Int} (h : BI jo ru len) : 0 ≤ len ∧ len ≤ 24 := h.2.2.2.2.2.2.2.2.2
theorem zWP.same {n z n' n2 z2 n2' : Int} {sg sg2 : Nat → Int} (h : zWP n z n') (g : zWP n2 z2 n2') (e1 : n = n2) : z = z2 ∧ n' = n2' ∧ ∀ j : Nat, (j : Int) < n' → sg j = sg2 j := by
  unfold zWP at h g
  exact ⟨by omega, by omega, fun j hj => by omega⟩
end
section
/-! the pieces, as both sides lay them -/
noncomputable def bo (p : Prop) : Bool := @decide p (Classical.propDecidable p)
theorem bo_t {p : Prop} : bo p = true ↔ p := @decide_eq_true_iff p (Classical.propDecidable p)
def clO (v : Int) : Int := if v = 97 ∨ v = 101 then 0 else 1
theorem ST.same {le le2 row row2 : Nat → Int} {len p e : Int} {w : Nat} (h : ST le len w row p e) (h0 : 0 ≤ p) (h1 : ∀ i : Nat, (i : Int) < len → le (6 * w + i) = le2 (6 * w + i)) (h2 : ∀ j : Nat, (j : Int) < e → row j = row2 j) : ST le2 len w row2 p e := by
  obtain ⟨a, b⟩ := h
  refine ⟨a, fun i hi => ?_⟩
  rw [← h1 i hi, b i hi, h2 _ (by omega)]
def AW (dc : Int) (le si li : Nat → Int) (ll p : Int) : Prop := ∃ w : Nat, (w : Int) < dc ∧ ST le (si w) w li p ll
theorem AW.step {w ll p : Int} {le si li : Nat → Int} (h0 : 0 ≤ w) : AW (w + 1) le si li ll p ↔ AW w le si li ll p ∨ ST le (si w.toNat) w.toNat li p ll := by
  constructor
  · rintro ⟨v, h1, h2⟩
    by_cases e : (v : Int) = w
    · have ev : v = w.toNat := by omega
      subst ev; exact Or.inr h2
    · exact Or.inl ⟨v, by omega, h2⟩
  · rintro (⟨v, h1, h2⟩ | h)
    · exact ⟨v, by omega, h2⟩
    · exact ⟨w.toNat, by omega, h⟩
theorem AW.zero {ll p : Int} {le si li : Nat → Int} : ¬ AW 0 le si li ll p := by
  rintro ⟨v, h1, h2⟩; omega
/-- the run at a place: so many letters of one class, six at most -/
def RN (li : Nat → Int) (ll p r : Int) : Prop := 1 ≤ r ∧ r ≤ 6 ∧ p + r ≤ ll ∧ (∀ j : Nat, (j : Int) < r → clO (li (p.toNat + j)) = clO (li p.toNat)) ∧ (r = 6 ∨ p + r = ll ∨ clO (li (p + r).toNat) ≠ clO (li p.toNat))
theorem RN.same {li : Nat → Int} {ll p r r2 : Int} (h : RN li ll p r) (g : RN li ll p r2) (h0 : 0 ≤ p) : r = r2 := by
  obtain ⟨h1, h2, h3, h4, h5⟩ := h
  obtain ⟨g1, g2, g3, g4, g5⟩ := g
  rcases Int.lt_trichotomy r r2 with q | q | q
  · have a := g4 r.toNat (by omega)
    rw [show p.toNat + r.toNat = (p + r).toNat by omega] at a
    omega
  · exact q
  · have a := h4 r2.toNat (by omega)
    rw [show p.toNat + r2.toNat = (p + r2).toNat by omega] at a
    omega
theorem RN.cast {li li2 : Nat → Int} {ll p r : Int} (h : RN li ll p r) (h0 : 0 ≤ p) (e : ∀ j : Nat, (j : Int) < ll → li j = li2 j) : RN li2 ll p r := by
  obtain ⟨h1, h2, h3, h4, h5⟩ := h
  have e0 := e p.toNat (by omega)
  refine ⟨h1, h2, h3, fun j hj => ?_, ?_⟩
  · rw [← e0, ← e (p.toNat + j) (by omega)]; exact h4 j hj
  · rcases h5 with q | q | q
    · exact Or.inl q
    · exact Or.inr (Or.inl q)
    · by_cases q2 : p + r = ll
      · exact Or.inr (Or.inl q2)
      · refine Or.inr (Or.inr ?_)
        rw [← e0, ← e (p + r).toNat (by omega)]; exact q
def WD (dc : Int) (le si ru li : Nat → Int) (ll p : Int) : Prop := ru 0 = 1 ∨ (ru 0 = 0 ∧ ¬ AW dc le si li ll p)
def WI (dc : Int) (le si ru li : Nat → Int) (ll p n : Int) : Prop := WD dc le si ru li ll p ∧ ∃ r, RN li ll p r ∧ (n = r ∨ (n < r ∧ 1 ≤ n ∧ n ≤ ru 3))
def WS (dc : Int) (le si ki li : Nat → Int) (ll p n k : Int) (w : Nat) : Prop := (w : Int) < dc ∧ si w = n ∧ ki w = k ∧ ST le n w li p ll
/-- what stands at a place in a length and a kind: 28 times the place, 4 times the length, the kind -/
def PK (dc : Int) (le si ki co ru li : Nat → Int) (ll : Int) (K : Nat) (w c : Int) : Prop :=
  (0 ≤ w ∧ WS dc le si ki li ll ((K / 28 : Nat) : Int) ((K % 28 / 4 : Nat) : Int) ((K % 4 : Nat) : Int) w.toNat ∧ c = co w.toNat) ∨ (w = -6 ∧ K % 4 = 3 ∧ WI dc le si ru li ll ((K / 28 : Nat) : Int) ((K % 28 / 4 : Nat) : Int) ∧ c = ru 1 + ((K % 28 / 4 : Nat) : Int) * ru 2)
def BS (dc : Int) (le si ki co ru li : Nat → Int) (ll dc2 : Int) (le2 si2 ki2 co2 ru2 li2 : Nat → Int) (ll2 : Int) : Prop := DQ dc le si ki co dc2 le2 si2 ki2 co2 ∧ (∀ j : Nat, j < 4 → ru j = ru2 j) ∧ ll = ll2 ∧ ∀ j : Nat, (j : Int) < ll → li j = li2 j
theorem BS.symm {dc ll dc2 ll2 : Int} {le si ki co ru li le2 si2 ki2 co2 ru2 li2 : Nat → Int} (h : BS dc le si ki co ru li ll dc2 le2 si2 ki2 co2 ru2 li2 ll2) : BS dc2 le2 si2 ki2 co2 ru2 li2 ll2 dc le si ki co ru li ll := by
  obtain ⟨⟨d1, d2⟩, r, l1, l2⟩ := h
  subst d1; subst l1
  refine ⟨⟨rfl, fun w hw => ?_⟩, fun j hj => (r j hj).symm, rfl, fun j hj => (l2 j hj).symm⟩
  obtain ⟨a, b, c, d⟩ := d2 w hw
  exact ⟨a.symm, b.symm, c.symm, fun i hi => (d i (by omega)).symm⟩
theorem BS.aw {dc ll dc2 ll2 p : Int} {le si ki co ru li le2 si2 ki2 co2 ru2 li2 : Nat → Int} (h : BS dc le si ki co ru li ll dc2 le2 si2 ki2 co2 ru2 li2 ll2) (hp : 0 ≤ p) (g : AW dc le si li ll p) : AW dc2 le2 si2 li2 ll2 p := by
  obtain ⟨⟨d1, d2⟩, r, l1, l2⟩ := h
  subst d1; subst l1
  obtain ⟨w, hw, s⟩ := g
  obtain ⟨a, b, c, d⟩ := d2 w hw
  refine ⟨w, hw, ?_⟩
  rw [← a]
  exact s.same hp d l2
theorem BS.pk {dc ll dc2 ll2 w c : Int} {le si ki co ru li le2 si2 ki2 co2 ru2 li2 : Nat → Int} {K : Nat} (h : BS dc le si ki co ru li ll dc2 le2 si2 ki2 co2 ru2 li2 ll2) (g : PK dc le si ki co ru li ll K w c) : PK dc2 le2 si2 ki2 co2 ru2 li2 ll2 K w c := by
  have hs := h.symm
  obtain ⟨⟨d1, d2⟩, r, l1, l2⟩ := id h
  rcases g with ⟨g1, ⟨g2, g3, g4, g5⟩, g6⟩ | ⟨g1, g2, ⟨g3, rr, g4, g5⟩, g6⟩
  · obtain ⟨a, b, c', d⟩ := d2 _ g2
    refine Or.inl ⟨g1, ⟨by omega, by omega, by omega, ?_⟩, by omega⟩
    rw [← l1]
    exact g5.same (by omega) (fun i hi => d i (by omega)) l2
  · have r0 := r 0 (by omega)
    have r1 := r 1 (by omega)
    have r2 := r 2 (by omega)
    have r3 := r 3 (by omega)
    refine Or.inr ⟨g1, g2, ⟨?_, rr, ?_, by omega⟩, by rw [← r1, ← r2]; exact g6⟩
    · rcases g3 with q | ⟨q1, q2⟩
      · exact Or.inl (by omega)
      · exact Or.inr ⟨by omega, fun q => q2 (hs.aw (by omega) q)⟩
    · rw [← l1]
      exact g4.cast (by omega) l2
theorem BS.q {dc ll dc2 ll2 : Int} {le si ki co ru li le2 si2 ki2 co2 ru2 li2 : Nat → Int} (h : BS dc le si ki co ru li ll dc2 le2 si2 ki2 co2 ru2 li2 ll2) : PK dc le si ki co ru li ll = PK dc2 le2 si2 ki2 co2 ru2 li2 ll2 := by
  funext K w c
  exact propext ⟨h.pk, h.symm.pk⟩
theorem PK.uq {dc ll w c w2 c2 : Int} {le si ki co ru li : Nat → Int} {K : Nat} (hD : DI dc si ki co) (hU : UQ dc le si ki) (h : PK dc le si ki co ru li ll K w c) (g : PK dc le si ki co ru li ll K w2 c2) : w2 = w ∧ c2 = c := by
  rcases h with ⟨h1, ⟨h2, h3, h4, h5⟩, h6⟩ | ⟨h1, h2, h3, h4⟩ <;> rcases g with ⟨g1, ⟨g2, g3, g4, g5⟩, g6⟩ | ⟨g1, g2, g3, g4⟩
  · have e : w.toNat = w2.toNat := hU _ _ h2 g2 (by omega) (by omega) (fun i hi => by rw [h5.2 i (by omega), g5.2 i (by omega)])
    have ew : w = w2 := by omega
    subst ew
    exact ⟨rfl, by rw [h6, g6]⟩
  · have := hD.2.2 _ h2; omega
  · have := hD.2.2 _ g2; omega
  · exact ⟨by omega, by rw [h4, g4]⟩
theorem PK.no {dc ll : Int} {le si ki co ru li : Nat → Int} {K : Nat} (hD : DI dc si ki co) (hK : K % 28 < 4) : ¬ ∃ w c, PK dc le si ki co ru li ll K w c := by
  rintro ⟨w, c, h⟩
  rcases h with ⟨h1, ⟨h2, h3, h4, h5⟩, h6⟩ | ⟨h1, h2, ⟨h3, r, h4, h5⟩, h6⟩
  · have := hD.2.2 _ h2; omega
  · have := h4.1; omega
theorem PK.in_ {dc ll w c : Int} {le si ki co ru li jo : Nat → Int} {K : Nat} (hD : DI dc si ki co) (hB : BI jo ru ll) (h : PK dc le si ki co ru li ll K w c) : 1 ≤ K % 28 / 4 ∧ ((K / 28 : Nat) : Int) + ((K % 28 / 4 : Nat) : Int) ≤ ll ∧ 0 ≤ c ∧ c ≤ 693 := by
  obtain ⟨-, b1, b2, b3, b4, b5, b6, b7, b8, b9, b10⟩ := hB
  rcases h with ⟨h1, ⟨h2, h3, h4, h5⟩, h6⟩ | ⟨h1, h2, ⟨h3, r, h4, h5⟩, h6⟩
  · have := hD.2.2 _ h2
    have := h5.1
    exact ⟨by omega, by omega, by omega, by omega⟩
  · have := h4.1
    have := h4.2.1
    have := h4.2.2.1
    have hz := zmul_b (x := ((K % 28 / 4 : Nat) : Int)) (y := ru 2) (a := 6) (b := 99) (by omega) (by omega) (by omega) (by omega)
    exact ⟨by omega, by omega, by omega, by omega⟩
theorem PK.cost {dc ll w c v n : Int} {le si ki co ru li : Nat → Int} {K : Nat} (h : PK dc le si ki co ru li ll K w c) (hn : n = ((K % 28 / 4 : Nat) : Int)) (h1 : w = -6 → v = ru 1 + ru 2 * n) (h2 : w ≠ -6 → v = co w.toNat) : v = c := by
  rcases h with ⟨g1, -, g3⟩ | ⟨g1, -, -, g4⟩
  · rw [h2 (by omega), g3]
  · rw [h1 g1, g4, hn, Int.mul_comm]
-- keys
abbrev zQ : Type := Nat → Int → Int → Prop
noncomputable def VQ (Q : zQ) (K : Nat) : Bool := bo (∃ w c, Q K w c)
theorem VQ_t {Q : zQ} {K : Nat} {w c : Int} (h : Q K w c) : VQ Q K = true := bo_t.mpr ⟨w, c, h⟩
theorem VQ_f {Q : zQ} {K : Nat} (h : ¬ ∃ w c, Q K w c) : VQ Q K = false := by
  cases e : VQ Q K with
  | false => rfl
  | true => exact absurd (bo_t.mp e) h
theorem cn_t {P : Nat → Bool} {K : Nat} (h : P K = true) : cn P (K + 1) = cn P K + 1 := by
  show cn P K + (if P K = true then 1 else 0) = _
  rw [if_pos h]
theorem cn_f {P : Nat → Bool} {K : Nat} (h : P K = false) : cn P (K + 1) = cn P K := by
  show cn P K + (if P K = true then 1 else 0) = _
  rw [h]; rfl
theorem cn_up {P : Nat → Bool} {a : Nat} : ∀ b, a ≤ b → cn P a ≤ cn P b
  | 0, h => by rw [show a = 0 by omega]; exact Nat.le_refl _
  | b + 1, h => by
    by_cases e : a = b + 1
    · rw [e]; exact Nat.le_refl _
    · exact Nat.le_trans (cn_up b (by omega)) (Nat.le_add_right _ _)
theorem cn_st {P : Nat → Bool} {K T : Nat} (h : P K = true) (hT : K < T) : cn P K < cn P T := by
  have h1 := cn_t h
  have h2 := cn_up (P := P) (a := K + 1) T hT
  omega
theorem cn_sur {P : Nat → Bool} {i : Nat} : ∀ T, i < cn P T → ∃ K, K < T ∧ P K = true ∧ cn P K = i
  | 0, h => absurd h (Nat.not_lt_zero _)
  | T + 1, h => by
    cases e : P T with
    | false =>
      rw [cn_f e] at h
      obtain ⟨K, h1, h2, h3⟩ := cn_sur (P := P) (i := i) T h
      exact ⟨K, by omega, h2, h3⟩
    | true =>
      rw [cn_t e] at h
      by_cases q : i = cn P T
      · exact ⟨T, by omega, e, q.symm⟩
      · obtain ⟨K, h1, h2, h3⟩ := cn_sur (P := P) (i := i) T (by omega)
        exact ⟨K, by omega, h2, h3⟩
def PR (Q : zQ) (T : Nat) (pl ln kd cs wd : Nat → Int) : Prop := ∀ K : Nat, K < T → ∀ w c, Q K w c → pl (cn (VQ Q) K) = ((K / 28 : Nat) : Int) ∧ ln (cn (VQ Q) K) = ((K % 28 / 4 : Nat) : Int) ∧ kd (cn (VQ Q) K) = ((K % 4 : Nat) : Int) ∧ cs (cn (VQ Q) K) = c ∧ wd (cn (VQ Q) K) = w
theorem PR.skip {Q : zQ} {T : Nat} {pl ln kd cs wd : Nat → Int} (h : PR Q T pl ln kd cs wd) (hn : ¬ ∃ w c, Q T w c) : PR Q (T + 1) pl ln kd cs wd := by
  intro K hK w c hq
  by_cases e : K = T
  · subst e; exact absurd ⟨w, c, hq⟩ hn
  · exact h K (by omega) w c hq
theorem PR.put {Q : zQ} {T n : Nat} {pl ln kd cs wd : Nat → Int} {w c p l k : Int} (h : PR Q T pl ln kd cs wd) (hq : Q T w c) (hu : ∀ w2 c2, Q T w2 c2 → w2 = w ∧ c2 = c) (hn : n = cn (VQ Q) T) (hp : p = ((T / 28 : Nat) : Int)) (hl : l = ((T % 28 / 4 : Nat) : Int)) (hk : k = ((T % 4 : Nat) : Int)) : PR Q (T + 1) (zup pl n p) (zup ln n l) (zup kd n k) (zup cs n c) (zup wd n w) := by
  intro K hK w2 c2 hq2
  by_cases e : K = T
  · subst e
    obtain ⟨e1, e2⟩ := hu w2 c2 hq2
    rw [← hn, zup_eq, zup_eq, zup_eq, zup_eq, zup_eq]
    exact ⟨hp, hl, hk, e2.symm, e1.symm⟩
  · have := cn_st (VQ_t hq2) (show K < T by omega)
    rw [zup_ne (by omega), zup_ne (by omega), zup_ne (by omega), zup_ne (by omega), zup_ne (by omega)]
    exact h K (by omega) w2 c2 hq2
theorem PR.zero {Q : zQ} {pl ln kd cs wd : Nat → Int} : PR Q 0 pl ln kd cs wd := fun K hK => absurd hK (Nat.not_lt_zero _)
/-- a net, whole: how many, the rows, where each place begins -/
def NS (Q : zQ) (ll cnt : Int) (pl ln kd cs wd fi : Nat → Int) : Prop := cnt = ((cn (VQ Q) (28 * ll.toNat) : Nat) : Int) ∧ PR Q (28 * ll.toNat) pl ln kd cs wd ∧ ∀ p : Nat, (p : Int) ≤ ll → fi p = ((cn (VQ Q) (28 * p) : Nat) : Int)
theorem NS.same {Q : zQ} {ll cnt cnt2 : Int} {pl ln kd cs wd fi pl2 ln2 kd2 cs2 wd2 fi2 : Nat → Int} (h : NS Q ll cnt pl ln kd cs wd fi) (g : NS Q ll cnt2 pl2 ln2 kd2 cs2 wd2 fi2) : cnt = cnt2 ∧ (∀ i : Nat, (i : Int) < cnt → pl i = pl2 i ∧ ln i = ln2 i ∧ kd i = kd2 i ∧ cs i = cs2 i ∧ wd i = wd2 i) ∧ ∀ p : Nat, (p : Int) ≤ ll → fi p = fi2 p := by
  obtain ⟨h1, h2, h3⟩ := h
  obtain ⟨g1, g2, g3⟩ := g
  refine ⟨by omega, fun i hi => ?_, fun p hp => by rw [h3 p hp, g3 p hp]⟩
  obtain ⟨K, k1, k2, k3⟩ := cn_sur (P := VQ Q) (i := i) (28 * ll.toNat) (by omega)
  obtain ⟨w, c, hq⟩ := bo_t.mp k2
  have a := h2 K k1 w c hq
  have b := g2 K k1 w c hq
  rw [k3] at a b
  exact ⟨by omega, by omega, by omega, by omega, by omega⟩
-- how many there may be
theorem ct_kk {sz kd : Nat → Int} {wd n k : Int} {v : Nat} (h1 : (v : Int) < wd) (hs : sz v = n) (hk : kd v = k) : ct sz kd wd n k 0 + 1 ≤ ct sz kd wd n (k + 1) 0 := by
  unfold ct
  have := cn_lt (P := fun i => decide (sz i < n ∨ (sz i = n ∧ kd i < k) ∨ (sz i = n ∧ kd i = k ∧ (i : Int) < 0))) (Q := fun i => decide (sz i < n ∨ (sz i = n ∧ kd i < k + 1) ∨ (sz i = n ∧ kd i = k + 1 ∧ (i : Int) < 0))) (fun i hi => decide_eq_true (by have := of_decide_eq_true hi; omega)) (j := v) (fun hi => by have := of_decide_eq_true hi; omega) (decide_eq_true (Or.inr (Or.inl ⟨hs, by omega⟩))) wd.toNat (by omega)
  omega
theorem PK.cap1 {dc ll : Int} {le si ki co ru li jo : Nat → Int} (hD : DI dc si ki co) (hB : BI jo ru ll) (p : Nat) : ∀ s : Nat, s ≤ 28 → ∃ wc : Int, ((cn (VQ (PK dc le si ki co ru li ll)) (28 * p + s) : Nat) : Int) ≤ ((cn (VQ (PK dc le si ki co ru li ll)) (28 * p) : Nat) : Int) + ct si ki dc ((s / 4 : Nat) : Int) ((s % 4 : Nat) : Int) 0 + wc ∧ 0 ≤ wc ∧ wc ≤ 4 ∧ (wc ≤ ((s / 4 : Nat) : Int) - 1 ∨ wc = 0) ∧ ∀ r, RN li ll (p : Int) r → ((s / 4 : Nat) : Int) ≤ r → wc ≤ 3
  | 0, _ => by
    have := Int.natCast_nonneg (cn (fun i => decide (si i < ((0 / 4 : Nat) : Int) ∨ (si i = ((0 / 4 : Nat) : Int) ∧ ki i < ((0 % 4 : Nat) : Int)) ∨ (si i = ((0 / 4 : Nat) : Int) ∧ ki i = ((0 % 4 : Nat) : Int) ∧ (i : Int) < 0))) dc.toNat)
    exact ⟨0, by unfold ct; rw [Nat.add_zero]; omega, by omega, by omega, by omega, fun r _ _ => by omega⟩
  | s + 1, hs => by
    obtain ⟨wc, w1, w2, w3, w4, w5⟩ := PK.cap1 (le := le) (li := li) hD hB p s (by omega)
    have b3 := hB.2.2.2.2.2.2.2.2.1
    have e1 : (28 * p + s) / 28 = p := by omega
    have e2 : (28 * p + s) % 28 / 4 = s / 4 := by omega
    have e3 : (28 * p + s) % 4 = s % 4 := by omega
    have ec : 28 * p + (s + 1) = 28 * p + s + 1 := by omega
    rw [ec]
    by_cases hk : s % 4 < 3
    · rw [show (s + 1) / 4 = s / 4 by omega, show (s + 1) % 4 = s % 4 + 1 by omega]
      have ek : (((s % 4 + 1 : Nat)) : Int) = ((s % 4 : Nat) : Int) + 1 := by omega
      rw [ek]
      refine ⟨wc, ?_, w2, w3, w4, w5⟩
      by_cases hv : ∃ w c, PK dc le si ki co ru li ll (28 * p + s) w c
      · obtain ⟨w, c, hq⟩ := hv
        have h1 := cn_t (VQ_t hq)
        rcases hq with ⟨g1, ⟨g2, g3, g4, g5⟩, g6⟩ | ⟨g1, g2, -, -⟩
        · rw [e2] at g3
          rw [e3] at g4
          have := ct_kk g2 g3 g4
          omega
        · omega
      · have h1 := cn_f (VQ_f hv)
        have := ct_k (sz := si) (kd := ki) (wd := dc) (n := ((s / 4 : Nat) : Int)) (k := ((s % 4 : Nat) : Int)) (w := 0)
        omega
    · rw [show (s + 1) / 4 = s / 4 + 1 by omega, show (s + 1) % 4 = 0 by omega]
      have ek : (((s / 4 + 1 : Nat)) : Int) = ((s / 4 : Nat) : Int) + 1 := by omega
      have e0 : ((0 : Nat) : Int) = 0 := rfl
      have em : ((s % 4 : Nat) : Int) = 3 := by omega
      rw [em] at w1
      rw [ek, e0]
      have hc := ct_n (sz := si) (kd := ki) (wd := dc) (n := ((s / 4 : Nat) : Int)) (w := 0) (fun i => Int.le_refl _)
      by_cases hv : ∃ w c, PK dc le si ki co ru li ll (28 * p + s) w c
      · obtain ⟨w, c, hq⟩ := hv
        have h1 := cn_t (VQ_t hq)
        rcases hq with ⟨g1, ⟨g2, g3, g4, g5⟩, g6⟩ | ⟨g1, g2, ⟨-, r, g3, g4⟩, -⟩
        · have := hD.2.2 _ g2
          omega
        · rw [e1] at g3
          rw [e2] at g4
          have hr := w5 r g3 (by omega)
          have hr1 := g3.1
          refine ⟨wc + 1, by omega, by omega, by omega, by omega, fun r2 g5 g6 => ?_⟩
          have := g3.same g5 (by omega)
          have := g3.1
          omega
      · have h1 := cn_f (VQ_f hv)
        exact ⟨wc, by omega, w2, w3, by omega, fun r g5 g6 => w5 r g5 (by omega)⟩
theorem PK.cap {dc ll : Int} {le si ki co ru li jo : Nat → Int} (hD : DI dc si ki co) (hB : BI jo ru ll) : ∀ p : Nat, cn (VQ (PK dc le si ki co ru li ll)) (28 * p) ≤ 20 * p
  | 0 => Nat.le_refl _
  | p + 1 => by
    obtain ⟨wc, w1, w2, w3, w4, w5⟩ := PK.cap1 (le := le) (li := li) hD hB p 28 (by omega)
    have h1 := PK.cap (le := le) (li := li) hD hB p
    have h2 := ct_le (sz := si) (kd := ki) (n := ((28 / 4 : Nat) : Int)) (k := ((28 % 4 : Nat) : Int)) (w := 0) hD.1
    have h3 := hD.2.1
    rw [show 28 * (p + 1) = 28 * p + 28 by omega]
    omega
-- the class's slots
def SW (w : Int) (le si ki li : Nat → Int) (ll p : Int) (sl : Nat → Int) : Prop := ∀ s : Nat, s < 28 → (sl s = -1 ∧ ¬ ∃ v, WS w le si ki li ll p ((s / 4 : Nat) : Int) ((s % 4 : Nat) : Int) v) ∨ (0 ≤ sl s ∧ WS w le si ki li ll p ((s / 4 : Nat) : Int) ((s % 4 : Nat) : Int) (sl s).toNat)
theorem SW.none {le si ki li sl : Nat → Int} {ll p : Int} (h : ∀ s : Nat, s < 28 → sl s = -1) : SW 0 le si ki li ll p sl := fun s hs => Or.inl ⟨h s hs, fun ⟨v, hv⟩ => by have := hv.1; omega⟩
theorem SW.skip {w : Int} {le si ki li sl : Nat → Int} {ll p : Int} (h : SW w le si ki li ll p sl) (h0 : 0 ≤ w) (hn : ¬ ST le (si w.toNat) w.toNat li p ll) : SW (w + 1) le si ki li ll p sl := by
  intro s hs
  rcases h s hs with ⟨h1, h2⟩ | ⟨h1, h2⟩
  · refine Or.inl ⟨h1, fun ⟨v, g1, g2, g3, g4⟩ => ?_⟩
    by_cases e : (v : Int) = w
    · have ev : v = w.toNat := by omega
      subst ev
      rw [g2] at hn
      exact hn g4
    · exact h2 ⟨v, by omega, g2, g3, g4⟩
  · exact Or.inr ⟨h1, by have := h2.1; omega, h2.2⟩
theorem SW.put {w : Int} {le si ki li sl : Nat → Int} {ll p : Int} (h : SW w le si ki li ll p sl) (h0 : 0 ≤ w) (ht : ST le (si w.toNat) w.toNat li p ll) (hk : 0 ≤ ki w.toNat ∧ ki w.toNat ≤ 2) (hl : 1 ≤ si w.toNat) : SW (w + 1) le si ki li ll p (zup sl (si w.toNat * 4 + ki w.toNat).toNat w) := by
  intro s hs
  by_cases e : s = (si w.toNat * 4 + ki w.toNat).toNat
  · refine Or.inr ?_
    have e1 : ((s / 4 : Nat) : Int) = si w.toNat := by omega
    have e2 : ((s % 4 : Nat) : Int) = ki w.toNat := by omega
    rw [e1, e2, e, zup_eq]
    exact ⟨h0, by omega, rfl, rfl, ht⟩
  · rw [zup_ne e]
    rcases h s hs with ⟨h1, h2⟩ | ⟨h1, h2⟩
    · refine Or.inl ⟨h1, fun ⟨v, g1, g2, g3, g4⟩ => ?_⟩
      by_cases ew : (v : Int) = w
      · have ev : v = w.toNat := by omega
        subst ev
        omega
      · exact h2 ⟨v, by omega, g2, g3, g4⟩
    · exact Or.inr ⟨h1, by have := h2.1; omega, h2.2⟩
def FW (sl0 sl : Nat → Int) (r m : Int) : Prop := ∀ j : Nat, j < 28 → (j % 4 = 3 ∧ (((j / 4 : Nat) : Int) = r ∨ (1 ≤ j / 4 ∧ ((j / 4 : Nat) : Int) < m)) → sl j = -6) ∧ (¬ (j % 4 = 3 ∧ (((j / 4 : Nat) : Int) = r ∨ (1 ≤ j / 4 ∧ ((j / 4 : Nat) : Int) < m))) → sl j = sl0 j)
theorem FW.first {sl : Nat → Int} {r : Int} (h : 1 ≤ r) : FW sl (zup sl (r * 4 + 3).toNat (-6)) r 1 := by
  intro j hj
  by_cases e : j = (r * 4 + 3).toNat
  · rw [e, zup_eq]
    exact ⟨fun _ => rfl, fun q => absurd ⟨by omega, by omega⟩ q⟩
  · rw [zup_ne e]
    exact ⟨fun q => by omega, fun _ => rfl⟩
theorem FW.step {sl0 sl : Nat → Int} {r m : Int} (h : FW sl0 sl r m) (h1 : 1 ≤ m) : FW sl0 (zup sl (m * 4 + 3).toNat (-6)) r (m + 1) := by
  intro j hj
  by_cases e : j = (m * 4 + 3).toNat
  · rw [e, zup_eq]
    exact ⟨fun _ => rfl, fun q => absurd ⟨by omega, by omega⟩ q⟩
  · rw [zup_ne e]
    obtain ⟨a, b⟩ := h j hj
    exact ⟨fun q => a (by omega), fun q => b (by omega)⟩
def SC (Q : zQ) (p : Int) (sl : Nat → Int) : Prop := ∀ s : Nat, s < 28 → (sl s = -1 ∧ ¬ ∃ w c, Q (28 * p.toNat + s) w c) ∨ (∃ c, Q (28 * p.toNat + s) (sl s) c)
theorem SC.off {dc ll p : Int} {le si ki co ru li sl : Nat → Int} (hw : SW dc le si ki li ll p sl) (h0 : 0 ≤ p) (hn : ¬ WD dc le si ru li ll p) : SC (PK dc le si ki co ru li ll) p sl := by
  intro s hs
  have e1 : (28 * p.toNat + s) / 28 = p.toNat := by omega
  have e2 : (28 * p.toNat + s) % 28 / 4 = s / 4 := by omega
  have e3 : (28 * p.toNat + s) % 4 = s % 4 := by omega
  have e4 : ((p.toNat : Nat) : Int) = p := by omega
  rcases hw s hs with ⟨h1, h2⟩ | ⟨h1, h2⟩
  · refine Or.inl ⟨h1, ?_⟩
    rintro ⟨w, c, ⟨g1, g2, g3⟩ | ⟨g1, g2, ⟨g3, g4⟩, g5⟩⟩
    · rw [e1, e2, e3, e4] at g2; exact h2 ⟨_, g2⟩
    · rw [e1, e4] at g3; exact hn g3
  · refine Or.inr ⟨co (sl s).toNat, Or.inl ⟨h1, ?_, rfl⟩⟩
    rw [e1, e2, e3, e4]; exact h2
theorem SC.on {dc ll p r m : Int} {le si ki co ru li sl0 sl : Nat → Int} (hD : DI dc si ki co) (hw : SW dc le si ki li ll p sl0) (h0 : 0 ≤ p) (hc : WD dc le si ru li ll p) (hr : RN li ll p r) (hf : FW sl0 sl r m) (hm : (m = r ∨ ru 3 < m) ∧ m ≤ r ∧ m ≤ ru 3 + 1) : SC (PK dc le si ki co ru li ll) p sl := by
  intro s hs
  have e1 : (28 * p.toNat + s) / 28 = p.toNat := by omega
  have e2 : (28 * p.toNat + s) % 28 / 4 = s / 4 := by omega
  have e3 : (28 * p.toNat + s) % 4 = s % 4 := by omega
  have e4 : ((p.toNat : Nat) : Int) = p := by omega
  obtain ⟨a, b⟩ := hf s hs
  by_cases q : s % 4 = 3 ∧ (((s / 4 : Nat) : Int) = r ∨ (1 ≤ s / 4 ∧ ((s / 4 : Nat) : Int) < m))
  · refine Or.inr ⟨ru 1 + ((s / 4 : Nat) : Int) * ru 2, Or.inr ⟨a q, by omega, ?_, by rw [e2]⟩⟩
    rw [e1, e2, e4]
    exact ⟨hc, r, hr, by omega⟩
  · rw [b q]
    rcases hw s hs with ⟨h1, h2⟩ | ⟨h1, h2⟩
    · refine Or.inl ⟨h1, ?_⟩
      rintro ⟨w, c, ⟨g1, g2, g3⟩ | ⟨g1, g2, ⟨g3, r2, g4, g5⟩, g6⟩⟩
      · rw [e1, e2, e3, e4] at g2; exact h2 ⟨_, g2⟩
      · rw [e1, e4] at g4
        rw [e2] at g5
        have := hr.same g4 h0
        omega
    · refine Or.inr ⟨co (sl0 s).toNat, Or.inl ⟨h1, ?_, rfl⟩⟩
      rw [e1, e2, e3, e4]; exact h2
theorem SC.nil {dc ll p : Int} {le si ki co ru li sl : Nat → Int} {s : Nat} (h : SC (PK dc le si ki co ru li ll) p sl) (hs : s < 28) (e : sl s = -1) : ¬ ∃ w c, PK dc le si ki co ru li ll (28 * p.toNat + s) w c := by
  rcases h s hs with ⟨h1, h2⟩ | ⟨c, h2⟩
  · exact h2
  · rw [e] at h2
    rcases h2 with ⟨g, -⟩ | ⟨g, -⟩ <;> omega
theorem SC.hit {Q : zQ} {p : Int} {sl : Nat → Int} {s : Nat} (h : SC Q p sl) (hs : s < 28) (e : sl s ≠ -1) : ∃ c, Q (28 * p.toNat + s) (sl s) c := by
  rcases h s hs with ⟨h1, h2⟩ | h2
  · exact absurd h1 e
  · exact h2
-- the reference's keys
theorem PK.word {dc ll t n q : Int} {le si ki co ru li : Nat → Int} {w : Nat} (h : WS dc le si ki li ll t n q w) (h0 : 0 ≤ t) (h1 : 1 ≤ n ∧ n ≤ 6) (h2 : 0 ≤ q ∧ q ≤ 3) : PK dc le si ki co ru li ll (28 * t.toNat + 4 * n.toNat + q.toNat) (w : Int) (co w) := by
  have e1 : (((28 * t.toNat + 4 * n.toNat + q.toNat) / 28 : Nat) : Int) = t := by omega
  have e2 : (((28 * t.toNat + 4 * n.toNat + q.toNat) % 28 / 4 : Nat) : Int) = n := by omega
  have e3 : (((28 * t.toNat + 4 * n.toNat + q.toNat) % 4 : Nat) : Int) = q := by omega
  refine Or.inl ⟨by omega, ?_, rfl⟩
  rw [e1, e2, e3]
  exact h
theorem PK.nowd {dc ll t n q : Int} {le si ki co ru li : Nat → Int} (h0 : 0 ≤ t) (h1 : 1 ≤ n ∧ n ≤ 6) (h2 : 0 ≤ q ∧ q ≤ 2) (hn : ¬ ∃ v, WS dc le si ki li ll t n q v) : ¬ ∃ w c, PK dc le si ki co ru li ll (28 * t.toNat + 4 * n.toNat + q.toNat) w c := by
  have e1 : (((28 * t.toNat + 4 * n.toNat + q.toNat) / 28 : Nat) : Int) = t := by omega
  have e2 : (((28 * t.toNat + 4 * n.toNat + q.toNat) % 28 / 4 : Nat) : Int) = n := by omega
  have e3 : (((28 * t.toNat + 4 * n.toNat + q.toNat) % 4 : Nat) : Int) = q := by omega
  rintro ⟨w, c, ⟨g1, g2, g3⟩ | ⟨g1, g2, -, -⟩⟩
  · rw [e1, e2, e3] at g2; exact hn ⟨_, g2⟩
  · omega
theorem PK.wildt {dc ll t n : Int} {le si ki co ru li : Nat → Int} (h : WI dc le si ru li ll t n) (h0 : 0 ≤ t) (h1 : 1 ≤ n ∧ n ≤ 6) : PK dc le si ki co ru li ll (28 * t.toNat + 4 * n.toNat + 3) (-6) (ru 1 + n * ru 2) := by
  have e1 : (((28 * t.toNat + 4 * n.toNat + 3) / 28 : Nat) : Int) = t := by omega
  have e2 : (((28 * t.toNat + 4 * n.toNat + 3) % 28 / 4 : Nat) : Int) = n := by omega
  refine Or.inr ⟨rfl, by omega, ?_, ?_⟩
  · rw [e1, e2]; exact h
  · rw [e2]
theorem PK.wildf {dc ll t n : Int} {le si ki co ru li : Nat → Int} (hD : DI dc si ki co) (h : ¬ WI dc le si ru li ll t n) (h0 : 0 ≤ t) (h1 : 1 ≤ n ∧ n ≤ 6) : ¬ ∃ w c, PK dc le si ki co ru li ll (28 * t.toNat + 4 * n.toNat + 3) w c := by
  have e1 : (((28 * t.toNat + 4 * n.toNat + 3) / 28 : Nat) : Int) = t := by omega
  have e2 : (((28 * t.toNat + 4 * n.toNat + 3) % 28 / 4 : Nat) : Int) = n := by omega
  rintro ⟨w, c, ⟨g1, ⟨g2, g3, g4, g5⟩, g6⟩ | ⟨g1, g2, g3, -⟩⟩
  · have := hD.2.2 _ g2
    omega
  · rw [e1, e2] at g3; exact h g3
theorem PK.four {dc ll : Int} {le si ki co ru li pl ln kd cs wd : Nat → Int} {T : Nat} (hD : DI dc si ki co) (hT : T % 28 = 0) (h : PR (PK dc le si ki co ru li ll) T pl ln kd cs wd) : PR (PK dc le si ki co ru li ll) (T + 4) pl ln kd cs wd ∧ cn (VQ (PK dc le si ki co ru li ll)) (T + 4) = cn (VQ (PK dc le si ki co ru li ll)) T := by
  have n0 : ¬ ∃ w c, PK dc le si ki co ru li ll T w c := PK.no hD (by omega)
  have n1 : ¬ ∃ w c, PK dc le si ki co ru li ll (T + 1) w c := PK.no hD (by omega)
  have n2 : ¬ ∃ w c, PK dc le si ki co ru li ll (T + 2) w c := PK.no hD (by omega)
  have n3 : ¬ ∃ w c, PK dc le si ki co ru li ll (T + 3) w c := PK.no hD (by omega)
  refine ⟨(((h.skip n0).skip n1).skip n2).skip n3, ?_⟩
  have c0 := cn_f (VQ_f n0)
  have c1 := cn_f (VQ_f n1)
  have c2 := cn_f (VQ_f n2)
  have c3 := cn_f (VQ_f n3)
  rw [show T + 4 = T + 3 + 1 by omega, c3, c2, c1, c0]
theorem WS.skip {dc : Int} {le si ki li : Nat → Int} {w ll p n k : Int} (h0 : 0 ≤ w) (hn : ¬ (si w.toNat = n ∧ ki w.toNat = k ∧ ST le (si w.toNat) w.toNat li p ll)) : (∃ v, WS (w + 1) le si ki li ll p n k v) ↔ (∃ v, WS w le si ki li ll p n k v) := by
  constructor
  · rintro ⟨v, g1, g2, g3, g4⟩
    by_cases e : (v : Int) = w
    · have ev : v = w.toNat := by omega
      subst ev
      exact absurd ⟨g2, g3, by rw [g2]; exact g4⟩ hn
    · exact ⟨v, by omega, g2, g3, g4⟩
  · rintro ⟨v, g1, g2, g3, g4⟩
    exact ⟨v, by omega, g2, g3, g4⟩
theorem WS.one {dc : Int} {le si ki li : Nat → Int} {w ll p n k : Int} {v : Nat} (hU : UQ dc le si ki) (h0 : 0 ≤ w) (hw : w < dc) (h : WS w le si ki li ll p n k v) (g : si w.toNat = n ∧ ki w.toNat = k ∧ ST le (si w.toNat) w.toNat li p ll) : False := by
  obtain ⟨h1, h2, h3, h4⟩ := h
  obtain ⟨g1, g2, g3⟩ := g
  have e := hU v w.toNat (by omega) (by omega) (by omega) (by omega) (fun i hi => by rw [h4.2 i (by omega), g3.2 i (by omega)])
  omega
theorem UQ.cast {dc wd : Int} {le si ki co le2 sz kd co2 : Nat → Int} (u : UQ dc le si ki) (d : DQ dc le si ki co wd le2 sz kd co2) : UQ wd le2 sz kd := by
  obtain ⟨d1, d2⟩ := d
  subst d1
  intro v w hv hw k1 k2 k3
  obtain ⟨a1, a2, a3, a4⟩ := d2 v hv
  obtain ⟨b1, b2, b3, b4⟩ := d2 w hw
  exact u v w hv hw (by omega) (by omega) (fun i hi => by rw [a4 i hi, b4 i (by omega)]; exact k3 i (by omega))
end
section
/-! the net as both sides rank it -/
def GN (ll cnt : Int) (pl ln kd cs fi : Nat → Int) : Prop := (0 ≤ cnt ∧ cnt ≤ 480 ∧ 0 ≤ ll ∧ ll ≤ 24) ∧ (∀ i : Nat, (i : Int) < cnt → 0 ≤ pl i ∧ 1 ≤ ln i ∧ ln i ≤ 6 ∧ pl i + ln i ≤ ll ∧ 0 ≤ kd i ∧ kd i ≤ 3 ∧ 0 ≤ cs i ∧ cs i ≤ 693) ∧ (∀ p i : Nat, (p : Int) < ll → ((fi p ≤ i ∧ (i : Int) < fi (p + 1)) ↔ ((i : Int) < cnt ∧ pl i = p))) ∧ (∀ i j : Nat, i < j → (j : Int) < cnt → pl i ≤ pl j) ∧ (∀ p : Nat, (p : Int) ≤ ll → 0 ≤ fi p ∧ fi p ≤ cnt ∧ ((p : Int) < ll → fi p ≤ fi (p + 1)))
theorem NS.key {dc ll cnt : Int} {le si ki co ru li pl ln kd cs wd fi jo : Nat → Int} (hD : DI dc si ki co) (hB : BI jo ru ll) (h : NS (PK dc le si ki co ru li ll) ll cnt pl ln kd cs wd fi) {T i : Nat} (hT : T ≤ 28 * ll.toNat) (hi : i < cn (VQ (PK dc le si ki co ru li ll)) T) : ∃ K : Nat, K < T ∧ VQ (PK dc le si ki co ru li ll) K = true ∧ cn (VQ (PK dc le si ki co ru li ll)) K = i ∧ pl i = ((K / 28 : Nat) : Int) ∧ ln i = ((K % 28 / 4 : Nat) : Int) ∧ kd i = ((K % 4 : Nat) : Int) ∧ 1 ≤ K % 28 / 4 ∧ ((K / 28 : Nat) : Int) + ((K % 28 / 4 : Nat) : Int) ≤ ll ∧ 0 ≤ cs i ∧ cs i ≤ 693 := by
  obtain ⟨h1, h2, h3⟩ := h
  obtain ⟨K, k1, k2, k3⟩ := cn_sur (P := VQ (PK dc le si ki co ru li ll)) (i := i) T hi
  obtain ⟨w, c, hq⟩ := bo_t.mp k2
  have a := h2 K (by omega) w c hq
  rw [k3] at a
  obtain ⟨a1, a2, a3, a4, a5⟩ := a
  obtain ⟨b1, b2, b3, b4⟩ := PK.in_ hD hB hq
  exact ⟨K, k1, k2, k3, a1, a2, a3, b1, b2, by omega, by omega⟩
theorem NS.gn {dc ll cnt : Int} {le si ki co ru li pl ln kd cs wd fi jo : Nat → Int} (hD : DI dc si ki co) (hB : BI jo ru ll) (h : NS (PK dc le si ki co ru li ll) ll cnt pl ln kd cs wd fi) : GN ll cnt pl ln kd cs fi := by
  have hl := hB.l24
  have hcap := PK.cap (le := le) (li := li) hD hB ll.toNat
  have hkey := fun (T i : Nat) => NS.key (T := T) (i := i) hD hB h
  obtain ⟨h1, h2, h3⟩ := h
  have hf : ∀ p : Nat, (p : Int) ≤ ll → fi p = ((cn (VQ (PK dc le si ki co ru li ll)) (28 * p) : Nat) : Int) := h3
  refine ⟨⟨by omega, by omega, hl.1, hl.2⟩, fun i hi => ?_, fun p i hp => ?_, fun i j hij hj => ?_, fun p hp => ?_⟩
  · obtain ⟨K, k1, k2, k3, a1, a2, a3, b1, b2, b3, b4⟩ := hkey (28 * ll.toNat) i (Nat.le_refl _) (by omega)
    exact ⟨by omega, by omega, by omega, by omega, by omega, by omega, b3, b4⟩
  · have e0 := hf p (by omega)
    have e1 := hf (p + 1) (by omega)
    constructor
    · rintro ⟨g1, g2⟩
      obtain ⟨K, k1, k2, k3, a1, -⟩ := hkey (28 * (p + 1)) i (by omega) (by omega)
      have hup := cn_up (P := VQ (PK dc le si ki co ru li ll)) (a := 28 * (p + 1)) (28 * ll.toNat) (by omega)
      have hge : 28 * p ≤ K := by
        by_cases q : 28 * p ≤ K
        · exact q
        · have := cn_st k2 (show K < 28 * p by omega)
          omega
      exact ⟨by omega, by omega⟩
    · rintro ⟨g1, g2⟩
      obtain ⟨K, k1, k2, k3, a1, -⟩ := hkey (28 * ll.toNat) i (Nat.le_refl _) (by omega)
      have hu := cn_up (P := VQ (PK dc le si ki co ru li ll)) (a := 28 * p) K (by omega)
      have hs := cn_st k2 (show K < 28 * (p + 1) by omega)
      exact ⟨by omega, by omega⟩
  · obtain ⟨K, k1, k2, k3, a1, -⟩ := hkey (28 * ll.toNat) i (Nat.le_refl _) (by omega)
    obtain ⟨K2, m1, m2, m3, c1, -⟩ := hkey (28 * ll.toNat) j (Nat.le_refl _) (by omega)
    have : K < K2 := by
      by_cases q : K < K2
      · exact q
      · have := cn_up (P := VQ (PK dc le si ki co ru li ll)) (a := K2) K (by omega)
        omega
    omega
  · have e0 := hf p hp
    have hup := cn_up (P := VQ (PK dc le si ki co ru li ll)) (a := 28 * p) (28 * ll.toNat) (by omega)
    refine ⟨by omega, by omega, fun q => ?_⟩
    have e1 := hf (p + 1) (by omega)
    have hu2 := cn_up (P := VQ (PK dc le si ki co ru li ll)) (a := 28 * p) (28 * (p + 1)) (by omega)
    omega
theorem GN.at {ll cnt : Int} {pl ln kd cs fi : Nat → Int} (h : GN ll cnt pl ln kd cs fi) {x : Int} (h0 : 0 ≤ x) (h1 : x < cnt) : 0 ≤ pl x.toNat ∧ 1 ≤ ln x.toNat ∧ ln x.toNat ≤ 6 ∧ pl x.toNat + ln x.toNat ≤ ll ∧ 0 ≤ kd x.toNat ∧ kd x.toNat ≤ 3 ∧ 0 ≤ cs x.toNat ∧ cs x.toNat ≤ 693 := h.2.1 x.toNat (by omega)
theorem GN.in_ {ll cnt : Int} {pl ln kd cs fi : Nat → Int} (h : GN ll cnt pl ln kd cs fi) {p : Nat} {y : Nat} (hp : (p : Int) < ll) (h0 : fi p ≤ y) (h1 : (y : Int) < fi (p + 1)) : (y : Int) < cnt ∧ pl y = p := (h.2.2.1 p y hp).mp ⟨h0, h1⟩
-- lists of the least
def SO (n : Int) (f : Nat → Int) : Prop := ∀ r s : Nat, r < s → (s : Int) < n → f r < f s
def TP (C : Int → Prop) (n : Int) (f : Nat → Int) : Prop := 0 ≤ n ∧ n ≤ 12 ∧ (∀ r : Nat, (r : Int) < n → C (f r)) ∧ SO n f ∧ (∀ v, C v → (∃ r : Nat, (r : Int) < n ∧ f r = v) ∨ ∀ r : Nat, (r : Int) < n → f r < v)
def TF (C : Int → Prop) (n : Int) (f : Nat → Int) : Prop := n = 12 ∨ ∀ v, C v → ∃ r : Nat, (r : Int) < n ∧ f r = v
theorem TP.eq {C : Int → Prop} {n m : Int} {f g : Nat → Int} (h : TP C n f) (k : TP C m g) : ∀ r : Nat, (r : Int) < n → (r : Int) < m → f r = g r := by
  obtain ⟨-, -, h3, h4, h5⟩ := h
  obtain ⟨-, -, k3, k4, k5⟩ := k
  intro r
  induction r using Nat.strongRecOn with
  | _ r ih =>
    intro hn hm
    rcases Int.lt_trichotomy (f r) (g r) with q | q | q
    · exfalso
      rcases k5 _ (h3 r hn) with ⟨s, s1, s2⟩ | s
      · rcases Nat.lt_trichotomy s r with t | t | t
        · have a := ih s t (by omega) s1
          have b := h4 s r t hn
          omega
        · subst t; omega
        · have a := k4 r s t s1
          omega
      · have := s r hm; omega
    · exact q
    · exfalso
      rcases h5 _ (k3 r hm) with ⟨s, s1, s2⟩ | s
      · rcases Nat.lt_trichotomy s r with t | t | t
        · have a := ih s t s1 (by omega)
          have b := k4 s r t hm
          omega
        · subst t; omega
        · have a := h4 r s t s1
          omega
      · have := s r hn; omega
theorem TP.le {C : Int → Prop} {n m : Int} {f g : Nat → Int} (h : TP C n f) (hf : TF C n f) (k : TP C m g) : m ≤ n := by
  by_cases q : m ≤ n
  · exact q
  · exfalso
    have h0 := h.1
    rcases hf with e | e
    · have := k.2.1; omega
    · obtain ⟨r, r1, r2⟩ := e _ (k.2.2.1 n.toNat (by omega))
      have a := h.eq k r r1 (by omega)
      have b := k.2.2.2.1 r n.toNat (by omega) (by omega)
      omega
theorem TP.same {C : Int → Prop} {n m : Int} {f g : Nat → Int} (h : TP C n f) (hf : TF C n f) (k : TP C m g) (kf : TF C m g) : n = m ∧ ∀ r : Nat, (r : Int) < n → f r = g r := by
  have a := h.le hf k
  have b := k.le kf h
  exact ⟨by omega, fun r hr => h.eq k r hr (by omega)⟩
theorem TP.ext {C : Int → Prop} {n m : Int} {f g : Nat → Int} (h : TP C n f) (hf : TF C n f) (e : n = m) (k : ∀ r : Nat, (r : Int) < n → f r = g r) : TP C m g ∧ TF C m g := by
  subst e
  obtain ⟨h1, h2, h3, h4, h5⟩ := h
  refine ⟨⟨h1, h2, fun r hr => by rw [← k r hr]; exact h3 r hr, fun r s hrs hs => by rw [← k r (by omega), ← k s hs]; exact h4 r s hrs hs, fun v hv => ?_⟩, ?_⟩
  · rcases h5 v hv with ⟨r, r1, r2⟩ | q
    · exact Or.inl ⟨r, r1, by rw [← k r r1]; exact r2⟩
    · exact Or.inr (fun r hr => by rw [← k r hr]; exact q r hr)
  · rcases hf with q | q
    · exact Or.inl q
    · refine Or.inr (fun v hv => ?_)
      obtain ⟨r, r1, r2⟩ := q v hv
      exact ⟨r, r1, by rw [← k r r1]; exact r2⟩
theorem TP.cast {C D : Int → Prop} {n : Int} {f : Nat → Int} (h : TP C n f ∧ TF C n f) (e : ∀ v, C v ↔ D v) : TP D n f ∧ TF D n f := by
  have : C = D := funext (fun v => propext (e v))
  rw [← this]; exact h
theorem TP.nil {C : Int → Prop} {n : Int} {f : Nat → Int} (h0 : n = 0) (h : ∀ v, ¬ C v) : TP C n f ∧ TF C n f := by
  subst h0
  exact ⟨⟨by omega, by omega, fun r hr => by omega, fun r s _ hs => by omega, fun v hv => absurd hv (h v)⟩, Or.inr (fun v hv => absurd hv (h v))⟩
/-- a way is offered to a list -/
def OF (n : Int) (f : Nat → Int) (v z n' : Int) (g : Nat → Int) : Prop := (z = 0 ∧ n = 12 ∧ f 11 < v ∧ n' = 12 ∧ ∀ r : Nat, r < 12 → g r = f r) ∨ (z = 1 ∧ ((n < 12 ∧ n' = n + 1) ∨ (n = 12 ∧ n' = 12 ∧ v ≤ f 11)) ∧ ∃ t : Nat, (t : Int) < n' ∧ (t = 0 ∨ f (t - 1) ≤ v) ∧ (∀ r : Nat, t ≤ r → (r : Int) + 1 < n' → v < f r) ∧ (∀ r : Nat, r < t → g r = f r) ∧ g t = v ∧ (∀ r : Nat, t ≤ r → (r : Int) + 1 < n' → g (r + 1) = f r))
theorem TP.more {C X : Int → Prop} {n : Int} {f g : Nat → Int} (h : TP C n f) (hn : n = 12) (hx : ∀ w, X w → f 11 < w) (hg : ∀ r : Nat, r < 12 → g r = f r) : TP (fun w => C w ∨ X w) n g ∧ TF (fun w => C w ∨ X w) n g := by
  subst hn
  obtain ⟨h1, h2, h3, h4, h5⟩ := h
  have hle : ∀ r : Nat, (r : Int) < 12 → f r ≤ f 11 := fun r hr => by
    by_cases e : r = 11
    · subst e; exact Int.le_refl _
    · have := h4 r 11 (by omega) (by omega); omega
  refine ⟨⟨h1, h2, fun r hr => by rw [hg r (by omega)]; exact Or.inl (h3 r hr), fun r s hrs hs => by rw [hg r (by omega), hg s (by omega)]; exact h4 r s hrs hs, fun v hv => ?_⟩, Or.inl rfl⟩
  rcases hv with hv | hv
  · rcases h5 v hv with ⟨r, r1, r2⟩ | q
    · exact Or.inl ⟨r, r1, by rw [hg r (by omega)]; exact r2⟩
    · exact Or.inr (fun r hr => by rw [hg r (by omega)]; exact q r hr)
  · refine Or.inr (fun r hr => ?_)
    rw [hg r (by omega)]
    have := hle r hr
    have := hx v hv
    omega
theorem TP.put {C : Int → Prop} {n n' v z : Int} {f g : Nat → Int} (h : TP C n f) (hf : TF C n f) (hv : ∀ w, C w → w ≠ v) (ho : OF n f v z n' g) (hz : z = 1) : TP (fun w => C w ∨ w = v) n' g ∧ TF (fun w => C w ∨ w = v) n' g := by
  rcases ho with ⟨o1, -⟩ | ⟨-, o2, t, o3, o4, o5, o6, o7, o8⟩
  · omega
  obtain ⟨h1, h2, h3, h4, h5⟩ := h
  have A : ∀ r : Nat, r < t → f r < v := by
    intro r hr
    rcases o4 with q | q
    · omega
    · have a := h3 (t - 1) (by omega)
      have b := hv _ a
      by_cases e : r = t - 1
      · subst e; omega
      · have := h4 r (t - 1) (by omega) (by omega); omega
  have hpos : ∀ r : Nat, (r : Int) < n → (r : Int) + 1 < n' ∨ r < t → ∃ s : Nat, (s : Int) < n' ∧ g s = f r := by
    intro r hr q
    by_cases e : r < t
    · exact ⟨r, by omega, o6 r e⟩
    · exact ⟨r + 1, by omega, o8 r (by omega) (by omega)⟩
  have hge : ∀ s : Nat, (s : Int) < n' → (s < t ∧ g s = f s) ∨ (s = t ∧ g s = v) ∨ (t < s ∧ g s = f (s - 1) ∧ v < f (s - 1) ∧ ((s - 1 : Nat) : Int) < n) := by
    intro s hs
    rcases Nat.lt_trichotomy s t with q | q | q
    · exact Or.inl ⟨q, o6 s q⟩
    · subst q; exact Or.inr (Or.inl ⟨rfl, o7⟩)
    · have a := o8 (s - 1) (by omega) (by omega)
      have b := o5 (s - 1) (by omega) (by omega)
      rw [show s - 1 + 1 = s by omega] at a
      exact Or.inr (Or.inr ⟨q, a, b, by omega⟩)
  refine ⟨⟨by omega, by omega, fun r hr => ?_, fun r s hrs hs => ?_, fun w hw => ?_⟩, ?_⟩
  · rcases hge r hr with ⟨q, e⟩ | ⟨q, e⟩ | ⟨q, e, -, q2⟩
    · rw [e]; exact Or.inl (h3 r (by omega))
    · exact Or.inr e
    · rw [e]; exact Or.inl (h3 _ q2)
  · rcases hge r (by omega) with ⟨q, e⟩ | ⟨q, e⟩ | ⟨q, e, q3, q2⟩ <;> rcases hge s hs with ⟨p, d⟩ | ⟨p, d⟩ | ⟨p, d, p3, p2⟩
    · rw [e, d]; exact h4 r s hrs (by omega)
    · rw [e, d]; exact A r q
    · rw [e, d]; have := A r q; omega
    · omega
    · omega
    · rw [e, d]; exact p3
    · omega
    · omega
    · rw [e, d]; exact h4 _ _ (by omega) p2
  · rcases hw with hw | hw
    · rcases h5 w hw with ⟨r, r1, r2⟩ | q
      · by_cases e : (r : Int) + 1 < n' ∨ r < t
        · obtain ⟨s, s1, s2⟩ := hpos r r1 e
          exact Or.inl ⟨s, s1, by rw [s2, r2]⟩
        · have hr : r = 11 := by omega
          have hvw := hv w hw
          subst hr
          refine Or.inr (fun s hs => ?_)
          rw [← r2] at hvw ⊢
          rcases hge s hs with ⟨p, d⟩ | ⟨p, d⟩ | ⟨p, d, p3, p2⟩
          · rw [d]; exact h4 s 11 (by omega) (by omega)
          · rw [d]; omega
          · rw [d]; exact h4 _ 11 (by omega) (by omega)
      · have hn : n = 12 := by
          rcases hf with e | e
          · exact e
          · obtain ⟨r, r1, r2⟩ := e w hw
            have := q r r1
            omega
        have q11 := q 11 (by omega)
        refine Or.inr (fun s hs => ?_)
        rcases hge s hs with ⟨p, d⟩ | ⟨p, d⟩ | ⟨p, d, p3, p2⟩
        · rw [d]; exact q s (by omega)
        · rw [d]; omega
        · rw [d]; exact q _ p2
    · exact Or.inl ⟨t, o3, by rw [o7, hw]⟩
  · by_cases e12 : n = 12
    · exact Or.inl (by omega)
    · rcases hf with e | e
      · exact absurd e e12
      · refine Or.inr (fun w hw => ?_)
        rcases hw with hw | hw
        · obtain ⟨r, r1, r2⟩ := e w hw
          obtain ⟨s, s1, s2⟩ := hpos r r1 (by omega)
          exact ⟨s, s1, by rw [s2, r2]⟩
        · exact ⟨t, o3, by rw [o7, hw]⟩
/-- the last that was taken into a list -/
def LL (C : Int → Prop) (n : Int) (f : Nat → Int) (L : Int) : Prop := (n = 0 ∧ ∀ v, C v → L < v) ∨ (0 < n ∧ L = f (n - 1).toNat)
theorem TP.push {C : Int → Prop} {n L v : Int} {f g : Nat → Int} (h : TP C n f) (hn : n < 12) (hL : LL C n f L) (h1 : C v) (h2 : L < v) (h3 : ∀ w, C w → L < w → v ≤ w) (hg : ∀ r : Nat, (r : Int) < n → g r = f r) (hv : g n.toNat = v) : TP C (n + 1) g ∧ LL C (n + 1) g v := by
  obtain ⟨a1, a2, a3, a4, a5⟩ := h
  have hle : ∀ r : Nat, (r : Int) < n → f r ≤ L := by
    intro r hr
    rcases hL with ⟨q, -⟩ | ⟨q, q2⟩
    · omega
    · by_cases e : r = (n - 1).toNat
      · subst e; omega
      · have := a4 r (n - 1).toNat (by omega) (by omega); omega
  have hgt : ∀ w, C w → (∀ r : Nat, (r : Int) < n → f r < w) → L < w := by
    intro w hw q
    rcases hL with ⟨-, q2⟩ | ⟨q1, q2⟩
    · exact q2 w hw
    · have := q (n - 1).toNat (by omega); omega
  refine ⟨⟨by omega, by omega, fun r hr => ?_, fun r s hrs hs => ?_, fun w hw => ?_⟩, Or.inr ⟨by omega, by rw [show (n + 1 - 1).toNat = n.toNat by omega, hv]⟩⟩
  · by_cases e : r = n.toNat
    · rw [e, hv]; exact h1
    · rw [hg r (by omega)]; exact a3 r (by omega)
  · rw [hg r (by omega)]
    by_cases e : s = n.toNat
    · rw [e, hv]; have := hle r (by omega); omega
    · rw [hg s (by omega)]; exact a4 r s hrs (by omega)
  · rcases a5 w hw with ⟨r, r1, r2⟩ | q
    · exact Or.inl ⟨r, by omega, by rw [hg r r1]; exact r2⟩
    · have b := h3 w hw (hgt w hw q)
      by_cases e : w = v
      · exact Or.inl ⟨n.toNat, by omega, by rw [hv, e]⟩
      · refine Or.inr (fun r hr => ?_)
        by_cases er : r = n.toNat
        · rw [er, hv]; omega
        · rw [hg r (by omega)]; exact q r (by omega)
theorem TP.end_ {C : Int → Prop} {n L : Int} {f : Nat → Int} (h : TP C n f) (hL : LL C n f L) (hs : ∀ v, C v → v ≤ L) : TF C n f := by
  refine Or.inr (fun v hv => ?_)
  rcases h.2.2.2.2 v hv with q | q
  · exact q
  · exfalso
    have := hs v hv
    rcases hL with ⟨-, q2⟩ | ⟨q1, q2⟩
    · have := q2 v hv; omega
    · have := q (n - 1).toNat (by omega); omega
/-- the best so far -/
def SL (C : Int → Prop) (L be vb : Int) : Prop := (be < 0 ∧ ∀ v, C v → v ≤ L) ∨ (0 ≤ be ∧ C vb ∧ L < vb ∧ ∀ v, C v → L < v → vb ≤ v)
theorem SL.skip {C D : Int → Prop} {L be vb v0 : Int} (h : SL C L be vb) (e : ∀ v, D v ↔ C v ∨ v = v0) (hn : ¬ (L < v0 ∧ (be < 0 ∨ v0 < vb))) : SL D L be vb := by
  rcases h with ⟨h1, h2⟩ | ⟨h1, h2, h3, h4⟩
  · refine Or.inl ⟨h1, fun v hv => ?_⟩
    rcases (e v).mp hv with q | q
    · exact h2 v q
    · omega
  · refine Or.inr ⟨h1, (e _).mpr (Or.inl h2), h3, fun v hv hl => ?_⟩
    rcases (e v).mp hv with q | q
    · exact h4 v q hl
    · omega
theorem SL.take {C D : Int → Prop} {L be vb v0 b2 : Int} (h : SL C L be vb) (e : ∀ v, D v ↔ C v ∨ v = v0) (hb : 0 ≤ b2) (hl : L < v0) (ht : be < 0 ∨ v0 < vb) : SL D L b2 v0 := by
  refine Or.inr ⟨hb, (e _).mpr (Or.inr rfl), hl, fun v hv hlt => ?_⟩
  rcases (e v).mp hv with q | q
  · rcases h with ⟨h1, h2⟩ | ⟨h1, h2, h3, h4⟩
    · have := h2 v q; omega
    · have := h4 v q hlt; omega
  · omega
theorem SL.cast {C D : Int → Prop} {L be vb : Int} (h : SL C L be vb) (e : ∀ v, C v ↔ D v) : SL D L be vb := by
  have : C = D := funext (fun v => propext (e v))
  rw [← this]; exact h
-- the class's ways
def kl (ke : Nat → Int) (s : Nat) : Nat → Int := fun r => ke (12 * s + r)
def sb (pl ln kd : Nat → Int) (y : Nat) : Nat := ((pl y + ln y) * 5 + kd y).toNat
def wy (c p : Int) (ke : Nat → Int) (b r : Nat) : Int := (c + ke (12 * b + r) / 8192) * 8192 + p * 16 + r
def XW (c p : Int) (ke : Nat → Int) (b : Nat) (n : Int) (v : Int) : Prop := ∃ r : Nat, (r : Int) < n ∧ v = wy c p ke b r
theorem wy_m {c p : Int} {ke : Nat → Int} {b r : Nat} (hp : 0 ≤ p ∧ p < 512) (hr : r < 16) : wy c p ke b r % 8192 / 16 = p ∧ wy c p ke b r % 16 = r ∧ wy c p ke b r / 8192 = c + ke (12 * b + r) / 8192 ∧ wy c p ke b r % 8192 = p * 16 + r := by
  unfold wy
  exact ⟨by omega, by omega, by omega, by omega⟩
theorem wy_lt {c p n : Int} {ke : Nat → Int} {b r s : Nat} (h : SO n (kl ke b)) (hrs : r < s) (hs : (s : Int) < n) : wy c p ke b r < wy c p ke b s := by
  have : ke (12 * b + r) < ke (12 * b + s) := h r s hrs hs
  unfold wy
  omega
theorem XW.cast {c p n n2 : Int} {ke ke2 : Nat → Int} {b : Nat} (hn : n = n2) (e : ∀ r : Nat, (r : Int) < n → ke (12 * b + r) = ke2 (12 * b + r)) (v : Int) : XW c p ke b n v ↔ XW c p ke2 b n2 v := by
  subst hn
  constructor
  · rintro ⟨r, h1, h2⟩
    exact ⟨r, h1, by rw [h2]; unfold wy; rw [e r h1]⟩
  · rintro ⟨r, h1, h2⟩
    exact ⟨r, h1, by rw [h2]; unfold wy; rw [e r h1]⟩
/-- all but one spot's list stays -/
def KP (ct ke ct' ke' : Nat → Int) (s : Nat) : Prop := (∀ j : Nat, j ≠ s → ct' j = ct j) ∧ ∀ j : Nat, (j < 12 * s ∨ 12 * s + 12 ≤ j) → ke' j = ke j
theorem KP.refl {ct ke : Nat → Int} {s : Nat} : KP ct ke ct ke s := ⟨fun _ _ => rfl, fun _ _ => rfl⟩
theorem KP.trans {ct ke ct1 ke1 ct2 ke2 : Nat → Int} {s : Nat} (h : KP ct ke ct1 ke1 s) (g : KP ct1 ke1 ct2 ke2 s) : KP ct ke ct2 ke2 s := ⟨fun j hj => by rw [g.1 j hj, h.1 j hj], fun j hj => by rw [g.2 j hj, h.2 j hj]⟩
theorem KP.at {ct ke ct' ke' : Nat → Int} {s : Nat} (h : KP ct ke ct' ke' s) {b : Nat} (hb : b ≠ s) : ct' b = ct b ∧ ∀ r : Nat, r < 12 → ke' (12 * b + r) = ke (12 * b + r) := ⟨h.1 b hb, fun r hr => h.2 _ (by omega)⟩
def OWS (ct0 ke0 ct ke : Nat → Int) (s : Nat) (c p : Int) (b : Nat) (hi : Int) : Prop := KP ct0 ke0 ct ke s ∧ ∀ C : Int → Prop, TP C (ct0 s) (kl ke0 s) → TF C (ct0 s) (kl ke0 s) → (∀ v, C v → v % 8192 / 16 < p) → TP (fun v => C v ∨ XW c p ke0 b hi v) (ct s) (kl ke s) ∧ TF (fun v => C v ∨ XW c p ke0 b hi v) (ct s) (kl ke s)
theorem OWS.zero {ct ke : Nat → Int} {s b : Nat} {c p : Int} : OWS ct ke ct ke s c p b 0 := by
  refine ⟨KP.refl, fun C h1 h2 h3 => TP.cast ⟨h1, h2⟩ (fun v => ⟨Or.inl, fun h => ?_⟩)⟩
  rcases h with h | ⟨r, hr, -⟩
  · exact h
  · omega
theorem OWS.step {ct0 ke0 ct ke ct' ke' : Nat → Int} {s b : Nat} {c p rk z v : Int} (h : OWS ct0 ke0 ct ke s c p b rk) (hk : KP ct ke ct' ke' s) (hb : b ≠ s) (h0 : 0 ≤ rk) (h1 : rk < 12) (hp : 0 ≤ p ∧ p < 480) (hv : v = (c + ke (12 * b + rk.toNat) / 8192) * 8192 + p * 16 + rk) (ho : OF (ct s) (kl ke s) v z (ct' s) (kl ke' s)) (hz : z = 1) : OWS ct0 ke0 ct' ke' s c p b (rk + 1) := by
  obtain ⟨a1, a2⟩ := h
  refine ⟨a1.trans hk, fun C g1 g2 g3 => ?_⟩
  obtain ⟨b1, b2⟩ := a2 C g1 g2 g3
  have ev : v = wy c p ke0 b rk.toNat := by
    unfold wy
    rw [hv, (a1.at hb).2 rk.toNat (by omega)]
    omega
  have hm := wy_m (c := c) (p := p) (ke := ke0) (b := b) (r := rk.toNat) (by omega) (by omega)
  refine TP.cast (b1.put b2 (fun w hw => ?_) ho hz) (fun w => ?_)
  · rcases hw with hw | ⟨r, r1, r2⟩
    · have := g3 w hw
      intro e
      rw [e, ev] at this
      omega
    · intro e
      have hm2 := wy_m (c := c) (p := p) (ke := ke0) (b := b) (r := r) (by omega) (by omega)
      rw [← r2, e, ev] at hm2
      omega
  · constructor
    · rintro ((q | ⟨r, r1, r2⟩) | q)
      · exact Or.inl q
      · exact Or.inr ⟨r, by omega, r2⟩
      · exact Or.inr ⟨rk.toNat, by omega, by rw [q, ev]⟩
    · rintro (q | ⟨r, r1, r2⟩)
      · exact Or.inl (Or.inl q)
      · by_cases e : r = rk.toNat
        · exact Or.inr (by rw [r2, ev, e])
        · exact Or.inl (Or.inr ⟨r, by omega, r2⟩)
theorem OWS.stop {ct0 ke0 ct ke ct' ke' : Nat → Int} {s b : Nat} {c p rk z v n : Int} (h : OWS ct0 ke0 ct ke s c p b rk) (hk : KP ct ke ct' ke' s) (hb : b ≠ s) (h0 : 0 ≤ rk) (h1 : rk < n) (hn : n ≤ 12) (hso : SO n (kl ke0 b)) (hv : v = (c + ke (12 * b + rk.toNat) / 8192) * 8192 + p * 16 + rk) (ho : OF (ct s) (kl ke s) v z (ct' s) (kl ke' s)) (hz : z = 0) : OWS ct0 ke0 ct' ke' s c p b n := by
  obtain ⟨a1, a2⟩ := h
  refine ⟨a1.trans hk, fun C g1 g2 g3 => ?_⟩
  obtain ⟨b1, b2⟩ := a2 C g1 g2 g3
  have ev : v = wy c p ke0 b rk.toNat := by
    unfold wy
    rw [hv, (a1.at hb).2 rk.toNat (by omega)]
    omega
  rcases ho with ⟨o1, o2, o3, o4, o5⟩ | ⟨o1, -⟩
  · rw [show ct' s = ct s by omega]
    refine TP.cast (TP.more (X := fun w => ∃ r : Nat, rk.toNat ≤ r ∧ (r : Int) < n ∧ w = wy c p ke0 b r) b1 o2 (fun w hw => ?_) (fun r hr => o5 r hr)) (fun w => ?_)
    · obtain ⟨r, r1, r2, r3⟩ := hw
      by_cases e : rk.toNat = r
      · rw [r3, ← e, ← ev]; exact o3
      · have := wy_lt (c := c) (p := p) hso (show rk.toNat < r by omega) r2
        rw [← ev, ← r3] at this
        omega
    · constructor
      · rintro ((q | ⟨r, r1, r2⟩) | ⟨r, r1, r2, r3⟩)
        · exact Or.inl q
        · exact Or.inr ⟨r, by omega, r2⟩
        · exact Or.inr ⟨r, r2, r3⟩
      · rintro (q | ⟨r, r1, r2⟩)
        · exact Or.inl (Or.inl q)
        · by_cases e : rk.toNat ≤ r
          · exact Or.inr ⟨r, e, r1, r2⟩
          · exact Or.inl (Or.inr ⟨r, by omega, r2⟩)
  · omega
/-- what may go on from a spot: pieces lo to hi -/
def CC (pl ln kd cs jo ct ke : Nat → Int) (lo hi k : Int) (v : Int) : Prop := ∃ y : Nat, lo ≤ (y : Int) ∧ (y : Int) < hi ∧ XW (jo (k * 5 + kd y).toNat + cs y) y ke (sb pl ln kd y) (ct (sb pl ln kd y)) v
theorem CC.none {pl ln kd cs jo ct ke : Nat → Int} {lo k : Int} (v : Int) : ¬ CC pl ln kd cs jo ct ke lo lo k v := by
  rintro ⟨y, h1, h2, -⟩; omega
theorem CC.step {pl ln kd cs jo ct ke : Nat → Int} {lo hi k : Int} (h0 : 0 ≤ hi) (h : lo ≤ hi) (v : Int) : CC pl ln kd cs jo ct ke lo (hi + 1) k v ↔ CC pl ln kd cs jo ct ke lo hi k v ∨ XW (jo (k * 5 + kd hi.toNat).toNat + cs hi.toNat) hi ke (sb pl ln kd hi.toNat) (ct (sb pl ln kd hi.toNat)) v := by
  constructor
  · rintro ⟨y, h1, h2, h3⟩
    by_cases e : (y : Int) = hi
    · have ey : y = hi.toNat := by omega
      rw [e, ey] at h3
      exact Or.inr h3
    · exact Or.inl ⟨y, h1, by omega, h3⟩
  · rintro (⟨y, h1, h2, h3⟩ | h3)
    · exact ⟨y, h1, by omega, h3⟩
    · refine ⟨hi.toNat, by omega, by omega, ?_⟩
      rw [show ((hi.toNat : Nat) : Int) = hi by omega]
      exact h3
theorem CC.lt {pl ln kd cs jo ct ke : Nat → Int} {lo hi k v : Int} (hc : CB ct) (h480 : hi ≤ 480) (hs : ∀ y : Nat, lo ≤ (y : Int) → (y : Int) < hi → sb pl ln kd y < 125) (h : CC pl ln kd cs jo ct ke lo hi k v) : v % 8192 / 16 < hi := by
  obtain ⟨y, h1, h2, r, h3, h4⟩ := h
  have := hc _ (hs y h1 h2)
  have := wy_m (c := jo (k * 5 + kd y).toNat + cs y) (p := y) (ke := ke) (b := sb pl ln kd y) (r := r) (by omega) (by omega)
  rw [h4]; omega
theorem CC.cast {pl ln kd cs jo ct ke ct2 ke2 : Nat → Int} {lo hi k : Int} (hc : CB ct) (hs : ∀ y : Nat, lo ≤ (y : Int) → (y : Int) < hi → sb pl ln kd y < 125) (e : ∀ y : Nat, lo ≤ (y : Int) → (y : Int) < hi → ct2 (sb pl ln kd y) = ct (sb pl ln kd y) ∧ ∀ r : Nat, r < 12 → ke2 (12 * sb pl ln kd y + r) = ke (12 * sb pl ln kd y + r)) (v : Int) : CC pl ln kd cs jo ct ke lo hi k v ↔ CC pl ln kd cs jo ct2 ke2 lo hi k v := by
  constructor
  · rintro ⟨y, h1, h2, h3⟩
    obtain ⟨e1, e2⟩ := e y h1 h2
    have := hc _ (hs y h1 h2)
    exact ⟨y, h1, h2, (XW.cast e1.symm (fun r hr => (e2 r (by omega)).symm) v).mp h3⟩
  · rintro ⟨y, h1, h2, h3⟩
    obtain ⟨e1, e2⟩ := e y h1 h2
    have := hc _ (hs y h1 h2)
    exact ⟨y, h1, h2, (XW.cast e1.symm (fun r hr => (e2 r (by omega)).symm) v).mpr h3⟩
/-- a spot's list, as it must be -/
def RS1 (pl ln kd cs fi jo bf ct ke : Nat → Int) (q k : Nat) : Prop := (1000000 ≤ bf (5 * q + k) → ct (5 * q + k) = 0) ∧ (bf (5 * q + k) < 1000000 → TP (CC pl ln kd cs jo ct ke (fi q) (fi (q + 1)) k) (ct (5 * q + k)) (kl ke (5 * q + k)) ∧ TF (CC pl ln kd cs jo ct ke (fi q) (fi (q + 1)) k) (ct (5 * q + k)) (kl ke (5 * q + k)))
theorem RS1.so {pl ln kd cs fi jo bf ct ke : Nat → Int} {q k : Nat} (h : RS1 pl ln kd cs fi jo bf ct ke q k) : SO (ct (5 * q + k)) (kl ke (5 * q + k)) := by
  by_cases e : bf (5 * q + k) < 1000000
  · exact (h.2 e).1.2.2.2.1
  · have := h.1 (by omega)
    intro r s hrs hs
    omega
theorem GN.spot {ll cnt : Int} {pl ln kd cs fi : Nat → Int} (h : GN ll cnt pl ln kd cs fi) {y : Nat} (hy : (y : Int) < cnt) : ((sb pl ln kd y : Nat) : Int) = (pl y + ln y) * 5 + kd y ∧ sb pl ln kd y < 125 := by
  have := h.2.1 y hy
  have := h.1
  unfold sb
  omega
theorem RS1.keep {ll cnt : Int} {pl ln kd cs fi jo bf ct ke ct2 ke2 : Nat → Int} {q k : Nat} (h : RS1 pl ln kd cs fi jo bf ct ke q k) (hG : GN ll cnt pl ln kd cs fi) (hc : CB ct) (hq : (q : Int) < ll) (hk : k ≤ 4) (e : ∀ s : Nat, s < 125 → (5 * q + 5 ≤ s ∨ s = 5 * q + k) → ct2 s = ct s ∧ ∀ r : Nat, r < 12 → ke2 (12 * s + r) = ke (12 * s + r)) : RS1 pl ln kd cs fi jo bf ct2 ke2 q k := by
  have h1 := hG.1
  obtain ⟨e1, e2⟩ := e (5 * q + k) (by omega) (Or.inr rfl)
  have hy : ∀ y : Nat, fi q ≤ (y : Int) → (y : Int) < fi (q + 1) → sb pl ln kd y < 125 ∧ 5 * q + 5 ≤ sb pl ln kd y := by
    intro y y1 y2
    obtain ⟨g1, g2⟩ := hG.in_ hq y1 y2
    have g3 := hG.spot g1
    have g4 := hG.2.1 y g1
    omega
  refine ⟨fun z => by rw [e1]; exact h.1 z, fun z => ?_⟩
  have a := h.2 z
  have b := TP.cast a (D := CC pl ln kd cs jo ct2 ke2 (fi q) (fi (q + 1)) k) (fun v => CC.cast hc (fun y y1 y2 => (hy y y1 y2).1) (fun y y1 y2 => e _ (hy y y1 y2).1 (Or.inl (hy y y1 y2).2)) v)
  have hn := hc (5 * q + k) (by omega)
  exact b.1.ext b.2 e1.symm (fun r hr => (e2 r (by omega)).symm)
/-- the least before a piece's end -/
def lum (bf jo : Nat → Int) (p5 k : Int) : Nat → Int
  | 0 => 1000000
  | n + 1 => min (lum bf jo p5 k n) (bf (p5 + n).toNat + jo ((n : Int) * 5 + k).toNat)
def lu (pl kd cs bf jo : Nat → Int) (y : Nat) : Int := lum bf jo (pl y * 5) (kd y) 5 + cs y
theorem lum_le {bf jo : Nat → Int} {p5 k : Int} : ∀ n : Nat, lum bf jo p5 k n ≤ 1000000 ∧ ∀ m : Nat, m < n → lum bf jo p5 k n ≤ bf (p5 + m).toNat + jo ((m : Int) * 5 + k).toNat
  | 0 => ⟨Int.le_refl _, fun m hm => by omega⟩
  | n + 1 => by
    obtain ⟨h1, h2⟩ := lum_le (bf := bf) (jo := jo) (p5 := p5) (k := k) n
    have e : lum bf jo p5 k (n + 1) = min (lum bf jo p5 k n) (bf (p5 + n).toNat + jo ((n : Int) * 5 + k).toNat) := rfl
    rw [e]
    refine ⟨by omega, fun m hm => ?_⟩
    by_cases q : m = n
    · subst q; omega
    · have := h2 m (by omega); omega
theorem lum_in {bf jo : Nat → Int} {p5 k : Int} : ∀ n : Nat, lum bf jo p5 k n = 1000000 ∨ ∃ m : Nat, m < n ∧ lum bf jo p5 k n = bf (p5 + m).toNat + jo ((m : Int) * 5 + k).toNat
  | 0 => Or.inl rfl
  | n + 1 => by
    have e : lum bf jo p5 k (n + 1) = min (lum bf jo p5 k n) (bf (p5 + n).toNat + jo ((n : Int) * 5 + k).toNat) := rfl
    rw [e]
    by_cases q : lum bf jo p5 k n ≤ bf (p5 + n).toNat + jo ((n : Int) * 5 + k).toNat
    · rw [show min (lum bf jo p5 k n) (bf (p5 + n).toNat + jo ((n : Int) * 5 + k).toNat) = lum bf jo p5 k n by omega]
      rcases lum_in (bf := bf) (jo := jo) (p5 := p5) (k := k) n with h | ⟨m, h1, h2⟩
      · exact Or.inl h
      · exact Or.inr ⟨m, by omega, h2⟩
    · exact Or.inr ⟨n, by omega, by omega⟩
theorem lum_eq {bf bf2 jo : Nat → Int} {p5 k : Int} : ∀ n : Nat, (∀ m : Nat, m < n → bf (p5 + m).toNat = bf2 (p5 + m).toNat) → lum bf jo p5 k n = lum bf2 jo p5 k n
  | 0, _ => rfl
  | n + 1, h => by
    show min (lum bf jo p5 k n) (bf (p5 + n).toNat + jo ((n : Int) * 5 + k).toNat) = min (lum bf2 jo p5 k n) (bf2 (p5 + n).toNat + jo ((n : Int) * 5 + k).toNat)
    rw [lum_eq n (fun m hm => h m (by omega)), h n (by omega)]
/-- the spots that are reached, by the pieces below s -/
def BFS (cnt : Int) (pl ln kd cs jo bf : Nat → Int) : Prop := bf 4 = 0 ∧ (∀ t : Nat, t < 125 → bf t = 1000000 ∨ (0 ≤ bf t ∧ bf t ≤ 792 * ((t / 5 : Nat) : Int))) ∧ (∀ y : Nat, (y : Int) < cnt → bf (sb pl ln kd y) ≤ lu pl kd cs bf jo y) ∧ (∀ t : Nat, t < 125 → t ≠ 4 → bf t = 1000000 ∨ ∃ y : Nat, (y : Int) < cnt ∧ sb pl ln kd y = t ∧ bf t = lu pl kd cs bf jo y)
theorem BFS.zero {pl ln kd cs jo bf : Nat → Int} (h : ∀ t : Nat, t < 125 → bf t = 1000000) : BFS 0 pl ln kd cs jo (zup bf 4 0) := by
  refine ⟨zup_eq, fun t ht => ?_, fun y hy => by omega, fun t ht hn => Or.inl (by rw [zup_ne hn]; exact h t ht)⟩
  by_cases e : t = 4
  · subst e; rw [zup_eq]; omega
  · rw [zup_ne e]; exact Or.inl (h t ht)
theorem BFS.step {ll cnt s : Int} {pl ln kd cs fi jo bf : Nat → Int} (hG : GN ll cnt pl ln kd cs fi) (hJ : JB jo) (h : BFS s pl ln kd cs jo bf) (h0 : 0 ≤ s) (h1 : s < cnt) {v : Int} (hv : v ≤ bf (sb pl ln kd s.toNat) ∧ v ≤ lu pl kd cs bf jo s.toNat ∧ (v = bf (sb pl ln kd s.toNat) ∨ v = lu pl kd cs bf jo s.toNat)) : BFS (s + 1) pl ln kd cs jo (zup bf (sb pl ln kd s.toNat) v) := by
  obtain ⟨a1, a2, a3, a4⟩ := h
  have hs := hG.at h0 h1
  have hsb := hG.spot (y := s.toNat) (by omega)
  have hl := hG.1
  have hlu : ∀ y : Nat, (y : Int) ≤ s → lu pl kd cs (zup bf (sb pl ln kd s.toNat) v) jo y = lu pl kd cs bf jo y := by
    intro y hy
    have hys : pl y ≤ pl s.toNat := by
      by_cases e : y = s.toNat
      · subst e; exact Int.le_refl _
      · exact hG.2.2.2.1 y s.toNat (by omega) (by omega)
    have hy0 := hG.2.1 y (by omega)
    unfold lu
    rw [lum_eq 5 (fun m hm => zup_ne (by omega))]
  have hlb : 0 ≤ lu pl kd cs bf jo s.toNat ∧ (lu pl kd cs bf jo s.toNat < 1000000 → lu pl kd cs bf jo s.toNat ≤ 792 * ((sb pl ln kd s.toNat / 5 : Nat) : Int)) := by
    unfold lu
    rcases lum_in (bf := bf) (jo := jo) (p5 := pl s.toNat * 5) (k := kd s.toNat) 5 with q | ⟨m, q1, q2⟩
    · omega
    · have hj := hJ ((m : Int) * 5 + kd s.toNat).toNat (by omega)
      have hb := a2 (pl s.toNat * 5 + m).toNat (by omega)
      omega
  refine ⟨?_, fun t ht => ?_, fun y hy => ?_, fun t ht hn => ?_⟩
  · rw [zup_ne (by omega)]; exact a1
  · by_cases e : t = sb pl ln kd s.toNat
    · subst e
      rw [zup_eq]
      have := a2 _ ht
      omega
    · rw [zup_ne e]; exact a2 t ht
  · rw [hlu y (by omega)]
    by_cases e : y = s.toNat
    · subst e; rw [zup_eq]; exact hv.2.1
    · have := a3 y (by omega)
      by_cases e2 : sb pl ln kd y = sb pl ln kd s.toNat
      · rw [e2, zup_eq]; rw [e2] at this; omega
      · rw [zup_ne e2]; exact this
  · by_cases e : t = sb pl ln kd s.toNat
    · subst e
      rw [zup_eq]
      rcases hv.2.2 with q | q
      · rcases a4 _ ht hn with r | ⟨y, r1, r2, r3⟩
        · exact Or.inl (by omega)
        · exact Or.inr ⟨y, by omega, r2, by rw [hlu y (by omega)]; omega⟩
      · exact Or.inr ⟨s.toNat, by omega, rfl, by rw [hlu _ (by omega)]; exact q⟩
    · rw [zup_ne e]
      rcases a4 t ht hn with r | ⟨y, r1, r2, r3⟩
      · exact Or.inl r
      · exact Or.inr ⟨y, by omega, r2, by rw [hlu y (by omega)]; exact r3⟩
/-- what follows a spot that is reached is reached -/
theorem BFS.on {ll cnt : Int} {pl ln kd cs fi jo bf : Nat → Int} (hG : GN ll cnt pl ln kd cs fi) (hJ : JB jo) (h : BFS cnt pl ln kd cs jo bf) {y : Nat} (hy : (y : Int) < cnt) {k : Nat} (hk : k ≤ 4) (hb : bf ((pl y).toNat * 5 + k) < 1000000) : lu pl kd cs bf jo y < 1000000 ∧ bf (sb pl ln kd y) < 1000000 := by
  obtain ⟨a1, a2, a3, a4⟩ := h
  have hl := hG.1
  have hg := hG.2.1 y hy
  have hj := hJ ((k : Int) * 5 + kd y).toNat (by omega)
  have hlm := (lum_le (bf := bf) (jo := jo) (p5 := pl y * 5) (k := kd y) 5).2 k (by omega)
  rw [show (pl y * 5 + (k : Int)).toNat = (pl y).toNat * 5 + k by omega] at hlm
  have h2 := a2 ((pl y).toNat * 5 + k) (by omega)
  have h3 := a3 y hy
  unfold lu at h3 ⊢
  omega
/-- a ranking, whole -/
def KW (ll cnt : Int) (pl ln kd cs fi jo bf ct ke : Nat → Int) : Prop := BFS cnt pl ln kd cs jo bf ∧ (∀ k : Nat, k < 4 → ct (5 * ll.toNat + k) = 1 ∧ ke (12 * (5 * ll.toNat + k)) = jo (5 * k + 4) * 8192) ∧ (∀ q k : Nat, 1 ≤ q → (q : Int) < ll → k < 4 → RS1 pl ln kd cs fi jo bf ct ke q k) ∧ RS1 pl ln kd cs fi jo bf ct ke 0 4
-- the reference's rows
def rf (cs rc rn : Nat → Int) (x : Nat) : Nat → Int := fun r => (rc (12 * x + r) - cs x) * 8192 + rn (12 * x + r)
/-- what may follow: pieces from lo on, those below y with all their rows, y with r of them -/
def CM (kd jo rw rc : Nat → Int) (k5 lo y r : Int) (v : Int) : Prop := ∃ i s : Nat, lo ≤ (i : Int) ∧ ((i : Int) < y ∨ ((i : Int) = y ∧ (s : Int) < r)) ∧ (s : Int) < rw i ∧ v = (jo (k5 + kd i).toNat + rc (12 * i + s)) * 8192 + 16 * i + s
theorem CM.none {kd jo rw rc : Nat → Int} {k5 lo : Int} (v : Int) : ¬ CM kd jo rw rc k5 lo lo 0 v := by
  rintro ⟨i, s, h1, h2, -⟩; omega
theorem CM.row {kd jo rw rc : Nat → Int} {k5 lo y r : Int} (hy : 0 ≤ y) (hr : rw y.toNat ≤ r) (v : Int) : CM kd jo rw rc k5 lo y r v ↔ CM kd jo rw rc k5 lo (y + 1) 0 v := by
  constructor
  · rintro ⟨i, s, h1, h2, h3, h4⟩
    exact ⟨i, s, h1, by omega, h3, h4⟩
  · rintro ⟨i, s, h1, h2, h3, h4⟩
    refine ⟨i, s, h1, ?_, h3, h4⟩
    by_cases e : (i : Int) = y
    · have : i = y.toNat := by omega
      rw [this] at h3
      omega
    · omega
theorem CM.step {kd jo rw rc : Nat → Int} {k5 lo y r v0 : Int} (hl : lo ≤ y) (hy : 0 ≤ y) (h0 : 0 ≤ r) (hr : r < rw y.toNat) (hv : v0 = (jo (k5 + kd y.toNat).toNat + rc (12 * y + r).toNat) * 8192 + 16 * y + r) (v : Int) : CM kd jo rw rc k5 lo y (r + 1) v ↔ CM kd jo rw rc k5 lo y r v ∨ v = v0 := by
  constructor
  · rintro ⟨i, s, h1, h2, h3, h4⟩
    by_cases e : (i : Int) = y ∧ (s : Int) = r
    · have ei : i = y.toNat := by omega
      have es : 12 * i + s = (12 * y + r).toNat := by omega
      rw [es, ei] at h4
      exact Or.inr (by omega)
    · exact Or.inl ⟨i, s, h1, by omega, h3, h4⟩
  · rintro (⟨i, s, h1, h2, h3, h4⟩ | h)
    · exact ⟨i, s, h1, by omega, h3, h4⟩
    · refine ⟨y.toNat, r.toNat, by omega, by omega, by omega, ?_⟩
      rw [show 12 * y.toNat + r.toNat = (12 * y + r).toNat by omega]
      omega
theorem CM.cast {kd jo rw rc rw2 rc2 : Nat → Int} {k5 lo y r : Int} (e : ∀ i : Nat, lo ≤ (i : Int) → (i : Int) ≤ y → rw2 i = rw i ∧ ∀ s : Nat, s < 12 → rc2 (12 * i + s) = rc (12 * i + s)) (hb : ∀ i : Nat, lo ≤ (i : Int) → (i : Int) ≤ y → rw i ≤ 12) (v : Int) : CM kd jo rw rc k5 lo y r v ↔ CM kd jo rw2 rc2 k5 lo y r v := by
  constructor
  · rintro ⟨i, s, h1, h2, h3, h4⟩
    obtain ⟨e1, e2⟩ := e i h1 (by omega)
    have := hb i h1 (by omega)
    exact ⟨i, s, h1, h2, by omega, by rw [e2 s (by omega)]; exact h4⟩
  · rintro ⟨i, s, h1, h2, h3, h4⟩
    obtain ⟨e1, e2⟩ := e i h1 (by omega)
    have := hb i h1 (by omega)
    exact ⟨i, s, h1, h2, by omega, by rw [← e2 s (by omega)]; exact h4⟩
/-- one piece's rows, as they must be -/
def RW1 (ll : Int) (pl ln kd cs fi jo rw rc rn : Nat → Int) (x : Nat) : Prop := (0 ≤ rw x ∧ rw x ≤ 12) ∧ (∀ r : Nat, (r : Int) < rw x → 0 ≤ rc (12 * x + r) ∧ rc (12 * x + r) ≤ 792 * (ll - pl x)) ∧ ((pl x + ln x = ll ∧ rw x = 1 ∧ rc (12 * x) = cs x + jo (5 * kd x + 4).toNat ∧ rn (12 * x) = -6) ∨ (pl x + ln x < ll ∧ (∀ r : Nat, (r : Int) < rw x → 0 ≤ rn (12 * x + r) ∧ rn (12 * x + r) < 8192) ∧ TP (CM kd jo rw rc (5 * kd x) (fi (pl x + ln x).toNat) (fi (pl x + ln x + 1).toNat) 0) (rw x) (rf cs rc rn x) ∧ TF (CM kd jo rw rc (5 * kd x) (fi (pl x + ln x).toNat) (fi (pl x + ln x + 1).toNat) 0) (rw x) (rf cs rc rn x)))
def RW (ll cnt : Int) (pl ln kd cs fi jo rw rc rn : Nat → Int) (lo : Int) : Prop := ∀ x : Nat, lo ≤ (x : Int) → (x : Int) < cnt → RW1 ll pl ln kd cs fi jo rw rc rn x
theorem GN.next {ll cnt : Int} {pl ln kd cs fi : Nat → Int} (h : GN ll cnt pl ln kd cs fi) {x i : Nat} (hx : (x : Int) < cnt) (he : pl x + ln x < ll) (h1 : fi (pl x + ln x).toNat ≤ i) (h2 : (i : Int) < fi (pl x + ln x + 1).toNat) : (i : Int) < cnt ∧ pl i = pl x + ln x ∧ x < i := by
  have hx1 := h.2.1 x hx
  rw [show (pl x + ln x + 1).toNat = (pl x + ln x).toNat + 1 by omega] at h2
  obtain ⟨a, b⟩ := h.in_ (p := (pl x + ln x).toNat) (by omega) h1 h2
  refine ⟨a, by omega, ?_⟩
  rcases Nat.lt_trichotomy x i with q | q | q
  · exact q
  · subst q; omega
  · have := h.2.2.2.1 i x q hx; omega
theorem GN.fi_ {ll cnt : Int} {pl ln kd cs fi : Nat → Int} (h : GN ll cnt pl ln kd cs fi) {p : Int} (h0 : 0 ≤ p) (hp : p < ll) : 0 ≤ fi p.toNat ∧ fi p.toNat ≤ fi (p + 1).toNat ∧ fi (p + 1).toNat ≤ cnt := by
  have a := h.2.2.2.2 p.toNat (by omega)
  have b := h.2.2.2.2 (p.toNat + 1) (by omega)
  rw [show (p + 1).toNat = p.toNat + 1 by omega]
  exact ⟨a.1, a.2.2 (by omega), b.2.1⟩
-- both sides' lists are the same
theorem CC.cm {pl ln kd cs jo ct ke rw rc : Nat → Int} {lo hi k : Int} (hy : ∀ y : Nat, lo ≤ (y : Int) → (y : Int) < hi → ct (sb pl ln kd y) = rw y ∧ ∀ r : Nat, (r : Int) < rw y → ke (12 * sb pl ln kd y + r) / 8192 = rc (12 * y + r) - cs y) (v : Int) : CC pl ln kd cs jo ct ke lo hi k v ↔ CM kd jo rw rc (5 * k) lo hi 0 v := by
  constructor
  · rintro ⟨y, h1, h2, r, h3, h4⟩
    obtain ⟨e1, e2⟩ := hy y h1 h2
    rw [e1] at h3
    have e3 := e2 r h3
    refine ⟨y, r, h1, Or.inl h2, h3, ?_⟩
    rw [h4, show 5 * k + kd y = k * 5 + kd y by omega]
    unfold wy
    rw [e3]
    omega
  · rintro ⟨y, r, h1, h2, h3, h4⟩
    have h2 : (y : Int) < hi := by omega
    obtain ⟨e1, e2⟩ := hy y h1 h2
    have e3 := e2 r h3
    refine ⟨y, h1, h2, r, by omega, ?_⟩
    rw [h4, show 5 * k + kd y = k * 5 + kd y by omega]
    unfold wy
    rw [e3]
    omega
theorem AG {ll cnt : Int} {pl ln kd cs fi jo bf ct ke rw rc rn : Nat → Int} (hG : GN ll cnt pl ln kd cs fi) (hJ : JB jo) (hK : KW ll cnt pl ln kd cs fi jo bf ct ke) (hR : RW ll cnt pl ln kd cs fi jo rw rc rn 0) : ∀ d x : Nat, (x : Int) < cnt → ll - (pl x + ln x) < d → bf (sb pl ln kd x) < 1000000 → ct (sb pl ln kd x) = rw x ∧ ∀ r : Nat, (r : Int) < rw x → ke (12 * sb pl ln kd x + r) / 8192 = rc (12 * x + r) - cs x ∧ (pl x + ln x < ll → ke (12 * sb pl ln kd x + r) = rf cs rc rn x r)
  | 0, x, hx, hd, _ => by
    have := hG.2.1 x hx
    omega
  | d + 1, x, hx, hd, hb => by
    obtain ⟨hBF, hEnd, hMid, hStart⟩ := hK
    have hg := hG.2.1 x hx
    have hsp := hG.spot hx
    obtain ⟨r1, r2, r3⟩ := hR x (by omega) hx
    rcases r3 with ⟨s1, s2, s3, s4⟩ | ⟨s1, s2, s3, s4⟩
    · obtain ⟨e1, e2⟩ := hEnd (kd x).toNat (by omega)
      have es : 5 * ll.toNat + (kd x).toNat = sb pl ln kd x := by omega
      rw [es] at e1 e2
      refine ⟨by omega, fun r hr => ⟨?_, fun q => by omega⟩⟩
      have er : r = 0 := by omega
      subst er
      rw [Nat.add_zero, Nat.add_zero, e2, s3, show (5 * kd x + 4).toNat = 5 * (kd x).toNat + 4 by omega]
      omega
    · have hq := hMid (pl x + ln x).toNat (kd x).toNat (by omega) (by omega) (by omega)
      have es : 5 * (pl x + ln x).toNat + (kd x).toNat = sb pl ln kd x := by omega
      have hq2 := hq.2 (by rw [es]; exact hb)
      rw [es] at hq2
      have hy : ∀ y : Nat, fi (pl x + ln x).toNat ≤ (y : Int) → (y : Int) < fi ((pl x + ln x).toNat + 1) → ct (sb pl ln kd y) = rw y ∧ ∀ r : Nat, (r : Int) < rw y → ke (12 * sb pl ln kd y + r) / 8192 = rc (12 * y + r) - cs y := by
        intro y y1 y2
        obtain ⟨g1, g2⟩ := hG.in_ (p := (pl x + ln x).toNat) (by omega) y1 y2
        have g3 := hG.2.1 y g1
        have g4 := BFS.on hG hJ hBF g1 (k := (kd x).toNat) (by omega) (by rw [show (pl y).toNat * 5 + (kd x).toNat = sb pl ln kd x by omega]; exact hb)
        obtain ⟨i1, i2⟩ := AG hG hJ ⟨hBF, hEnd, hMid, hStart⟩ hR d y g1 (by omega) g4.2
        exact ⟨i1, fun r hr => (i2 r hr).1⟩
      rw [show (pl x + ln x + 1).toNat = (pl x + ln x).toNat + 1 by omega, show (5 * kd x) = 5 * (((kd x).toNat : Nat) : Int) by omega] at s3 s4
      have hc := TP.cast hq2 (fun v => CC.cm hy v)
      obtain ⟨t1, t2⟩ := hc.1.same hc.2 s3 s4
      refine ⟨t1, fun r hr => ?_⟩
      have t3 : ke (12 * sb pl ln kd x + r) = rf cs rc rn x r := t2 r (by omega)
      refine ⟨?_, fun _ => t3⟩
      have := s2 r hr
      rw [t3]
      unfold rf
      omega
theorem AG.at {ll cnt : Int} {pl ln kd cs fi jo bf ct ke rw rc rn : Nat → Int} (hG : GN ll cnt pl ln kd cs fi) (hJ : JB jo) (hK : KW ll cnt pl ln kd cs fi jo bf ct ke) (hR : RW ll cnt pl ln kd cs fi jo rw rc rn 0) {x : Nat} (hx : (x : Int) < cnt) (hb : bf (sb pl ln kd x) < 1000000) : ct (sb pl ln kd x) = rw x ∧ ∀ r : Nat, (r : Int) < rw x → ke (12 * sb pl ln kd x + r) / 8192 = rc (12 * x + r) - cs x ∧ (pl x + ln x < ll → ke (12 * sb pl ln kd x + r) = rf cs rc rn x r) := by
  have := hG.2.1 x hx
  have := hG.1
  exact AG hG hJ hK hR 100 x hx (by omega) hb
theorem AG.start {ll cnt : Int} {pl ln kd cs fi jo bf ct ke rw rc rn : Nat → Int} (hl : 1 ≤ ll) (hG : GN ll cnt pl ln kd cs fi) (hJ : JB jo) (hK : KW ll cnt pl ln kd cs fi jo bf ct ke) (hR : RW ll cnt pl ln kd cs fi jo rw rc rn 0) : TP (CM kd jo rw rc 20 (fi 0) (fi 1) 0) (ct 4) (kl ke 4) ∧ TF (CM kd jo rw rc 20 (fi 0) (fi 1) 0) (ct 4) (kl ke 4) := by
  obtain ⟨hBF, hEnd, hMid, hStart⟩ := id hK
  have hq2 := hStart.2 (by rw [show 5 * 0 + 4 = 4 from rfl, hBF.1]; decide)
  refine TP.cast hq2 (fun v => CC.cm (k := ((4 : Nat) : Int)) (fun y y1 y2 => ?_) v)
  obtain ⟨g1, g2⟩ := hG.in_ (p := 0) (by omega) y1 y2
  have g4 := BFS.on hG hJ hBF g1 (k := 4) (by omega) (by rw [show (pl y).toNat * 5 + 4 = 4 by omega, hBF.1]; decide)
  obtain ⟨i1, i2⟩ := AG.at hG hJ hK hR g1 g4.2
  exact ⟨i1, fun r hr => (i2 r hr).1⟩
-- the least cost before a piece's end
def AS (pl ln kd cs jo A : Nat → Int) (y b : Nat) (c : Int) : Prop := (pl y = 0 ∧ c = jo (20 + kd y).toNat + cs y) ∨ ∃ z : Nat, z < b ∧ pl z + ln z = pl y ∧ 0 ≤ A z ∧ c = A z + jo (5 * kd z + kd y).toNat + cs y
def AH (pl ln kd cs jo A : Nat → Int) (y b : Nat) : Prop := (A y < 0 ∧ ∀ c, ¬ AS pl ln kd cs jo A y b c) ∨ (0 ≤ A y ∧ AS pl ln kd cs jo A y b (A y) ∧ (∀ c, AS pl ln kd cs jo A y b c → A y ≤ c) ∧ A y ≤ 792 * (pl y + 1))
theorem LA {ll cnt hi : Int} {pl ln kd cs fi jo bf A : Nat → Int} (hG : GN ll cnt pl ln kd cs fi) (hJ : JB jo) (hB : BFS cnt pl ln kd cs jo bf) (hh : hi ≤ cnt) (hA : ∀ y : Nat, (y : Int) < hi → AH pl ln kd cs jo A y y) : ∀ y : Nat, (y : Int) < hi → (0 ≤ A y ↔ lu pl kd cs bf jo y < 1000000) ∧ (0 ≤ A y → lu pl kd cs bf jo y = A y) := by
  intro y
  induction y using Nat.strongRecOn with
  | _ y ih =>
    intro hy
    obtain ⟨b1, b2, b3, b4⟩ := hB
    have hg := hG.2.1 y (by omega)
    have hl := hG.1
    have hup : ∀ c, AS pl ln kd cs jo A y y c → lu pl kd cs bf jo y ≤ c := by
      intro c hc
      unfold lu
      rcases hc with ⟨c1, c2⟩ | ⟨z, c1, c2, c3, c4⟩
      · have h5 := (lum_le (bf := bf) (jo := jo) (p5 := pl y * 5) (k := kd y) 5).2 4 (by omega)
        rw [show (pl y * 5 + ((4 : Nat) : Int)).toNat = 4 by omega, b1, show (((4 : Nat) : Int) * 5 + kd y) = 20 + kd y by omega] at h5
        omega
      · have hz := hG.2.1 z (by omega)
        have hsz := hG.spot (y := z) (by omega)
        have i2 := (ih z c1 (by omega)).2 c3
        have b5 := b3 z (by omega)
        have h5 := (lum_le (bf := bf) (jo := jo) (p5 := pl y * 5) (k := kd y) 5).2 (kd z).toNat (by omega)
        rw [show (pl y * 5 + (((kd z).toNat : Nat) : Int)).toNat = sb pl ln kd z by omega, show ((((kd z).toNat : Nat) : Int) * 5 + kd y) = 5 * kd z + kd y by omega] at h5
        omega
    have hin : 1000000 ≤ lu pl kd cs bf jo y ∨ AS pl ln kd cs jo A y y (lu pl kd cs bf jo y) := by
      rcases lum_in (bf := bf) (jo := jo) (p5 := pl y * 5) (k := kd y) 5 with q | ⟨m, q1, q2⟩
      · left; unfold lu; omega
      · have hjm := hJ ((m : Int) * 5 + kd y).toNat (by omega)
        by_cases e4 : (pl y * 5 + (m : Int)).toNat = 4
        · right
          left
          refine ⟨by omega, ?_⟩
          rw [e4, b1] at q2
          unfold lu
          rw [q2, show ((m : Int) * 5 + kd y) = 20 + kd y by omega]
          omega
        · rcases b4 _ (by omega) e4 with q | ⟨z, z1, z2, z3⟩
          · left; unfold lu; omega
          · have hz := hG.2.1 z z1
            have hsz := hG.spot z1
            have hzy : z < y := by
              rcases Nat.lt_trichotomy z y with r | r | r
              · exact r
              · subst r; omega
              · have := hG.2.2.2.1 y z r z1; omega
            have iz := ih z hzy (by omega)
            by_cases e : 0 ≤ A z
            · right
              right
              refine ⟨z, hzy, by omega, e, ?_⟩
              have := iz.2 e
              unfold lu
              unfold lu at this z3
              rw [q2, z3, show ((m : Int) * 5 + kd y) = 5 * kd z + kd y by omega]
              omega
            · left
              have : ¬ lu pl kd cs bf jo z < 1000000 := fun w => e (iz.1.mpr w)
              unfold lu
              omega
    rcases hA y hy with ⟨a1, a2⟩ | ⟨a1, a2, a3, a4⟩
    · refine ⟨⟨fun q => by omega, fun q => ?_⟩, fun q => by omega⟩
      rcases hin with r | r
      · omega
      · exact absurd r (a2 _)
    · have u1 := hup _ a2
      have u2 : A y ≤ lu pl kd cs bf jo y := by
        rcases hin with r | r
        · omega
        · exact a3 _ r
      exact ⟨⟨fun _ => by omega, fun _ => a1⟩, fun _ => by omega⟩
theorem AS.cast {pl ln kd cs jo A A2 : Nat → Int} {y b : Nat} (e : ∀ z : Nat, z < b → A2 z = A z) (c : Int) : AS pl ln kd cs jo A y b c ↔ AS pl ln kd cs jo A2 y b c := by
  constructor
  · rintro (h | ⟨z, h1, h2, h3, h4⟩)
    · exact Or.inl h
    · exact Or.inr ⟨z, h1, h2, by rw [e z h1]; exact h3, by rw [e z h1]; exact h4⟩
  · rintro (h | ⟨z, h1, h2, h3, h4⟩)
    · exact Or.inl h
    · exact Or.inr ⟨z, h1, h2, by rw [← e z h1]; exact h3, by rw [← e z h1]; exact h4⟩
theorem AH.keep {pl ln kd cs jo A A2 : Nat → Int} {y b : Nat} (h : AH pl ln kd cs jo A y b) (e : ∀ z : Nat, z < b → A2 z = A z) (ey : A2 y = A y) : AH pl ln kd cs jo A2 y b := by
  rcases h with ⟨h1, h2⟩ | ⟨h1, h2, h3, h4⟩
  · exact Or.inl ⟨by omega, fun c hc => h2 c ((AS.cast e c).mpr hc)⟩
  · exact Or.inr ⟨by omega, by rw [ey]; exact (AS.cast e _).mp h2, fun c hc => by rw [ey]; exact h3 c ((AS.cast e c).mpr hc), by omega⟩
theorem AH.zero {pl ln kd cs jo A : Nat → Int} {y : Nat} (h1 : pl y = 0 → A y = jo (20 + kd y).toNat + cs y) (h2 : pl y ≠ 0 → A y = -6) (hp : 0 ≤ pl y) (hj : 0 ≤ jo (20 + kd y).toNat ∧ jo (20 + kd y).toNat ≤ 99) (hc : 0 ≤ cs y ∧ cs y ≤ 693) : AH pl ln kd cs jo A y 0 := by
  by_cases e : pl y = 0
  · have := h1 e
    refine Or.inr ⟨by omega, Or.inl ⟨e, this⟩, fun c hcc => ?_, by omega⟩
    rcases hcc with ⟨-, q⟩ | ⟨z, z1, -⟩
    · omega
    · omega
  · have := h2 e
    refine Or.inl ⟨by omega, fun c hcc => ?_⟩
    rcases hcc with ⟨q, -⟩ | ⟨z, z1, -⟩
    · exact e q
    · omega
theorem AH.skip {pl ln kd cs jo A : Nat → Int} {y s : Nat} (h : AH pl ln kd cs jo A y s) (hn : ¬ (pl s + ln s = pl y ∧ 0 ≤ A s)) : AH pl ln kd cs jo A y (s + 1) := by
  have e : ∀ c, AS pl ln kd cs jo A y (s + 1) c ↔ AS pl ln kd cs jo A y s c := by
    intro c
    constructor
    · rintro (q | ⟨z, z1, z2, z3, z4⟩)
      · exact Or.inl q
      · by_cases ez : z = s
        · subst ez; exact absurd ⟨z2, z3⟩ hn
        · exact Or.inr ⟨z, by omega, z2, z3, z4⟩
    · rintro (q | ⟨z, z1, z2, z3, z4⟩)
      · exact Or.inl q
      · exact Or.inr ⟨z, by omega, z2, z3, z4⟩
  rcases h with ⟨h1, h2⟩ | ⟨h1, h2, h3, h4⟩
  · exact Or.inl ⟨h1, fun c hc => h2 c ((e c).mp hc)⟩
  · exact Or.inr ⟨h1, (e _).mpr h2, fun c hc => h3 c ((e c).mp hc), h4⟩
theorem AH.take {pl ln kd cs jo A : Nat → Int} {y s : Nat} {c v : Int} (h : AH pl ln kd cs jo A y s) (hs : s < y) (he : pl s + ln s = pl y) (h0 : 0 ≤ A s) (hb : A s ≤ 792 * (pl s + 1)) (hl : 1 ≤ ln s) (hp : 0 ≤ pl y) (hj : 0 ≤ jo (5 * kd s + kd y).toNat ∧ jo (5 * kd s + kd y).toNat ≤ 99) (hc : 0 ≤ cs y ∧ cs y ≤ 693) (ec : c = A s + jo (5 * kd s + kd y).toNat + cs y) (hv : ((A y < 0 ∨ c < A y) ∧ v = c) ∨ (¬ (A y < 0 ∨ c < A y) ∧ v = A y)) : AH pl ln kd cs jo (zup A y v) y (s + 1) := by
  have e : ∀ w, AS pl ln kd cs jo (zup A y v) y (s + 1) w ↔ AS pl ln kd cs jo A y s w ∨ w = c := by
    intro w
    rw [← AS.cast (A := A) (A2 := zup A y v) (fun z hz => zup_ne (by omega))]
    constructor
    · rintro (q | ⟨z, z1, z2, z3, z4⟩)
      · exact Or.inl (Or.inl q)
      · by_cases ez : z = s
        · subst ez; exact Or.inr (by omega)
        · exact Or.inl (Or.inr ⟨z, by omega, z2, z3, z4⟩)
    · rintro ((q | ⟨z, z1, z2, z3, z4⟩) | q)
      · exact Or.inl q
      · exact Or.inr ⟨z, by omega, z2, z3, z4⟩
      · exact Or.inr ⟨s, by omega, he, h0, by omega⟩
  have ez : zup A y v y = v := zup_eq
  rcases h with ⟨h1, h2⟩ | ⟨h1, h2, h3, h4⟩
  · refine Or.inr ⟨by omega, (e _).mpr (Or.inr (by omega)), fun w hw => ?_, by omega⟩
    rcases (e w).mp hw with q | q
    · exact absurd q (h2 w)
    · omega
  · refine Or.inr ⟨by omega, (e _).mpr ?_, fun w hw => ?_, by omega⟩
    · rw [ez]
      rcases hv with ⟨-, q⟩ | ⟨-, q⟩
      · exact Or.inr q
      · rw [q]; exact Or.inl h2
    · rcases (e w).mp hw with q | q
      · have := h3 w q; omega
      · omega
-- the rows of a cutting
def wk (N : Int → Int) (c : Int) : Nat → Int
  | 0 => c
  | j + 1 => N (wk N c j)
def PA (N : Int → Int) (c : Int) (n : Nat) : Prop := (∀ j : Nat, j < n → 0 ≤ wk N c j) ∧ wk N c n < 0
def nC (ll : Int) (pl ln kd ke : Nat → Int) (c : Int) : Int := if pl (c / 16).toNat + ln (c / 16).toNat < ll then ke (12 * sb pl ln kd (c / 16).toNat + (c % 16).toNat) % 8192 else -6
def nM (rn : Nat → Int) (c : Int) : Int := rn (12 * (c / 16) + c % 16).toNat
def VC (cnt : Int) (pl ln kd bf rw : Nat → Int) (c : Int) : Prop := 0 ≤ c ∧ c / 16 < cnt ∧ bf (sb pl ln kd (c / 16).toNat) < 1000000 ∧ c % 16 < rw (c / 16).toNat
theorem CM.vc {ll cnt : Int} {pl ln kd cs fi jo bf rw rc : Nat → Int} {q k : Nat} {k5 v : Int} (hG : GN ll cnt pl ln kd cs fi) (hJ : JB jo) (hB : BFS cnt pl ln kd cs jo bf) (hr : ∀ x : Nat, (x : Int) < cnt → rw x ≤ 12) (hq : (q : Int) < ll) (hk : k ≤ 4) (hb : bf (q * 5 + k) < 1000000) (h : CM kd jo rw rc k5 (fi q) (fi (q + 1)) 0 v) : VC cnt pl ln kd bf rw (v % 8192) := by
  obtain ⟨i, s, h1, h2, h3, h4⟩ := h
  obtain ⟨g1, g2⟩ := hG.in_ (p := q) hq h1 (by omega)
  have := hr i g1
  have hc := hG.1
  have e1 : v % 8192 = 16 * i + s := by omega
  have e2 : ((16 * (i : Int) + s) / 16).toNat = i := by omega
  have g4 := BFS.on hG hJ hB g1 (k := k) hk (by rw [show (pl i).toNat = q by omega]; exact hb)
  refine ⟨by omega, by omega, ?_, ?_⟩
  · rw [e1, e2]; exact g4.2
  · rw [e1, e2]; omega
theorem nx_same {ll cnt : Int} {pl ln kd cs fi jo bf ct ke rw rc rn : Nat → Int} (hG : GN ll cnt pl ln kd cs fi) (hJ : JB jo) (hK : KW ll cnt pl ln kd cs fi jo bf ct ke) (hR : RW ll cnt pl ln kd cs fi jo rw rc rn 0) {c : Int} (hv : VC cnt pl ln kd bf rw c) : nC ll pl ln kd ke c = nM rn c ∧ (0 ≤ nM rn c → VC cnt pl ln kd bf rw (nM rn c)) := by
  obtain ⟨v1, v2, v3, v4⟩ := hv
  have hx : (((c / 16).toNat : Nat) : Int) < cnt := by omega
  have hg := hG.2.1 _ hx
  have hsp := hG.spot hx
  obtain ⟨a1, a2⟩ := AG.at hG hJ hK hR hx v3
  obtain ⟨r1, r2, r3⟩ := hR _ (by omega) hx
  obtain ⟨b1, b2⟩ := a2 (c % 16).toNat (by omega)
  have e1 : (12 * (c / 16) + c % 16).toNat = 12 * (c / 16).toNat + (c % 16).toNat := by omega
  unfold nC nM
  rw [e1]
  rcases r3 with ⟨s1, s2, s3, s4⟩ | ⟨s1, s2, s3, s4⟩
  · rw [if_neg (by omega), show (c % 16).toNat = 0 by omega, Nat.add_zero, s4]
    exact ⟨rfl, fun q => by omega⟩
  · have s5 := s2 (c % 16).toNat (by omega)
    have b3 := b2 s1
    rw [if_pos s1, b3]
    have e2 : rf cs rc rn (c / 16).toNat (c % 16).toNat % 8192 = rn (12 * (c / 16).toNat + (c % 16).toNat) := by unfold rf; omega
    rw [e2]
    refine ⟨rfl, fun _ => ?_⟩
    rw [show (pl (c / 16).toNat + ln (c / 16).toNat + 1).toNat = (pl (c / 16).toNat + ln (c / 16).toNat).toNat + 1 by omega] at s3
    have := CM.vc (q := (pl (c / 16).toNat + ln (c / 16).toNat).toNat) (k := (kd (c / 16).toNat).toNat) hG hJ hK.1 (fun x hx => (hR x (by omega) hx).1.2) (by omega) (by omega) (by rw [show (pl (c / 16).toNat + ln (c / 16).toNat).toNat * 5 + (kd (c / 16).toNat).toNat = sb pl ln kd (c / 16).toNat by omega]; exact v3) (s3.2.2.1 (c % 16).toNat (by omega))
    rw [e2] at this
    exact this
theorem wk_same {ll cnt : Int} {pl ln kd cs fi jo bf ct ke rw rc rn : Nat → Int} (hG : GN ll cnt pl ln kd cs fi) (hJ : JB jo) (hK : KW ll cnt pl ln kd cs fi jo bf ct ke) (hR : RW ll cnt pl ln kd cs fi jo rw rc rn 0) {c : Int} (hv : VC cnt pl ln kd bf rw c) : ∀ j : Nat, (∀ i : Nat, i < j → 0 ≤ wk (nC ll pl ln kd ke) c i) → wk (nC ll pl ln kd ke) c j = wk (nM rn) c j ∧ (0 ≤ wk (nM rn) c j → VC cnt pl ln kd bf rw (wk (nM rn) c j))
  | 0, _ => ⟨rfl, fun _ => hv⟩
  | j + 1, h => by
    obtain ⟨i1, i2⟩ := wk_same hG hJ hK hR hv j (fun i hi => h i (by omega))
    have h0 := h j (by omega)
    have hx := nx_same hG hJ hK hR (i2 (by omega))
    show nC ll pl ln kd ke (wk (nC ll pl ln kd ke) c j) = nM rn (wk (nM rn) c j) ∧ (0 ≤ nM rn (wk (nM rn) c j) → VC cnt pl ln kd bf rw (nM rn (wk (nM rn) c j)))
    rw [i1]
    exact hx
theorem PA.same {ll cnt : Int} {pl ln kd cs fi jo bf ct ke rw rc rn : Nat → Int} (hG : GN ll cnt pl ln kd cs fi) (hJ : JB jo) (hK : KW ll cnt pl ln kd cs fi jo bf ct ke) (hR : RW ll cnt pl ln kd cs fi jo rw rc rn 0) {c : Int} (hv : VC cnt pl ln kd bf rw c) {n m : Nat} (h : PA (nC ll pl ln kd ke) c n) (g : PA (nM rn) c m) : n = m ∧ ∀ j : Nat, j ≤ n → wk (nC ll pl ln kd ke) c j = wk (nM rn) c j := by
  have hs := wk_same hG hJ hK hR hv
  have he : ∀ j : Nat, j ≤ n → wk (nC ll pl ln kd ke) c j = wk (nM rn) c j := fun j hj => (hs j (fun i hi => h.1 i (by omega))).1
  refine ⟨?_, he⟩
  rcases Nat.lt_trichotomy n m with q | q | q
  · have a := g.1 n q
    have b := h.2
    rw [he n (Nat.le_refl _)] at b
    omega
  · exact q
  · have a := h.1 m q
    rw [he m (by omega)] at a
    have := g.2
    omega
/-- one step along a cutting, by the class's lists -/
theorem KW.go {ll cnt : Int} {pl ln kd cs fi jo bf ct ke : Nat → Int} (hG : GN ll cnt pl ln kd cs fi) (hJ : JB jo) (hc : CB ct) (hK : KW ll cnt pl ln kd cs fi jo bf ct ke) {q k r : Nat} (hq : (q : Int) < ll) (hv : (1 ≤ q ∧ k < 4) ∨ (q = 0 ∧ k = 4)) (hb : bf (5 * q + k) < 1000000) (hr : (r : Int) < ct (5 * q + k)) : ∃ y s : Nat, (y : Int) < cnt ∧ pl y = q ∧ s < 12 ∧ ke (12 * (5 * q + k) + r) % 8192 = 16 * y + s ∧ bf (sb pl ln kd y) < 1000000 ∧ (s : Int) < ct (sb pl ln kd y) := by
  obtain ⟨hBF, hEnd, hMid, hStart⟩ := id hK
  have hRS : RS1 pl ln kd cs fi jo bf ct ke q k := by
    rcases hv with ⟨v1, v2⟩ | ⟨rfl, rfl⟩
    · exact hMid q k v1 hq v2
    · exact hStart
  obtain ⟨y, y1, y2, s, s1, s2⟩ := (hRS.2 hb).1.2.2.1 r hr
  obtain ⟨g1, g2⟩ := hG.in_ hq y1 y2
  have g3 := hG.spot g1
  have g5 := hG.1
  have g6 := hc _ g3.2
  have g4 := BFS.on hG hJ hBF g1 (k := k) (by omega) (by rw [show (pl y).toNat * 5 + k = 5 * q + k by omega]; exact hb)
  have hm := wy_m (c := jo ((k : Int) * 5 + kd y).toNat + cs y) (p := y) (ke := ke) (b := sb pl ln kd y) (r := s) (by omega) (by omega)
  have s3 : ke (12 * (5 * q + k) + r) = wy (jo ((k : Int) * 5 + kd y).toNat + cs y) y ke (sb pl ln kd y) s := s2
  exact ⟨y, s, g1, g2, by omega, by rw [s3]; omega, g4.2, s1⟩
-- what is written
def oW (ln kd cd : Nat → Int) : Nat → Int
  | 0 => 0
  | j + 1 => oW ln kd cd j + ln (cd j / 16).toNat + (if kd (cd j / 16).toNat = 3 then 1 else 0) + 1
def sgv (li pl ln kd : Nat → Int) (y : Nat) (k : Int) : Int := if k < ln y then li (pl y + k).toNat else if k = ln y ∧ kd y = 3 then 63 else 124
def SG (li pl ln kd cd : Nat → Int) (n : Nat) (q v : Int) : Prop := ∃ j : Nat, j < n ∧ oW ln kd cd j ≤ q ∧ q < oW ln kd cd (j + 1) ∧ (j + 1 = n → q + 1 < oW ln kd cd (j + 1)) ∧ v = sgv li pl ln kd (cd j / 16).toNat (q - oW ln kd cd j)
theorem oW_cast {ln kd cd ln2 kd2 cd2 : Nat → Int} : ∀ n : Nat, (∀ j : Nat, j < n → cd j = cd2 j ∧ ln (cd j / 16).toNat = ln2 (cd j / 16).toNat ∧ kd (cd j / 16).toNat = kd2 (cd j / 16).toNat) → oW ln kd cd n = oW ln2 kd2 cd2 n
  | 0, _ => rfl
  | n + 1, h => by
    obtain ⟨h1, h2, h3⟩ := h n (by omega)
    show oW ln kd cd n + ln (cd n / 16).toNat + (if kd (cd n / 16).toNat = 3 then 1 else 0) + 1 = oW ln2 kd2 cd2 n + ln2 (cd2 n / 16).toNat + (if kd2 (cd2 n / 16).toNat = 3 then 1 else 0) + 1
    rw [oW_cast n (fun j hj => h j (by omega)), h2, h3, h1]
theorem oW_up {ln kd cd : Nat → Int} {a : Nat} : ∀ n : Nat, a ≤ n → (∀ j : Nat, j < n → 1 ≤ ln (cd j / 16).toNat) → oW ln kd cd a + (n - a : Nat) ≤ oW ln kd cd n
  | 0, h, _ => by rw [show a = 0 by omega]; exact Int.le_refl _
  | n + 1, h, hl => by
    by_cases e : a = n + 1
    · rw [e]; show _ + ((n + 1 - (n + 1) : Nat) : Int) ≤ _; omega
    · have := oW_up (ln := ln) (kd := kd) (cd := cd) (a := a) n (by omega) (fun j hj => hl j (by omega))
      have h2 := hl n (by omega)
      show _ ≤ oW ln kd cd n + ln (cd n / 16).toNat + (if kd (cd n / 16).toNat = 3 then 1 else 0) + 1
      split <;> omega
theorem SG.same {li pl ln kd cd li2 pl2 ln2 kd2 cd2 : Nat → Int} {n : Nat} {q v v2 : Int} (h : SG li pl ln kd cd n q v) (g : SG li2 pl2 ln2 kd2 cd2 n q v2) (e : ∀ j : Nat, j < n → cd j = cd2 j ∧ ln (cd j / 16).toNat = ln2 (cd j / 16).toNat ∧ kd (cd j / 16).toNat = kd2 (cd j / 16).toNat ∧ pl (cd j / 16).toNat = pl2 (cd j / 16).toNat ∧ 1 ≤ ln (cd j / 16).toNat ∧ ∀ k : Int, 0 ≤ k → k < ln (cd j / 16).toNat → li (pl (cd j / 16).toNat + k).toNat = li2 (pl (cd j / 16).toNat + k).toNat) : v = v2 := by
  obtain ⟨j, h1, h2, h3, h4, h5⟩ := h
  obtain ⟨i, g1, g2, g3, g4, g5⟩ := g
  have ho : ∀ m : Nat, m ≤ n → oW ln kd cd m = oW ln2 kd2 cd2 m := fun m hm => oW_cast m (fun j hj => ⟨(e j (by omega)).1, (e j (by omega)).2.1, (e j (by omega)).2.2.1⟩)
  rw [← ho i (by omega)] at g2
  rw [← ho (i + 1) (by omega)] at g3
  have hl : ∀ j : Nat, j < n → 1 ≤ ln (cd j / 16).toNat := fun j hj => (e j hj).2.2.2.2.1
  have hij : i = j := by
    rcases Nat.lt_trichotomy i j with q | q | q
    · have := oW_up (ln := ln) (kd := kd) (cd := cd) (a := i + 1) j q (fun k hk => hl k (by omega))
      omega
    · exact q
    · have := oW_up (ln := ln) (kd := kd) (cd := cd) (a := j + 1) i q (fun k hk => hl k (by omega))
      omega
  subst hij
  obtain ⟨e1, e2, e3, e4, e5, e6⟩ := e i h1
  rw [← e1, ← ho i (by omega)] at g5
  rw [h5, g5]
  unfold sgv
  rw [← e2, ← e3, ← e4]
  by_cases q1 : q - oW ln kd cd i < ln (cd i / 16).toNat
  · rw [if_pos q1, if_pos q1]; exact e6 _ (by omega) q1
  · rw [if_neg q1, if_neg q1]
-- how many ways
def sm (f : Nat → Int) : Nat → Int
  | 0 => 0
  | n + 1 => sm f n + f n
theorem sm_eq {f g : Nat → Int} : ∀ n : Nat, (∀ i : Nat, i < n → f i = g i) → sm f n = sm g n
  | 0, _ => rfl
  | n + 1, h => by
    show sm f n + f n = sm g n + g n
    rw [sm_eq n (fun i hi => h i (by omega)), h n (by omega)]
theorem sm_add {f g : Nat → Int} : ∀ n : Nat, sm (fun i => f i + g i) n = sm f n + sm g n
  | 0 => rfl
  | n + 1 => by
    show sm (fun i => f i + g i) n + (f n + g n) = sm f n + f n + (sm g n + g n)
    rw [sm_add n]; omega
theorem sm_mul {f : Nat → Int} {c : Int} : ∀ n : Nat, c * sm f n = sm (fun i => c * f i) n
  | 0 => Int.mul_zero c
  | n + 1 => by
    show c * (sm f n + f n) = sm (fun i => c * f i) n + c * f n
    rw [Int.mul_add, sm_mul n]
theorem sm_zero {f : Nat → Int} : ∀ n : Nat, (∀ i : Nat, i < n → f i = 0) → sm f n = 0
  | 0, _ => rfl
  | n + 1, h => by
    show sm f n + f n = 0
    rw [sm_zero n (fun i hi => h i (by omega)), h n (by omega)]; rfl
theorem sm_one {f g : Nat → Int} {s : Nat} {d : Int} : ∀ n : Nat, s < n → (∀ i : Nat, i < n → i ≠ s → f i = g i) → f s = g s + d → sm f n = sm g n + d
  | 0, h, _, _ => by omega
  | n + 1, h, h1, h2 => by
    show sm f n + f n = sm g n + g n + d
    by_cases e : s = n
    · subst e
      rw [sm_eq s (fun i hi => h1 i (by omega) (by omega)), h2]; omega
    · rw [sm_one n (by omega) (fun i hi hn => h1 i (by omega) hn) h2, h1 n (by omega) (by omega)]; omega
theorem sm_pick {g : Nat → Int} {p : Nat} (n : Nat) (h : p < n) : sm (fun i => if p = i then g i else 0) n = g p := by
  have := sm_one (f := fun i => if p = i then g i else 0) (g := fun _ => 0) (s := p) (d := g p) n h (fun i _ hn => if_neg (fun q => hn q.symm)) (by show (if p = p then g p else 0) = _; rw [if_pos rfl]; omega)
  rw [this, sm_zero n (fun _ _ => rfl)]; omega
theorem sm_swap {F : Nat → Nat → Int} {n : Nat} : ∀ m : Nat, sm (fun p => sm (fun i => F p i) n) m = sm (fun i => sm (fun p => F p i) m) n
  | 0 => (sm_zero n (fun _ _ => rfl)).symm
  | m + 1 => by
    show sm (fun p => sm (fun i => F p i) n) m + sm (fun i => F m i) n = sm (fun i => sm (fun p => F p i) m + F m i) n
    rw [sm_add, sm_swap m]
theorem sm_head {f : Nat → Int} : ∀ n : Nat, sm f (n + 1) = f 0 + sm (fun i => f (i + 1)) n
  | 0 => by show 0 + f 0 = f 0 + 0; omega
  | n + 1 => by
    show sm f (n + 1) + f (n + 1) = f 0 + (sm (fun i => f (i + 1)) n + f (n + 1))
    rw [sm_head n]; omega
def cg (a b : Int) : Prop := (1000003 : Int) ∣ a - b
theorem cg_mul {a b : Int} (h : cg a b) (c : Int) : cg (c * a) (c * b) := by
  obtain ⟨k, hk⟩ := h
  exact ⟨c * k, by rw [← Int.mul_sub, hk, Int.mul_left_comm]⟩
theorem cg_sm {f g : Nat → Int} : ∀ n : Nat, (∀ i : Nat, i < n → cg (f i) (g i)) → cg (sm f n) (sm g n)
  | 0, _ => ⟨0, rfl⟩
  | n + 1, h => by
    obtain ⟨a, ha⟩ := cg_sm n (fun i hi => h i (by omega))
    obtain ⟨b, hb⟩ := h n (by omega)
    refine ⟨a + b, ?_⟩
    show sm f n + f n - (sm g n + g n) = _
    omega
/-- ways from the first letter on -/
def WX (ll cnt : Int) (pl ln X : Nat → Int) : Prop := ∀ q : Nat, (q : Int) ≤ ll → cg (X q) ((if q = 0 then 1 else 0) + sm (fun i => if pl i + ln i = q then X (pl i).toNat else 0) cnt.toNat)
/-- ways to the last -/
def WY (ll cnt : Int) (pl ln Y : Nat → Int) : Prop := Y ll.toNat = 1 ∧ ∀ q : Nat, (q : Int) < ll → cg (Y q) (sm (fun i => if pl i = q then Y (pl i + ln i).toNat else 0) cnt.toNat)
theorem ways_same {ll cnt : Int} {pl ln X Y : Nat → Int} (hl : 0 ≤ ll) (hp : ∀ i : Nat, (i : Int) < cnt → 0 ≤ pl i ∧ 1 ≤ ln i ∧ pl i + ln i ≤ ll) (hX : WX ll cnt pl ln X) (hY : WY ll cnt pl ln Y) (x1 : 0 ≤ X ll.toNat ∧ X ll.toNat < 1000003) (y1 : 0 ≤ Y 0 ∧ Y 0 < 1000003) : X ll.toNat = Y 0 := by
  obtain ⟨hY1, hY2⟩ := hY
  have hB : cg (sm (fun q => X q * Y q) ll.toNat) (sm (fun i => X (pl i).toNat * Y (pl i + ln i).toNat) cnt.toNat) := by
    have h1 := cg_sm (f := fun q => X q * Y q) (g := fun q => X q * sm (fun i => if pl i = q then Y (pl i + ln i).toNat else 0) cnt.toNat) ll.toNat (fun q hq => cg_mul (hY2 q (by omega)) _)
    have h2 : sm (fun q => X q * sm (fun i => if pl i = (q : Int) then Y (pl i + ln i).toNat else 0) cnt.toNat) ll.toNat = sm (fun i => X (pl i).toNat * Y (pl i + ln i).toNat) cnt.toNat := by
      rw [sm_eq (g := fun q => sm (fun i => X q * (if pl i = (q : Int) then Y (pl i + ln i).toNat else 0)) cnt.toNat) ll.toNat (fun q hq => sm_mul _), sm_swap]
      refine sm_eq _ (fun i hi => ?_)
      have hi2 := hp i (by omega)
      rw [sm_eq (g := fun q => if (pl i).toNat = q then X q * Y (pl i + ln i).toNat else 0) ll.toNat (fun q hq => ?_), sm_pick ll.toNat (by omega)]
      by_cases e : pl i = (q : Int)
      · rw [if_pos e, if_pos (by omega)]
      · rw [if_neg e, if_neg (by omega), Int.mul_zero]
    rw [h2] at h1
    exact h1
  have hF : cg (sm (fun q => Y (q + 1) * X (q + 1)) ll.toNat) (sm (fun i => X (pl i).toNat * Y (pl i + ln i).toNat) cnt.toNat) := by
    have h1 := cg_sm (f := fun q => Y (q + 1) * X (q + 1)) (g := fun q => Y (q + 1) * ((if q + 1 = 0 then 1 else 0) + sm (fun i => if pl i + ln i = ((q + 1 : Nat) : Int) then X (pl i).toNat else 0) cnt.toNat)) ll.toNat (fun q hq => cg_mul (hX (q + 1) (by omega)) _)
    have h2 : sm (fun q => Y (q + 1) * ((if q + 1 = 0 then 1 else 0) + sm (fun i => if pl i + ln i = ((q + 1 : Nat) : Int) then X (pl i).toNat else 0) cnt.toNat)) ll.toNat = sm (fun i => X (pl i).toNat * Y (pl i + ln i).toNat) cnt.toNat := by
      rw [sm_eq (g := fun q => sm (fun i => Y (q + 1) * (if pl i + ln i = ((q + 1 : Nat) : Int) then X (pl i).toNat else 0)) cnt.toNat) ll.toNat (fun q hq => by rw [if_neg (by omega), Int.zero_add]; exact sm_mul _), sm_swap]
      refine sm_eq _ (fun i hi => ?_)
      have hi2 := hp i (by omega)
      rw [sm_eq (g := fun q => if (pl i + ln i - 1).toNat = q then Y (q + 1) * X (pl i).toNat else 0) ll.toNat (fun q hq => ?_), sm_pick ll.toNat (by omega), show (pl i + ln i - 1).toNat + 1 = (pl i + ln i).toNat by omega, Int.mul_comm]
      by_cases e : pl i + ln i = ((q + 1 : Nat) : Int)
      · rw [if_pos e, if_pos (by omega)]
      · rw [if_neg e, if_neg (by omega), Int.mul_zero]
    rw [h2] at h1
    exact h1
  have hX0 : cg (X 0) 1 := by
    have := hX 0 (by omega)
    rw [sm_zero cnt.toNat (fun i hi => if_neg (by have := hp i (by omega); omega)), if_pos rfl] at this
    exact this
  have hs : sm (fun q => X q * Y q) (ll.toNat + 1) = X 0 * Y 0 + sm (fun q => Y (q + 1) * X (q + 1)) ll.toNat := by
    rw [sm_head]
    congr 1
    exact sm_eq _ (fun q _ => Int.mul_comm _ _)
  have hs2 : sm (fun q => X q * Y q) (ll.toNat + 1) = sm (fun q => X q * Y q) ll.toNat + X ll.toNat := by
    show sm (fun q => X q * Y q) ll.toNat + X ll.toNat * Y ll.toNat = _
    rw [hY1, Int.mul_one]
  have h0 := cg_mul hX0 (Y 0)
  rw [Int.mul_comm (Y 0) (X 0), Int.mul_one] at h0
  obtain ⟨a, ha⟩ := hB
  obtain ⟨b, hb⟩ := hF
  obtain ⟨c, hc⟩ := h0
  have : X ll.toNat - Y 0 = 1000003 * (c + b - a) := by omega
  omega
theorem zup_same {g : Nat → Int} {k : Nat} {v : Int} (h : v = g k) : zup g k v = g := by
  funext j
  by_cases e : j = k
  · rw [e, zup_eq, h]
  · exact zup_ne e
theorem cg_of {a b c : Int} (h : cg a b) (e : c = (a + 0) % 1000003 ∨ c = a) : cg c b := by
  obtain ⟨k, hk⟩ := h
  rcases e with e | e
  · exact ⟨k - a / 1000003, by omega⟩
  · exact ⟨k, by omega⟩
theorem cg_add {a b d : Int} (h : cg a b) : cg ((a + d) % 1000003) (b + d) := by
  obtain ⟨k, hk⟩ := h
  exact ⟨k - (a + d) / 1000003, by omega⟩
def WYs (ll cnt s : Int) (pl ln Y : Nat → Int) : Prop := (∀ q : Nat, (q : Int) ≤ ll → 0 ≤ Y q ∧ Y q < 1000003) ∧ Y ll.toNat = 1 ∧ ∀ q : Nat, (q : Int) < ll → cg (Y q) (sm (fun i => if s < (i : Int) ∧ pl i = q then Y (pl i + ln i).toNat else 0) cnt.toNat)
theorem WYs.zero {ll cnt : Int} {pl ln Y : Nat → Int} (h : ∀ j : Nat, (j : Int) < ll → Y j = 0) (hl : 0 ≤ ll) : WYs ll cnt (cnt - 1) pl ln (zup Y ll.toNat 1) := by
  refine ⟨fun q hq => ?_, zup_eq, fun q hq => ?_⟩
  · by_cases e : q = ll.toNat
    · rw [e, zup_eq]; omega
    · rw [zup_ne e, h q (by omega)]; omega
  · rw [zup_ne (by omega), h q hq, sm_zero _ (fun i hi => if_neg (by omega))]
    exact ⟨0, rfl⟩
theorem WYs.step {ll cnt s : Int} {pl ln kd cs fi Y : Nat → Int} (hG : GN ll cnt pl ln kd cs fi) (h : WYs ll cnt s pl ln Y) (h0 : 0 ≤ s) (h1 : s < cnt) {v : Int} (hv : v = (Y (pl s.toNat).toNat + Y (pl s.toNat + ln s.toNat).toNat) % 1000003) : WYs ll cnt (s + -1) pl ln (zup Y (pl s.toNat).toNat v) := by
  obtain ⟨a1, a2, a3⟩ := h
  have hs := hG.at h0 h1
  have hl := hG.1
  have hend : ∀ i : Nat, s ≤ (i : Int) → (i : Int) < cnt → zup Y (pl s.toNat).toNat v (pl i + ln i).toNat = Y (pl i + ln i).toNat := by
    intro i i1 i2
    have hi := hG.2.1 i i2
    have hp : pl s.toNat ≤ pl i := by
      by_cases e : i = s.toNat
      · rw [e]; exact Int.le_refl _
      · exact hG.2.2.2.1 s.toNat i (by omega) i2
    exact zup_ne (by omega)
  refine ⟨fun q hq => ?_, by rw [zup_ne (by omega)]; exact a2, fun q hq => ?_⟩
  · by_cases e : q = (pl s.toNat).toNat
    · rw [e, zup_eq]; omega
    · rw [zup_ne e]; exact a1 q hq
  · by_cases e : q = (pl s.toNat).toNat
    · have hsum : sm (fun i => if s + -1 < (i : Int) ∧ pl i = q then zup Y (pl s.toNat).toNat v (pl i + ln i).toNat else 0) cnt.toNat = sm (fun i => if s < (i : Int) ∧ pl i = q then Y (pl i + ln i).toNat else 0) cnt.toNat + Y (pl s.toNat + ln s.toNat).toNat := by
        refine sm_one (s := s.toNat) cnt.toNat (by omega) (fun i hi hn => ?_) ?_
        · by_cases c : s < (i : Int) ∧ pl i = q
          · rw [if_pos c, if_pos (by omega), hend i (by omega) (by omega)]
          · rw [if_neg c, if_neg (by omega)]
        · rw [if_pos (by omega), if_neg (by omega), hend s.toNat (by omega) (by omega)]
          omega
      rw [hsum, e, zup_eq, hv]
      have := a3 q hq
      rw [e] at this
      exact cg_add this
    · rw [zup_ne e]
      have hsum : sm (fun i => if s + -1 < (i : Int) ∧ pl i = q then zup Y (pl s.toNat).toNat v (pl i + ln i).toNat else 0) cnt.toNat = sm (fun i => if s < (i : Int) ∧ pl i = q then Y (pl i + ln i).toNat else 0) cnt.toNat := by
        refine sm_eq cnt.toNat (fun i hi => ?_)
        by_cases c : s < (i : Int) ∧ pl i = q
        · rw [if_pos c, if_pos (by omega), hend i (by omega) (by omega)]
        · rw [if_neg c, if_neg ?_]
          rintro ⟨c1, c2⟩
          have : i = s.toNat := by omega
          subst this
          omega
      rw [hsum]
      exact a3 q hq
theorem WYs.done {ll cnt s : Int} {pl ln Y : Nat → Int} (h : WYs ll cnt s pl ln Y) (hs : s < 0) (hl : 0 ≤ ll) : WY ll cnt pl ln Y ∧ 0 ≤ Y 0 ∧ Y 0 < 1000003 := by
  obtain ⟨a1, a2, a3⟩ := h
  refine ⟨⟨a2, fun q hq => ?_⟩, a1 0 (by omega)⟩
  have := a3 q hq
  rw [sm_eq (g := fun i => if pl i = (q : Int) then Y (pl i + ln i).toNat else 0) cnt.toNat (fun i hi => ?_)] at this
  · exact this
  · by_cases c : pl i = (q : Int)
    · rw [if_pos c, if_pos ⟨by omega, c⟩]
    · rw [if_neg c, if_neg (fun z => c z.2)]
def WXs (cnt t : Int) (pl ln X : Nat → Int) : Prop := ∀ q : Nat, (q : Int) < t → (0 ≤ X q ∧ X q < 1000003) ∧ cg (X q) ((if q = 0 then 1 else 0) + sm (fun i => if pl i + ln i = q then X (pl i).toNat else 0) cnt.toNat)
def WXi (t x : Int) (pl ln X : Nat → Int) : Prop := (0 ≤ X t.toNat ∧ X t.toNat < 1000003) ∧ cg (X t.toNat) ((if t.toNat = 0 then 1 else 0) + sm (fun i => if pl i + ln i = t then X (pl i).toNat else 0) x.toNat)
theorem WXs.keep {cnt t v : Int} {pl ln X : Nat → Int} (h : WXs cnt t pl ln X) (hp : ∀ i : Nat, (i : Int) < cnt → 0 ≤ pl i ∧ 1 ≤ ln i) : WXs cnt t pl ln (zup X t.toNat v) := by
  intro q hq
  obtain ⟨a, b⟩ := h q hq
  rw [zup_ne (by omega)]
  refine ⟨a, ?_⟩
  rw [sm_eq (g := fun i => if pl i + ln i = (q : Int) then X (pl i).toNat else 0) cnt.toNat (fun i hi => ?_)]
  · exact b
  · by_cases c : pl i + ln i = (q : Int)
    · have := hp i (by omega)
      rw [if_pos c, if_pos c, zup_ne (by omega)]
    · rw [if_neg c, if_neg c]
theorem WXi.zero {t v : Int} {pl ln X : Nat → Int} (h0 : 0 ≤ t) (hv : v = if t = 0 then 1 else 0) : WXi t 0 pl ln (zup X t.toNat v) := by
  unfold WXi
  rw [zup_eq, hv]
  by_cases e : t = 0
  · rw [if_pos e, if_pos (by omega)]
    exact ⟨by omega, ⟨0, rfl⟩⟩
  · rw [if_neg e, if_neg (by omega)]
    exact ⟨by omega, ⟨0, rfl⟩⟩
theorem WXi.step {cnt t x v : Int} {pl ln X : Nat → Int} (h : WXi t x pl ln X) (hp : ∀ i : Nat, (i : Int) < cnt → 0 ≤ pl i ∧ 1 ≤ ln i) (h0 : 0 ≤ x) (h1 : x < cnt) (ht : 0 ≤ t) (hv : (pl x.toNat + ln x.toNat = t ∧ v = (X t.toNat + X (pl x.toNat).toNat) % 1000003) ∨ (pl x.toNat + ln x.toNat ≠ t ∧ v = X t.toNat)) : WXi t (x + 1) pl ln (zup X t.toNat v) := by
  obtain ⟨a, b⟩ := h
  unfold WXi
  rw [zup_eq, show (x + 1).toNat = x.toNat + 1 by omega]
  refine ⟨by omega, ?_⟩
  have hs : sm (fun i => if pl i + ln i = t then zup X t.toNat v (pl i).toNat else 0) (x.toNat + 1) = sm (fun i => if pl i + ln i = t then X (pl i).toNat else 0) x.toNat + (if pl x.toNat + ln x.toNat = t then X (pl x.toNat).toNat else 0) := by
    show sm (fun i => if pl i + ln i = t then zup X t.toNat v (pl i).toNat else 0) x.toNat + (if pl x.toNat + ln x.toNat = t then zup X t.toNat v (pl x.toNat).toNat else 0) = _
    have hz : ∀ i : Nat, (i : Int) < cnt → pl i + ln i = t → zup X t.toNat v (pl i).toNat = X (pl i).toNat := fun i hi c => by
      have := hp i hi
      exact zup_ne (by omega)
    rw [sm_eq (g := fun i => if pl i + ln i = t then X (pl i).toNat else 0) x.toNat (fun i hi => ?_)]
    · congr 1
      by_cases c : pl x.toNat + ln x.toNat = t
      · rw [if_pos c, if_pos c, hz _ (by omega) c]
      · rw [if_neg c, if_neg c]
    · by_cases c : pl i + ln i = t
      · rw [if_pos c, if_pos c, hz i (by omega) c]
      · rw [if_neg c, if_neg c]
  rw [hs]
  rcases hv with ⟨c, e⟩ | ⟨c, e⟩
  · rw [if_pos c, e, ← Int.add_assoc]; exact cg_add b
  · rw [if_neg c, e, Int.add_zero]; exact b
theorem WXs.next {cnt t x : Int} {pl ln X : Nat → Int} (h : WXs cnt t pl ln X) (g : WXi t x pl ln X) (hx : x = cnt) (ht : 0 ≤ t) : WXs cnt (t + 1) pl ln X := by
  intro q hq
  by_cases e : q = t.toNat
  · subst hx
    obtain ⟨a, b⟩ := g
    rw [e]
    refine ⟨a, ?_⟩
    rw [show (((t.toNat : Nat)) : Int) = t by omega]
    exact b
  · exact h q (by omega)
end
section
/-! the class's ranking, step by step -/
def OI (ct0 ke0 ct ke : Nat → Int) (s : Nat) (v : Int) (t : Int) : Prop := ((ct0 s < 12 ∧ ct = zup ct0 s (ct0 s + 1)) ∨ (ct0 s = 12 ∧ ct = ct0 ∧ v ≤ ke0 (12 * s + 11))) ∧ 12 * (s : Int) ≤ t ∧ t < 12 * (s : Int) + ct s ∧ (∀ j : Nat, ((j : Int) ≤ t ∨ 12 * (s : Int) + ct s ≤ j) → ke j = ke0 j) ∧ (∀ j : Nat, t ≤ (j : Int) → (j : Int) + 1 < 12 * (s : Int) + ct s → ke (j + 1) = ke0 j ∧ v < ke0 j)
theorem OI.first {ct ke : Nat → Int} {s : Nat} {v t : Int} (h0 : 0 ≤ ct s) (h : ct s < 12) (ht : t = 12 * (s : Int) + ct s) : OI ct ke (zup ct s (ct s + 1)) ke s v t := by
  have e : zup ct s (ct s + 1) s = ct s + 1 := zup_eq
  exact ⟨Or.inl ⟨h, rfl⟩, by omega, by omega, fun j _ => rfl, fun j h1 h2 => by omega⟩
theorem OI.full {ct ke : Nat → Int} {s : Nat} {v t : Int} (h : ct s = 12) (ht : t = 12 * (s : Int) + 11) (hv : v ≤ ke (12 * s + 11)) : OI ct ke ct ke s v t := ⟨Or.inr ⟨h, rfl, hv⟩, by omega, by omega, fun j _ => rfl, fun j h1 h2 => by omega⟩
theorem OI.step {ct0 ke0 ct ke : Nat → Int} {s : Nat} {v t : Int} (h : OI ct0 ke0 ct ke s v t) (h1 : 12 * (s : Int) < t) (h2 : v < ke (t - 1).toNat) : OI ct0 ke0 ct (zup ke t.toNat (ke (t - 1).toNat)) s v (t + -1) := by
  obtain ⟨a1, a2, a3, a4, a5⟩ := h
  have e1 := a4 (t - 1).toNat (by omega)
  refine ⟨a1, by omega, by omega, fun j hj => ?_, fun j h3 h4 => ?_⟩
  · rw [zup_ne (by omega)]; exact a4 j (by omega)
  · by_cases e : j = (t - 1).toNat
    · subst e
      rw [show (t - 1).toNat + 1 = t.toNat by omega, zup_eq]
      exact ⟨e1, by omega⟩
    · rw [zup_ne (by omega)]; exact a5 j (by omega) h4
theorem OI.done {ct0 ke0 ct ke : Nat → Int} {s : Nat} {v t : Int} (h : OI ct0 ke0 ct ke s v t) (h2 : t ≤ 12 * (s : Int) ∨ ke (t - 1).toNat ≤ v) : KP ct0 ke0 ct (zup ke t.toNat v) s ∧ OF (ct0 s) (kl ke0 s) v 1 (ct s) (kl (zup ke t.toNat v) s) := by
  obtain ⟨a1, a2, a3, a4, a5⟩ := h
  have hn : (ct0 s < 12 ∧ ct s = ct0 s + 1) ∨ (ct0 s = 12 ∧ ct s = 12 ∧ v ≤ ke0 (12 * s + 11)) := by
    rcases a1 with ⟨b1, b2⟩ | ⟨b1, b2, b3⟩
    · exact Or.inl ⟨b1, by rw [b2, zup_eq]⟩
    · exact Or.inr ⟨b1, by rw [b2]; exact b1, b3⟩
  refine ⟨⟨fun j hj => ?_, fun j hj => ?_⟩, Or.inr ⟨rfl, ?_, (t - 12 * (s : Int)).toNat, by omega, ?_, fun r h3 h4 => ?_, fun r h3 => ?_, ?_, fun r h3 h4 => ?_⟩⟩
  · rcases a1 with ⟨b1, b2⟩ | ⟨b1, b2, b3⟩
    · rw [b2, zup_ne hj]
    · rw [b2]
  · rw [zup_ne (by omega)]; exact a4 j (by omega)
  · exact hn
  · rcases h2 with q | q
    · exact Or.inl (by omega)
    · by_cases e : (t - 12 * (s : Int)).toNat = 0
      · exact Or.inl e
      · right
        show ke0 (12 * s + ((t - 12 * (s : Int)).toNat - 1)) ≤ v
        rw [show 12 * s + ((t - 12 * (s : Int)).toNat - 1) = (t - 1).toNat by omega, ← a4 _ (by omega)]
        exact q
  · exact (a5 (12 * s + r) (by omega) (by omega)).2
  · show zup ke t.toNat v (12 * s + r) = ke0 (12 * s + r)
    rw [zup_ne (by omega)]; exact a4 _ (by omega)
  · show zup ke t.toNat v (12 * s + (t - 12 * (s : Int)).toNat) = v
    rw [show 12 * s + (t - 12 * (s : Int)).toNat = t.toNat by omega, zup_eq]
  · show zup ke t.toNat v (12 * s + (r + 1)) = ke0 (12 * s + r)
    rw [zup_ne (by omega)]
    exact (a5 (12 * s + r) (by omega) (by omega)).1
theorem SO.cast {n m : Int} {f g : Nat → Int} (h : SO n f) (e : m = n) (k : ∀ r : Nat, (r : Int) < n → g r = f r) : SO m g := by
  subst e
  intro r s hrs hs
  rw [k r (by omega), k s hs]
  exact h r s hrs hs
theorem CC.add {pl ln kd cs jo ct0 ke0 ct ke f : Nat → Int} {lo hi k c n : Int} {s : Nat} (hk : KP ct0 ke0 ct ke s) (hb : sb pl ln kd hi.toNat ≠ s) (hc : CB ct0) (h125 : sb pl ln kd hi.toNat < 125) (h0 : 0 ≤ hi) (hl : lo ≤ hi) (h : TP (fun v => CC pl ln kd cs jo ct0 ke0 lo hi k v ∨ XW c hi ke (sb pl ln kd hi.toNat) (ct (sb pl ln kd hi.toNat)) v) n f ∧ TF (fun v => CC pl ln kd cs jo ct0 ke0 lo hi k v ∨ XW c hi ke (sb pl ln kd hi.toNat) (ct (sb pl ln kd hi.toNat)) v) n f) (ec : c = jo (k * 5 + kd hi.toNat).toNat + cs hi.toNat) : TP (CC pl ln kd cs jo ct0 ke0 lo (hi + 1) k) n f ∧ TF (CC pl ln kd cs jo ct0 ke0 lo (hi + 1) k) n f := by
  obtain ⟨e1, e2⟩ := hk.at hb
  have h12 := hc _ h125
  refine TP.cast h (fun v => ?_)
  rw [CC.step h0 hl, ec]
  have hx := XW.cast (c := jo (k * 5 + kd hi.toNat).toNat + cs hi.toNat) (p := hi) (b := sb pl ln kd hi.toNat) (ke := ke) (ke2 := ke0) e1 (fun r hr => e2 r (by omega)) v
  constructor
  · rintro (q | q)
    · exact Or.inl q
    · exact Or.inr (hx.mp q)
  · rintro (q | q)
    · exact Or.inl q
    · exact Or.inr (hx.mpr q)
def RS0 (pl ln kd cs fi jo bf ct0 ke0 ct ke : Nat → Int) (q k : Nat) : Prop := (1000000 ≤ bf (5 * q + k) → ct (5 * q + k) = 0) ∧ (bf (5 * q + k) < 1000000 → TP (CC pl ln kd cs jo ct0 ke0 (fi q) (fi (q + 1)) k) (ct (5 * q + k)) (kl ke (5 * q + k)) ∧ TF (CC pl ln kd cs jo ct0 ke0 (fi q) (fi (q + 1)) k) (ct (5 * q + k)) (kl ke (5 * q + k)))
theorem RS0.new {ll cnt : Int} {pl ln kd cs fi jo bf ct ke ct2 ke2 : Nat → Int} {q k : Nat} (hG : GN ll cnt pl ln kd cs fi) (hc : CB ct) (hq : (q : Int) < ll) (hk : k ≤ 4) (hP : KP ct ke ct2 ke2 (5 * q + k)) (h : RS0 pl ln kd cs fi jo bf ct ke ct2 ke2 q k) : RS1 pl ln kd cs fi jo bf ct2 ke2 q k := by
  refine ⟨h.1, fun z => TP.cast (h.2 z) (fun v => CC.cast hc (fun y y1 y2 => ?_) (fun y y1 y2 => ?_) v)⟩
  · obtain ⟨g1, g2⟩ := hG.in_ hq y1 y2
    exact (hG.spot g1).2
  · obtain ⟨g1, g2⟩ := hG.in_ hq y1 y2
    have g3 := hG.spot g1
    have g4 := hG.2.1 y g1
    exact hP.at (by omega)
def BB (bf : Nat → Int) : Prop := ∀ t : Nat, t < 125 → 0 ≤ bf t ∧ bf t ≤ 1000000
theorem BB.at {bf : Nat → Int} (h : BB bf) {x : Int} (h0 : 0 ≤ x) (h1 : x < 125) : 0 ≤ bf x.toNat ∧ bf x.toNat ≤ 1000000 := h x.toNat (by omega)
theorem BFS.bb {cnt : Int} {pl ln kd cs jo bf : Nat → Int} (h : BFS cnt pl ln kd cs jo bf) : BB bf := fun t ht => by
  have := h.2.1 t ht
  omega
/-- the ends' lists -/
def KE (ll : Int) (jo ct ke : Nat → Int) : Prop := ∀ k : Nat, k < 4 → ct (5 * ll.toNat + k) = 1 ∧ ke (12 * (5 * ll.toNat + k)) = jo (5 * k + 4) * 8192
theorem KE.keep {ll : Int} {jo ct ke ct2 ke2 : Nat → Int} {s : Nat} (h : KE ll jo ct ke) (hk : KP ct ke ct2 ke2 s) (hs : s < 5 * ll.toNat) : KE ll jo ct2 ke2 := fun k hk4 => by
  obtain ⟨a, b⟩ := h k hk4
  rw [hk.1 _ (by omega), hk.2 _ (by omega)]
  exact ⟨a, b⟩
/-- the ranked spots behind a place, and those of the place below a kind -/
def KR (ll : Int) (pl ln kd cs fi jo bf ct ke : Nat → Int) (p : Int) (k0 : Int) : Prop := ∀ q k : Nat, (q : Int) < ll → k < 4 → (p < (q : Int) ∨ ((q : Int) = p ∧ (k : Int) < k0)) → RS1 pl ln kd cs fi jo bf ct ke q k
theorem KR.so {ll cnt p k0 : Int} {pl ln kd cs fi jo bf ct ke : Nat → Int} (hE : KE ll jo ct ke) (h : KR ll pl ln kd cs fi jo bf ct ke p k0) (hl : 0 ≤ ll) : ∀ s : Nat, s < 125 → 5 * p + 5 ≤ (s : Int) → (s : Int) < 5 * ll + 4 → s % 5 < 4 → SO (ct s) (kl ke s) := by
  intro s h1 h2 h3 h4
  by_cases e : ((s / 5 : Nat) : Int) < ll
  · have := (h (s / 5) (s % 5) e h4 (Or.inl (by omega))).so
    rw [show 5 * (s / 5) + s % 5 = s by omega] at this
    exact this
  · have := (hE (s % 5) h4).1
    rw [show 5 * ll.toNat + s % 5 = s by omega] at this
    intro r t hrt ht
    omega
theorem KR.put {ll cnt : Int} {pl ln kd cs fi jo bf ct ke ct2 ke2 : Nat → Int} {p k0 : Int} (hG : GN ll cnt pl ln kd cs fi) (hc : CB ct) (h : KR ll pl ln kd cs fi jo bf ct ke p k0) (hp0 : 0 ≤ p) (hp : p < ll) (hk0 : 0 ≤ k0) (hk4 : k0 ≤ 4) (hP : KP ct ke ct2 ke2 (5 * p.toNat + k0.toNat)) (hn : RS0 pl ln kd cs fi jo bf ct ke ct2 ke2 p.toNat k0.toNat) : KR ll pl ln kd cs fi jo bf ct2 ke2 p (k0 + 1) := by
  intro q k hq hk hpos
  by_cases e : q = p.toNat ∧ k = k0.toNat
  · obtain ⟨rfl, rfl⟩ := e
    exact hn.new hG hc hq (by omega) hP
  · exact (h q k hq hk (by omega)).keep hG hc hq (by omega) (fun s h1 h2 => hP.at (by omega))
theorem KR.next {ll p : Int} {pl ln kd cs fi jo bf ct ke : Nat → Int} (h : KR ll pl ln kd cs fi jo bf ct ke p 4) : KR ll pl ln kd cs fi jo bf ct ke (p + -1) 0 := fun q k hq hk hpos => h q k hq hk (by omega)
theorem KW.of {ll cnt : Int} {pl ln kd cs fi jo bf ct ke ct2 ke2 : Nat → Int} {k0 : Int} (hG : GN ll cnt pl ln kd cs fi) (hc : CB ct) (hl : 1 ≤ ll) (hB : BFS cnt pl ln kd cs jo bf) (hE : KE ll jo ct ke) (h : KR ll pl ln kd cs fi jo bf ct ke 0 k0) (hk0 : k0 ≤ 0) (hP : KP ct ke ct2 ke2 (5 * 0 + 4)) (hn : RS0 pl ln kd cs fi jo bf ct ke ct2 ke2 0 4) : KW ll cnt pl ln kd cs fi jo bf ct2 ke2 := by
  refine ⟨hB, hE.keep hP (by omega), fun q k h1 h2 h3 => ?_, hn.new hG hc (by omega) (by omega) hP⟩
  exact (h q k h2 h3 (Or.inl (by omega))).keep hG hc h2 (by omega) (fun s _ h5 => hP.at (by omega))
/-- a cutting that is being followed -/
def FI (ll cnt : Int) (pl ln kd bf ct ke fo : Nat → Int) (i : Int) (cn sp ra : Nat) : Prop := (∀ j : Nat, j < cn → 0 ≤ wk (nC ll pl ln kd ke) (ke (48 + i).toNat % 8192) j ∧ wk (nC ll pl ln kd ke) (ke (48 + i).toNat % 8192) j / 16 < cnt ∧ fo j = wk (nC ll pl ln kd ke) (ke (48 + i).toNat % 8192) j / 16 ∧ oW ln kd (wk (nC ll pl ln kd ke) (ke (48 + i).toNat % 8192)) (j + 1) ≤ 72) ∧ ((cn = 0 ∧ sp = 4 ∧ (ra : Int) = i) ∨ (1 ≤ cn ∧ sp = sb pl ln kd (wk (nC ll pl ln kd ke) (ke (48 + i).toNat % 8192) (cn - 1) / 16).toNat ∧ (ra : Int) = wk (nC ll pl ln kd ke) (ke (48 + i).toNat % 8192) (cn - 1) % 16)) ∧ bf sp < 1000000 ∧ (ra : Int) < ct sp ∧ cn ≤ sp / 5 ∧ oW ln kd (wk (nC ll pl ln kd ke) (ke (48 + i).toNat % 8192)) cn ≤ ((sp / 5 : Nat) : Int) + 2 * cn ∧ ((1 ≤ sp / 5 ∧ sp % 5 < 4) ∨ sp = 4) ∧ ((sp / 5 : Nat) : Int) ≤ ll
theorem FI.zero {ll cnt i : Int} {pl ln kd bf ct ke fo : Nat → Int} (hb : bf 4 = 0) (h0 : 0 ≤ i) (h1 : i < ct 4) (hl : 0 ≤ ll) : FI ll cnt pl ln kd bf ct ke fo i 0 4 i.toNat := ⟨fun j hj => by omega, Or.inl ⟨rfl, rfl, by omega⟩, by omega, by omega, by omega, by show (0 : Int) ≤ _; omega, Or.inr rfl, by omega⟩
theorem FI.step {ll cnt i : Int} {pl ln kd cs fi jo bf ct ke fo : Nat → Int} {cn sp ra : Nat} (hG : GN ll cnt pl ln kd cs fi) (hJ : JB jo) (hc : CB ct) (hK : KW ll cnt pl ln kd cs fi jo bf ct ke) (h0 : 0 ≤ i) (h : FI ll cnt pl ln kd bf ct ke fo i cn sp ra) (hs : (sp : Int) < 5 * ll) : ∃ y s : Nat, (y : Int) < cnt ∧ s < 12 ∧ ke (12 * sp + ra) % 8192 = 16 * y + s ∧ FI ll cnt pl ln kd bf ct ke (zup fo cn y) i (cn + 1) (sb pl ln kd y) s := by
  obtain ⟨a1, a2, a3, a4, a5, a6, a7, a8⟩ := h
  obtain ⟨y, s, b1, b2, b3, b4, b5, b6⟩ := KW.go hG hJ hc hK (q := sp / 5) (k := sp % 5) (r := ra) (by omega) (by omega) (by rw [show 5 * (sp / 5) + sp % 5 = sp by omega]; exact a3) (by rw [show 5 * (sp / 5) + sp % 5 = sp by omega]; exact a4)
  rw [show 5 * (sp / 5) + sp % 5 = sp by omega] at b4
  have hy := hG.2.1 y b1
  have hsy := hG.spot b1
  have hl := hG.1
  have hw : wk (nC ll pl ln kd ke) (ke (48 + i).toNat % 8192) cn = 16 * y + s := by
    rcases a2 with ⟨c1, c2, c3⟩ | ⟨c1, c2, c3⟩
    · subst c1
      show ke (48 + i).toNat % 8192 = _
      rw [show (48 + i).toNat = 12 * sp + ra by omega]
      exact b4
    · have e : wk (nC ll pl ln kd ke) (ke (48 + i).toNat % 8192) cn = nC ll pl ln kd ke (wk (nC ll pl ln kd ke) (ke (48 + i).toNat % 8192) (cn - 1)) := by
        rw [show cn = cn - 1 + 1 by omega]; rfl
      rw [e]
      unfold nC
      have hj := a1 (cn - 1) (by omega)
      have hsj := hG.spot (y := (wk (nC ll pl ln kd ke) (ke (48 + i).toNat % 8192) (cn - 1) / 16).toNat) (by omega)
      have hgj := hG.2.1 (wk (nC ll pl ln kd ke) (ke (48 + i).toNat % 8192) (cn - 1) / 16).toNat (by omega)
      rw [if_pos ?_]
      · have e2 : 12 * sb pl ln kd (wk (nC ll pl ln kd ke) (ke (48 + i).toNat % 8192) (cn - 1) / 16).toNat + (wk (nC ll pl ln kd ke) (ke (48 + i).toNat % 8192) (cn - 1) % 16).toNat = 12 * sp + ra := by
          rw [← c2, ← c3]; omega
        unfold nC at e2
        rw [e2]
        exact b4
      · have e3 : pl (wk (nC ll pl ln kd ke) (ke (48 + i).toNat % 8192) (cn - 1) / 16).toNat + ln (wk (nC ll pl ln kd ke) (ke (48 + i).toNat % 8192) (cn - 1) / 16).toNat < ll := by
          rw [← c2] at hsj
          omega
        unfold nC at e3
        exact e3
  have hdiv : ((16 * (y : Int) + s) / 16) = y := by omega
  have hoW : oW ln kd (wk (nC ll pl ln kd ke) (ke (48 + i).toNat % 8192)) (cn + 1) ≤ pl y + ln y + 2 * ((cn + 1 : Nat) : Int) := by
    show oW ln kd (wk (nC ll pl ln kd ke) (ke (48 + i).toNat % 8192)) cn + ln (wk (nC ll pl ln kd ke) (ke (48 + i).toNat % 8192) cn / 16).toNat + (if kd (wk (nC ll pl ln kd ke) (ke (48 + i).toNat % 8192) cn / 16).toNat = 3 then 1 else 0) + 1 ≤ _
    rw [hw, hdiv, show ((y : Int)).toNat = y by omega]
    split <;> omega
  refine ⟨y, s, b1, b3, b4, fun j hj => ?_, Or.inr ⟨by omega, ?_, ?_⟩, b5, b6, by omega, by omega, Or.inl ⟨by omega, by omega⟩, by omega⟩
  · by_cases e : j = cn
    · subst e
      rw [hw, hdiv, zup_eq]
      exact ⟨by omega, b1, rfl, by omega⟩
    · rw [zup_ne e]; exact a1 j (by omega)
  · rw [show cn + 1 - 1 = cn by omega, hw, hdiv]; rfl
  · rw [show cn + 1 - 1 = cn by omega, hw]; omega
theorem FI.done {ll cnt i : Int} {pl ln kd cs fi bf ct ke fo : Nat → Int} {cn sp ra : Nat} (hG : GN ll cnt pl ln kd cs fi) (h : FI ll cnt pl ln kd bf ct ke fo i cn sp ra) (hl : 1 ≤ ll) (hs : 5 * ll ≤ (sp : Int)) : PA (nC ll pl ln kd ke) (ke (48 + i).toNat % 8192) cn := by
  obtain ⟨a1, a2, a3, a4, a5, a6, a7, a8⟩ := h
  refine ⟨fun j hj => (a1 j hj).1, ?_⟩
  rcases a2 with ⟨c1, c2, c3⟩ | ⟨c1, c2, c3⟩
  · omega
  · have e : wk (nC ll pl ln kd ke) (ke (48 + i).toNat % 8192) cn = nC ll pl ln kd ke (wk (nC ll pl ln kd ke) (ke (48 + i).toNat % 8192) (cn - 1)) := by
      rw [show cn = cn - 1 + 1 by omega]; rfl
    have hj := a1 (cn - 1) (by omega)
    have hsj := hG.spot (y := (wk (nC ll pl ln kd ke) (ke (48 + i).toNat % 8192) (cn - 1) / 16).toNat) (by omega)
    have hgj := hG.2.1 (wk (nC ll pl ln kd ke) (ke (48 + i).toNat % 8192) (cn - 1) / 16).toNat (by omega)
    rw [e]
    show (if pl (wk (nC ll pl ln kd ke) (ke (48 + i).toNat % 8192) (cn - 1) / 16).toNat + ln (wk (nC ll pl ln kd ke) (ke (48 + i).toNat % 8192) (cn - 1) / 16).toNat < ll then _ else (-6 : Int)) < 0
    rw [if_neg (by omega)]
    decide
/-- what has been written, piece by piece -/
def SW1 (li pl ln kd cd sg : Nat → Int) (s : Nat) (wc : Int) : Prop := (s = 0 → wc = 0) ∧ (1 ≤ s → wc = oW ln kd cd s - 1) ∧ ∀ q : Nat, (q : Int) < wc → SG li pl ln kd cd s q (sg q)
theorem SW1.bar {li pl ln kd cd sg : Nat → Int} {s : Nat} {wc : Int} (h : SW1 li pl ln kd cd sg s wc) (hs : 1 ≤ s) (h0 : 0 ≤ wc) (hl : 1 ≤ ln (cd (s - 1) / 16).toNat) : ∀ q : Nat, (q : Int) < wc + 1 → SG li pl ln kd cd (s + 1) q (zup sg wc.toNat 124 q) := by
  obtain ⟨a1, a2, a3⟩ := h
  have ew := a2 hs
  have eo : oW ln kd cd s = oW ln kd cd (s - 1) + ln (cd (s - 1) / 16).toNat + (if kd (cd (s - 1) / 16).toNat = 3 then 1 else 0) + 1 := by
    rw [show s = s - 1 + 1 by omega]; rfl
  intro q hq
  by_cases e : q = wc.toNat
  · rw [e, zup_eq]
    refine ⟨s - 1, by omega, ?_, ?_, fun z => by omega, ?_⟩
    · split at eo <;> omega
    · rw [show s - 1 + 1 = s by omega]; omega
    · unfold sgv
      split at eo
      · rw [if_neg (by omega), if_neg (by omega)]
      · rename_i hk
        rw [if_neg (by omega), if_neg (fun z => hk z.2)]
  · rw [zup_ne e]
    obtain ⟨j, j1, j2, j3, j4, j5⟩ := a3 q (by omega)
    exact ⟨j, by omega, j2, j3, fun z => by omega, j5⟩
theorem SW1.piece {li pl ln kd cd sg sg2 : Nat → Int} {s : Nat} {wc wc2 : Int} (h : ∀ q : Nat, (q : Int) < wc → SG li pl ln kd cd (s + 1) q (sg q)) (hw : wc = oW ln kd cd s) (h2 : wc2 = wc + ln (cd s / 16).toNat + (if kd (cd s / 16).toNat = 3 then 1 else 0)) (hold : ∀ q : Nat, (q : Int) < wc → sg2 q = sg q) (hnew : ∀ q : Nat, wc ≤ (q : Int) → (q : Int) < wc2 → sg2 q = sgv li pl ln kd (cd s / 16).toNat (q - wc)) : SW1 li pl ln kd cd sg2 (s + 1) wc2 := by
  have eo : oW ln kd cd (s + 1) = oW ln kd cd s + ln (cd s / 16).toNat + (if kd (cd s / 16).toNat = 3 then 1 else 0) + 1 := rfl
  refine ⟨fun z => by omega, fun _ => by omega, fun q hq => ?_⟩
  by_cases e : (q : Int) < wc
  · rw [hold q e]; exact h q e
  · exact ⟨s, by omega, by omega, by omega, fun _ => by omega, by rw [hnew q (by omega) hq, hw]⟩
theorem zPT.full {sg le si ki co le' si' ki' co' : Nat → Int} {L K C dc dc' : Int} (h : zPT sg L K C (-4) dc le si ki co dc' le' si' ki' co') (h0 : 0 ≤ dc) : DS dc le si ki co dc' le' si' ki' co' := by
  rcases h with ⟨-, -, -, h⟩ | ⟨h, -⟩ | ⟨w, h, -⟩
  · exact h
  · omega
  · omega
end
section
/-! the reference's rows, one by one -/
theorem RW.keep {ll cnt lo : Int} {pl ln kd cs fi jo rw rc rn rw2 rc2 rn2 : Nat → Int} (hG : GN ll cnt pl ln kd cs fi) (h : RW ll cnt pl ln kd cs fi jo rw rc rn lo) (e : ∀ i : Nat, lo ≤ (i : Int) → rw2 i = rw i ∧ ∀ s : Nat, s < 12 → rc2 (12 * i + s) = rc (12 * i + s) ∧ rn2 (12 * i + s) = rn (12 * i + s)) : RW ll cnt pl ln kd cs fi jo rw2 rc2 rn2 lo := by
  intro x h1 h2
  obtain ⟨a1, a2, a3⟩ := h x h1 h2
  obtain ⟨e1, e2⟩ := e x h1
  refine ⟨by omega, fun r hr => by rw [(e2 r (by omega)).1]; exact a2 r (by omega), ?_⟩
  have e20 := e2 0 (by omega)
  rw [Nat.add_zero] at e20
  rcases a3 with ⟨b1, b2, b3, b4⟩ | ⟨b1, b2, b3, b4⟩
  · exact Or.inl ⟨b1, by omega, by omega, by omega⟩
  · refine Or.inr ⟨b1, fun r hr => by rw [(e2 r (by omega)).2]; exact b2 r (by omega), ?_⟩
    have hx := hG.2.1 x h2
    have hf := hG.fi_ (p := pl x + ln x) (by omega) b1
    have hcm : ∀ v, CM kd jo rw rc (5 * kd x) (fi (pl x + ln x).toNat) (fi (pl x + ln x + 1).toNat) 0 v ↔ CM kd jo rw2 rc2 (5 * kd x) (fi (pl x + ln x).toNat) (fi (pl x + ln x + 1).toNat) 0 v := by
      intro v
      constructor
      · rintro ⟨i, s, i1, i2, i3, i4⟩
        obtain ⟨g1, g2, g3⟩ := hG.next h2 b1 i1 (by omega)
        have := (h i (by omega) g1).1
        obtain ⟨f1, f2⟩ := e i (by omega)
        exact ⟨i, s, i1, i2, by omega, by rw [(f2 s (by omega)).1]; exact i4⟩
      · rintro ⟨i, s, i1, i2, i3, i4⟩
        obtain ⟨g1, g2, g3⟩ := hG.next h2 b1 i1 (by omega)
        have := (h i (by omega) g1).1
        obtain ⟨f1, f2⟩ := e i (by omega)
        exact ⟨i, s, i1, i2, by omega, by rw [← (f2 s (by omega)).1]; exact i4⟩
    have hc := TP.cast ⟨b3, b4⟩ hcm
    refine hc.1.ext hc.2 e1.symm (fun r hr => ?_)
    unfold rf
    rw [(e2 r (by omega)).1, (e2 r (by omega)).2]
/-- the rows of a piece, as far as they have been found -/
def RX (ll : Int) (pl ln kd cs fi jo rw rc rn : Nat → Int) (x : Nat) (lc la : Int) : Prop := TP (CM kd jo rw rc (5 * kd x) (fi (pl x + ln x).toNat) (fi (pl x + ln x + 1).toNat) 0) (rw x) (rf cs rc rn x) ∧ LL (CM kd jo rw rc (5 * kd x) (fi (pl x + ln x).toNat) (fi (pl x + ln x + 1).toNat) 0) (rw x) (rf cs rc rn x) ((lc - cs x) * 8192 + la) ∧ (∀ r : Nat, (r : Int) < rw x → (0 ≤ rc (12 * x + r) ∧ rc (12 * x + r) ≤ 792 * (ll - pl x)) ∧ 0 ≤ rn (12 * x + r) ∧ rn (12 * x + r) < 8192) ∧ -1 ≤ la ∧ la < 8192 ∧ -1 ≤ lc
theorem RX.zero {ll cnt : Int} {pl ln kd cs fi jo rw rc rn : Nat → Int} {x : Nat} (hG : GN ll cnt pl ln kd cs fi) (hJ : JB jo) (hx : (x : Int) < cnt) (he : pl x + ln x < ll) (h : RW ll cnt pl ln kd cs fi jo rw rc rn (x + 1)) : RX ll pl ln kd cs fi jo (zup rw x 0) rc rn x (-1) (-1) := by
  have hx0 := hG.2.1 x hx
  unfold RX
  rw [zup_eq]
  refine ⟨⟨by omega, by omega, fun r hr => by omega, fun r s _ hs => by omega, fun v hv => Or.inr (fun r hr => by omega)⟩, Or.inl ⟨rfl, fun v hv => ?_⟩, fun r hr => by omega, by omega, by omega, by omega⟩
  obtain ⟨i, s, i1, i2, i3, i4⟩ := hv
  obtain ⟨g1, g2, g3⟩ := hG.next hx he i1 (by omega)
  rw [zup_ne (by omega)] at i3
  have hi := (h i (by omega) g1).2.1 s i3
  have hi0 := hG.2.1 i g1
  have hj := hJ (5 * kd x + kd i).toNat (by omega)
  omega
theorem RX.push {ll cnt lc la bc be : Int} {pl ln kd cs fi jo rw rc rn : Nat → Int} {x : Nat} (hG : GN ll cnt pl ln kd cs fi) (hJ : JB jo) (hx : (x : Int) < cnt) (he : pl x + ln x < ll) (hR : RW ll cnt pl ln kd cs fi jo rw rc rn (x + 1)) (h : RX ll pl ln kd cs fi jo rw rc rn x lc la) (hn : rw x < 12) (hb0 : 0 ≤ be) (hb1 : be < 8192) (hs : SL (CM kd jo rw rc (5 * kd x) (fi (pl x + ln x).toNat) (fi (pl x + ln x + 1).toNat) 0) ((lc - cs x) * 8192 + la) be ((bc - cs x) * 8192 + be)) : RX ll pl ln kd cs fi jo (zup rw x (rw x + 1)) (zup rc (12 * x + (rw x).toNat) bc) (zup rn (12 * x + (rw x).toNat) be) x bc be := by
  obtain ⟨a1, a2, a3, a4, a5, a6⟩ := h
  have hx0 := hG.2.1 x hx
  have hrw := a1.1
  rcases hs with ⟨s1, -⟩ | ⟨-, s2, s3, s4⟩
  · omega
  have hbc : 0 ≤ bc ∧ bc ≤ 792 * (ll - pl x) := by
    obtain ⟨i, s, i1, i2, i3, i4⟩ := s2
    obtain ⟨g1, g2, g3⟩ := hG.next hx he i1 (by omega)
    have hi := hR i (by omega) g1
    have hi1 := hi.2.1 s i3
    have hi2 := hi.1
    have hi0 := hG.2.1 i g1
    have hj := hJ (5 * kd x + kd i).toNat (by omega)
    have hc := hG.1
    omega
  have hrc : ∀ r : Nat, (r : Int) < rw x → zup rc (12 * x + (rw x).toNat) bc (12 * x + r) = rc (12 * x + r) := fun r hr => zup_ne (by omega)
  have hrn : ∀ r : Nat, (r : Int) < rw x → zup rn (12 * x + (rw x).toNat) be (12 * x + r) = rn (12 * x + r) := fun r hr => zup_ne (by omega)
  have hcm : ∀ v, CM kd jo rw rc (5 * kd x) (fi (pl x + ln x).toNat) (fi (pl x + ln x + 1).toNat) 0 v ↔ CM kd jo (zup rw x (rw x + 1)) (zup rc (12 * x + (rw x).toNat) bc) (5 * kd x) (fi (pl x + ln x).toNat) (fi (pl x + ln x + 1).toNat) 0 v := by
    intro v
    constructor
    · rintro ⟨i, s, i1, i2, i3, i4⟩
      obtain ⟨g1, g2, g3⟩ := hG.next hx he i1 (by omega)
      have := (hR i (by omega) g1).1
      exact ⟨i, s, i1, i2, by rw [zup_ne (by omega)]; exact i3, by rw [zup_ne (by omega)]; exact i4⟩
    · rintro ⟨i, s, i1, i2, i3, i4⟩
      obtain ⟨g1, g2, g3⟩ := hG.next hx he i1 (by omega)
      have := (hR i (by omega) g1).1
      rw [zup_ne (by omega)] at i3
      rw [zup_ne (by omega)] at i4
      exact ⟨i, s, i1, i2, i3, i4⟩
  have hp := a1.push (g := rf cs (zup rc (12 * x + (rw x).toNat) bc) (zup rn (12 * x + (rw x).toNat) be) x) hn a2 s2 s3 s4 (fun r hr => by unfold rf; rw [hrc r hr, hrn r hr]) (by unfold rf; rw [zup_eq, zup_eq])
  have hcf : CM kd jo rw rc (5 * kd x) (fi (pl x + ln x).toNat) (fi (pl x + ln x + 1).toNat) 0 = CM kd jo (zup rw x (rw x + 1)) (zup rc (12 * x + (rw x).toNat) bc) (5 * kd x) (fi (pl x + ln x).toNat) (fi (pl x + ln x + 1).toNat) 0 := funext (fun v => propext (hcm v))
  rw [hcf] at hp
  unfold RX
  rw [zup_eq]
  refine ⟨hp.1, hp.2, fun r hr => ?_, by omega, hb1, by omega⟩
  by_cases e : r = (rw x).toNat
  · rw [e, zup_eq, zup_eq]; exact ⟨hbc, hb0, hb1⟩
  · rw [hrc r (by omega), hrn r (by omega)]; exact a3 r (by omega)
theorem RX.done {ll cnt lc la : Int} {pl ln kd cs fi jo rw rc rn : Nat → Int} {x : Nat} (he : pl x + ln x < ll) (hR : RW ll cnt pl ln kd cs fi jo rw rc rn (x + 1)) (h : RX ll pl ln kd cs fi jo rw rc rn x lc la) (hf : 12 ≤ rw x ∨ ∀ v, CM kd jo rw rc (5 * kd x) (fi (pl x + ln x).toNat) (fi (pl x + ln x + 1).toNat) 0 v → v ≤ (lc - cs x) * 8192 + la) : RW ll cnt pl ln kd cs fi jo rw rc rn x := by
  intro i h1 h2
  by_cases e : i = x
  · subst e
    obtain ⟨a1, a2, a3, -⟩ := h
    have b1 := a1.1
    have b2 := a1.2.1
    refine ⟨⟨b1, b2⟩, fun r hr => (a3 r hr).1, Or.inr ⟨he, fun r hr => (a3 r hr).2, a1, ?_⟩⟩
    rcases hf with q | q
    · exact Or.inl (by omega)
    · exact a1.end_ a2 q
  · exact hR i (by omega) h2
theorem RW.one {ll cnt v : Int} {pl ln kd cs fi jo rw rc rn : Nat → Int} {x : Nat} (hG : GN ll cnt pl ln kd cs fi) (hJ : JB jo) (hx : (x : Int) < cnt) (he : pl x + ln x = ll) (hR : RW ll cnt pl ln kd cs fi jo rw rc rn (x + 1)) (hv : v = cs x + jo (5 * kd x + 4).toNat) : RW ll cnt pl ln kd cs fi jo (zup (zup rw x 0) x 1) (zup rc (12 * x) v) (zup rn (12 * x) (-6)) x := by
  have hx0 := hG.2.1 x hx
  have hj := hJ (5 * kd x + 4).toNat (by omega)
  have hk := RW.keep hG hR (rw2 := zup (zup rw x 0) x 1) (rc2 := zup rc (12 * x) v) (rn2 := zup rn (12 * x) (-6)) (fun i hi => ⟨by rw [zup_ne (by omega), zup_ne (by omega)], fun s hs => ⟨zup_ne (by omega), zup_ne (by omega)⟩⟩)
  intro i h1 h2
  by_cases e : i = x
  · subst e
    unfold RW1
    rw [zup_eq]
    refine ⟨by omega, fun r hr => ?_, Or.inl ⟨he, rfl, by rw [zup_eq]; exact hv, zup_eq⟩⟩
    rw [show 12 * i + r = 12 * i by omega, zup_eq]
    omega
  · exact hk i (by omega) h2
theorem RW.clear {ll cnt : Int} {pl ln kd cs fi jo rw rc rn : Nat → Int} {x : Nat} (hG : GN ll cnt pl ln kd cs fi) (hR : RW ll cnt pl ln kd cs fi jo rw rc rn (x + 1)) : RW ll cnt pl ln kd cs fi jo (zup rw x 0) rc rn (x + 1) := RW.keep hG hR (fun i hi => ⟨zup_ne (by omega), fun s hs => ⟨rfl, rfl⟩⟩)
theorem RW.put {ll cnt a b c : Int} {pl ln kd cs fi jo rw rc rn : Nat → Int} {x k : Nat} (hG : GN ll cnt pl ln kd cs fi) (hR : RW ll cnt pl ln kd cs fi jo rw rc rn (x + 1)) (hk : 12 * x ≤ k ∧ k < 12 * x + 12) : RW ll cnt pl ln kd cs fi jo (zup rw x a) (zup rc k b) (zup rn k c) (x + 1) := RW.keep hG hR (fun i hi => ⟨zup_ne (by omega), fun s hs => ⟨zup_ne (by omega), zup_ne (by omega)⟩⟩)
theorem CM.at {kd jo rw rc : Nat → Int} {k5 lo y v : Int} (h : CM kd jo rw rc k5 lo y 0 v) (hr : ∀ i : Nat, lo ≤ (i : Int) → (i : Int) < y → rw i ≤ 12) (hy : y ≤ 480) (hl : 0 ≤ lo) : lo ≤ v % 8192 / 16 ∧ v % 8192 / 16 < y ∧ v % 8192 % 16 < rw (v % 8192 / 16).toNat ∧ v / 8192 = jo (k5 + kd (v % 8192 / 16).toNat).toNat + rc (12 * (v % 8192 / 16) + v % 8192 % 16).toNat := by
  obtain ⟨i, s, h1, h2, h3, h4⟩ := h
  have h2 : (i : Int) < y := by omega
  have := hr i h1 h2
  have e1 : v % 8192 = 16 * i + s := by omega
  have e2 : (16 * (i : Int) + s) / 16 = i := by omega
  have e3 : (16 * (i : Int) + s) % 16 = s := by omega
  rw [e1, e2, e3, show ((i : Int)).toNat = i by omega, show (12 * (i : Int) + s).toNat = 12 * i + s by omega]
  exact ⟨h1, h2, h3, by omega⟩
/-- a cutting's number gives its first piece and rank -/
def CT (C : Int → Prop) (i z : Int) : Prop := (z = -6 ∧ ∃ (f : Nat → Int) (n : Int), n ≤ i ∧ TP C n f ∧ TF C n f) ∨ (0 ≤ z ∧ ∃ f : Nat → Int, TP C (i + 1) f ∧ f i.toNat % 8192 = z)
theorem CT.same {C : Int → Prop} {i z n : Int} {g : Nat → Int} (h : CT C i z) (hi : 0 ≤ i) (k : TP C n g) (kf : TF C n g) : (0 ≤ z ↔ i < n) ∧ (i < n → z = g i.toNat % 8192) := by
  rcases h with ⟨h1, f, m, h2, h3, h4⟩ | ⟨h1, f, h2, h3⟩
  · have := (h3.same h4 k kf).1
    exact ⟨⟨fun q => by omega, fun q => by omega⟩, fun q => by omega⟩
  · have a := k.le kf h2
    have b := h2.eq k i.toNat (by omega) (by omega)
    exact ⟨⟨fun _ => by omega, fun _ => h1⟩, fun _ => by omega⟩
-- answers
def zPC (ll cnt z : Int) : Prop := (ll ≤ 0 ∧ z = -5) ∨ (0 < ll ∧ z = cnt)
def zPI (ll cnt : Int) (pl ln kd cs wd : Nat → Int) (LE : Int → Prop) (i what z : Int) : Prop := (ll ≤ 0 ∧ z = -5) ∨ (0 < ll ∧ ((¬ (0 ≤ i ∧ i < cnt) ∧ z = -1) ∨ (0 ≤ i ∧ i < cnt ∧ (what = 0 → z = pl i.toNat) ∧ (what = 1 → z = ln i.toNat) ∧ (what = 2 → z = kd i.toNat) ∧ (what = 3 → z = cs i.toNat) ∧ (what = 4 → z = wd i.toNat) ∧ (what = 5 → LE z) ∧ (what < 0 ∨ 5 < what → z = -2))))
theorem zPI.same {ll cnt cnt2 i what z z2 : Int} {pl ln kd cs wd pl2 ln2 kd2 cs2 wd2 : Nat → Int} {LE LE2 : Int → Prop} (h : zPI ll cnt pl ln kd cs wd LE i what z) (g : zPI ll cnt2 pl2 ln2 kd2 cs2 wd2 LE2 i what z2) (e : 0 < ll → cnt = cnt2 ∧ ∀ j : Nat, (j : Int) < cnt → pl j = pl2 j ∧ ln j = ln2 j ∧ kd j = kd2 j ∧ cs j = cs2 j ∧ wd j = wd2 j) (el : 0 < ll → 0 ≤ i → i < cnt → what = 5 → LE z → LE2 z2 → z = z2) : z = z2 := by
  rcases h with ⟨h1, h2⟩ | ⟨h1, h2⟩ <;> rcases g with ⟨g1, g2⟩ | ⟨g1, g2⟩
  · omega
  · omega
  · omega
  · obtain ⟨e1, e2⟩ := e h1
    rcases h2 with ⟨a1, a2⟩ | ⟨a1, a2, a3, a4, a5, a6, a7, a8, a9⟩ <;> rcases g2 with ⟨b1, b2⟩ | ⟨b1, b2, b3, b4, b5, b6, b7, b8, b9⟩
    · omega
    · omega
    · omega
    · obtain ⟨d1, d2, d3, d4, d5⟩ := e2 i.toNat (by omega)
      by_cases q0 : what = 0
      · rw [a3 q0, b3 q0, d1]
      by_cases q1 : what = 1
      · rw [a4 q1, b4 q1, d2]
      by_cases q2 : what = 2
      · rw [a5 q2, b5 q2, d3]
      by_cases q3 : what = 3
      · rw [a6 q3, b6 q3, d4]
      by_cases q4 : what = 4
      · rw [a7 q4, b7 q4, d5]
      by_cases q5 : what = 5
      · exact el h1 a1 a2 q5 (a8 q5) (b8 q5)
      · rw [a9 (by omega), b9 (by omega)]
def LEc (pl ln kd cs jo bf ct ke : Nat → Int) (y : Nat) (z : Int) : Prop := (1000000 ≤ lu pl kd cs bf jo y ∨ ct (sb pl ln kd y) = 0 → z = -6) ∧ (lu pl kd cs bf jo y < 1000000 → ct (sb pl ln kd y) ≠ 0 → z = lu pl kd cs bf jo y + ke (12 * sb pl ln kd y) / 8192)
def LEm (pl ln kd cs jo rw rc : Nat → Int) (y : Nat) (z : Int) : Prop := ∃ A : Nat → Int, (∀ x : Nat, x ≤ y → AH pl ln kd cs jo A x x) ∧ (A y < 0 ∨ rw y = 0 → z = -6) ∧ (0 ≤ A y → rw y ≠ 0 → z = A y + rc (12 * y) - cs y)
theorem LE.same {ll cnt z z2 : Int} {pl ln kd cs fi jo bf ct ke rw rc rn : Nat → Int} {y : Nat} (hG : GN ll cnt pl ln kd cs fi) (hJ : JB jo) (hK : KW ll cnt pl ln kd cs fi jo bf ct ke) (hR : RW ll cnt pl ln kd cs fi jo rw rc rn 0) (hy : (y : Int) < cnt) (h : LEc pl ln kd cs jo bf ct ke y z) (g : LEm pl ln kd cs jo rw rc y z2) : z = z2 := by
  obtain ⟨h1, h2⟩ := h
  obtain ⟨A, g0, g1, g2⟩ := g
  obtain ⟨l1, l2⟩ := LA hG hJ hK.1 (hi := y + 1) (by omega) (fun x hx => g0 x (by omega)) y (by omega)
  by_cases q : 0 ≤ A y
  · have q1 := l1.mp q
    have q2 := l2 q
    have q3 := hK.1.2.2.1 y hy
    obtain ⟨a1, a2⟩ := AG.at hG hJ hK hR hy (by omega)
    have hr := (hR y (by omega) hy).1
    by_cases e : rw y = 0
    · rw [h1 (Or.inr (by omega)), g1 (Or.inr e)]
    · have b1 := (a2 0 (by omega)).1
      rw [Nat.add_zero, Nat.add_zero] at b1
      rw [h2 q1 (by omega), g2 q e, b1]
      omega
  · have q1 : ¬ lu pl kd cs bf jo y < 1000000 := fun w => q (l1.mpr w)
    rw [h1 (Or.inl (by omega)), g1 (Or.inl (by omega))]
def zCU (ll i j z : Int) (P : Prop) (co : Int) (N : Int → Int) (c0 : Int) : Prop := (ll ≤ 0 ∧ z = -5) ∨ (0 < ll ∧ ((¬ (0 ≤ i ∧ i ≤ 11) ∧ z = -1) ∨ (0 ≤ i ∧ i ≤ 11 ∧ ((j < -2 ∧ z = -2) ∨ (-2 ≤ j ∧ ((¬ P ∧ z = -6) ∨ (P ∧ (j = -1 → z = co) ∧ (j ≠ -1 → ∃ n : Nat, PA N c0 n ∧ (j = -2 → z = n) ∧ (0 ≤ j → j < n → z = wk N c0 j.toNat / 16) ∧ ((n : Int) ≤ j → z = -6)))))))))
theorem zCU.same {ll i j z z2 co co2 c0 c1 : Int} {P P2 : Prop} {N N2 : Int → Int} (h : zCU ll i j z P co N c0) (g : zCU ll i j z2 P2 co2 N2 c1) (e : 0 < ll → 0 ≤ i → i ≤ 11 → -2 ≤ j → (P ↔ P2) ∧ (P → co = co2 ∧ ∀ n m : Nat, PA N c0 n → PA N2 c1 m → n = m ∧ ∀ k : Nat, k < n → wk N c0 k = wk N2 c1 k)) : z = z2 := by
  rcases h with ⟨h1, h2⟩ | ⟨h1, h2⟩ <;> rcases g with ⟨g1, g2⟩ | ⟨g1, g2⟩
  · omega
  · clear g2; omega
  · clear h2; omega
  · rcases h2 with ⟨a1, a2⟩ | ⟨a1, a2, a3⟩ <;> rcases g2 with ⟨b1, b2⟩ | ⟨b1, b2, b3⟩
    · omega
    · exact absurd ⟨b1, b2⟩ a1
    · exact absurd ⟨a1, a2⟩ b1
    · rcases a3 with ⟨a3, a4⟩ | ⟨a3, a4⟩ <;> rcases b3 with ⟨b3, b4⟩ | ⟨b3, b4⟩
      · omega
      · clear b4; omega
      · clear a4; omega
      · obtain ⟨e1, e2⟩ := e h1 a1 a2 a3
        rcases a4 with ⟨a4, a5⟩ | ⟨a4, a5, a6⟩ <;> rcases b4 with ⟨b4, b5⟩ | ⟨b4, b5, b6⟩
        · omega
        · exact absurd (e1.mpr b4) a4
        · exact absurd (e1.mp a4) b4
        · obtain ⟨e3, e4⟩ := e2 a4
          by_cases q : j = -1
          · rw [a5 q, b5 q, e3]
          · obtain ⟨n, n1, n2, n3, n4⟩ := a6 q
            obtain ⟨m, m1, m2, m3, m4⟩ := b6 q
            obtain ⟨f1, f2⟩ := e4 n m n1 m1
            subst f1
            by_cases q2 : j = -2
            · rw [n2 q2, m2 q2]
            · by_cases q3 : j < n
              · rw [n3 (by omega) q3, m3 (by omega) q3, f2 _ (by omega)]
              · rw [n4 (by omega), m4 (by omega)]
def zSI (ll i j z : Int) (P : Prop) (li pl ln kd : Nat → Int) (N : Int → Int) (c0 : Int) : Prop := (ll ≤ 0 ∧ z = -5) ∨ (0 < ll ∧ ((¬ (0 ≤ i ∧ i ≤ 11) ∧ z = -1) ∨ (0 ≤ i ∧ i ≤ 11 ∧ ((¬ P ∧ z = -6) ∨ (P ∧ ∃ n : Nat, PA N c0 n ∧ (j = -1 → z = oW ln kd (wk N c0) n - 1) ∧ (0 ≤ j → j < oW ln kd (wk N c0) n - 1 → SG li pl ln kd (wk N c0) n j z) ∧ (j < -1 ∨ (0 ≤ j ∧ oW ln kd (wk N c0) n - 1 ≤ j) → z = -6))))))
theorem zSI.same {ll i j z z2 c0 c1 : Int} {P P2 : Prop} {N N2 : Int → Int} {li pl ln kd li2 pl2 ln2 kd2 : Nat → Int} (h : zSI ll i j z P li pl ln kd N c0) (g : zSI ll i j z2 P2 li2 pl2 ln2 kd2 N2 c1) (e : 0 < ll → 0 ≤ i → i ≤ 11 → (P ↔ P2) ∧ (P → ∀ n m : Nat, PA N c0 n → PA N2 c1 m → n = m ∧ ∀ j : Nat, j < n → wk N c0 j = wk N2 c1 j ∧ ln (wk N c0 j / 16).toNat = ln2 (wk N c0 j / 16).toNat ∧ kd (wk N c0 j / 16).toNat = kd2 (wk N c0 j / 16).toNat ∧ pl (wk N c0 j / 16).toNat = pl2 (wk N c0 j / 16).toNat ∧ 1 ≤ ln (wk N c0 j / 16).toNat ∧ ∀ k : Int, 0 ≤ k → k < ln (wk N c0 j / 16).toNat → li (pl (wk N c0 j / 16).toNat + k).toNat = li2 (pl (wk N c0 j / 16).toNat + k).toNat)) : z = z2 := by
  rcases h with ⟨h1, h2⟩ | ⟨h1, h2⟩ <;> rcases g with ⟨g1, g2⟩ | ⟨g1, g2⟩
  · omega
  · clear g2; omega
  · clear h2; omega
  · rcases h2 with ⟨a1, a2⟩ | ⟨a1, a2, a3⟩ <;> rcases g2 with ⟨b1, b2⟩ | ⟨b1, b2, b3⟩
    · omega
    · exact absurd ⟨b1, b2⟩ a1
    · exact absurd ⟨a1, a2⟩ b1
    · obtain ⟨e1, e2⟩ := e h1 a1 a2
      rcases a3 with ⟨a4, a5⟩ | ⟨a4, n, n1, n2, n3, n4⟩ <;> rcases b3 with ⟨b4, b5⟩ | ⟨b4, m, m1, m2, m3, m4⟩
      · omega
      · exact absurd (e1.mpr b4) a4
      · exact absurd (e1.mp a4) b4
      · obtain ⟨f1, f2⟩ := e2 a4 n m n1 m1
        subst f1
        have ho : oW ln kd (wk N c0) n = oW ln2 kd2 (wk N2 c1) n := oW_cast n (fun j hj => ⟨(f2 j hj).1, (f2 j hj).2.1, (f2 j hj).2.2.1⟩)
        rw [← ho] at m2 m3 m4
        by_cases q : j = -1
        · rw [n2 q, m2 q]
        · by_cases q2 : 0 ≤ j ∧ j < oW ln kd (wk N c0) n - 1
          · exact (n3 q2.1 q2.2).same (m3 q2.1 q2.2) f2
          · rw [n4 (by omega), m4 (by omega)]
def zWY (ll z : Int) (R : Int → Prop) : Prop := (ll ≤ 0 ∧ z = -5) ∨ (0 < ll ∧ R z)
/-- what always holds of a CutLetters -/
def CI (pco dc : Int) (dle dki dco bjo bru : Nat → Int) (bll nll ncn : Int) (npl nle nki nco nfi njo kct kke kfo : Nat → Int) (wct ns : Int) (dlt bli nwd kbf : Nat → Int) (rs : Int) : Prop :=
  (0 ≤ pco ∧ pco ≤ 40) ∧ DI dc dle dki dco ∧ BI bjo bru bll ∧ (PB npl nle nki nco ∧ FB nfi ∧ JB njo ∧ 0 ≤ ncn ∧ ncn ≤ 480 ∧ 0 ≤ nll ∧ nll ≤ 24) ∧ (CB kct ∧ KB kke ∧ FO kfo) ∧ (0 ≤ wct ∧ wct ≤ 71) ∧ (ns ≠ 0 → NF npl nle nfi nll ∧ nll = bll ∧ NS (PK dc dlt dle dki dco bru bli bll) bll ncn npl nle nki nco nwd nfi ∧ ∀ j : Nat, j < 25 → njo j = bjo j) ∧ (rs ≠ 0 → ns ≠ 0 ∧ KW bll ncn npl nle nki nco nfi njo kbf kct kke)
theorem wk_shift {N : Int → Int} {c : Int} : ∀ j : Nat, wk N c (j + 1) = wk N (N c) j
  | 0 => rfl
  | j + 1 => by
    show N (wk N c (j + 1)) = N (wk N (N c) j)
    rw [wk_shift j]
theorem RR.path {rw nx : Nat → Int} {many : Int} (h : RR rw nx 0 many) : ∀ (d : Nat) (c : Int), 0 ≤ c → c / 16 < many → c % 16 < rw (c / 16).toNat → many - c / 16 ≤ d → ∃ n : Nat, PA (nM nx) c n ∧ ∀ u : Nat, u < n → wk (nM nx) c u / 16 < many
  | 0, c, h0, h1, _, hd => by omega
  | d + 1, c, h0, h1, h2, hd => by
    have hn : nM nx c < 0 ∨ (c / 16 < nM nx c / 16 ∧ nM nx c / 16 < many ∧ nM nx c % 16 < rw (nM nx c / 16).toNat) := h.next h0 h1 h2 rfl
    rcases hn with q | ⟨q1, q2, q3⟩
    · refine ⟨1, ⟨fun j hj => ?_, q⟩, fun u hu => ?_⟩
      · rw [show j = 0 by omega]; exact h0
      · rw [show u = 0 by omega]; exact h1
    · obtain ⟨n, ⟨p1, p2⟩, p3⟩ := RR.path h d (nM nx c) (by omega) q2 q3 (by omega)
      refine ⟨n + 1, ⟨fun j hj => ?_, by rw [wk_shift]; exact p2⟩, fun u hu => ?_⟩
      · cases j with
        | zero => exact h0
        | succ j => rw [wk_shift]; exact p1 j (by omega)
      · cases u with
        | zero => exact h1
        | succ u => rw [wk_shift]; exact p3 u (by omega)
theorem PA.far {N : Int → Int} {c : Int} {n k : Nat} (h : PA N c n) (hk : ∀ u : Nat, u ≤ k → 0 ≤ wk N c u) : k < n := by
  by_cases q : k < n
  · exact q
  · have := hk n (by omega)
    have := h.2
    omega
end
section
/-! both sides' answers over the net are the same -/
def AE (ll cnt : Int) (pl ln kd cs fi jo pl2 ln2 kd2 cs2 fi2 jo2 : Nat → Int) : Prop := (∀ i : Nat, (i : Int) < cnt → pl i = pl2 i ∧ ln i = ln2 i ∧ kd i = kd2 i ∧ cs i = cs2 i) ∧ (∀ p : Nat, (p : Int) ≤ ll → fi p = fi2 p) ∧ ∀ j : Nat, j < 25 → jo j = jo2 j
theorem RW.arr {ll cnt : Int} {pl ln kd cs fi jo pl2 ln2 kd2 cs2 fi2 jo2 rw rc rn : Nat → Int} (hG : GN ll cnt pl ln kd cs fi) (e : AE ll cnt pl ln kd cs fi jo pl2 ln2 kd2 cs2 fi2 jo2) (h : RW ll cnt pl2 ln2 kd2 cs2 fi2 jo2 rw rc rn 0) : RW ll cnt pl ln kd cs fi jo rw rc rn 0 := by
  obtain ⟨ea, ef, ej⟩ := e
  intro x h1 h2
  obtain ⟨a1, a2, a3⟩ := h x h1 h2
  obtain ⟨e1, e2, e3, e4⟩ := ea x h2
  have hx := hG.2.1 x h2
  refine ⟨a1, fun r hr => by rw [e1]; exact a2 r hr, ?_⟩
  rcases a3 with ⟨b1, b2, b3, b4⟩ | ⟨b1, b2, b3, b4⟩
  · refine Or.inl ⟨by omega, b2, ?_, b4⟩
    rw [b3, e3, e4, ej _ (by omega)]
  · refine Or.inr ⟨by omega, b2, ?_⟩
    have hcm : ∀ v, CM kd2 jo2 rw rc (5 * kd2 x) (fi2 (pl2 x + ln2 x).toNat) (fi2 (pl2 x + ln2 x + 1).toNat) 0 v ↔ CM kd jo rw rc (5 * kd x) (fi (pl x + ln x).toNat) (fi (pl x + ln x + 1).toNat) 0 v := by
      intro v
      rw [← e1, ← e2, ← e3, ← ef (pl x + ln x).toNat (by omega), ← ef (pl x + ln x + 1).toNat (by omega)]
      constructor
      · rintro ⟨i, s, i1, i2, i3, i4⟩
        obtain ⟨g1, g2, g3⟩ := hG.next h2 (by omega) i1 (by omega)
        have hi := hG.2.1 i g1
        have hk := (ea i g1).2.2.1
        exact ⟨i, s, i1, i2, i3, by rw [hk, ej _ (by omega)]; exact i4⟩
      · rintro ⟨i, s, i1, i2, i3, i4⟩
        obtain ⟨g1, g2, g3⟩ := hG.next h2 (by omega) i1 (by omega)
        have hi := hG.2.1 i g1
        have hk := (ea i g1).2.2.1
        exact ⟨i, s, i1, i2, i3, by rw [← hk, ← ej _ (by omega)]; exact i4⟩
    have hc := TP.cast ⟨b3, b4⟩ hcm
    exact hc.1.ext hc.2 rfl (fun r hr => by unfold rf; rw [e4])
theorem AH.arr {ll cnt : Int} {pl ln kd cs fi jo pl2 ln2 kd2 cs2 fi2 jo2 A : Nat → Int} (hG : GN ll cnt pl ln kd cs fi) (e : AE ll cnt pl ln kd cs fi jo pl2 ln2 kd2 cs2 fi2 jo2) {y : Nat} (hy : (y : Int) < cnt) (h : AH pl2 ln2 kd2 cs2 jo2 A y y) : AH pl ln kd cs jo A y y := by
  obtain ⟨ea, ef, ej⟩ := e
  obtain ⟨e1, e2, e3, e4⟩ := ea y hy
  have hg := hG.2.1 y hy
  have hs : ∀ c, AS pl2 ln2 kd2 cs2 jo2 A y y c ↔ AS pl ln kd cs jo A y y c := by
    intro c
    constructor
    · rintro (⟨q1, q2⟩ | ⟨z, z1, z2, z3, z4⟩)
      · exact Or.inl ⟨by omega, by rw [q2, e3, e4, ej _ (by omega)]⟩
      · obtain ⟨d1, d2, d3, d4⟩ := ea z (by omega)
        have hz := hG.2.1 z (by omega)
        exact Or.inr ⟨z, z1, by omega, z3, by rw [z4, e3, e4, d3, ej _ (by omega)]⟩
    · rintro (⟨q1, q2⟩ | ⟨z, z1, z2, z3, z4⟩)
      · exact Or.inl ⟨by omega, by rw [q2, ← e3, ← e4, ej _ (by omega)]⟩
      · obtain ⟨d1, d2, d3, d4⟩ := ea z (by omega)
        have hz := hG.2.1 z (by omega)
        exact Or.inr ⟨z, z1, by omega, z3, by rw [z4, ← e3, ← e4, ← d3, ej _ (by omega)]⟩
  rcases h with ⟨h1, h2⟩ | ⟨h1, h2, h3, h4⟩
  · exact Or.inl ⟨h1, fun c hc => h2 c ((hs c).mpr hc)⟩
  · exact Or.inr ⟨h1, (hs _).mp h2, fun c hc => h3 c ((hs c).mpr hc), by omega⟩
theorem CM.arr {ll cnt : Int} {pl ln kd cs fi jo pl2 ln2 kd2 cs2 fi2 jo2 rw rc : Nat → Int} (hG : GN ll cnt pl ln kd cs fi) (e : AE ll cnt pl ln kd cs fi jo pl2 ln2 kd2 cs2 fi2 jo2) (hl : 1 ≤ ll) : CM kd2 jo2 rw rc 20 (fi2 0) (fi2 1) 0 = CM kd jo rw rc 20 (fi 0) (fi 1) 0 := by
  obtain ⟨ea, ef, ej⟩ := e
  funext v
  rw [← ef 0 (by omega), ← ef 1 (by omega)]
  refine propext ⟨?_, ?_⟩
  · rintro ⟨i, s, i1, i2, i3, i4⟩
    obtain ⟨g1, g2⟩ := hG.in_ (p := 0) (by omega) i1 (by show (i : Int) < fi 1; omega)
    have hi := hG.2.1 i g1
    have hk := (ea i g1).2.2.1
    exact ⟨i, s, i1, i2, i3, by rw [hk, ej _ (by omega)]; exact i4⟩
  · rintro ⟨i, s, i1, i2, i3, i4⟩
    obtain ⟨g1, g2⟩ := hG.in_ (p := 0) (by omega) i1 (by show (i : Int) < fi 1; omega)
    have hi := hG.2.1 i g1
    have hk := (ea i g1).2.2.1
    exact ⟨i, s, i1, i2, i3, by rw [← hk, ← ej _ (by omega)]; exact i4⟩
theorem WX.arr {ll cnt : Int} {pl ln pl2 ln2 X : Nat → Int} (e : ∀ i : Nat, (i : Int) < cnt → pl i = pl2 i ∧ ln i = ln2 i) (h : WX ll cnt pl2 ln2 X) : WX ll cnt pl ln X := by
  intro q hq
  rw [sm_eq (g := fun i => if pl2 i + ln2 i = (q : Int) then X (pl2 i).toNat else 0) cnt.toNat (fun i hi => by rw [(e i (by omega)).1, (e i (by omega)).2])]
  exact h q hq
section NSAME
variable {pco dc bll nll ncn wct ns rs wd ln1 my : Int} {dle dki dco bjo bru npl nle nki nco nfi njo kct kke kfo dlt bli nwd kbf : Nat → Int} {mle msz mkd mco mjo mru mli mpl mln mso mpr mof mbg mrw mrc mrn : Nat → Int}
theorem net_same (hC : CI pco dc dle dki dco bjo bru bll nll ncn npl nle nki nco nfi njo kct kke kfo wct ns dlt bli nwd kbf rs) (hn : ns ≠ 0) (hM : NS (PK wd mle msz mkd mco mru mli ln1) ln1 my mpl mln mso mpr mof mbg) (d : DQ dc dlt dle dki dco wd mle msz mkd mco) (hj : ∀ j : Nat, j < 25 → bjo j = mjo j) (hr : ∀ j : Nat, j < 4 → bru j = mru j) (l1 : bll = ln1) (l2 : ∀ j : Nat, (j : Int) < bll → bli j = mli j) : GN bll ncn npl nle nki nco nfi ∧ JB njo ∧ ncn = my ∧ AE bll ncn npl nle nki nco nfi njo mpl mln mso mpr mbg mjo ∧ ∀ i : Nat, (i : Int) < ncn → nwd i = mof i := by
  obtain ⟨h1, h2, h3, h4, h5, h6, h7, h8⟩ := hC
  obtain ⟨g1, g2, g3, g4⟩ := h7 hn
  have hq : PK dc dlt dle dki dco bru bli bll = PK wd mle msz mkd mco mru mli ln1 := BS.q ⟨d, hr, l1, l2⟩
  subst l1
  rw [← hq] at hM
  obtain ⟨s1, s2, s3⟩ := g3.same hM
  refine ⟨NS.gn h2 h3 g3, h4.2.2.1, s1, ⟨fun i hi => ?_, s3, fun j hjj => by rw [g4 j hjj, hj j hjj]⟩, fun i hi => (s2 i hi).2.2.2.2⟩
  obtain ⟨a, b, c, d, -⟩ := s2 i hi
  exact ⟨a, b, c, d⟩
theorem pieces_same {z z2 : Int} (hC : CI pco dc dle dki dco bjo bru bll nll ncn npl nle nki nco nfi njo kct kke kfo wct ns dlt bli nwd kbf rs) (h : zPC bll ncn z ∧ (0 < bll → ns ≠ 0)) (g : zPC ln1 my z2 ∧ (0 < ln1 → NS (PK wd mle msz mkd mco mru mli ln1) ln1 my mpl mln mso mpr mof mbg)) (d : DQ dc dlt dle dki dco wd mle msz mkd mco) (hj : ∀ j : Nat, j < 25 → bjo j = mjo j) (hr : ∀ j : Nat, j < 4 → bru j = mru j) (l1 : bll = ln1) (l2 : ∀ j : Nat, (j : Int) < bll → bli j = mli j) : z = z2 := by
  obtain ⟨h1, h2⟩ := h
  obtain ⟨g1, g2⟩ := g
  unfold zPC at h1 g1
  by_cases e : 0 < bll
  · have := (net_same hC (h2 e) (g2 (by omega)) d hj hr l1 l2).2.2.1
    omega
  · omega
theorem ways_eq {z z2 : Int} (hC : CI pco dc dle dki dco bjo bru bll nll ncn npl nle nki nco nfi njo kct kke kfo wct ns dlt bli nwd kbf rs) (h : zWY bll z (fun z => (0 ≤ z ∧ z < 1000003) ∧ ∃ Y : Nat → Int, z = Y 0 ∧ WY bll ncn npl nle Y) ∧ (0 < bll → ns ≠ 0)) (g : zWY ln1 z2 (fun z => (0 ≤ z ∧ z < 1000003) ∧ ∃ X : Nat → Int, z = X ln1.toNat ∧ WX ln1 my mpl mln X) ∧ (0 < ln1 → NS (PK wd mle msz mkd mco mru mli ln1) ln1 my mpl mln mso mpr mof mbg)) (d : DQ dc dlt dle dki dco wd mle msz mkd mco) (hj : ∀ j : Nat, j < 25 → bjo j = mjo j) (hr : ∀ j : Nat, j < 4 → bru j = mru j) (l1 : bll = ln1) (l2 : ∀ j : Nat, (j : Int) < bll → bli j = mli j) : z = z2 := by
  obtain ⟨h1, h2⟩ := h
  obtain ⟨g1, g2⟩ := g
  rcases h1 with ⟨a1, a2⟩ | ⟨a1, a2, Y, a3, a4⟩ <;> rcases g1 with ⟨b1, b2⟩ | ⟨b1, b2, X, b3, b4⟩
  · omega
  · omega
  · omega
  · obtain ⟨k1, k2, k3, k4, k5⟩ := net_same hC (h2 a1) (g2 b1) d hj hr l1 l2
    subst l1
    subst k3
    have hw := WX.arr (fun i hi => ⟨(k4.1 i hi).1, (k4.1 i hi).2.1⟩) b4
    have := ways_same (by omega) (fun i hi => by have := k1.2.1 i hi; omega) hw a4 (by omega) (by omega)
    omega
theorem piece_same {i what z z2 : Int} (hC : CI pco dc dle dki dco bjo bru bll nll ncn npl nle nki nco nfi njo kct kke kfo wct ns dlt bli nwd kbf rs) (h : zPI bll ncn npl nle nki nco nwd (LEc npl nle nki nco njo kbf kct kke i.toNat) i what z ∧ (0 < bll → ns ≠ 0) ∧ (0 < bll → 0 ≤ i → i < ncn → what = 5 → rs ≠ 0)) (g : zPI ln1 my mpl mln mso mpr mof (LEm mpl mln mso mpr mjo mrw mrc i.toNat) i what z2 ∧ (0 < ln1 → NS (PK wd mle msz mkd mco mru mli ln1) ln1 my mpl mln mso mpr mof mbg ∧ RW ln1 my mpl mln mso mpr mbg mjo mrw mrc mrn 0)) (d : DQ dc dlt dle dki dco wd mle msz mkd mco) (hj : ∀ j : Nat, j < 25 → bjo j = mjo j) (hr : ∀ j : Nat, j < 4 → bru j = mru j) (l1 : bll = ln1) (l2 : ∀ j : Nat, (j : Int) < bll → bli j = mli j) : z = z2 := by
  obtain ⟨h1, h2, h3⟩ := h
  obtain ⟨g1, g2⟩ := g
  have hk := fun e : 0 < bll => net_same hC (h2 e) (g2 (by omega)).1 d hj hr l1 l2
  have hR := fun e : 0 < bll => (g2 (by omega)).2
  subst l1
  refine h1.same g1 (fun e => ?_) (fun e e1 e2 e3 a b => ?_)
  · obtain ⟨k1, k2, k3, k4, k5⟩ := hk e
    refine ⟨k3, fun j hj => ?_⟩
    obtain ⟨a, b, c, d⟩ := k4.1 j hj
    exact ⟨a, b, c, d, k5 j hj⟩
  · obtain ⟨k1, k2, k3, k4, k5⟩ := hk e
    have hr0 := hR e
    subst k3
    have hKW := (hC.2.2.2.2.2.2.2 (h3 e e1 e2 e3)).2
    refine LE.same k1 k2 hKW (RW.arr k1 k4 hr0) (y := i.toNat) (by omega) a ?_
    obtain ⟨A, b0, b1, b2⟩ := b
    exact ⟨A, fun x hx => (b0 x hx).arr k1 k4 (by omega), b1, fun q1 q2 => by rw [b2 q1 q2, (k4.1 i.toNat (by omega)).2.2.2]⟩
/-- what both sides know of a cutting's number -/
theorem code_same {i code : Int} (hC : CI pco dc dle dki dco bjo bru bll nll ncn npl nle nki nco nfi njo kct kke kfo wct ns dlt bli nwd kbf rs) (e : 0 < bll) (hi : 0 ≤ i) (hi2 : i ≤ 11) (hrs : rs ≠ 0) (hM : NS (PK wd mle msz mkd mco mru mli ln1) ln1 my mpl mln mso mpr mof mbg) (hR0 : RW ln1 my mpl mln mso mpr mbg mjo mrw mrc mrn 0) (hct : CT (CM mso mjo mrw mrc 20 (mbg 0) (mbg 1) 0) i code) (d : DQ dc dlt dle dki dco wd mle msz mkd mco) (hj : ∀ j : Nat, j < 25 → bjo j = mjo j) (hr : ∀ j : Nat, j < 4 → bru j = mru j) (l1 : bll = ln1) (l2 : ∀ j : Nat, (j : Int) < bll → bli j = mli j) : (i < kct 4 ↔ 0 ≤ code) ∧ (i < kct 4 → code = kke (48 + i).toNat % 8192 ∧ kke (48 + i).toNat / 8192 = mjo (20 + mso (code / 16).toNat).toNat + mrc (12 * (code / 16) + code % 16).toNat ∧ ∀ n m : Nat, PA (nC bll npl nle nki kke) code n → PA (nM mrn) code m → n = m ∧ ∀ j : Nat, j < n → wk (nC bll npl nle nki kke) code j = wk (nM mrn) code j ∧ VC ncn npl nle nki kbf mrw (wk (nC bll npl nle nki kke) code j)) := by
  obtain ⟨hns, hKW⟩ := hC.2.2.2.2.2.2.2 hrs
  obtain ⟨k1, k2, k3, k4, k5⟩ := net_same hC hns hM d hj hr l1 l2
  have hCB := hC.2.2.2.2.1.1
  subst l1
  subst k3
  have hR := RW.arr k1 k4 hR0
  rw [CM.arr k1 k4 (by omega)] at hct
  obtain ⟨t1, t2⟩ := AG.start (by omega) k1 k2 hKW hR
  obtain ⟨c1, c2⟩ := hct.same hi t1 t2
  have h4 := hCB 4 (by omega)
  refine ⟨⟨fun q => c1.mpr q, fun q => c1.mp q⟩, fun q => ?_⟩
  have e1 : kl kke 4 i.toNat = kke (48 + i).toNat := by
    show kke (12 * 4 + i.toNat) = _
    congr 1; omega
  have ec := c2 q
  have hm := t1.2.2.1 i.toNat (by omega)
  have hf := k1.fi_ (p := 0) (by omega) (by omega)
  have hrw : ∀ x : Nat, (x : Int) < ncn → mrw x ≤ 12 := fun x hx => (hR x (by omega) hx).1.2
  have hat := CM.at hm (fun x h1 h2 => hrw x (by have := hf.2.2; simp at this; omega)) (by have := k1.1; have := hf.2.2; simp at this; omega) (by have := hf.1; simp at this; omega)
  rw [← ec, e1] at hat
  obtain ⟨q1, q2, q3, q4⟩ := hat
  have hvc := CM.vc (q := 0) (k := 4) k1 k2 hKW.1 hrw (by omega) (by omega) (by rw [show 0 * 5 + 4 = 4 from rfl, hKW.1.1]; decide) hm
  rw [← ec] at hvc
  have hy := k1.2.1 (code / 16).toNat (by have := hvc.2.1; have := hvc.1; omega)
  have hkd := (k4.1 (code / 16).toNat (by have := hvc.2.1; have := hvc.1; omega)).2.2.1
  refine ⟨by rw [ec, e1], by rw [q4, ← hkd, k4.2.2 _ (by omega)], fun n m p1 p2 => ?_⟩
  obtain ⟨s1, s2⟩ := PA.same k1 k2 hKW hR hvc p1 p2
  refine ⟨s1, fun j hjn => ⟨s2 j (by omega), ?_⟩⟩
  have := wk_same k1 k2 hKW hR hvc j (fun x hx => p1.1 x (by omega))
  rw [← this.1] at this
  exact this.2 (p1.1 j hjn)
theorem cutting_same {i j z z2 code : Int} (hC : CI pco dc dle dki dco bjo bru bll nll ncn npl nle nki nco nfi njo kct kke kfo wct ns dlt bli nwd kbf rs) (h : zCU bll i j z (i < kct 4) (kke (48 + i).toNat / 8192) (nC bll npl nle nki kke) (kke (48 + i).toNat % 8192) ∧ (0 < bll → 0 ≤ i → i ≤ 11 → -2 ≤ j → rs ≠ 0)) (g : zCU ln1 i j z2 (0 ≤ code) (mjo (20 + mso (code / 16).toNat).toNat + mrc (12 * (code / 16) + code % 16).toNat) (nM mrn) code ∧ (0 < ln1 → 0 ≤ i → i ≤ 11 → -2 ≤ j → NS (PK wd mle msz mkd mco mru mli ln1) ln1 my mpl mln mso mpr mof mbg ∧ RW ln1 my mpl mln mso mpr mbg mjo mrw mrc mrn 0 ∧ CT (CM mso mjo mrw mrc 20 (mbg 0) (mbg 1) 0) i code)) (d : DQ dc dlt dle dki dco wd mle msz mkd mco) (hj : ∀ j : Nat, j < 25 → bjo j = mjo j) (hr : ∀ j : Nat, j < 4 → bru j = mru j) (l1 : bll = ln1) (l2 : ∀ j : Nat, (j : Int) < bll → bli j = mli j) : z = z2 := by
  obtain ⟨h1, h2⟩ := h
  obtain ⟨g1, g2⟩ := g
  rw [← l1] at g1
  refine h1.same g1 (fun e i0 i1 j0 => ?_)
  obtain ⟨g3, g4, g5⟩ := g2 (by omega) i0 i1 j0
  obtain ⟨c1, c2⟩ := code_same hC e i0 i1 (h2 e i0 i1 j0) g3 g4 g5 d hj hr l1 l2
  refine ⟨c1, fun q => ?_⟩
  obtain ⟨d1, d2, d3⟩ := c2 q
  rw [← d1]
  refine ⟨d2, fun n m p1 p2 => ?_⟩
  obtain ⟨f1, f2⟩ := d3 n m p1 p2
  exact ⟨f1, fun k hk => (f2 k hk).1⟩
theorem sign_same {i j z z2 code : Int} (hC : CI pco dc dle dki dco bjo bru bll nll ncn npl nle nki nco nfi njo kct kke kfo wct ns dlt bli nwd kbf rs) (h : zSI bll i j z (i < kct 4) bli npl nle nki (nC bll npl nle nki kke) (kke (48 + i).toNat % 8192) ∧ (0 < bll → 0 ≤ i → i ≤ 11 → rs ≠ 0)) (g : zSI ln1 i j z2 (0 ≤ code) mli mpl mln mso (nM mrn) code ∧ (0 < ln1 → 0 ≤ i → i ≤ 11 → NS (PK wd mle msz mkd mco mru mli ln1) ln1 my mpl mln mso mpr mof mbg ∧ RW ln1 my mpl mln mso mpr mbg mjo mrw mrc mrn 0 ∧ CT (CM mso mjo mrw mrc 20 (mbg 0) (mbg 1) 0) i code)) (d : DQ dc dlt dle dki dco wd mle msz mkd mco) (hj : ∀ j : Nat, j < 25 → bjo j = mjo j) (hr : ∀ j : Nat, j < 4 → bru j = mru j) (l1 : bll = ln1) (l2 : ∀ j : Nat, (j : Int) < bll → bli j = mli j) : z = z2 := by
  obtain ⟨h1, h2⟩ := h
  obtain ⟨g1, g2⟩ := g
  rw [← l1] at g1
  refine h1.same g1 (fun e i0 i1 => ?_)
  obtain ⟨g3, g4, g5⟩ := g2 (by omega) i0 i1
  have hns := (hC.2.2.2.2.2.2.2 (h2 e i0 i1)).1
  obtain ⟨k1, k2, k3, k4, k5⟩ := net_same hC hns g3 d hj hr l1 l2
  obtain ⟨c1, c2⟩ := code_same hC e i0 i1 (h2 e i0 i1) g3 g4 g5 d hj hr l1 l2
  refine ⟨c1, fun q => ?_⟩
  obtain ⟨d1, d2, d3⟩ := c2 q
  rw [← d1]
  intro n m p1 p2
  obtain ⟨f1, f2⟩ := d3 n m p1 p2
  refine ⟨f1, fun k hk => ?_⟩
  obtain ⟨v1, v2⟩ := f2 k hk
  obtain ⟨u1, u2, u3, u4⟩ := v2
  have hy : (((wk (nC bll npl nle nki kke) code k / 16).toNat : Nat) : Int) < ncn := by omega
  have hg := k1.2.1 _ hy
  obtain ⟨a1, a2, a3, a4⟩ := k4.1 _ hy
  exact ⟨v1, a2, a3, a1, hg.2.1, fun t t0 t1 => l2 _ (by omega)⟩
end NSAME
end
