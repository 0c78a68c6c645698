-- ===== PART A: goes FIRST, ahead of the names: the tables' words, and 'selects' of the private methods out of them =====
/-- a private method of a class that the tables say can be made, by its rows of tables_1 -/
def lw_okq (q : MethodName × Nat) : Prop := (q.1.cls ≠ "java/lang/invoke/MethodHandle" ∧ q.1.cls ≠ "java/lang/invoke/VarHandle") ∧ Cond.instantiable q.1.cls q.2 ∈ tables_1 ∧ Cond.privateMethod q.1 ∈ tables_1 ∧ Cond.instanceMethod q.1 ∈ tables_1
theorem lw_p0 : lw_okq (⟨"CutLetters$Pad", "leadingLetters", "(I)I"⟩, 5) := ⟨⟨by decide +kernel, by decide +kernel⟩, List.mem_of_getElem? (i := 24) (by decide +kernel), List.mem_of_getElem? (i := 256) (by decide +kernel), List.mem_of_getElem? (i := 257) (by decide +kernel)⟩
theorem lw_p1 : lw_okq (⟨"CutLetters$Pad", "signAt", "(I)I"⟩, 5) := ⟨⟨by decide +kernel, by decide +kernel⟩, List.mem_of_getElem? (i := 24) (by decide +kernel), List.mem_of_getElem? (i := 260) (by decide +kernel), List.mem_of_getElem? (i := 261) (by decide +kernel)⟩
theorem lw_p2 : lw_okq (⟨"CutLetters$Pad", "kindNamedAt", "(I)I"⟩, 5) := ⟨⟨by decide +kernel, by decide +kernel⟩, List.mem_of_getElem? (i := 24) (by decide +kernel), List.mem_of_getElem? (i := 267) (by decide +kernel), List.mem_of_getElem? (i := 268) (by decide +kernel)⟩
theorem lw_p3 : lw_okq (⟨"CutLetters$Pad", "nameStandsAt", "(II)Z"⟩, 5) := ⟨⟨by decide +kernel, by decide +kernel⟩, List.mem_of_getElem? (i := 24) (by decide +kernel), List.mem_of_getElem? (i := 312) (by decide +kernel), List.mem_of_getElem? (i := 313) (by decide +kernel)⟩
theorem lw_p4 : lw_okq (⟨"CutLetters$Pad", "readCost", "(I)I"⟩, 5) := ⟨⟨by decide +kernel, by decide +kernel⟩, List.mem_of_getElem? (i := 24) (by decide +kernel), List.mem_of_getElem? (i := 316) (by decide +kernel), List.mem_of_getElem? (i := 317) (by decide +kernel)⟩
theorem lw_p5 : lw_okq (⟨"CutLetters$Dictionary", "find", "(LCutLetters$Pad;)I"⟩, 5) := ⟨⟨by decide +kernel, by decide +kernel⟩, List.mem_of_getElem? (i := 60) (by decide +kernel), List.mem_of_getElem? (i := 336) (by decide +kernel), List.mem_of_getElem? (i := 337) (by decide +kernel)⟩
theorem lw_p6 : lw_okq (⟨"CutLetters", "somethingChanged", "()V"⟩, 8) := ⟨⟨by decide +kernel, by decide +kernel⟩, List.mem_of_getElem? (i := 16) (by decide +kernel), List.mem_of_getElem? (i := 347) (by decide +kernel), List.mem_of_getElem? (i := 348) (by decide +kernel)⟩
theorem lw_p7 : lw_okq (⟨"CutLetters", "hasLine", "()Z"⟩, 8) := ⟨⟨by decide +kernel, by decide +kernel⟩, List.mem_of_getElem? (i := 16) (by decide +kernel), List.mem_of_getElem? (i := 400) (by decide +kernel), List.mem_of_getElem? (i := 401) (by decide +kernel)⟩
theorem lw_p8 : lw_okq (⟨"CutLetters", "makeNet", "()V"⟩, 8) := ⟨⟨by decide +kernel, by decide +kernel⟩, List.mem_of_getElem? (i := 16) (by decide +kernel), List.mem_of_getElem? (i := 404) (by decide +kernel), List.mem_of_getElem? (i := 405) (by decide +kernel)⟩
theorem lw_p9 : lw_okq (⟨"CutLetters$Net", "fillSlots", "(LCutLetters$Book;I)V"⟩, 11) := ⟨⟨by decide +kernel, by decide +kernel⟩, List.mem_of_getElem? (i := 115) (by decide +kernel), List.mem_of_getElem? (i := 413) (by decide +kernel), List.mem_of_getElem? (i := 414) (by decide +kernel)⟩
theorem lw_p10 : lw_okq (⟨"CutLetters$Net", "fillWords", "(LCutLetters$Book;I)Z"⟩, 11) := ⟨⟨by decide +kernel, by decide +kernel⟩, List.mem_of_getElem? (i := 115) (by decide +kernel), List.mem_of_getElem? (i := 417) (by decide +kernel), List.mem_of_getElem? (i := 418) (by decide +kernel)⟩
theorem lw_p11 : lw_okq (⟨"CutLetters$Net", "fillWild", "(LCutLetters$Book;I)V"⟩, 11) := ⟨⟨by decide +kernel, by decide +kernel⟩, List.mem_of_getElem? (i := 115) (by decide +kernel), List.mem_of_getElem? (i := 422) (by decide +kernel), List.mem_of_getElem? (i := 423) (by decide +kernel)⟩
theorem lw_p12 : lw_okq (⟨"CutLetters$Net", "addSlots", "(LCutLetters$Book;I)V"⟩, 11) := ⟨⟨by decide +kernel, by decide +kernel⟩, List.mem_of_getElem? (i := 115) (by decide +kernel), List.mem_of_getElem? (i := 433) (by decide +kernel), List.mem_of_getElem? (i := 434) (by decide +kernel)⟩
theorem lw_p13 : lw_okq (⟨"CutLetters$Net", "add", "(LCutLetters$Book;II)V"⟩, 11) := ⟨⟨by decide +kernel, by decide +kernel⟩, List.mem_of_getElem? (i := 115) (by decide +kernel), List.mem_of_getElem? (i := 437) (by decide +kernel), List.mem_of_getElem? (i := 438) (by decide +kernel)⟩
theorem lw_p14 : lw_okq (⟨"CutLetters", "makeRanking", "()V"⟩, 8) := ⟨⟨by decide +kernel, by decide +kernel⟩, List.mem_of_getElem? (i := 16) (by decide +kernel), List.mem_of_getElem? (i := 445) (by decide +kernel), List.mem_of_getElem? (i := 446) (by decide +kernel)⟩
theorem lw_p15 : lw_okq (⟨"CutLetters$Ranking", "reachSpots", "(LCutLetters$Net;)V"⟩, 4) := ⟨⟨by decide +kernel, by decide +kernel⟩, List.mem_of_getElem? (i := 171) (by decide +kernel), List.mem_of_getElem? (i := 453) (by decide +kernel), List.mem_of_getElem? (i := 454) (by decide +kernel)⟩
def lw_privs_1 : List (MethodName × Nat) := [(⟨"CutLetters$Pad", "leadingLetters", "(I)I"⟩, 5), (⟨"CutLetters$Pad", "signAt", "(I)I"⟩, 5), (⟨"CutLetters$Pad", "kindNamedAt", "(I)I"⟩, 5), (⟨"CutLetters$Pad", "nameStandsAt", "(II)Z"⟩, 5), (⟨"CutLetters$Pad", "readCost", "(I)I"⟩, 5), (⟨"CutLetters$Dictionary", "find", "(LCutLetters$Pad;)I"⟩, 5), (⟨"CutLetters", "somethingChanged", "()V"⟩, 8), (⟨"CutLetters", "hasLine", "()Z"⟩, 8), (⟨"CutLetters", "makeNet", "()V"⟩, 8), (⟨"CutLetters$Net", "fillSlots", "(LCutLetters$Book;I)V"⟩, 11), (⟨"CutLetters$Net", "fillWords", "(LCutLetters$Book;I)Z"⟩, 11), (⟨"CutLetters$Net", "fillWild", "(LCutLetters$Book;I)V"⟩, 11), (⟨"CutLetters$Net", "addSlots", "(LCutLetters$Book;I)V"⟩, 11), (⟨"CutLetters$Net", "add", "(LCutLetters$Book;II)V"⟩, 11), (⟨"CutLetters", "makeRanking", "()V"⟩, 8), (⟨"CutLetters$Ranking", "reachSpots", "(LCutLetters$Net;)V"⟩, 4)]
theorem lw_r1 : ∀ q ∈ lw_privs_1, lw_okq q := List.forall_mem_cons.mpr ⟨lw_p0, List.forall_mem_cons.mpr ⟨lw_p1, List.forall_mem_cons.mpr ⟨lw_p2, List.forall_mem_cons.mpr ⟨lw_p3, List.forall_mem_cons.mpr ⟨lw_p4, List.forall_mem_cons.mpr ⟨lw_p5, List.forall_mem_cons.mpr ⟨lw_p6, List.forall_mem_cons.mpr ⟨lw_p7, List.forall_mem_cons.mpr ⟨lw_p8, List.forall_mem_cons.mpr ⟨lw_p9, List.forall_mem_cons.mpr ⟨lw_p10, List.forall_mem_cons.mpr ⟨lw_p11, List.forall_mem_cons.mpr ⟨lw_p12, List.forall_mem_cons.mpr ⟨lw_p13, List.forall_mem_cons.mpr ⟨lw_p14, List.forall_mem_cons.mpr ⟨lw_p15, fun _ h => absurd h List.not_mem_nil⟩⟩⟩⟩⟩⟩⟩⟩⟩⟩⟩⟩⟩⟩⟩⟩
theorem lw_p16 : lw_okq (⟨"CutLetters$Ranking", "leastUpTo", "(LCutLetters$Net;I)I"⟩, 4) := ⟨⟨by decide +kernel, by decide +kernel⟩, List.mem_of_getElem? (i := 171) (by decide +kernel), List.mem_of_getElem? (i := 461) (by decide +kernel), List.mem_of_getElem? (i := 462) (by decide +kernel)⟩
theorem lw_p17 : lw_okq (⟨"CutLetters$Ranking", "rankEnds", "(LCutLetters$Net;)V"⟩, 4) := ⟨⟨by decide +kernel, by decide +kernel⟩, List.mem_of_getElem? (i := 171) (by decide +kernel), List.mem_of_getElem? (i := 470) (by decide +kernel), List.mem_of_getElem? (i := 471) (by decide +kernel)⟩
theorem lw_p18 : lw_okq (⟨"CutLetters$Ranking", "rankSpot", "(LCutLetters$Net;II)V"⟩, 4) := ⟨⟨by decide +kernel, by decide +kernel⟩, List.mem_of_getElem? (i := 171) (by decide +kernel), List.mem_of_getElem? (i := 478) (by decide +kernel), List.mem_of_getElem? (i := 479) (by decide +kernel)⟩
theorem lw_p19 : lw_okq (⟨"CutLetters$Ranking", "offerWays", "(LCutLetters$Net;III)V"⟩, 4) := ⟨⟨by decide +kernel, by decide +kernel⟩, List.mem_of_getElem? (i := 171) (by decide +kernel), List.mem_of_getElem? (i := 482) (by decide +kernel), List.mem_of_getElem? (i := 483) (by decide +kernel)⟩
theorem lw_p20 : lw_okq (⟨"CutLetters$Ranking", "offer", "(II)Z"⟩, 4) := ⟨⟨by decide +kernel, by decide +kernel⟩, List.mem_of_getElem? (i := 171) (by decide +kernel), List.mem_of_getElem? (i := 486) (by decide +kernel), List.mem_of_getElem? (i := 487) (by decide +kernel)⟩
theorem lw_p21 : lw_okq (⟨"CutLetters$Writing", "add", "(I)V"⟩, 2) := ⟨⟨by decide +kernel, by decide +kernel⟩, List.mem_of_getElem? (i := 192) (by decide +kernel), List.mem_of_getElem? (i := 538) (by decide +kernel), List.mem_of_getElem? (i := 539) (by decide +kernel)⟩
theorem lw_p22 : lw_okq (⟨"CutLetters$Writing", "writePiece", "(ILCutLetters$Net;LCutLetters$Book;)V"⟩, 2) := ⟨⟨by decide +kernel, by decide +kernel⟩, List.mem_of_getElem? (i := 192) (by decide +kernel), List.mem_of_getElem? (i := 542) (by decide +kernel), List.mem_of_getElem? (i := 543) (by decide +kernel)⟩
theorem lw_p23 : lw_okq (⟨"CutLettersModel", "wordFault", "()I"⟩, 28) := ⟨⟨by decide +kernel, by decide +kernel⟩, List.mem_of_getElem? (i := 566) (by decide +kernel), List.mem_of_getElem? (i := 673) (by decide +kernel), List.mem_of_getElem? (i := 674) (by decide +kernel)⟩
theorem lw_p24 : lw_okq (⟨"CutLettersModel", "lineFault", "()I"⟩, 28) := ⟨⟨by decide +kernel, by decide +kernel⟩, List.mem_of_getElem? (i := 566) (by decide +kernel), List.mem_of_getElem? (i := 683) (by decide +kernel), List.mem_of_getElem? (i := 684) (by decide +kernel)⟩
theorem lw_p25 : lw_okq (⟨"CutLettersModel", "layPieces", "()V"⟩, 28) := ⟨⟨by decide +kernel, by decide +kernel⟩, List.mem_of_getElem? (i := 566) (by decide +kernel), List.mem_of_getElem? (i := 715) (by decide +kernel), List.mem_of_getElem? (i := 716) (by decide +kernel)⟩
theorem lw_p26 : lw_okq (⟨"CutLettersModel", "stands", "(II)Z"⟩, 28) := ⟨⟨by decide +kernel, by decide +kernel⟩, List.mem_of_getElem? (i := 566) (by decide +kernel), List.mem_of_getElem? (i := 722) (by decide +kernel), List.mem_of_getElem? (i := 723) (by decide +kernel)⟩
theorem lw_p27 : lw_okq (⟨"CutLettersModel", "put", "(IIIII)V"⟩, 28) := ⟨⟨by decide +kernel, by decide +kernel⟩, List.mem_of_getElem? (i := 566) (by decide +kernel), List.mem_of_getElem? (i := 726) (by decide +kernel), List.mem_of_getElem? (i := 727) (by decide +kernel)⟩
theorem lw_p28 : lw_okq (⟨"CutLettersModel", "layRows", "()V"⟩, 28) := ⟨⟨by decide +kernel, by decide +kernel⟩, List.mem_of_getElem? (i := 566) (by decide +kernel), List.mem_of_getElem? (i := 734) (by decide +kernel), List.mem_of_getElem? (i := 735) (by decide +kernel)⟩
theorem lw_p29 : lw_okq (⟨"CutLettersModel", "behind", "(I)I"⟩, 28) := ⟨⟨by decide +kernel, by decide +kernel⟩, List.mem_of_getElem? (i := 566) (by decide +kernel), List.mem_of_getElem? (i := 738) (by decide +kernel), List.mem_of_getElem? (i := 739) (by decide +kernel)⟩
theorem lw_p30 : lw_okq (⟨"CutLettersModel", "joinOf", "(II)I"⟩, 28) := ⟨⟨by decide +kernel, by decide +kernel⟩, List.mem_of_getElem? (i := 566) (by decide +kernel), List.mem_of_getElem? (i := 742) (by decide +kernel), List.mem_of_getElem? (i := 743) (by decide +kernel)⟩
theorem lw_p31 : lw_okq (⟨"CutLettersModel", "leastOf", "(I)I"⟩, 28) := ⟨⟨by decide +kernel, by decide +kernel⟩, List.mem_of_getElem? (i := 566) (by decide +kernel), List.mem_of_getElem? (i := 746) (by decide +kernel), List.mem_of_getElem? (i := 747) (by decide +kernel)⟩
def lw_privs_2 : List (MethodName × Nat) := [(⟨"CutLetters$Ranking", "leastUpTo", "(LCutLetters$Net;I)I"⟩, 4), (⟨"CutLetters$Ranking", "rankEnds", "(LCutLetters$Net;)V"⟩, 4), (⟨"CutLetters$Ranking", "rankSpot", "(LCutLetters$Net;II)V"⟩, 4), (⟨"CutLetters$Ranking", "offerWays", "(LCutLetters$Net;III)V"⟩, 4), (⟨"CutLetters$Ranking", "offer", "(II)Z"⟩, 4), (⟨"CutLetters$Writing", "add", "(I)V"⟩, 2), (⟨"CutLetters$Writing", "writePiece", "(ILCutLetters$Net;LCutLetters$Book;)V"⟩, 2), (⟨"CutLettersModel", "wordFault", "()I"⟩, 28), (⟨"CutLettersModel", "lineFault", "()I"⟩, 28), (⟨"CutLettersModel", "layPieces", "()V"⟩, 28), (⟨"CutLettersModel", "stands", "(II)Z"⟩, 28), (⟨"CutLettersModel", "put", "(IIIII)V"⟩, 28), (⟨"CutLettersModel", "layRows", "()V"⟩, 28), (⟨"CutLettersModel", "behind", "(I)I"⟩, 28), (⟨"CutLettersModel", "joinOf", "(II)I"⟩, 28), (⟨"CutLettersModel", "leastOf", "(I)I"⟩, 28)]
theorem lw_r2 : ∀ q ∈ lw_privs_2, lw_okq q := List.forall_mem_cons.mpr ⟨lw_p16, List.forall_mem_cons.mpr ⟨lw_p17, List.forall_mem_cons.mpr ⟨lw_p18, List.forall_mem_cons.mpr ⟨lw_p19, List.forall_mem_cons.mpr ⟨lw_p20, List.forall_mem_cons.mpr ⟨lw_p21, List.forall_mem_cons.mpr ⟨lw_p22, List.forall_mem_cons.mpr ⟨lw_p23, List.forall_mem_cons.mpr ⟨lw_p24, List.forall_mem_cons.mpr ⟨lw_p25, List.forall_mem_cons.mpr ⟨lw_p26, List.forall_mem_cons.mpr ⟨lw_p27, List.forall_mem_cons.mpr ⟨lw_p28, List.forall_mem_cons.mpr ⟨lw_p29, List.forall_mem_cons.mpr ⟨lw_p30, List.forall_mem_cons.mpr ⟨lw_p31, fun _ h => absurd h List.not_mem_nil⟩⟩⟩⟩⟩⟩⟩⟩⟩⟩⟩⟩⟩⟩⟩⟩
theorem lw_p32 : lw_okq (⟨"CutLettersModel", "cuttingOf", "(I)I"⟩, 28) := ⟨⟨by decide +kernel, by decide +kernel⟩, List.mem_of_getElem? (i := 566) (by decide +kernel), List.mem_of_getElem? (i := 759) (by decide +kernel), List.mem_of_getElem? (i := 760) (by decide +kernel)⟩
theorem lw_p33 : lw_okq (⟨"CutLettersModel", "costOf", "(I)I"⟩, 28) := ⟨⟨by decide +kernel, by decide +kernel⟩, List.mem_of_getElem? (i := 566) (by decide +kernel), List.mem_of_getElem? (i := 763) (by decide +kernel), List.mem_of_getElem? (i := 764) (by decide +kernel)⟩
theorem lw_p34 : lw_okq (⟨"CutLettersModel", "next", "(I)I"⟩, 28) := ⟨⟨by decide +kernel, by decide +kernel⟩, List.mem_of_getElem? (i := 566) (by decide +kernel), List.mem_of_getElem? (i := 767) (by decide +kernel), List.mem_of_getElem? (i := 768) (by decide +kernel)⟩
def lw_privs_3 : List (MethodName × Nat) := [(⟨"CutLettersModel", "cuttingOf", "(I)I"⟩, 28), (⟨"CutLettersModel", "costOf", "(I)I"⟩, 28), (⟨"CutLettersModel", "next", "(I)I"⟩, 28)]
theorem lw_r3 : ∀ q ∈ lw_privs_3, lw_okq q := List.forall_mem_cons.mpr ⟨lw_p32, List.forall_mem_cons.mpr ⟨lw_p33, List.forall_mem_cons.mpr ⟨lw_p34, fun _ h => absurd h List.not_mem_nil⟩⟩⟩
def lw_privs : List (MethodName × Nat) := lw_privs_1 ++ (lw_privs_2 ++ (lw_privs_3))
def lw_tbl : List Cond := k2_sels lw_privs ++ tables_1
theorem lw_privs_ok : ∀ q ∈ lw_privs, lw_okq q := by
  show ∀ q ∈ lw_privs_1 ++ (lw_privs_2 ++ (lw_privs_3)), lw_okq q
  exact List.forall_mem_append.mpr ⟨lw_r1, List.forall_mem_append.mpr ⟨lw_r2, lw_r3⟩⟩

def RX0 : String := "CutLetters$Book"
def TX0 : u_T := fun k => match k with
  | 0 => ("CutLetters$Book", "dictionary", "LCutLetters$Dictionary;", true)
  | 1 => ("CutLetters$Book", "joins", "[I", true)
  | 2 => ("CutLetters$Book", "rules", "[I", true)
  | 3 => ("CutLetters$Book", "line", "[I", true)
  | _ => ("CutLetters$Book", "lineLength", "I", false)
def tyX0 : Nat → FieldType := fun k => match k with
  | 0 => .object "CutLetters$Dictionary"
  | 1 => .array .int
  | 2 => .array .int
  | 3 => .array .int
  | _ => .int
abbrev wsX00 : List Cond := u_ws RX0 TX0 5
theorem nmX0 : ∀ a, a < 5 → ∀ b, b < 5 → a ≠ b → (TX0 a).2.1 ≠ (TX0 b).2.1 := by decide +kernel
theorem tyX0_ok : ∀ k, k < 5 → parseFieldDescriptor (TX0 k).2.2.1 = some (tyX0 k) := by decide +kernel
abbrev cX0_init : ByteArray := prog_2_method_1_code
def yX0_init : MethodName := ⟨RX0, "<init>", "()V"⟩
abbrev cX0_takeLine : ByteArray := prog_2_method_2_code
def yX0_takeLine : MethodName := ⟨RX0, "takeLine", "(LCutLetters$Pad;)V"⟩
abbrev cX0_runLength : ByteArray := prog_2_method_3_code
def yX0_runLength : MethodName := ⟨RX0, "runLength", "(I)I"⟩
abbrev cX0_classOf : ByteArray := prog_2_method_4_code
def yX0_classOf : MethodName := ⟨RX0, "classOf", "(I)I"⟩
abbrev cX0_copy : ByteArray := prog_2_method_5_code
def yX0_copy : MethodName := ⟨RX0, "copy", "(LCutLetters$Book;)V"⟩
def RX1 : String := "CutLetters$Dictionary"
def TX1 : u_T := fun k => match k with
  | 0 => ("CutLetters$Dictionary", "letters", "[I", true)
  | 1 => ("CutLetters$Dictionary", "lengths", "[I", true)
  | 2 => ("CutLetters$Dictionary", "kinds", "[I", true)
  | 3 => ("CutLetters$Dictionary", "costs", "[I", true)
  | _ => ("CutLetters$Dictionary", "count", "I", false)
def tyX1 : Nat → FieldType := fun k => match k with
  | 0 => .array .int
  | 1 => .array .int
  | 2 => .array .int
  | 3 => .array .int
  | _ => .int
abbrev wsX10 : List Cond := u_ws RX1 TX1 5
theorem nmX1 : ∀ a, a < 5 → ∀ b, b < 5 → a ≠ b → (TX1 a).2.1 ≠ (TX1 b).2.1 := by decide +kernel
theorem tyX1_ok : ∀ k, k < 5 → parseFieldDescriptor (TX1 k).2.2.1 = some (tyX1 k) := by decide +kernel
abbrev cX1_init : ByteArray := prog_3_method_1_code
def yX1_init : MethodName := ⟨RX1, "<init>", "()V"⟩
abbrev cX1_has : ByteArray := prog_3_method_2_code
def yX1_has : MethodName := ⟨RX1, "has", "(I)Z"⟩
abbrev cX1_put : ByteArray := prog_3_method_3_code
def yX1_put : MethodName := ⟨RX1, "put", "(LCutLetters$Pad;)I"⟩
abbrev cX1_find : ByteArray := prog_3_method_4_code
def yX1_find : MethodName := ⟨RX1, "find", "(LCutLetters$Pad;)I"⟩
abbrev cX1_standsAt : ByteArray := prog_3_method_5_code
def yX1_standsAt : MethodName := ⟨RX1, "standsAt", "(I[III)Z"⟩
abbrev cX1_remove : ByteArray := prog_3_method_6_code
def yX1_remove : MethodName := ⟨RX1, "remove", "(I)V"⟩
abbrev cX1_tell : ByteArray := prog_3_method_7_code
def yX1_tell : MethodName := ⟨RX1, "tell", "(II)I"⟩
abbrev cX1_copy : ByteArray := prog_3_method_8_code
def yX1_copy : MethodName := ⟨RX1, "copy", "(LCutLetters$Dictionary;)V"⟩
def RX2 : String := "CutLetters$Net"
def TX2 : u_T := fun k => match k with
  | 0 => ("CutLetters$Net", "lineLength", "I", false)
  | 1 => ("CutLetters$Net", "count", "I", false)
  | 2 => ("CutLetters$Net", "places", "[I", true)
  | 3 => ("CutLetters$Net", "lengths", "[I", true)
  | 4 => ("CutLetters$Net", "kinds", "[I", true)
  | 5 => ("CutLetters$Net", "costs", "[I", true)
  | 6 => ("CutLetters$Net", "words", "[I", true)
  | 7 => ("CutLetters$Net", "firsts", "[I", true)
  | 8 => ("CutLetters$Net", "joins", "[I", true)
  | 9 => ("CutLetters$Net", "slots", "[I", true)
  | _ => ("CutLetters$Net", "routes", "[I", true)
def tyX2 : Nat → FieldType := fun k => match k with
  | 0 => .int
  | 1 => .int
  | 2 => .array .int
  | 3 => .array .int
  | 4 => .array .int
  | 5 => .array .int
  | 6 => .array .int
  | 7 => .array .int
  | 8 => .array .int
  | 9 => .array .int
  | _ => .array .int
abbrev wsX20 : List Cond := u_ws RX2 TX2 11
theorem nmX2 : ∀ a, a < 11 → ∀ b, b < 11 → a ≠ b → (TX2 a).2.1 ≠ (TX2 b).2.1 := by decide +kernel
theorem tyX2_ok : ∀ k, k < 11 → parseFieldDescriptor (TX2 k).2.2.1 = some (tyX2 k) := by decide +kernel
abbrev cX2_init : ByteArray := prog_4_method_1_code
def yX2_init : MethodName := ⟨RX2, "<init>", "()V"⟩
abbrev cX2_make : ByteArray := prog_4_method_2_code
def yX2_make : MethodName := ⟨RX2, "make", "(LCutLetters$Book;)V"⟩
abbrev cX2_fillSlots : ByteArray := prog_4_method_3_code
def yX2_fillSlots : MethodName := ⟨RX2, "fillSlots", "(LCutLetters$Book;I)V"⟩
abbrev cX2_fillWords : ByteArray := prog_4_method_4_code
def yX2_fillWords : MethodName := ⟨RX2, "fillWords", "(LCutLetters$Book;I)Z"⟩
abbrev cX2_fillWild : ByteArray := prog_4_method_5_code
def yX2_fillWild : MethodName := ⟨RX2, "fillWild", "(LCutLetters$Book;I)V"⟩
abbrev cX2_addSlots : ByteArray := prog_4_method_6_code
def yX2_addSlots : MethodName := ⟨RX2, "addSlots", "(LCutLetters$Book;I)V"⟩
abbrev cX2_add : ByteArray := prog_4_method_7_code
def yX2_add : MethodName := ⟨RX2, "add", "(LCutLetters$Book;II)V"⟩
abbrev cX2_joinBefore : ByteArray := prog_4_method_8_code
def yX2_joinBefore : MethodName := ⟨RX2, "joinBefore", "(II)I"⟩
abbrev cX2_joinAtEnd : ByteArray := prog_4_method_9_code
def yX2_joinAtEnd : MethodName := ⟨RX2, "joinAtEnd", "(I)I"⟩
abbrev cX2_countWays : ByteArray := prog_4_method_10_code
def yX2_countWays : MethodName := ⟨RX2, "countWays", "()I"⟩
def RX3 : String := "CutLetters$Pad"
def TX3 : u_T := fun k => match k with
  | 0 => ("CutLetters$Pad", "signs", "[I", true)
  | 1 => ("CutLetters$Pad", "count", "I", false)
  | 2 => ("CutLetters$Pad", "letters", "I", false)
  | 3 => ("CutLetters$Pad", "kind", "I", false)
  | _ => ("CutLetters$Pad", "cost", "I", false)
def tyX3 : Nat → FieldType := fun k => match k with
  | 0 => .array .int
  | 1 => .int
  | 2 => .int
  | 3 => .int
  | _ => .int
abbrev wsX30 : List Cond := u_ws RX3 TX3 5
theorem nmX3 : ∀ a, a < 5 → ∀ b, b < 5 → a ≠ b → (TX3 a).2.1 ≠ (TX3 b).2.1 := by decide +kernel
theorem tyX3_ok : ∀ k, k < 5 → parseFieldDescriptor (TX3 k).2.2.1 = some (tyX3 k) := by decide +kernel
abbrev cX3_init : ByteArray := prog_5_method_1_code
def yX3_init : MethodName := ⟨RX3, "<init>", "()V"⟩
abbrev cX3_add : ByteArray := prog_5_method_2_code
def yX3_add : MethodName := ⟨RX3, "add", "(I)Z"⟩
abbrev cX3_clear : ByteArray := prog_5_method_3_code
def yX3_clear : MethodName := ⟨RX3, "clear", "()V"⟩
abbrev cX3_readLine : ByteArray := prog_5_method_4_code
def yX3_readLine : MethodName := ⟨RX3, "readLine", "()I"⟩
abbrev cX3_readWord : ByteArray := prog_5_method_5_code
def yX3_readWord : MethodName := ⟨RX3, "readWord", "()I"⟩
abbrev cX3_readCost : ByteArray := prog_5_method_6_code
def yX3_readCost : MethodName := ⟨RX3, "readCost", "(I)I"⟩
abbrev cX3_leadingLetters : ByteArray := prog_5_method_7_code
def yX3_leadingLetters : MethodName := ⟨RX3, "leadingLetters", "(I)I"⟩
abbrev cX3_signAt : ByteArray := prog_5_method_8_code
def yX3_signAt : MethodName := ⟨RX3, "signAt", "(I)I"⟩
abbrev cX3_kindNamedAt : ByteArray := prog_5_method_9_code
def yX3_kindNamedAt : MethodName := ⟨RX3, "kindNamedAt", "(I)I"⟩
abbrev cX3_nameStandsAt : ByteArray := prog_5_method_10_code
def yX3_nameStandsAt : MethodName := ⟨RX3, "nameStandsAt", "(II)Z"⟩
abbrev cX3_isLetter : ByteArray := prog_5_method_11_code
def yX3_isLetter : MethodName := ⟨RX3, "isLetter", "(I)Z"⟩
abbrev cX3_isFigure : ByteArray := prog_5_method_12_code
def yX3_isFigure : MethodName := ⟨RX3, "isFigure", "(I)Z"⟩
def RX4 : String := "CutLetters$Ranking"
def TX4 : u_T := fun k => match k with
  | 0 => ("CutLetters$Ranking", "before", "[I", true)
  | 1 => ("CutLetters$Ranking", "counts", "[I", true)
  | 2 => ("CutLetters$Ranking", "kept", "[I", true)
  | _ => ("CutLetters$Ranking", "followed", "[I", true)
def tyX4 : Nat → FieldType := fun k => match k with
  | 0 => .array .int
  | 1 => .array .int
  | 2 => .array .int
  | _ => .array .int
abbrev wsX40 : List Cond := u_ws RX4 TX4 4
theorem nmX4 : ∀ a, a < 4 → ∀ b, b < 4 → a ≠ b → (TX4 a).2.1 ≠ (TX4 b).2.1 := by decide +kernel
theorem tyX4_ok : ∀ k, k < 4 → parseFieldDescriptor (TX4 k).2.2.1 = some (tyX4 k) := by decide +kernel
abbrev cX4_init : ByteArray := prog_6_method_1_code
def yX4_init : MethodName := ⟨RX4, "<init>", "()V"⟩
abbrev cX4_make : ByteArray := prog_6_method_2_code
def yX4_make : MethodName := ⟨RX4, "make", "(LCutLetters$Net;)V"⟩
abbrev cX4_rankEnds : ByteArray := prog_6_method_3_code
def yX4_rankEnds : MethodName := ⟨RX4, "rankEnds", "(LCutLetters$Net;)V"⟩
abbrev cX4_rankSpot : ByteArray := prog_6_method_4_code
def yX4_rankSpot : MethodName := ⟨RX4, "rankSpot", "(LCutLetters$Net;II)V"⟩
abbrev cX4_offerWays : ByteArray := prog_6_method_5_code
def yX4_offerWays : MethodName := ⟨RX4, "offerWays", "(LCutLetters$Net;III)V"⟩
abbrev cX4_offer : ByteArray := prog_6_method_6_code
def yX4_offer : MethodName := ⟨RX4, "offer", "(II)Z"⟩
abbrev cX4_spotBehind : ByteArray := prog_6_method_7_code
def yX4_spotBehind : MethodName := ⟨RX4, "spotBehind", "(LCutLetters$Net;I)I"⟩
abbrev cX4_reachSpots : ByteArray := prog_6_method_8_code
def yX4_reachSpots : MethodName := ⟨RX4, "reachSpots", "(LCutLetters$Net;)V"⟩
abbrev cX4_leastUpTo : ByteArray := prog_6_method_9_code
def yX4_leastUpTo : MethodName := ⟨RX4, "leastUpTo", "(LCutLetters$Net;I)I"⟩
abbrev cX4_leastWith : ByteArray := prog_6_method_10_code
def yX4_leastWith : MethodName := ⟨RX4, "leastWith", "(LCutLetters$Net;I)I"⟩
abbrev cX4_cuttings : ByteArray := prog_6_method_11_code
def yX4_cuttings : MethodName := ⟨RX4, "cuttings", "()I"⟩
abbrev cX4_costOf : ByteArray := prog_6_method_12_code
def yX4_costOf : MethodName := ⟨RX4, "costOf", "(I)I"⟩
abbrev cX4_follow : ByteArray := prog_6_method_13_code
def yX4_follow : MethodName := ⟨RX4, "follow", "(LCutLetters$Net;I)I"⟩
abbrev cX4_surePlaces : ByteArray := prog_6_method_14_code
def yX4_surePlaces : MethodName := ⟨RX4, "surePlaces", "(LCutLetters$Net;I)I"⟩
def RX5 : String := "CutLetters$Writing"
def TX5 : u_T := fun k => match k with
  | 0 => ("CutLetters$Writing", "signs", "[I", true)
  | _ => ("CutLetters$Writing", "count", "I", false)
def tyX5 : Nat → FieldType := fun k => match k with
  | 0 => .array .int
  | _ => .int
abbrev wsX50 : List Cond := u_ws RX5 TX5 2
theorem nmX5 : ∀ a, a < 2 → ∀ b, b < 2 → a ≠ b → (TX5 a).2.1 ≠ (TX5 b).2.1 := by decide +kernel
theorem tyX5_ok : ∀ k, k < 2 → parseFieldDescriptor (TX5 k).2.2.1 = some (tyX5 k) := by decide +kernel
abbrev cX5_init : ByteArray := prog_7_method_1_code
def yX5_init : MethodName := ⟨RX5, "<init>", "()V"⟩
abbrev cX5_write : ByteArray := prog_7_method_2_code
def yX5_write : MethodName := ⟨RX5, "write", "(ILCutLetters$Ranking;LCutLetters$Net;LCutLetters$Book;)V"⟩
abbrev cX5_writePiece : ByteArray := prog_7_method_3_code
def yX5_writePiece : MethodName := ⟨RX5, "writePiece", "(ILCutLetters$Net;LCutLetters$Book;)V"⟩
abbrev cX5_add : ByteArray := prog_7_method_4_code
def yX5_add : MethodName := ⟨RX5, "add", "(I)V"⟩
def RX6 : String := "CutLetters"
def TX6 : u_T := fun k => match k with
  | 0 => ("CutLetters", "pad", "LCutLetters$Pad;", true)
  | 1 => ("CutLetters", "book", "LCutLetters$Book;", true)
  | 2 => ("CutLetters", "images", "[LCutLetters$Book;", true)
  | 3 => ("CutLetters", "net", "LCutLetters$Net;", true)
  | 4 => ("CutLetters", "ranking", "LCutLetters$Ranking;", true)
  | 5 => ("CutLetters", "writing", "LCutLetters$Writing;", true)
  | 6 => ("CutLetters", "netStands", "Z", false)
  | _ => ("CutLetters", "rankingStands", "Z", false)
def tyX6 : Nat → FieldType := fun k => match k with
  | 0 => .object "CutLetters$Pad"
  | 1 => .object "CutLetters$Book"
  | 2 => .array (.object "CutLetters$Book")
  | 3 => .object "CutLetters$Net"
  | 4 => .object "CutLetters$Ranking"
  | 5 => .object "CutLetters$Writing"
  | 6 => .boolean
  | _ => .boolean
abbrev wsX60 : List Cond := u_ws RX6 TX6 8
theorem nmX6 : ∀ a, a < 8 → ∀ b, b < 8 → a ≠ b → (TX6 a).2.1 ≠ (TX6 b).2.1 := by decide +kernel
theorem tyX6_ok : ∀ k, k < 8 → parseFieldDescriptor (TX6 k).2.2.1 = some (tyX6 k) := by decide +kernel
abbrev cX6_init : ByteArray := prog_1_method_1_code
def yX6_init : MethodName := ⟨RX6, "<init>", "()V"⟩
abbrev cX6_say : ByteArray := prog_1_method_2_code
def yX6_say : MethodName := ⟨RX6, "say", "(I)I"⟩
abbrev cX6_wipe : ByteArray := prog_1_method_3_code
def yX6_wipe : MethodName := ⟨RX6, "wipe", "()I"⟩
abbrev cX6_fault : ByteArray := prog_1_method_4_code
def yX6_fault : MethodName := ⟨RX6, "fault", "(I)I"⟩
abbrev cX6_learn : ByteArray := prog_1_method_5_code
def yX6_learn : MethodName := ⟨RX6, "learn", "()I"⟩
abbrev cX6_forget : ByteArray := prog_1_method_6_code
def yX6_forget : MethodName := ⟨RX6, "forget", "(I)I"⟩
abbrev cX6_word : ByteArray := prog_1_method_7_code
def yX6_word : MethodName := ⟨RX6, "word", "(II)I"⟩
abbrev cX6_line : ByteArray := prog_1_method_8_code
def yX6_line : MethodName := ⟨RX6, "line", "()I"⟩
abbrev cX6_join : ByteArray := prog_1_method_9_code
def yX6_join : MethodName := ⟨RX6, "join", "(III)I"⟩
abbrev cX6_rule : ByteArray := prog_1_method_10_code
def yX6_rule : MethodName := ⟨RX6, "rule", "(II)I"⟩
abbrev cX6_pieces : ByteArray := prog_1_method_11_code
def yX6_pieces : MethodName := ⟨RX6, "pieces", "()I"⟩
abbrev cX6_piece : ByteArray := prog_1_method_12_code
def yX6_piece : MethodName := ⟨RX6, "piece", "(II)I"⟩
abbrev cX6_ways : ByteArray := prog_1_method_13_code
def yX6_ways : MethodName := ⟨RX6, "ways", "()I"⟩
abbrev cX6_cutting : ByteArray := prog_1_method_14_code
def yX6_cutting : MethodName := ⟨RX6, "cutting", "(II)I"⟩
abbrev cX6_sure : ByteArray := prog_1_method_15_code
def yX6_sure : MethodName := ⟨RX6, "sure", "(I)I"⟩
abbrev cX6_sign : ByteArray := prog_1_method_16_code
def yX6_sign : MethodName := ⟨RX6, "sign", "(II)I"⟩
abbrev cX6_image : ByteArray := prog_1_method_17_code
def yX6_image : MethodName := ⟨RX6, "image", "(I)I"⟩
abbrev cX6_restore : ByteArray := prog_1_method_18_code
def yX6_restore : MethodName := ⟨RX6, "restore", "(I)I"⟩
abbrev cX6_told : ByteArray := prog_1_method_19_code
def yX6_told : MethodName := ⟨RX6, "told", "(I)I"⟩
abbrev cX6_isJoin : ByteArray := prog_1_method_20_code
def yX6_isJoin : MethodName := ⟨RX6, "isJoin", "(II)Z"⟩
abbrev cX6_hasLine : ByteArray := prog_1_method_21_code
def yX6_hasLine : MethodName := ⟨RX6, "hasLine", "()Z"⟩
abbrev cX6_somethingChanged : ByteArray := prog_1_method_22_code
def yX6_somethingChanged : MethodName := ⟨RX6, "somethingChanged", "()V"⟩
abbrev cX6_makeNet : ByteArray := prog_1_method_23_code
def yX6_makeNet : MethodName := ⟨RX6, "makeNet", "()V"⟩
abbrev cX6_makeRanking : ByteArray := prog_1_method_24_code
def yX6_makeRanking : MethodName := ⟨RX6, "makeRanking", "()V"⟩
def RX7 : String := "CutLettersModel"
def TX7 : u_T := fun k => match k with
  | 0 => ("CutLettersModel", "letters", "[I", true)
  | 1 => ("CutLettersModel", "size", "[I", true)
  | 2 => ("CutLettersModel", "kind", "[I", true)
  | 3 => ("CutLettersModel", "cost", "[I", true)
  | 4 => ("CutLettersModel", "words", "I", false)
  | 5 => ("CutLettersModel", "joins", "[I", true)
  | 6 => ("CutLettersModel", "rules", "[I", true)
  | 7 => ("CutLettersModel", "line", "[I", true)
  | 8 => ("CutLettersModel", "long1", "I", false)
  | 9 => ("CutLettersModel", "signs", "I", false)
  | 10 => ("CutLettersModel", "pad", "[I", true)
  | 11 => ("CutLettersModel", "readSize", "I", false)
  | 12 => ("CutLettersModel", "readKind", "I", false)
  | 13 => ("CutLettersModel", "readCost", "I", false)
  | 14 => ("CutLettersModel", "place", "[I", true)
  | 15 => ("CutLettersModel", "length", "[I", true)
  | 16 => ("CutLettersModel", "sort", "[I", true)
  | 17 => ("CutLettersModel", "price", "[I", true)
  | 18 => ("CutLettersModel", "of", "[I", true)
  | 19 => ("CutLettersModel", "begins", "[I", true)
  | 20 => ("CutLettersModel", "many", "I", false)
  | 21 => ("CutLettersModel", "rowCost", "[I", true)
  | 22 => ("CutLettersModel", "rowNext", "[I", true)
  | 23 => ("CutLettersModel", "rows", "[I", true)
  | 24 => ("CutLettersModel", "ahead", "[I", true)
  | 25 => ("CutLettersModel", "waysTo", "[I", true)
  | 26 => ("CutLettersModel", "image", "[I", true)
  | _ => ("CutLettersModel", "isKept", "[Z", true)
def tyX7 : Nat → FieldType := fun k => match k with
  | 0 => .array .int
  | 1 => .array .int
  | 2 => .array .int
  | 3 => .array .int
  | 4 => .int
  | 5 => .array .int
  | 6 => .array .int
  | 7 => .array .int
  | 8 => .int
  | 9 => .int
  | 10 => .array .int
  | 11 => .int
  | 12 => .int
  | 13 => .int
  | 14 => .array .int
  | 15 => .array .int
  | 16 => .array .int
  | 17 => .array .int
  | 18 => .array .int
  | 19 => .array .int
  | 20 => .int
  | 21 => .array .int
  | 22 => .array .int
  | 23 => .array .int
  | 24 => .array .int
  | 25 => .array .int
  | 26 => .array .int
  | _ => .array .boolean
abbrev wsX70 : List Cond := u_ws RX7 TX7 28
theorem nmX7 : ∀ a, a < 28 → ∀ b, b < 28 → a ≠ b → (TX7 a).2.1 ≠ (TX7 b).2.1 := by decide +kernel
theorem tyX7_ok : ∀ k, k < 28 → parseFieldDescriptor (TX7 k).2.2.1 = some (tyX7 k) := by decide +kernel
abbrev cX7_init : ByteArray := prog_9_method_1_code
def yX7_init : MethodName := ⟨RX7, "<init>", "()V"⟩
abbrev cX7_in : ByteArray := prog_9_method_2_code
def yX7_in : MethodName := ⟨RX7, "in", "(III)Z"⟩
abbrev cX7_isLetter : ByteArray := prog_9_method_3_code
def yX7_isLetter : MethodName := ⟨RX7, "isLetter", "(I)Z"⟩
abbrev cX7_say : ByteArray := prog_9_method_4_code
def yX7_say : MethodName := ⟨RX7, "say", "(I)I"⟩
abbrev cX7_wipe : ByteArray := prog_9_method_5_code
def yX7_wipe : MethodName := ⟨RX7, "wipe", "()I"⟩
abbrev cX7_name : ByteArray := prog_9_method_6_code
def yX7_name : MethodName := ⟨RX7, "name", "(II)I"⟩
abbrev cX7_wordFault : ByteArray := prog_9_method_7_code
def yX7_wordFault : MethodName := ⟨RX7, "wordFault", "()I"⟩
abbrev cX7_lineFault : ByteArray := prog_9_method_8_code
def yX7_lineFault : MethodName := ⟨RX7, "lineFault", "()I"⟩
abbrev cX7_fault : ByteArray := prog_9_method_9_code
def yX7_fault : MethodName := ⟨RX7, "fault", "(I)I"⟩
abbrev cX7_learn : ByteArray := prog_9_method_10_code
def yX7_learn : MethodName := ⟨RX7, "learn", "()I"⟩
abbrev cX7_forget : ByteArray := prog_9_method_11_code
def yX7_forget : MethodName := ⟨RX7, "forget", "(I)I"⟩
abbrev cX7_word : ByteArray := prog_9_method_12_code
def yX7_word : MethodName := ⟨RX7, "word", "(II)I"⟩
abbrev cX7_line : ByteArray := prog_9_method_13_code
def yX7_line : MethodName := ⟨RX7, "line", "()I"⟩
abbrev cX7_join : ByteArray := prog_9_method_14_code
def yX7_join : MethodName := ⟨RX7, "join", "(III)I"⟩
abbrev cX7_rule : ByteArray := prog_9_method_15_code
def yX7_rule : MethodName := ⟨RX7, "rule", "(II)I"⟩
abbrev cX7_stands : ByteArray := prog_9_method_16_code
def yX7_stands : MethodName := ⟨RX7, "stands", "(II)Z"⟩
abbrev cX7_classOf : ByteArray := prog_9_method_17_code
def yX7_classOf : MethodName := ⟨RX7, "classOf", "(I)I"⟩
abbrev cX7_put : ByteArray := prog_9_method_18_code
def yX7_put : MethodName := ⟨RX7, "put", "(IIIII)V"⟩
abbrev cX7_layPieces : ByteArray := prog_9_method_19_code
def yX7_layPieces : MethodName := ⟨RX7, "layPieces", "()V"⟩
abbrev cX7_behind : ByteArray := prog_9_method_20_code
def yX7_behind : MethodName := ⟨RX7, "behind", "(I)I"⟩
abbrev cX7_joinOf : ByteArray := prog_9_method_21_code
def yX7_joinOf : MethodName := ⟨RX7, "joinOf", "(II)I"⟩
abbrev cX7_layRows : ByteArray := prog_9_method_22_code
def yX7_layRows : MethodName := ⟨RX7, "layRows", "()V"⟩
abbrev cX7_cuttingOf : ByteArray := prog_9_method_23_code
def yX7_cuttingOf : MethodName := ⟨RX7, "cuttingOf", "(I)I"⟩
abbrev cX7_costOf : ByteArray := prog_9_method_24_code
def yX7_costOf : MethodName := ⟨RX7, "costOf", "(I)I"⟩
abbrev cX7_next : ByteArray := prog_9_method_25_code
def yX7_next : MethodName := ⟨RX7, "next", "(I)I"⟩
abbrev cX7_pieces : ByteArray := prog_9_method_26_code
def yX7_pieces : MethodName := ⟨RX7, "pieces", "()I"⟩
abbrev cX7_leastOf : ByteArray := prog_9_method_27_code
def yX7_leastOf : MethodName := ⟨RX7, "leastOf", "(I)I"⟩
abbrev cX7_piece : ByteArray := prog_9_method_28_code
def yX7_piece : MethodName := ⟨RX7, "piece", "(II)I"⟩
abbrev cX7_ways : ByteArray := prog_9_method_29_code
def yX7_ways : MethodName := ⟨RX7, "ways", "()I"⟩
abbrev cX7_cutting : ByteArray := prog_9_method_30_code
def yX7_cutting : MethodName := ⟨RX7, "cutting", "(II)I"⟩
abbrev cX7_sure : ByteArray := prog_9_method_31_code
def yX7_sure : MethodName := ⟨RX7, "sure", "(I)I"⟩
abbrev cX7_sign : ByteArray := prog_9_method_32_code
def yX7_sign : MethodName := ⟨RX7, "sign", "(II)I"⟩
abbrev cX7_image : ByteArray := prog_9_method_33_code
def yX7_image : MethodName := ⟨RX7, "image", "(I)I"⟩
abbrev cX7_restore : ByteArray := prog_9_method_34_code
def yX7_restore : MethodName := ⟨RX7, "restore", "(I)I"⟩
abbrev cX7_told : ByteArray := prog_9_method_35_code
def yX7_told : MethodName := ⟨RX7, "told", "(I)I"⟩
def RJ9 : String := "java/lang/Math"
def TJ9 : u_T := fun k => match k with
  | _ => ("", "", "", false)
def tyJ9 : Nat → FieldType := fun k => match k with
  | _ => .int
abbrev cJ9_min_7cf53 : ByteArray := prog_10_method_69_code
def yJ9_min_7cf53 : MethodName := ⟨RJ9, "min", "(II)I"⟩
def RJ0 : String := "java/lang/String"
def TJ0 : u_T := fun k => match k with
  | _ => ("", "", "", false)
def tyJ0 : Nat → FieldType := fun k => match k with
  | _ => .int
abbrev cJ0_charAt_5068e : ByteArray := prog_11_method_56_code
def yJ0_charAt_5068e : MethodName := ⟨RJ0, "charAt", "(I)C"⟩
abbrev cJ0_isLatin1_aae02 : ByteArray := prog_11_method_154_code
def yJ0_isLatin1_aae02 : MethodName := ⟨RJ0, "isLatin1", "()Z"⟩
abbrev cJ0_checkIndex_df160 : ByteArray := prog_11_method_155_code
def yJ0_checkIndex_df160 : MethodName := ⟨RJ0, "checkIndex", "(II)V"⟩
def RJ1 : String := "java/lang/StringLatin1"
def TJ1 : u_T := fun k => match k with
  | _ => ("", "", "", false)
def tyJ1 : Nat → FieldType := fun k => match k with
  | _ => .int
abbrev cJ1_charAt_3b067 : ByteArray := prog_12_method_2_code
def yJ1_charAt_3b067 : MethodName := ⟨RJ1, "charAt", "([BI)C"⟩
def RJ2 : String := "java/lang/StringUTF16"
def TJ2 : u_T := fun k => match k with
  | _ => ("", "", "", false)
def tyJ2 : Nat → FieldType := fun k => match k with
  | _ => .int
abbrev cJ2_getChar_3b067 : ByteArray := prog_13_method_5_code
def yJ2_getChar_3b067 : MethodName := ⟨RJ2, "getChar", "([BI)C"⟩
abbrev cJ2_length_9d52b : ByteArray := prog_13_method_6_code
def yJ2_length_9d52b : MethodName := ⟨RJ2, "length", "([B)I"⟩
abbrev cJ2_charAt_3b067 : ByteArray := prog_13_method_83_code
def yJ2_charAt_3b067 : MethodName := ⟨RJ2, "charAt", "([BI)C"⟩
abbrev cJ2_checkIndex_2214a : ByteArray := prog_13_method_91_code
def yJ2_checkIndex_2214a : MethodName := ⟨RJ2, "checkIndex", "(I[B)V"⟩
def RJ10 : String := "java/lang/System"
def TJ10 : u_T := fun k => match k with
  | _ => ("", "", "", false)
def tyJ10 : Nat → FieldType := fun k => match k with
  | _ => .int
def RJ3 : String := "jdk/internal/util/Preconditions"
def TJ3 : u_T := fun k => match k with
  | _ => ("", "", "", false)
def tyJ3 : Nat → FieldType := fun k => match k with
  | _ => .int
abbrev cJ3_checkIndex_8e157 : ByteArray := prog_15_method_11_code
def yJ3_checkIndex_8e157 : MethodName := ⟨RJ3, "checkIndex", "(IILjava/util/function/BiFunction;)I"⟩
def RL : String := "CutLettersLaw"
abbrev cL_law : ByteArray := code
def yL_law : MethodName := ⟨RL, "law", "([I)Z"⟩
abbrev vwCl : List vw_C := [(RX0, TX0, 5), (RX1, TX1, 5), (RX2, TX2, 11), (RX3, TX3, 5), (RX4, TX4, 4), (RX5, TX5, 2), (RX6, TX6, 8), (RX7, TX7, 28)]
def zTs : List Cond := lw_tbl.filter goodWord
theorem zTs_tbl {w : Cond} (h : w ∈ zTs) : w ∈ lw_tbl := (List.mem_filter.mp h).1
theorem zTs_good {w : Cond} (h : w ∈ zTs) : goodWord w = true := (List.mem_filter.mp h).2
theorem zin {w : Cond} (i : Nat) (h : lw_tbl[i]? = some w) (hg : goodWord w = true) : w ∈ zTs := List.mem_filter.mpr ⟨List.mem_of_getElem? h, hg⟩
theorem zin_l {ws : List Cond} (ps : List Nat) (h : ws.map some = ps.map (fun i => lw_tbl[i]?)) (hg : ws.all goodWord = true) : ∀ w ∈ ws, w ∈ zTs := by
  intro w hw
  have h1 : some w ∈ ps.map (fun i => lw_tbl[i]?) := by rw [← h]; exact List.mem_map_of_mem hw
  obtain ⟨i, -, hi⟩ := List.mem_map.mp h1
  exact zin i hi (List.all_eq_true.mp hg w hw)
