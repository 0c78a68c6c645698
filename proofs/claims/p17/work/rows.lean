section
-- ===== PART A: goes FIRST, ahead of the names: the tables' words, and 'selects' of the private methods out of them =====
/-- a private method of a class that the tables say can be made, by its rows of tables_1 -/
def lw_okq (q : MethodName × Nat) : Prop := (q.1.cls ≠ "java/lang/invoke/MethodHandle" ∧ q.1.cls ≠ "java/lang/invoke/VarHandle") ∧ Cond.instantiable q.1.cls q.2 ∈ tables_1 ∧ Cond.privateMethod q.1 ∈ tables_1 ∧ Cond.instanceMethod q.1 ∈ tables_1
theorem lw_p0 : lw_okq (⟨"CutLetters$Pad", "leadingLetters", "(I)I"⟩, 5) := ⟨⟨by decide +kernel, by decide +kernel⟩, List.mem_of_getElem? (i := 24) (by decide +kernel), List.mem_of_getElem? (i := 256) (by decide +kernel), List.mem_of_getElem? (i := 257) (by decide +kernel)⟩
theorem lw_p1 : lw_okq (⟨"CutLetters$Pad", "signAt", "(I)I"⟩, 5) := ⟨⟨by decide +kernel, by decide +kernel⟩, List.mem_of_getElem? (i := 24) (by decide +kernel), List.mem_of_getElem? (i := 260) (by decide +kernel), List.mem_of_getElem? (i := 261) (by decide +kernel)⟩
theorem lw_p2 : lw_okq (⟨"CutLetters$Pad", "kindNamedAt", "(I)I"⟩, 5) := ⟨⟨by decide +kernel, by decide +kernel⟩, List.mem_of_getElem? (i := 24) (by decide +kernel), List.mem_of_getElem? (i := 267) (by decide +kernel), List.mem_of_getElem? (i := 268) (by decide +kernel)⟩
theorem lw_p3 : lw_okq (⟨"CutLetters$Pad", "nameStandsAt", "(II)Z"⟩, 5) := ⟨⟨by decide +kernel, by decide +kernel⟩, List.mem_of_getElem? (i := 24) (by decide +kernel), List.mem_of_getElem? (i := 312) (by decide +kernel), List.mem_of_getElem? (i := 313) (by decide +kernel)⟩
theorem lw_p4 : lw_okq (⟨"CutLetters$Pad", "readCost", "(I)I"⟩, 5) := ⟨⟨by decide +kernel, by decide +kernel⟩, List.mem_of_getElem? (i := 24) (by decide +kernel), List.mem_of_getElem? (i := 316) (by decide +kernel), List.mem_of_getElem? (i := 317) (by decide +kernel)⟩
theorem lw_p5 : lw_okq (⟨"CutLetters$Dictionary", "find", "(LCutLetters$Pad;)I"⟩, 5) := ⟨⟨by decide +kernel, by decide +kernel⟩, List.mem_of_getElem? (i := 60) (by decide +kernel), List.mem_of_getElem? (i := 336) (by decide +kernel), List.mem_of_getElem? (i := 337) (by decide +kernel)⟩
theorem lw_p6 : lw_okq (⟨"CutLetters", "somethingChanged", "()V"⟩, 8) := ⟨⟨by decide +kernel, by decide +kernel⟩, List.mem_of_getElem? (i := 16) (by decide +kernel), List.mem_of_getElem? (i := 347) (by decide +kernel), List.mem_of_getElem? (i := 348) (by decide +kernel)⟩
theorem lw_p7 : lw_okq (⟨"CutLetters", "hasLine", "()Z"⟩, 8) := ⟨⟨by decide +kernel, by decide +kernel⟩, List.mem_of_getElem? (i := 16) (by decide +kernel), List.mem_of_getElem? (i := 400) (by decide +kernel), List.mem_of_getElem? (i := 401) (by decide +kernel)⟩
theorem lw_p8 : lw_okq (⟨"CutLetters", "makeNet", "()V"⟩, 8) := ⟨⟨by decide +kernel, by decide +kernel⟩, List.mem_of_getElem? (i := 16) (by decide +kernel), List.mem_of_getElem? (i := 404) (by decide +kernel), List.mem_of_getElem? (i := 405) (by decide +kernel)⟩
theorem lw_p9 : lw_okq (⟨"CutLetters$Net", "fillSlots", "(LCutLetters$Book;I)V"⟩, 11) := ⟨⟨by decide +kernel, by decide +kernel⟩, List.mem_of_getElem? (i := 115) (by decide +kernel), List.mem_of_getElem? (i := 413) (by decide +kernel), List.mem_of_getElem? (i := 414) (by decide +kernel)⟩
theorem lw_p10 : lw_okq (⟨"CutLetters$Net", "fillWords", "(LCutLetters$Book;I)Z"⟩, 11) := ⟨⟨by decide +kernel, by decide +kernel⟩, List.mem_of_getElem? (i := 115) (by decide +kernel), List.mem_of_getElem? (i := 417) (by decide +kernel), List.mem_of_getElem? (i := 418) (by decide +kernel)⟩
theorem lw_p11 : lw_okq (⟨"CutLetters$Net", "fillWild", "(LCutLetters$Book;I)V"⟩, 11) := ⟨⟨by decide +kernel, by decide +kernel⟩, List.mem_of_getElem? (i := 115) (by decide +kernel), List.mem_of_getElem? (i := 422) (by decide +kernel), List.mem_of_getElem? (i := 423) (by decide +kernel)⟩
theorem lw_p12 : lw_okq (⟨"CutLetters$Net", "addSlots", "(LCutLetters$Book;I)V"⟩, 11) := ⟨⟨by decide +kernel, by decide +kernel⟩, List.mem_of_getElem? (i := 115) (by decide +kernel), List.mem_of_getElem? (i := 433) (by decide +kernel), List.mem_of_getElem? (i := 434) (by decide +kernel)⟩
theorem lw_p13 : lw_okq (⟨"CutLetters$Net", "add", "(LCutLetters$Book;II)V"⟩, 11) := ⟨⟨by decide +kernel, by decide +kernel⟩, List.mem_of_getElem? (i := 115) (by decide +kernel), List.mem_of_getElem? (i := 437) (by decide +kernel), List.mem_of_getElem? (i := 438) (by decide +kernel)⟩
theorem lw_p14 : lw_okq (⟨"CutLetters", "makeRanking", "()V"⟩, 8) := ⟨⟨by decide +kernel, by decide +kernel⟩, List.mem_of_getElem? (i := 16) (by decide +kernel), List.mem_of_getElem? (i := 445) (by decide +kernel), List.mem_of_getElem? (i := 446) (by decide +kernel)⟩
theorem lw_p15 : lw_okq (⟨"CutLetters$Ranking", "reachSpots", "(LCutLetters$Net;)V"⟩, 4) := ⟨⟨by decide +kernel, by decide +kernel⟩, List.mem_of_getElem? (i := 171) (by decide +kernel), List.mem_of_getElem? (i := 453) (by decide +kernel), List.mem_of_getElem? (i := 454) (by decide +kernel)⟩
def lw_privs_1 : List (MethodName × Nat) := [(⟨"CutLetters$Pad", "leadingLetters", "(I)I"⟩, 5), (⟨"CutLetters$Pad", "signAt", "(I)I"⟩, 5), (⟨"CutLetters$Pad", "kindNamedAt", "(I)I"⟩, 5), (⟨"CutLetters$Pad", "nameStandsAt", "(II)Z"⟩, 5), (⟨"CutLetters$Pad", "readCost", "(I)I"⟩, 5), (⟨"CutLetters$Dictionary", "find", "(LCutLetters$Pad;)I"⟩, 5), (⟨"CutLetters", "somethingChanged", "()V"⟩, 8), (⟨"CutLetters", "hasLine", "()Z"⟩, 8), (⟨"CutLetters", "makeNet", "()V"⟩, 8), (⟨"CutLetters$Net", "fillSlots", "(LCutLetters$Book;I)V"⟩, 11), (⟨"CutLetters$Net", "fillWords", "(LCutLetters$Book;I)Z"⟩, 11), (⟨"CutLetters$Net", "fillWild", "(LCutLetters$Book;I)V"⟩, 11), (⟨"CutLetters$Net", "addSlots", "(LCutLetters$Book;I)V"⟩, 11), (⟨"CutLetters$Net", "add", "(LCutLetters$Book;II)V"⟩, 11), (⟨"CutLetters", "makeRanking", "()V"⟩, 8), (⟨"CutLetters$Ranking", "reachSpots", "(LCutLetters$Net;)V"⟩, 4)]
theorem lw_r1 : ∀ q ∈ lw_privs_1, lw_okq q := List.forall_mem_cons.mpr ⟨lw_p0, List.forall_mem_cons.mpr ⟨lw_p1, List.forall_mem_cons.mpr ⟨lw_p2, List.forall_mem_cons.mpr ⟨lw_p3, List.forall_mem_cons.mpr ⟨lw_p4, List.forall_mem_cons.mpr ⟨lw_p5, List.forall_mem_cons.mpr ⟨lw_p6, List.forall_mem_cons.mpr ⟨lw_p7, List.forall_mem_cons.mpr ⟨lw_p8, List.forall_mem_cons.mpr ⟨lw_p9, List.forall_mem_cons.mpr ⟨lw_p10, List.forall_mem_cons.mpr ⟨lw_p11, List.forall_mem_cons.mpr ⟨lw_p12, List.forall_mem_cons.mpr ⟨lw_p13, List.forall_mem_cons.mpr ⟨lw_p14, List.forall_mem_cons.mpr ⟨lw_p15, fun _ h => absurd h List.not_mem_nil⟩⟩⟩⟩⟩⟩⟩⟩⟩⟩⟩⟩⟩⟩⟩⟩
theorem lw_p16 : lw_okq (⟨"CutLetters$Ranking", "leastUpTo", "(LCutLetters$Net;I)I"⟩, 4) := ⟨⟨by decide +kernel, by decide +kernel⟩, List.mem_of_getElem? (i := 171) (by decide +kernel), List.mem_of_getElem? (i := 461) (by decide +kernel), List.mem_of_getElem? (i := 462) (by decide +kernel)⟩
theorem lw_p17 : lw_okq (⟨"CutLetters$Ranking", "rankEnds", "(LCutLetters$Net;)V"⟩, 4) := ⟨⟨by decide +kernel, by decide +kernel⟩, List.mem_of_getElem? (i := 171) (by decide +kernel), List.mem_of_getElem? (i := 470) (by decide +kernel), List.mem_of_getElem? (i := 471) (by decide +kernel)⟩
theorem lw_p18 : lw_okq (⟨"CutLetters$Ranking", "rankSpot", "(LCutLetters$Net;II)V"⟩, 4) := ⟨⟨by decide +kernel, by decide +kernel⟩, List.mem_of_getElem? (i := 171) (by decide +kernel), List.mem_of_getElem? (i := 478) (by decide +kernel), List.mem_of_getElem? (i := 479) (by decide +kernel)⟩
theorem lw_p19 : lw_okq (⟨"CutLetters$Ranking", "offerWays", "(LCutLetters$Net;III)V"⟩, 4) := ⟨⟨by decide +kernel, by decide +kernel⟩, List.mem_of_getElem? (i := 171) (by decide +kernel), List.mem_of_getElem? (i := 482) (by decide +kernel), List.mem_of_getElem? (i := 483) (by decide +kernel)⟩
theorem lw_p20 : lw_okq (⟨"CutLetters$Ranking", "offer", "(II)Z"⟩, 4) := ⟨⟨by decide +kernel, by decide +kernel⟩, List.mem_of_getElem? (i := 171) (by decide +kernel), List.mem_of_getElem? (i := 486) (by decide +kernel), List.mem_of_getElem? (i := 487) (by decide +kernel)⟩
theorem lw_p21 : lw_okq (⟨"CutLetters$Writing", "add", "(I)V"⟩, 2) := ⟨⟨by decide +kernel, by decide +kernel⟩, List.mem_of_getElem? (i := 192) (by decide +kernel), List.mem_of_getElem? (i := 538) (by decide +kernel), List.mem_of_getElem? (i := 539) (by decide +kernel)⟩
theorem lw_p22 : lw_okq (⟨"CutLetters$Writing", "writePiece", "(ILCutLetters$Net;LCutLetters$Book;)V"⟩, 2) := ⟨⟨by decide +kernel, by decide +kernel⟩, List.mem_of_getElem? (i := 192) (by decide +kernel), List.mem_of_getElem? (i := 542) (by decide +kernel), List.mem_of_getElem? (i := 543) (by decide +kernel)⟩
theorem lw_p23 : lw_okq (⟨"CutLettersModel", "wordFault", "()I"⟩, 28) := ⟨⟨by decide +kernel, by decide +kernel⟩, List.mem_of_getElem? (i := 566) (by decide +kernel), List.mem_of_getElem? (i := 673) (by decide +kernel), List.mem_of_getElem? (i := 674) (by decide +kernel)⟩
theorem lw_p24 : lw_okq (⟨"CutLettersModel", "lineFault", "()I"⟩, 28) := ⟨⟨by decide +kernel, by decide +kernel⟩, List.mem_of_getElem? (i := 566) (by decide +kernel), List.mem_of_getElem? (i := 683) (by decide +kernel), List.mem_of_getElem? (i := 684) (by decide +kernel)⟩
theorem lw_p25 : lw_okq (⟨"CutLettersModel", "layPieces", "()V"⟩, 28) := ⟨⟨by decide +kernel, by decide +kernel⟩, List.mem_of_getElem? (i := 566) (by decide +kernel), List.mem_of_getElem? (i := 715) (by decide +kernel), List.mem_of_getElem? (i := 716) (by decide +kernel)⟩
theorem lw_p26 : lw_okq (⟨"CutLettersModel", "stands", "(II)Z"⟩, 28) := ⟨⟨by decide +kernel, by decide +kernel⟩, List.mem_of_getElem? (i := 566) (by decide +kernel), List.mem_of_getElem? (i := 722) (by decide +kernel), List.mem_of_getElem? (i := 723) (by decide +kernel)⟩
theorem lw_p27 : lw_okq (⟨"CutLettersModel", "put", "(IIIII)V"⟩, 28) := ⟨⟨by decide +kernel, by decide +kernel⟩, List.mem_of_getElem? (i := 566) (by decide +kernel), List.mem_of_getElem? (i := 726) (by decide +kernel), List.mem_of_getElem? (i := 727) (by decide +kernel)⟩
theorem lw_p28 : lw_okq (⟨"CutLettersModel", "layRows", "()V"⟩, 28) := ⟨⟨by decide +kernel, by decide +kernel⟩, List.mem_of_getElem? (i := 566) (by decide +kernel), List.mem_of_getElem? (i := 734) (by decide +kernel), List.mem_of_getElem? (i := 735) (by decide +kernel)⟩
theorem lw_p29 : lw_okq (⟨"CutLettersModel", "behind", "(I)I"⟩, 28) := ⟨⟨by decide +kernel, by decide +kernel⟩, List.mem_of_getElem? (i := 566) (by decide +kernel), List.mem_of_getElem? (i := 738) (by decide +kernel), List.mem_of_getElem? (i := 739) (by decide +kernel)⟩
theorem lw_p30 : lw_okq (⟨"CutLettersModel", "joinOf", "(II)I"⟩, 28) := ⟨⟨by decide +kernel, by decide +kernel⟩, List.mem_of_getElem? (i := 566) (by decide +kernel), List.mem_of_getElem? (i := 742) (by decide +kernel), List.mem_of_getElem? (i := 743) (by decide +kernel)⟩
theorem lw_p31 : lw_okq (⟨"CutLettersModel", "leastOf", "(I)I"⟩, 28) := ⟨⟨by decide +kernel, by decide +kernel⟩, List.mem_of_getElem? (i := 566) (by decide +kernel), List.mem_of_getElem? (i := 746) (by decide +kernel), List.mem_of_getElem? (i := 747) (by decide +kernel)⟩
def lw_privs_2 : List (MethodName × Nat) := [(⟨"CutLetters$Ranking", "leastUpTo", "(LCutLetters$Net;I)I"⟩, 4), (⟨"CutLetters$Ranking", "rankEnds", "(LCutLetters$Net;)V"⟩, 4), (⟨"CutLetters$Ranking", "rankSpot", "(LCutLetters$Net;II)V"⟩, 4), (⟨"CutLetters$Ranking", "offerWays", "(LCutLetters$Net;III)V"⟩, 4), (⟨"CutLetters$Ranking", "offer", "(II)Z"⟩, 4), (⟨"CutLetters$Writing", "add", "(I)V"⟩, 2), (⟨"CutLetters$Writing", "writePiece", "(ILCutLetters$Net;LCutLetters$Book;)V"⟩, 2), (⟨"CutLettersModel", "wordFault", "()I"⟩, 28), (⟨"CutLettersModel", "lineFault", "()I"⟩, 28), (⟨"CutLettersModel", "layPieces", "()V"⟩, 28), (⟨"CutLettersModel", "stands", "(II)Z"⟩, 28), (⟨"CutLettersModel", "put", "(IIIII)V"⟩, 28), (⟨"CutLettersModel", "layRows", "()V"⟩, 28), (⟨"CutLettersModel", "behind", "(I)I"⟩, 28), (⟨"CutLettersModel", "joinOf", "(II)I"⟩, 28), (⟨"CutLettersModel", "leastOf", "(I)I"⟩, 28)]
theorem lw_r2 : ∀ q ∈ lw_privs_2, lw_okq q := List.forall_mem_cons.mpr ⟨lw_p16, List.forall_mem_cons.mpr ⟨lw_p17, List.forall_mem_cons.mpr ⟨lw_p18, List.forall_mem_cons.mpr ⟨lw_p19, List.forall_mem_cons.mpr ⟨lw_p20, List.forall_mem_cons.mpr ⟨lw_p21, List.forall_mem_cons.mpr ⟨lw_p22, List.forall_mem_cons.mpr ⟨lw_p23, List.forall_mem_cons.mpr ⟨lw_p24, List.forall_mem_cons.mpr ⟨lw_p25, List.forall_mem_cons.mpr ⟨lw_p26, List.forall_mem_cons.mpr ⟨lw_p27, List.forall_mem_cons.mpr ⟨lw_p28, List.forall_mem_cons.mpr ⟨lw_p29, List.forall_mem_cons.mpr ⟨lw_p30, List.forall_mem_cons.mpr ⟨lw_p31, fun _ h => absurd h List.not_mem_nil⟩⟩⟩⟩⟩⟩⟩⟩⟩⟩⟩⟩⟩⟩⟩⟩
theorem lw_p32 : lw_okq (⟨"CutLettersModel", "cuttingOf", "(I)I"⟩, 28) := ⟨⟨by decide +kernel, by decide +kernel⟩, List.mem_of_getElem? (i := 566) (by decide +kernel), List.mem_of_getElem? (i := 759) (by decide +kernel), List.mem_of_getElem? (i := 760) (by decide +kernel)⟩
theorem lw_p33 : lw_okq (⟨"CutLettersModel", "costOf", "(I)I"⟩, 28) := ⟨⟨by decide +kernel, by decide +kernel⟩, List.mem_of_getElem? (i := 566) (by decide +kernel), List.mem_of_getElem? (i := 763) (by decide +kernel), List.mem_of_getElem? (i := 764) (by decide +kernel)⟩
theorem lw_p34 : lw_okq (⟨"CutLettersModel", "next", "(I)I"⟩, 28) := ⟨⟨by decide +kernel, by decide +kernel⟩, List.mem_of_getElem? (i := 566) (by decide +kernel), List.mem_of_getElem? (i := 767) (by decide +kernel), List.mem_of_getElem? (i := 768) (by decide +kernel)⟩
def lw_privs_3 : List (MethodName × Nat) := [(⟨"CutLettersModel", "cuttingOf", "(I)I"⟩, 28), (⟨"CutLettersModel", "costOf", "(I)I"⟩, 28), (⟨"CutLettersModel", "next", "(I)I"⟩, 28)]
theorem lw_r3 : ∀ q ∈ lw_privs_3, lw_okq q := List.forall_mem_cons.mpr ⟨lw_p32, List.forall_mem_cons.mpr ⟨lw_p33, List.forall_mem_cons.mpr ⟨lw_p34, fun _ h => absurd h List.not_mem_nil⟩⟩⟩
def lw_privs : List (MethodName × Nat) := lw_privs_1 ++ (lw_privs_2 ++ (lw_privs_3))
def lw_tbl : List Cond := k2_sels lw_privs ++ tables_1
theorem lw_privs_ok : ∀ q ∈ lw_privs, lw_okq q := by
  show ∀ q ∈ lw_privs_1 ++ (lw_privs_2 ++ (lw_privs_3)), lw_okq q
  exact List.forall_mem_append.mpr ⟨lw_r1, List.forall_mem_append.mpr ⟨lw_r2, lw_r3⟩⟩

def RX0 : String := "CutLetters$Book"
def TX0 : u_T := fun k => match k with
  | 0 => ("CutLetters$Book", "dictionary", "LCutLetters$Dictionary;", true)
  | 1 => ("CutLetters$Book", "joins", "[I", true)
  | 2 => ("CutLetters$Book", "rules", "[I", true)
  | 3 => ("CutLetters$Book", "line", "[I", true)
  | _ => ("CutLetters$Book", "lineLength", "I", false)
def tyX0 : Nat → FieldType := fun k => match k with
  | 0 => .object "CutLetters$Dictionary"
  | 1 => .array .int
  | 2 => .array .int
  | 3 => .array .int
  | _ => .int
abbrev wsX00 : List Cond := u_ws RX0 TX0 5
theorem nmX0 : ∀ a, a < 5 → ∀ b, b < 5 → a ≠ b → (TX0 a).2.1 ≠ (TX0 b).2.1 := by decide +kernel
theorem tyX0_ok : ∀ k, k < 5 → parseFieldDescriptor (TX0 k).2.2.1 = some (tyX0 k) := by decide +kernel
abbrev cX0_init : ByteArray := prog_2_method_1_code
def yX0_init : MethodName := ⟨RX0, "<init>", "()V"⟩
abbrev cX0_takeLine : ByteArray := prog_2_method_2_code
def yX0_takeLine : MethodName := ⟨RX0, "takeLine", "(LCutLetters$Pad;)V"⟩
abbrev cX0_runLength : ByteArray := prog_2_method_3_code
def yX0_runLength : MethodName := ⟨RX0, "runLength", "(I)I"⟩
abbrev cX0_classOf : ByteArray := prog_2_method_4_code
def yX0_classOf : MethodName := ⟨RX0, "classOf", "(I)I"⟩
abbrev cX0_copy : ByteArray := prog_2_method_5_code
def yX0_copy : MethodName := ⟨RX0, "copy", "(LCutLetters$Book;)V"⟩
def RX1 : String := "CutLetters$Dictionary"
def TX1 : u_T := fun k => match k with
  | 0 => ("CutLetters$Dictionary", "letters", "[I", true)
  | 1 => ("CutLetters$Dictionary", "lengths", "[I", true)
  | 2 => ("CutLetters$Dictionary", "kinds", "[I", true)
  | 3 => ("CutLetters$Dictionary", "costs", "[I", true)
  | _ => ("CutLetters$Dictionary", "count", "I", false)
def tyX1 : Nat → FieldType := fun k => match k with
  | 0 => .array .int
  | 1 => .array .int
  | 2 => .array .int
  | 3 => .array .int
  | _ => .int
abbrev wsX10 : List Cond := u_ws RX1 TX1 5
theorem nmX1 : ∀ a, a < 5 → ∀ b, b < 5 → a ≠ b → (TX1 a).2.1 ≠ (TX1 b).2.1 := by decide +kernel
theorem tyX1_ok : ∀ k, k < 5 → parseFieldDescriptor (TX1 k).2.2.1 = some (tyX1 k) := by decide +kernel
abbrev cX1_init : ByteArray := prog_3_method_1_code
def yX1_init : MethodName := ⟨RX1, "<init>", "()V"⟩
abbrev cX1_has : ByteArray := prog_3_method_2_code
def yX1_has : MethodName := ⟨RX1, "has", "(I)Z"⟩
abbrev cX1_put : ByteArray := prog_3_method_3_code
def yX1_put : MethodName := ⟨RX1, "put", "(LCutLetters$Pad;)I"⟩
abbrev cX1_find : ByteArray := prog_3_method_4_code
def yX1_find : MethodName := ⟨RX1, "find", "(LCutLetters$Pad;)I"⟩
abbrev cX1_standsAt : ByteArray := prog_3_method_5_code
def yX1_standsAt : MethodName := ⟨RX1, "standsAt", "(I[III)Z"⟩
abbrev cX1_remove : ByteArray := prog_3_method_6_code
def yX1_remove : MethodName := ⟨RX1, "remove", "(I)V"⟩
abbrev cX1_tell : ByteArray := prog_3_method_7_code
def yX1_tell : MethodName := ⟨RX1, "tell", "(II)I"⟩
abbrev cX1_copy : ByteArray := prog_3_method_8_code
def yX1_copy : MethodName := ⟨RX1, "copy", "(LCutLetters$Dictionary;)V"⟩
def RX2 : String := "CutLetters$Net"
def TX2 : u_T := fun k => match k with
  | 0 => ("CutLetters$Net", "lineLength", "I", false)
  | 1 => ("CutLetters$Net", "count", "I", false)
  | 2 => ("CutLetters$Net", "places", "[I", true)
  | 3 => ("CutLetters$Net", "lengths", "[I", true)
  | 4 => ("CutLetters$Net", "kinds", "[I", true)
  | 5 => ("CutLetters$Net", "costs", "[I", true)
  | 6 => ("CutLetters$Net", "words", "[I", true)
  | 7 => ("CutLetters$Net", "firsts", "[I", true)
  | 8 => ("CutLetters$Net", "joins", "[I", true)
  | 9 => ("CutLetters$Net", "slots", "[I", true)
  | _ => ("CutLetters$Net", "routes", "[I", true)
def tyX2 : Nat → FieldType := fun k => match k with
  | 0 => .int
  | 1 => .int
  | 2 => .array .int
  | 3 => .array .int
  | 4 => .array .int
  | 5 => .array .int
  | 6 => .array .int
  | 7 => .array .int
  | 8 => .array .int
  | 9 => .array .int
  | _ => .array .int
abbrev wsX20 : List Cond := u_ws RX2 TX2 11
theorem nmX2 : ∀ a, a < 11 → ∀ b, b < 11 → a ≠ b → (TX2 a).2.1 ≠ (TX2 b).2.1 := by decide +kernel
theorem tyX2_ok : ∀ k, k < 11 → parseFieldDescriptor (TX2 k).2.2.1 = some (tyX2 k) := by decide +kernel
abbrev cX2_init : ByteArray := prog_4_method_1_code
def yX2_init : MethodName := ⟨RX2, "<init>", "()V"⟩
abbrev cX2_make : ByteArray := prog_4_method_2_code
def yX2_make : MethodName := ⟨RX2, "make", "(LCutLetters$Book;)V"⟩
abbrev cX2_fillSlots : ByteArray := prog_4_method_3_code
def yX2_fillSlots : MethodName := ⟨RX2, "fillSlots", "(LCutLetters$Book;I)V"⟩
abbrev cX2_fillWords : ByteArray := prog_4_method_4_code
def yX2_fillWords : MethodName := ⟨RX2, "fillWords", "(LCutLetters$Book;I)Z"⟩
abbrev cX2_fillWild : ByteArray := prog_4_method_5_code
def yX2_fillWild : MethodName := ⟨RX2, "fillWild", "(LCutLetters$Book;I)V"⟩
abbrev cX2_addSlots : ByteArray := prog_4_method_6_code
def yX2_addSlots : MethodName := ⟨RX2, "addSlots", "(LCutLetters$Book;I)V"⟩
abbrev cX2_add : ByteArray := prog_4_method_7_code
def yX2_add : MethodName := ⟨RX2, "add", "(LCutLetters$Book;II)V"⟩
abbrev cX2_joinBefore : ByteArray := prog_4_method_8_code
def yX2_joinBefore : MethodName := ⟨RX2, "joinBefore", "(II)I"⟩
abbrev cX2_joinAtEnd : ByteArray := prog_4_method_9_code
def yX2_joinAtEnd : MethodName := ⟨RX2, "joinAtEnd", "(I)I"⟩
abbrev cX2_countWays : ByteArray := prog_4_method_10_code
def yX2_countWays : MethodName := ⟨RX2, "countWays", "()I"⟩
def RX3 : String := "CutLetters$Pad"
def TX3 : u_T := fun k => match k with
  | 0 => ("CutLetters$Pad", "signs", "[I", true)
  | 1 => ("CutLetters$Pad", "count", "I", false)
  | 2 => ("CutLetters$Pad", "letters", "I", false)
  | 3 => ("CutLetters$Pad", "kind", "I", false)
  | _ => ("CutLetters$Pad", "cost", "I", false)
def tyX3 : Nat → FieldType := fun k => match k with
  | 0 => .array .int
  | 1 => .int
  | 2 => .int
  | 3 => .int
  | _ => .int
abbrev wsX30 : List Cond := u_ws RX3 TX3 5
theorem nmX3 : ∀ a, a < 5 → ∀ b, b < 5 → a ≠ b → (TX3 a).2.1 ≠ (TX3 b).2.1 := by decide +kernel
theorem tyX3_ok : ∀ k, k < 5 → parseFieldDescriptor (TX3 k).2.2.1 = some (tyX3 k) := by decide +kernel
abbrev cX3_init : ByteArray := prog_5_method_1_code
def yX3_init : MethodName := ⟨RX3, "<init>", "()V"⟩
abbrev cX3_add : ByteArray := prog_5_method_2_code
def yX3_add : MethodName := ⟨RX3, "add", "(I)Z"⟩
abbrev cX3_clear : ByteArray := prog_5_method_3_code
def yX3_clear : MethodName := ⟨RX3, "clear", "()V"⟩
abbrev cX3_readLine : ByteArray := prog_5_method_4_code
def yX3_readLine : MethodName := ⟨RX3, "readLine", "()I"⟩
abbrev cX3_readWord : ByteArray := prog_5_method_5_code
def yX3_readWord : MethodName := ⟨RX3, "readWord", "()I"⟩
abbrev cX3_readCost : ByteArray := prog_5_method_6_code
def yX3_readCost : MethodName := ⟨RX3, "readCost", "(I)I"⟩
abbrev cX3_leadingLetters : ByteArray := prog_5_method_7_code
def yX3_leadingLetters : MethodName := ⟨RX3, "leadingLetters", "(I)I"⟩
abbrev cX3_signAt : ByteArray := prog_5_method_8_code
def yX3_signAt : MethodName := ⟨RX3, "signAt", "(I)I"⟩
abbrev cX3_kindNamedAt : ByteArray := prog_5_method_9_code
def yX3_kindNamedAt : MethodName := ⟨RX3, "kindNamedAt", "(I)I"⟩
abbrev cX3_nameStandsAt : ByteArray := prog_5_method_10_code
def yX3_nameStandsAt : MethodName := ⟨RX3, "nameStandsAt", "(II)Z"⟩
abbrev cX3_isLetter : ByteArray := prog_5_method_11_code
def yX3_isLetter : MethodName := ⟨RX3, "isLetter", "(I)Z"⟩
abbrev cX3_isFigure : ByteArray := prog_5_method_12_code
def yX3_isFigure : MethodName := ⟨RX3, "isFigure", "(I)Z"⟩
def RX4 : String := "CutLetters$Ranking"
def TX4 : u_T := fun k => match k with
  | 0 => ("CutLetters$Ranking", "before", "[I", true)
  | 1 => ("CutLetters$Ranking", "counts", "[I", true)
  | 2 => ("CutLetters$Ranking", "kept", "[I", true)
  | _ => ("CutLetters$Ranking", "followed", "[I", true)
def tyX4 : Nat → FieldType := fun k => match k with
  | 0 => .array .int
  | 1 => .array .int
  | 2 => .array .int
  | _ => .array .int
abbrev wsX40 : List Cond := u_ws RX4 TX4 4
theorem nmX4 : ∀ a, a < 4 → ∀ b, b < 4 → a ≠ b → (TX4 a).2.1 ≠ (TX4 b).2.1 := by decide +kernel
theorem tyX4_ok : ∀ k, k < 4 → parseFieldDescriptor (TX4 k).2.2.1 = some (tyX4 k) := by decide +kernel
abbrev cX4_init : ByteArray := prog_6_method_1_code
def yX4_init : MethodName := ⟨RX4, "<init>", "()V"⟩
abbrev cX4_make : ByteArray := prog_6_method_2_code
def yX4_make : MethodName := ⟨RX4, "make", "(LCutLetters$Net;)V"⟩
abbrev cX4_rankEnds : ByteArray := prog_6_method_3_code
def yX4_rankEnds : MethodName := ⟨RX4, "rankEnds", "(LCutLetters$Net;)V"⟩
abbrev cX4_rankSpot : ByteArray := prog_6_method_4_code
def yX4_rankSpot : MethodName := ⟨RX4, "rankSpot", "(LCutLetters$Net;II)V"⟩
abbrev cX4_offerWays : ByteArray := prog_6_method_5_code
def yX4_offerWays : MethodName := ⟨RX4, "offerWays", "(LCutLetters$Net;III)V"⟩
abbrev cX4_offer : ByteArray := prog_6_method_6_code
def yX4_offer : MethodName := ⟨RX4, "offer", "(II)Z"⟩
abbrev cX4_spotBehind : ByteArray := prog_6_method_7_code
def yX4_spotBehind : MethodName := ⟨RX4, "spotBehind", "(LCutLetters$Net;I)I"⟩
abbrev cX4_reachSpots : ByteArray := prog_6_method_8_code
def yX4_reachSpots : MethodName := ⟨RX4, "reachSpots", "(LCutLetters$Net;)V"⟩
abbrev cX4_leastUpTo : ByteArray := prog_6_method_9_code
def yX4_leastUpTo : MethodName := ⟨RX4, "leastUpTo", "(LCutLetters$Net;I)I"⟩
abbrev cX4_leastWith : ByteArray := prog_6_method_10_code
def yX4_leastWith : MethodName := ⟨RX4, "leastWith", "(LCutLetters$Net;I)I"⟩
abbrev cX4_cuttings : ByteArray := prog_6_method_11_code
def yX4_cuttings : MethodName := ⟨RX4, "cuttings", "()I"⟩
abbrev cX4_costOf : ByteArray := prog_6_method_12_code
def yX4_costOf : MethodName := ⟨RX4, "costOf", "(I)I"⟩
abbrev cX4_follow : ByteArray := prog_6_method_13_code
def yX4_follow : MethodName := ⟨RX4, "follow", "(LCutLetters$Net;I)I"⟩
abbrev cX4_surePlaces : ByteArray := prog_6_method_14_code
def yX4_surePlaces : MethodName := ⟨RX4, "surePlaces", "(LCutLetters$Net;I)I"⟩
def RX5 : String := "CutLetters$Writing"
def TX5 : u_T := fun k => match k with
  | 0 => ("CutLetters$Writing", "signs", "[I", true)
  | _ => ("CutLetters$Writing", "count", "I", false)
def tyX5 : Nat → FieldType := fun k => match k with
  | 0 => .array .int
  | _ => .int
abbrev wsX50 : List Cond := u_ws RX5 TX5 2
theorem nmX5 : ∀ a, a < 2 → ∀ b, b < 2 → a ≠ b → (TX5 a).2.1 ≠ (TX5 b).2.1 := by decide +kernel
theorem tyX5_ok : ∀ k, k < 2 → parseFieldDescriptor (TX5 k).2.2.1 = some (tyX5 k) := by decide +kernel
abbrev cX5_init : ByteArray := prog_7_method_1_code
def yX5_init : MethodName := ⟨RX5, "<init>", "()V"⟩
abbrev cX5_write : ByteArray := prog_7_method_2_code
def yX5_write : MethodName := ⟨RX5, "write", "(ILCutLetters$Ranking;LCutLetters$Net;LCutLetters$Book;)V"⟩
abbrev cX5_writePiece : ByteArray := prog_7_method_3_code
def yX5_writePiece : MethodName := ⟨RX5, "writePiece", "(ILCutLetters$Net;LCutLetters$Book;)V"⟩
abbrev cX5_add : ByteArray := prog_7_method_4_code
def yX5_add : MethodName := ⟨RX5, "add", "(I)V"⟩
def RX6 : String := "CutLetters"
def TX6 : u_T := fun k => match k with
  | 0 => ("CutLetters", "pad", "LCutLetters$Pad;", true)
  | 1 => ("CutLetters", "book", "LCutLetters$Book;", true)
  | 2 => ("CutLetters", "images", "[LCutLetters$Book;", true)
  | 3 => ("CutLetters", "net", "LCutLetters$Net;", true)
  | 4 => ("CutLetters", "ranking", "LCutLetters$Ranking;", true)
  | 5 => ("CutLetters", "writing", "LCutLetters$Writing;", true)
  | 6 => ("CutLetters", "netStands", "Z", false)
  | _ => ("CutLetters", "rankingStands", "Z", false)
def tyX6 : Nat → FieldType := fun k => match k with
  | 0 => .object "CutLetters$Pad"
  | 1 => .object "CutLetters$Book"
  | 2 => .array (.object "CutLetters$Book")
  | 3 => .object "CutLetters$Net"
  | 4 => .object "CutLetters$Ranking"
  | 5 => .object "CutLetters$Writing"
  | 6 => .boolean
  | _ => .boolean
abbrev wsX60 : List Cond := u_ws RX6 TX6 8
theorem nmX6 : ∀ a, a < 8 → ∀ b, b < 8 → a ≠ b → (TX6 a).2.1 ≠ (TX6 b).2.1 := by decide +kernel
theorem tyX6_ok : ∀ k, k < 8 → parseFieldDescriptor (TX6 k).2.2.1 = some (tyX6 k) := by decide +kernel
abbrev cX6_init : ByteArray := prog_1_method_1_code
def yX6_init : MethodName := ⟨RX6, "<init>", "()V"⟩
abbrev cX6_say : ByteArray := prog_1_method_2_code
def yX6_say : MethodName := ⟨RX6, "say", "(I)I"⟩
abbrev cX6_wipe : ByteArray := prog_1_method_3_code
def yX6_wipe : MethodName := ⟨RX6, "wipe", "()I"⟩
abbrev cX6_fault : ByteArray := prog_1_method_4_code
def yX6_fault : MethodName := ⟨RX6, "fault", "(I)I"⟩
abbrev cX6_learn : ByteArray := prog_1_method_5_code
def yX6_learn : MethodName := ⟨RX6, "learn", "()I"⟩
abbrev cX6_forget : ByteArray := prog_1_method_6_code
def yX6_forget : MethodName := ⟨RX6, "forget", "(I)I"⟩
abbrev cX6_word : ByteArray := prog_1_method_7_code
def yX6_word : MethodName := ⟨RX6, "word", "(II)I"⟩
abbrev cX6_line : ByteArray := prog_1_method_8_code
def yX6_line : MethodName := ⟨RX6, "line", "()I"⟩
abbrev cX6_join : ByteArray := prog_1_method_9_code
def yX6_join : MethodName := ⟨RX6, "join", "(III)I"⟩
abbrev cX6_rule : ByteArray := prog_1_method_10_code
def yX6_rule : MethodName := ⟨RX6, "rule", "(II)I"⟩
abbrev cX6_pieces : ByteArray := prog_1_method_11_code
def yX6_pieces : MethodName := ⟨RX6, "pieces", "()I"⟩
abbrev cX6_piece : ByteArray := prog_1_method_12_code
def yX6_piece : MethodName := ⟨RX6, "piece", "(II)I"⟩
abbrev cX6_ways : ByteArray := prog_1_method_13_code
def yX6_ways : MethodName := ⟨RX6, "ways", "()I"⟩
abbrev cX6_cutting : ByteArray := prog_1_method_14_code
def yX6_cutting : MethodName := ⟨RX6, "cutting", "(II)I"⟩
abbrev cX6_sure : ByteArray := prog_1_method_15_code
def yX6_sure : MethodName := ⟨RX6, "sure", "(I)I"⟩
abbrev cX6_sign : ByteArray := prog_1_method_16_code
def yX6_sign : MethodName := ⟨RX6, "sign", "(II)I"⟩
abbrev cX6_image : ByteArray := prog_1_method_17_code
def yX6_image : MethodName := ⟨RX6, "image", "(I)I"⟩
abbrev cX6_restore : ByteArray := prog_1_method_18_code
def yX6_restore : MethodName := ⟨RX6, "restore", "(I)I"⟩
abbrev cX6_told : ByteArray := prog_1_method_19_code
def yX6_told : MethodName := ⟨RX6, "told", "(I)I"⟩
abbrev cX6_isJoin : ByteArray := prog_1_method_20_code
def yX6_isJoin : MethodName := ⟨RX6, "isJoin", "(II)Z"⟩
abbrev cX6_hasLine : ByteArray := prog_1_method_21_code
def yX6_hasLine : MethodName := ⟨RX6, "hasLine", "()Z"⟩
abbrev cX6_somethingChanged : ByteArray := prog_1_method_22_code
def yX6_somethingChanged : MethodName := ⟨RX6, "somethingChanged", "()V"⟩
abbrev cX6_makeNet : ByteArray := prog_1_method_23_code
def yX6_makeNet : MethodName := ⟨RX6, "makeNet", "()V"⟩
abbrev cX6_makeRanking : ByteArray := prog_1_method_24_code
def yX6_makeRanking : MethodName := ⟨RX6, "makeRanking", "()V"⟩
def RX7 : String := "CutLettersModel"
def TX7 : u_T := fun k => match k with
  | 0 => ("CutLettersModel", "letters", "[I", true)
  | 1 => ("CutLettersModel", "size", "[I", true)
  | 2 => ("CutLettersModel", "kind", "[I", true)
  | 3 => ("CutLettersModel", "cost", "[I", true)
  | 4 => ("CutLettersModel", "words", "I", false)
  | 5 => ("CutLettersModel", "joins", "[I", true)
  | 6 => ("CutLettersModel", "rules", "[I", true)
  | 7 => ("CutLettersModel", "line", "[I", true)
  | 8 => ("CutLettersModel", "long1", "I", false)
  | 9 => ("CutLettersModel", "signs", "I", false)
  | 10 => ("CutLettersModel", "pad", "[I", true)
  | 11 => ("CutLettersModel", "readSize", "I", false)
  | 12 => ("CutLettersModel", "readKind", "I", false)
  | 13 => ("CutLettersModel", "readCost", "I", false)
  | 14 => ("CutLettersModel", "place", "[I", true)
  | 15 => ("CutLettersModel", "length", "[I", true)
  | 16 => ("CutLettersModel", "sort", "[I", true)
  | 17 => ("CutLettersModel", "price", "[I", true)
  | 18 => ("CutLettersModel", "of", "[I", true)
  | 19 => ("CutLettersModel", "begins", "[I", true)
  | 20 => ("CutLettersModel", "many", "I", false)
  | 21 => ("CutLettersModel", "rowCost", "[I", true)
  | 22 => ("CutLettersModel", "rowNext", "[I", true)
  | 23 => ("CutLettersModel", "rows", "[I", true)
  | 24 => ("CutLettersModel", "ahead", "[I", true)
  | 25 => ("CutLettersModel", "waysTo", "[I", true)
  | 26 => ("CutLettersModel", "image", "[I", true)
  | _ => ("CutLettersModel", "isKept", "[Z", true)
def tyX7 : Nat → FieldType := fun k => match k with
  | 0 => .array .int
  | 1 => .array .int
  | 2 => .array .int
  | 3 => .array .int
  | 4 => .int
  | 5 => .array .int
  | 6 => .array .int
  | 7 => .array .int
  | 8 => .int
  | 9 => .int
  | 10 => .array .int
  | 11 => .int
  | 12 => .int
  | 13 => .int
  | 14 => .array .int
  | 15 => .array .int
  | 16 => .array .int
  | 17 => .array .int
  | 18 => .array .int
  | 19 => .array .int
  | 20 => .int
  | 21 => .array .int
  | 22 => .array .int
  | 23 => .array .int
  | 24 => .array .int
  | 25 => .array .int
  | 26 => .array .int
  | _ => .array .boolean
abbrev wsX70 : List Cond := u_ws RX7 TX7 28
theorem nmX7 : ∀ a, a < 28 → ∀ b, b < 28 → a ≠ b → (TX7 a).2.1 ≠ (TX7 b).2.1 := by decide +kernel
theorem tyX7_ok : ∀ k, k < 28 → parseFieldDescriptor (TX7 k).2.2.1 = some (tyX7 k) := by decide +kernel
abbrev cX7_init : ByteArray := prog_9_method_1_code
def yX7_init : MethodName := ⟨RX7, "<init>", "()V"⟩
abbrev cX7_in : ByteArray := prog_9_method_2_code
def yX7_in : MethodName := ⟨RX7, "in", "(III)Z"⟩
abbrev cX7_isLetter : ByteArray := prog_9_method_3_code
def yX7_isLetter : MethodName := ⟨RX7, "isLetter", "(I)Z"⟩
abbrev cX7_say : ByteArray := prog_9_method_4_code
def yX7_say : MethodName := ⟨RX7, "say", "(I)I"⟩
abbrev cX7_wipe : ByteArray := prog_9_method_5_code
def yX7_wipe : MethodName := ⟨RX7, "wipe", "()I"⟩
abbrev cX7_name : ByteArray := prog_9_method_6_code
def yX7_name : MethodName := ⟨RX7, "name", "(II)I"⟩
abbrev cX7_wordFault : ByteArray := prog_9_method_7_code
def yX7_wordFault : MethodName := ⟨RX7, "wordFault", "()I"⟩
abbrev cX7_lineFault : ByteArray := prog_9_method_8_code
def yX7_lineFault : MethodName := ⟨RX7, "lineFault", "()I"⟩
abbrev cX7_fault : ByteArray := prog_9_method_9_code
def yX7_fault : MethodName := ⟨RX7, "fault", "(I)I"⟩
abbrev cX7_learn : ByteArray := prog_9_method_10_code
def yX7_learn : MethodName := ⟨RX7, "learn", "()I"⟩
abbrev cX7_forget : ByteArray := prog_9_method_11_code
def yX7_forget : MethodName := ⟨RX7, "forget", "(I)I"⟩
abbrev cX7_word : ByteArray := prog_9_method_12_code
def yX7_word : MethodName := ⟨RX7, "word", "(II)I"⟩
abbrev cX7_line : ByteArray := prog_9_method_13_code
def yX7_line : MethodName := ⟨RX7, "line", "()I"⟩
abbrev cX7_join : ByteArray := prog_9_method_14_code
def yX7_join : MethodName := ⟨RX7, "join", "(III)I"⟩
abbrev cX7_rule : ByteArray := prog_9_method_15_code
def yX7_rule : MethodName := ⟨RX7, "rule", "(II)I"⟩
abbrev cX7_stands : ByteArray := prog_9_method_16_code
def yX7_stands : MethodName := ⟨RX7, "stands", "(II)Z"⟩
abbrev cX7_classOf : ByteArray := prog_9_method_17_code
def yX7_classOf : MethodName := ⟨RX7, "classOf", "(I)I"⟩
abbrev cX7_put : ByteArray := prog_9_method_18_code
def yX7_put : MethodName := ⟨RX7, "put", "(IIIII)V"⟩
abbrev cX7_layPieces : ByteArray := prog_9_method_19_code
def yX7_layPieces : MethodName := ⟨RX7, "layPieces", "()V"⟩
abbrev cX7_behind : ByteArray := prog_9_method_20_code
def yX7_behind : MethodName := ⟨RX7, "behind", "(I)I"⟩
abbrev cX7_joinOf : ByteArray := prog_9_method_21_code
def yX7_joinOf : MethodName := ⟨RX7, "joinOf", "(II)I"⟩
abbrev cX7_layRows : ByteArray := prog_9_method_22_code
def yX7_layRows : MethodName := ⟨RX7, "layRows", "()V"⟩
abbrev cX7_cuttingOf : ByteArray := prog_9_method_23_code
def yX7_cuttingOf : MethodName := ⟨RX7, "cuttingOf", "(I)I"⟩
abbrev cX7_costOf : ByteArray := prog_9_method_24_code
def yX7_costOf : MethodName := ⟨RX7, "costOf", "(I)I"⟩
abbrev cX7_next : ByteArray := prog_9_method_25_code
def yX7_next : MethodName := ⟨RX7, "next", "(I)I"⟩
abbrev cX7_pieces : ByteArray := prog_9_method_26_code
def yX7_pieces : MethodName := ⟨RX7, "pieces", "()I"⟩
abbrev cX7_leastOf : ByteArray := prog_9_method_27_code
def yX7_leastOf : MethodName := ⟨RX7, "leastOf", "(I)I"⟩
abbrev cX7_piece : ByteArray := prog_9_method_28_code
def yX7_piece : MethodName := ⟨RX7, "piece", "(II)I"⟩
abbrev cX7_ways : ByteArray := prog_9_method_29_code
def yX7_ways : MethodName := ⟨RX7, "ways", "()I"⟩
abbrev cX7_cutting : ByteArray := prog_9_method_30_code
def yX7_cutting : MethodName := ⟨RX7, "cutting", "(II)I"⟩
abbrev cX7_sure : ByteArray := prog_9_method_31_code
def yX7_sure : MethodName := ⟨RX7, "sure", "(I)I"⟩
abbrev cX7_sign : ByteArray := prog_9_method_32_code
def yX7_sign : MethodName := ⟨RX7, "sign", "(II)I"⟩
abbrev cX7_image : ByteArray := prog_9_method_33_code
def yX7_image : MethodName := ⟨RX7, "image", "(I)I"⟩
abbrev cX7_restore : ByteArray := prog_9_method_34_code
def yX7_restore : MethodName := ⟨RX7, "restore", "(I)I"⟩
abbrev cX7_told : ByteArray := prog_9_method_35_code
def yX7_told : MethodName := ⟨RX7, "told", "(I)I"⟩
def RJ9 : String := "java/lang/Math"
def TJ9 : u_T := fun k => match k with
  | _ => ("", "", "", false)
def tyJ9 : Nat → FieldType := fun k => match k with
  | _ => .int
abbrev cJ9_min_7cf53 : ByteArray := prog_10_method_69_code
def yJ9_min_7cf53 : MethodName := ⟨RJ9, "min", "(II)I"⟩
def RJ0 : String := "java/lang/String"
def TJ0 : u_T := fun k => match k with
  | _ => ("", "", "", false)
def tyJ0 : Nat → FieldType := fun k => match k with
  | _ => .int
abbrev cJ0_charAt_5068e : ByteArray := prog_11_method_56_code
def yJ0_charAt_5068e : MethodName := ⟨RJ0, "charAt", "(I)C"⟩
abbrev cJ0_isLatin1_aae02 : ByteArray := prog_11_method_154_code
def yJ0_isLatin1_aae02 : MethodName := ⟨RJ0, "isLatin1", "()Z"⟩
abbrev cJ0_checkIndex_df160 : ByteArray := prog_11_method_155_code
def yJ0_checkIndex_df160 : MethodName := ⟨RJ0, "checkIndex", "(II)V"⟩
def RJ1 : String := "java/lang/StringLatin1"
def TJ1 : u_T := fun k => match k with
  | _ => ("", "", "", false)
def tyJ1 : Nat → FieldType := fun k => match k with
  | _ => .int
abbrev cJ1_charAt_3b067 : ByteArray := prog_12_method_2_code
def yJ1_charAt_3b067 : MethodName := ⟨RJ1, "charAt", "([BI)C"⟩
def RJ2 : String := "java/lang/StringUTF16"
def TJ2 : u_T := fun k => match k with
  | _ => ("", "", "", false)
def tyJ2 : Nat → FieldType := fun k => match k with
  | _ => .int
abbrev cJ2_getChar_3b067 : ByteArray := prog_13_method_5_code
def yJ2_getChar_3b067 : MethodName := ⟨RJ2, "getChar", "([BI)C"⟩
abbrev cJ2_length_9d52b : ByteArray := prog_13_method_6_code
def yJ2_length_9d52b : MethodName := ⟨RJ2, "length", "([B)I"⟩
abbrev cJ2_charAt_3b067 : ByteArray := prog_13_method_83_code
def yJ2_charAt_3b067 : MethodName := ⟨RJ2, "charAt", "([BI)C"⟩
abbrev cJ2_checkIndex_2214a : ByteArray := prog_13_method_91_code
def yJ2_checkIndex_2214a : MethodName := ⟨RJ2, "checkIndex", "(I[B)V"⟩
def RJ10 : String := "java/lang/System"
def TJ10 : u_T := fun k => match k with
  | _ => ("", "", "", false)
def tyJ10 : Nat → FieldType := fun k => match k with
  | _ => .int
def RJ3 : String := "jdk/internal/util/Preconditions"
def TJ3 : u_T := fun k => match k with
  | _ => ("", "", "", false)
def tyJ3 : Nat → FieldType := fun k => match k with
  | _ => .int
abbrev cJ3_checkIndex_8e157 : ByteArray := prog_15_method_11_code
def yJ3_checkIndex_8e157 : MethodName := ⟨RJ3, "checkIndex", "(IILjava/util/function/BiFunction;)I"⟩
def RL : String := "CutLettersLaw"
abbrev cL_law : ByteArray := code
def yL_law : MethodName := ⟨RL, "law", "([I)Z"⟩
abbrev vwCl : List vw_C := [(RX0, TX0, 5), (RX1, TX1, 5), (RX2, TX2, 11), (RX3, TX3, 5), (RX4, TX4, 4), (RX5, TX5, 2), (RX6, TX6, 8), (RX7, TX7, 28)]
def zTs : List Cond := lw_tbl.filter goodWord
theorem zTs_tbl {w : Cond} (h : w ∈ zTs) : w ∈ lw_tbl := (List.mem_filter.mp h).1
theorem zTs_good {w : Cond} (h : w ∈ zTs) : goodWord w = true := (List.mem_filter.mp h).2
theorem zin {w : Cond} (i : Nat) (h : lw_tbl[i]? = some w) (hg : goodWord w = true) : w ∈ zTs := List.mem_filter.mpr ⟨List.mem_of_getElem? h, hg⟩
theorem zin_l {ws : List Cond} (ps : List Nat) (h : ws.map some = ps.map (fun i => lw_tbl[i]?)) (hg : ws.all goodWord = true) : ∀ w ∈ ws, w ∈ zTs := by
  intro w hw
  have h1 : some w ∈ ps.map (fun i => lw_tbl[i]?) := by rw [← h]; exact List.mem_map_of_mem hw
  obtain ⟨i, -, hi⟩ := List.mem_map.mp h1
  exact zin i hi (List.all_eq_true.mp hg w hw)
end
section
theorem inX0z : ∀ w ∈ wsX00, w ∈ zTs := zin_l [137, 139, 141, 143, 145] (by decide +kernel) (by decide +kernel)
theorem inX1z : ∀ w ∈ wsX10, w ∈ zTs := zin_l [110, 112, 114, 116, 118] (by decide +kernel) (by decide +kernel)
theorem inX2z : ∀ w ∈ wsX20, w ∈ zTs := zin_l [182, 184, 186, 188, 190, 192, 194, 196, 198, 200, 202] (by decide +kernel) (by decide +kernel)
theorem inX3z : ∀ w ∈ wsX30, w ∈ zTs := zin_l [76, 78, 80, 82, 84] (by decide +kernel) (by decide +kernel)
theorem inX4z : ∀ w ∈ wsX40, w ∈ zTs := zin_l [217, 219, 221, 223] (by decide +kernel) (by decide +kernel)
theorem inX5z : ∀ w ∈ wsX50, w ∈ zTs := zin_l [236, 238] (by decide +kernel) (by decide +kernel)
theorem inX6z : ∀ w ∈ wsX60, w ∈ zTs := zin_l [249, 251, 253, 255, 257, 259, 261, 263] (by decide +kernel) (by decide +kernel)
theorem inX7z : ∀ w ∈ wsX70, w ∈ zTs := zin_l [634, 636, 638, 640, 642, 644, 646, 648, 650, 652, 654, 656, 658, 660, 662, 664, 666, 668, 670, 672, 674, 676, 678, 680, 682, 684, 686, 688] (by decide +kernel) (by decide +kernel)
theorem it_L : Cond.initialized RL ∈ zTs := zin 35 (by decide +kernel) (by decide +kernel)
theorem it_X6 : Cond.initialized RX6 ∈ zTs := zin 36 (by decide +kernel) (by decide +kernel)
theorem it_X3 : Cond.initialized RX3 ∈ zTs := zin 37 (by decide +kernel) (by decide +kernel)
theorem it_X0 : Cond.initialized RX0 ∈ zTs := zin 38 (by decide +kernel) (by decide +kernel)
theorem it_X1 : Cond.initialized RX1 ∈ zTs := zin 39 (by decide +kernel) (by decide +kernel)
theorem it_X2 : Cond.initialized RX2 ∈ zTs := zin 40 (by decide +kernel) (by decide +kernel)
theorem it_X4 : Cond.initialized RX4 ∈ zTs := zin 41 (by decide +kernel) (by decide +kernel)
theorem it_X5 : Cond.initialized RX5 ∈ zTs := zin 42 (by decide +kernel) (by decide +kernel)
theorem it_X7 : Cond.initialized RX7 ∈ zTs := zin 43 (by decide +kernel) (by decide +kernel)
theorem it_J0 : Cond.initialized RJ0 ∈ zTs := zin 44 (by decide +kernel) (by decide +kernel)
theorem it_J1 : Cond.initialized RJ1 ∈ zTs := zin 45 (by decide +kernel) (by decide +kernel)
theorem it_J3 : Cond.initialized RJ3 ∈ zTs := zin 46 (by decide +kernel) (by decide +kernel)
theorem it_J2 : Cond.initialized RJ2 ∈ zTs := zin 47 (by decide +kernel) (by decide +kernel)
theorem it_J10 : Cond.initialized RJ10 ∈ zTs := zin 48 (by decide +kernel) (by decide +kernel)
theorem it_J9 : Cond.initialized RJ9 ∈ zTs := zin 49 (by decide +kernel) (by decide +kernel)
theorem cl_L_7 : Cond.classLink RL 7 RX6 ∈ zTs := zin 50 (by decide +kernel) (by decide +kernel)
theorem ia_X6 : Cond.instantiable RX6 8 ∈ zTs := zin 51 (by decide +kernel) (by decide +kernel)
theorem ml_L_9 : Cond.methodLink RL 9 yX6_init ∈ zTs := zin 52 (by decide +kernel) (by decide +kernel)
theorem im_X6_init : Cond.instanceMethod yX6_init ∈ zTs := zin 53 (by decide +kernel) (by decide +kernel)
theorem co_X6_init : Cond.code yX6_init cX6_init 1 none ∈ zTs := zin 54 (by decide +kernel) (by decide +kernel)
theorem ml_X6_1 : Cond.methodLink RX6 1 (⟨"java/lang/Object", "<init>", "()V"⟩ : MethodName) ∈ zTs := zin 55 (by decide +kernel) (by decide +kernel)
theorem im_java_lang_Object__init_ : Cond.instanceMethod (⟨"java/lang/Object", "<init>", "()V"⟩ : MethodName) ∈ zTs := zin 56 (by decide +kernel) (by decide +kernel)
theorem co_objInit : Cond.code Lib.objectInit ⟨#[0xb1]⟩ 1 none ∈ zTs := zin 57 (by decide +kernel) (by decide +kernel)
theorem cl_X6_7 : Cond.classLink RX6 7 RX3 ∈ zTs := zin 58 (by decide +kernel) (by decide +kernel)
theorem ia_X3 : Cond.instantiable RX3 5 ∈ zTs := zin 59 (by decide +kernel) (by decide +kernel)
theorem ml_X6_9 : Cond.methodLink RX6 9 yX3_init ∈ zTs := zin 60 (by decide +kernel) (by decide +kernel)
theorem im_X3_init : Cond.instanceMethod yX3_init ∈ zTs := zin 61 (by decide +kernel) (by decide +kernel)
theorem co_X3_init : Cond.code yX3_init cX3_init 1 none ∈ zTs := zin 62 (by decide +kernel) (by decide +kernel)
theorem ml_X3_3 : Cond.methodLink RX3 3 (⟨"java/lang/Object", "<init>", "()V"⟩ : MethodName) ∈ zTs := zin 63 (by decide +kernel) (by decide +kernel)
theorem fl_X3_9 : Cond.fieldLink RX3 9 "CutLetters$Pad" "signs" "[I" ∈ zTs := zin 64 (by decide +kernel) (by decide +kernel)
theorem fl_X0_43 : Cond.fieldLink RX0 43 "CutLetters$Pad" "signs" "[I" ∈ zTs := zin 65 (by decide +kernel) (by decide +kernel)
theorem fl_X1_39 : Cond.fieldLink RX1 39 "CutLetters$Pad" "signs" "[I" ∈ zTs := zin 66 (by decide +kernel) (by decide +kernel)
theorem fl_X3_15 : Cond.fieldLink RX3 15 "CutLetters$Pad" "count" "I" ∈ zTs := zin 67 (by decide +kernel) (by decide +kernel)
theorem fl_X0_28 : Cond.fieldLink RX0 28 "CutLetters$Pad" "count" "I" ∈ zTs := zin 68 (by decide +kernel) (by decide +kernel)
theorem fl_X6_52 : Cond.fieldLink RX6 52 "CutLetters$Pad" "count" "I" ∈ zTs := zin 69 (by decide +kernel) (by decide +kernel)
theorem fl_X1_32 : Cond.fieldLink RX1 32 "CutLetters$Pad" "letters" "I" ∈ zTs := zin 70 (by decide +kernel) (by decide +kernel)
theorem fl_X3_23 : Cond.fieldLink RX3 23 "CutLetters$Pad" "letters" "I" ∈ zTs := zin 71 (by decide +kernel) (by decide +kernel)
theorem fl_X1_36 : Cond.fieldLink RX1 36 "CutLetters$Pad" "kind" "I" ∈ zTs := zin 72 (by decide +kernel) (by decide +kernel)
theorem fl_X3_32 : Cond.fieldLink RX3 32 "CutLetters$Pad" "kind" "I" ∈ zTs := zin 73 (by decide +kernel) (by decide +kernel)
theorem fl_X1_48 : Cond.fieldLink RX1 48 "CutLetters$Pad" "cost" "I" ∈ zTs := zin 74 (by decide +kernel) (by decide +kernel)
theorem fl_X3_46 : Cond.fieldLink RX3 46 "CutLetters$Pad" "cost" "I" ∈ zTs := zin 75 (by decide +kernel) (by decide +kernel)
theorem ac_Jvm_ClassFile_FieldType_int : Cond.arrayClass Jvm.ClassFile.FieldType.int ∈ zTs := zin 87 (by decide +kernel) (by decide +kernel)
theorem cl_X6_16 : Cond.classLink RX6 16 RX0 ∈ zTs := zin 88 (by decide +kernel) (by decide +kernel)
theorem ia_X0 : Cond.instantiable RX0 5 ∈ zTs := zin 89 (by decide +kernel) (by decide +kernel)
theorem ml_X6_18 : Cond.methodLink RX6 18 yX0_init ∈ zTs := zin 90 (by decide +kernel) (by decide +kernel)
theorem im_X0_init : Cond.instanceMethod yX0_init ∈ zTs := zin 91 (by decide +kernel) (by decide +kernel)
theorem co_X0_init : Cond.code yX0_init cX0_init 1 none ∈ zTs := zin 92 (by decide +kernel) (by decide +kernel)
theorem ml_X0_3 : Cond.methodLink RX0 3 (⟨"java/lang/Object", "<init>", "()V"⟩ : MethodName) ∈ zTs := zin 93 (by decide +kernel) (by decide +kernel)
theorem cl_X0_9 : Cond.classLink RX0 9 RX1 ∈ zTs := zin 94 (by decide +kernel) (by decide +kernel)
theorem ia_X1 : Cond.instantiable RX1 5 ∈ zTs := zin 95 (by decide +kernel) (by decide +kernel)
theorem ml_X0_11 : Cond.methodLink RX0 11 yX1_init ∈ zTs := zin 96 (by decide +kernel) (by decide +kernel)
theorem im_X1_init : Cond.instanceMethod yX1_init ∈ zTs := zin 97 (by decide +kernel) (by decide +kernel)
theorem co_X1_init : Cond.code yX1_init cX1_init 1 none ∈ zTs := zin 98 (by decide +kernel) (by decide +kernel)
theorem ml_X1_3 : Cond.methodLink RX1 3 (⟨"java/lang/Object", "<init>", "()V"⟩ : MethodName) ∈ zTs := zin 99 (by decide +kernel) (by decide +kernel)
theorem fl_X1_9 : Cond.fieldLink RX1 9 "CutLetters$Dictionary" "letters" "[I" ∈ zTs := zin 100 (by decide +kernel) (by decide +kernel)
theorem fl_X1_15 : Cond.fieldLink RX1 15 "CutLetters$Dictionary" "lengths" "[I" ∈ zTs := zin 101 (by decide +kernel) (by decide +kernel)
theorem fl_X2_87 : Cond.fieldLink RX2 87 "CutLetters$Dictionary" "lengths" "[I" ∈ zTs := zin 102 (by decide +kernel) (by decide +kernel)
theorem fl_X1_18 : Cond.fieldLink RX1 18 "CutLetters$Dictionary" "kinds" "[I" ∈ zTs := zin 103 (by decide +kernel) (by decide +kernel)
theorem fl_X2_88 : Cond.fieldLink RX2 88 "CutLetters$Dictionary" "kinds" "[I" ∈ zTs := zin 104 (by decide +kernel) (by decide +kernel)
theorem fl_X1_21 : Cond.fieldLink RX1 21 "CutLetters$Dictionary" "costs" "[I" ∈ zTs := zin 105 (by decide +kernel) (by decide +kernel)
theorem fl_X2_97 : Cond.fieldLink RX2 97 "CutLetters$Dictionary" "costs" "[I" ∈ zTs := zin 106 (by decide +kernel) (by decide +kernel)
theorem fl_X1_24 : Cond.fieldLink RX1 24 "CutLetters$Dictionary" "count" "I" ∈ zTs := zin 107 (by decide +kernel) (by decide +kernel)
theorem fl_X2_77 : Cond.fieldLink RX2 77 "CutLetters$Dictionary" "count" "I" ∈ zTs := zin 108 (by decide +kernel) (by decide +kernel)
theorem fl_X6_86 : Cond.fieldLink RX6 86 "CutLetters$Dictionary" "count" "I" ∈ zTs := zin 109 (by decide +kernel) (by decide +kernel)
theorem fl_X0_12 : Cond.fieldLink RX0 12 "CutLetters$Book" "dictionary" "LCutLetters$Dictionary;" ∈ zTs := zin 121 (by decide +kernel) (by decide +kernel)
theorem fl_X2_73 : Cond.fieldLink RX2 73 "CutLetters$Book" "dictionary" "LCutLetters$Dictionary;" ∈ zTs := zin 122 (by decide +kernel) (by decide +kernel)
theorem fl_X6_66 : Cond.fieldLink RX6 66 "CutLetters$Book" "dictionary" "LCutLetters$Dictionary;" ∈ zTs := zin 123 (by decide +kernel) (by decide +kernel)
theorem fl_X0_18 : Cond.fieldLink RX0 18 "CutLetters$Book" "joins" "[I" ∈ zTs := zin 124 (by decide +kernel) (by decide +kernel)
theorem fl_X2_46 : Cond.fieldLink RX2 46 "CutLetters$Book" "joins" "[I" ∈ zTs := zin 125 (by decide +kernel) (by decide +kernel)
theorem fl_X6_102 : Cond.fieldLink RX6 102 "CutLetters$Book" "joins" "[I" ∈ zTs := zin 126 (by decide +kernel) (by decide +kernel)
theorem fl_X0_22 : Cond.fieldLink RX0 22 "CutLetters$Book" "rules" "[I" ∈ zTs := zin 127 (by decide +kernel) (by decide +kernel)
theorem fl_X2_67 : Cond.fieldLink RX2 67 "CutLetters$Book" "rules" "[I" ∈ zTs := zin 128 (by decide +kernel) (by decide +kernel)
theorem fl_X6_109 : Cond.fieldLink RX6 109 "CutLetters$Book" "rules" "[I" ∈ zTs := zin 129 (by decide +kernel) (by decide +kernel)
theorem fl_X0_25 : Cond.fieldLink RX0 25 "CutLetters$Book" "line" "[I" ∈ zTs := zin 130 (by decide +kernel) (by decide +kernel)
theorem fl_X5_44 : Cond.fieldLink RX5 44 "CutLetters$Book" "line" "[I" ∈ zTs := zin 131 (by decide +kernel) (by decide +kernel)
theorem fl_X2_80 : Cond.fieldLink RX2 80 "CutLetters$Book" "line" "[I" ∈ zTs := zin 132 (by decide +kernel) (by decide +kernel)
theorem fl_X6_173 : Cond.fieldLink RX6 173 "CutLetters$Book" "line" "[I" ∈ zTs := zin 133 (by decide +kernel) (by decide +kernel)
theorem fl_X2_39 : Cond.fieldLink RX2 39 "CutLetters$Book" "lineLength" "I" ∈ zTs := zin 134 (by decide +kernel) (by decide +kernel)
theorem fl_X0_40 : Cond.fieldLink RX0 40 "CutLetters$Book" "lineLength" "I" ∈ zTs := zin 135 (by decide +kernel) (by decide +kernel)
theorem fl_X6_95 : Cond.fieldLink RX6 95 "CutLetters$Book" "lineLength" "I" ∈ zTs := zin 136 (by decide +kernel) (by decide +kernel)
theorem cl_X6_27 : Cond.classLink RX6 27 RX2 ∈ zTs := zin 149 (by decide +kernel) (by decide +kernel)
theorem ia_X2 : Cond.instantiable RX2 11 ∈ zTs := zin 150 (by decide +kernel) (by decide +kernel)
theorem ml_X6_29 : Cond.methodLink RX6 29 yX2_init ∈ zTs := zin 151 (by decide +kernel) (by decide +kernel)
theorem im_X2_init : Cond.instanceMethod yX2_init ∈ zTs := zin 152 (by decide +kernel) (by decide +kernel)
theorem co_X2_init : Cond.code yX2_init cX2_init 1 none ∈ zTs := zin 153 (by decide +kernel) (by decide +kernel)
theorem ml_X2_3 : Cond.methodLink RX2 3 (⟨"java/lang/Object", "<init>", "()V"⟩ : MethodName) ∈ zTs := zin 154 (by decide +kernel) (by decide +kernel)
theorem fl_X2_45 : Cond.fieldLink RX2 45 "CutLetters$Net" "lineLength" "I" ∈ zTs := zin 155 (by decide +kernel) (by decide +kernel)
theorem fl_X4_31 : Cond.fieldLink RX4 31 "CutLetters$Net" "lineLength" "I" ∈ zTs := zin 156 (by decide +kernel) (by decide +kernel)
theorem fl_X2_53 : Cond.fieldLink RX2 53 "CutLetters$Net" "count" "I" ∈ zTs := zin 157 (by decide +kernel) (by decide +kernel)
theorem fl_X4_77 : Cond.fieldLink RX4 77 "CutLetters$Net" "count" "I" ∈ zTs := zin 158 (by decide +kernel) (by decide +kernel)
theorem fl_X6_119 : Cond.fieldLink RX6 119 "CutLetters$Net" "count" "I" ∈ zTs := zin 159 (by decide +kernel) (by decide +kernel)
theorem fl_X2_9 : Cond.fieldLink RX2 9 "CutLetters$Net" "places" "[I" ∈ zTs := zin 160 (by decide +kernel) (by decide +kernel)
theorem fl_X5_36 : Cond.fieldLink RX5 36 "CutLetters$Net" "places" "[I" ∈ zTs := zin 161 (by decide +kernel) (by decide +kernel)
theorem fl_X4_68 : Cond.fieldLink RX4 68 "CutLetters$Net" "places" "[I" ∈ zTs := zin 162 (by decide +kernel) (by decide +kernel)
theorem fl_X6_120 : Cond.fieldLink RX6 120 "CutLetters$Net" "places" "[I" ∈ zTs := zin 163 (by decide +kernel) (by decide +kernel)
theorem fl_X2_15 : Cond.fieldLink RX2 15 "CutLetters$Net" "lengths" "[I" ∈ zTs := zin 164 (by decide +kernel) (by decide +kernel)
theorem fl_X5_41 : Cond.fieldLink RX5 41 "CutLetters$Net" "lengths" "[I" ∈ zTs := zin 165 (by decide +kernel) (by decide +kernel)
theorem fl_X4_71 : Cond.fieldLink RX4 71 "CutLetters$Net" "lengths" "[I" ∈ zTs := zin 166 (by decide +kernel) (by decide +kernel)
theorem fl_X6_123 : Cond.fieldLink RX6 123 "CutLetters$Net" "lengths" "[I" ∈ zTs := zin 167 (by decide +kernel) (by decide +kernel)
theorem fl_X2_18 : Cond.fieldLink RX2 18 "CutLetters$Net" "kinds" "[I" ∈ zTs := zin 168 (by decide +kernel) (by decide +kernel)
theorem fl_X5_49 : Cond.fieldLink RX5 49 "CutLetters$Net" "kinds" "[I" ∈ zTs := zin 169 (by decide +kernel) (by decide +kernel)
theorem fl_X4_74 : Cond.fieldLink RX4 74 "CutLetters$Net" "kinds" "[I" ∈ zTs := zin 170 (by decide +kernel) (by decide +kernel)
theorem fl_X6_126 : Cond.fieldLink RX6 126 "CutLetters$Net" "kinds" "[I" ∈ zTs := zin 171 (by decide +kernel) (by decide +kernel)
theorem fl_X2_21 : Cond.fieldLink RX2 21 "CutLetters$Net" "costs" "[I" ∈ zTs := zin 172 (by decide +kernel) (by decide +kernel)
theorem fl_X4_53 : Cond.fieldLink RX4 53 "CutLetters$Net" "costs" "[I" ∈ zTs := zin 173 (by decide +kernel) (by decide +kernel)
theorem fl_X6_129 : Cond.fieldLink RX6 129 "CutLetters$Net" "costs" "[I" ∈ zTs := zin 174 (by decide +kernel) (by decide +kernel)
theorem fl_X2_24 : Cond.fieldLink RX2 24 "CutLetters$Net" "words" "[I" ∈ zTs := zin 175 (by decide +kernel) (by decide +kernel)
theorem fl_X6_132 : Cond.fieldLink RX6 132 "CutLetters$Net" "words" "[I" ∈ zTs := zin 176 (by decide +kernel) (by decide +kernel)
theorem fl_X2_27 : Cond.fieldLink RX2 27 "CutLetters$Net" "firsts" "[I" ∈ zTs := zin 177 (by decide +kernel) (by decide +kernel)
theorem fl_X4_46 : Cond.fieldLink RX4 46 "CutLetters$Net" "firsts" "[I" ∈ zTs := zin 178 (by decide +kernel) (by decide +kernel)
theorem fl_X2_30 : Cond.fieldLink RX2 30 "CutLetters$Net" "joins" "[I" ∈ zTs := zin 179 (by decide +kernel) (by decide +kernel)
theorem fl_X2_33 : Cond.fieldLink RX2 33 "CutLetters$Net" "slots" "[I" ∈ zTs := zin 180 (by decide +kernel) (by decide +kernel)
theorem fl_X2_36 : Cond.fieldLink RX2 36 "CutLetters$Net" "routes" "[I" ∈ zTs := zin 181 (by decide +kernel) (by decide +kernel)
theorem cl_X6_34 : Cond.classLink RX6 34 RX4 ∈ zTs := zin 205 (by decide +kernel) (by decide +kernel)
theorem ia_X4 : Cond.instantiable RX4 4 ∈ zTs := zin 206 (by decide +kernel) (by decide +kernel)
theorem ml_X6_36 : Cond.methodLink RX6 36 yX4_init ∈ zTs := zin 207 (by decide +kernel) (by decide +kernel)
theorem im_X4_init : Cond.instanceMethod yX4_init ∈ zTs := zin 208 (by decide +kernel) (by decide +kernel)
theorem co_X4_init : Cond.code yX4_init cX4_init 1 none ∈ zTs := zin 209 (by decide +kernel) (by decide +kernel)
theorem ml_X4_5 : Cond.methodLink RX4 5 (⟨"java/lang/Object", "<init>", "()V"⟩ : MethodName) ∈ zTs := zin 210 (by decide +kernel) (by decide +kernel)
theorem fl_X4_11 : Cond.fieldLink RX4 11 "CutLetters$Ranking" "before" "[I" ∈ zTs := zin 211 (by decide +kernel) (by decide +kernel)
theorem fl_X4_15 : Cond.fieldLink RX4 15 "CutLetters$Ranking" "counts" "[I" ∈ zTs := zin 212 (by decide +kernel) (by decide +kernel)
theorem fl_X4_18 : Cond.fieldLink RX4 18 "CutLetters$Ranking" "kept" "[I" ∈ zTs := zin 213 (by decide +kernel) (by decide +kernel)
theorem fl_X4_21 : Cond.fieldLink RX4 21 "CutLetters$Ranking" "followed" "[I" ∈ zTs := zin 214 (by decide +kernel) (by decide +kernel)
theorem fl_X5_29 : Cond.fieldLink RX5 29 "CutLetters$Ranking" "followed" "[I" ∈ zTs := zin 215 (by decide +kernel) (by decide +kernel)
theorem fl_X6_155 : Cond.fieldLink RX6 155 "CutLetters$Ranking" "followed" "[I" ∈ zTs := zin 216 (by decide +kernel) (by decide +kernel)
theorem cl_X6_41 : Cond.classLink RX6 41 RX5 ∈ zTs := zin 226 (by decide +kernel) (by decide +kernel)
theorem ia_X5 : Cond.instantiable RX5 2 ∈ zTs := zin 227 (by decide +kernel) (by decide +kernel)
theorem ml_X6_43 : Cond.methodLink RX6 43 yX5_init ∈ zTs := zin 228 (by decide +kernel) (by decide +kernel)
theorem im_X5_init : Cond.instanceMethod yX5_init ∈ zTs := zin 229 (by decide +kernel) (by decide +kernel)
theorem co_X5_init : Cond.code yX5_init cX5_init 1 none ∈ zTs := zin 230 (by decide +kernel) (by decide +kernel)
theorem ml_X5_3 : Cond.methodLink RX5 3 (⟨"java/lang/Object", "<init>", "()V"⟩ : MethodName) ∈ zTs := zin 231 (by decide +kernel) (by decide +kernel)
theorem fl_X5_9 : Cond.fieldLink RX5 9 "CutLetters$Writing" "signs" "[I" ∈ zTs := zin 232 (by decide +kernel) (by decide +kernel)
theorem fl_X6_166 : Cond.fieldLink RX6 166 "CutLetters$Writing" "signs" "[I" ∈ zTs := zin 233 (by decide +kernel) (by decide +kernel)
theorem fl_X5_15 : Cond.fieldLink RX5 15 "CutLetters$Writing" "count" "I" ∈ zTs := zin 234 (by decide +kernel) (by decide +kernel)
theorem fl_X6_165 : Cond.fieldLink RX6 165 "CutLetters$Writing" "count" "I" ∈ zTs := zin 235 (by decide +kernel) (by decide +kernel)
theorem fl_X6_10 : Cond.fieldLink RX6 10 "CutLetters" "pad" "LCutLetters$Pad;" ∈ zTs := zin 241 (by decide +kernel) (by decide +kernel)
theorem fl_X6_19 : Cond.fieldLink RX6 19 "CutLetters" "book" "LCutLetters$Book;" ∈ zTs := zin 242 (by decide +kernel) (by decide +kernel)
theorem fl_X6_23 : Cond.fieldLink RX6 23 "CutLetters" "images" "[LCutLetters$Book;" ∈ zTs := zin 243 (by decide +kernel) (by decide +kernel)
theorem fl_X6_30 : Cond.fieldLink RX6 30 "CutLetters" "net" "LCutLetters$Net;" ∈ zTs := zin 244 (by decide +kernel) (by decide +kernel)
theorem fl_X6_37 : Cond.fieldLink RX6 37 "CutLetters" "ranking" "LCutLetters$Ranking;" ∈ zTs := zin 245 (by decide +kernel) (by decide +kernel)
theorem fl_X6_44 : Cond.fieldLink RX6 44 "CutLetters" "writing" "LCutLetters$Writing;" ∈ zTs := zin 246 (by decide +kernel) (by decide +kernel)
theorem fl_X6_176 : Cond.fieldLink RX6 176 "CutLetters" "netStands" "Z" ∈ zTs := zin 247 (by decide +kernel) (by decide +kernel)
theorem fl_X6_180 : Cond.fieldLink RX6 180 "CutLetters" "rankingStands" "Z" ∈ zTs := zin 248 (by decide +kernel) (by decide +kernel)
theorem ml_L_13 : Cond.methodLink RL 13 yX6_say ∈ zTs := zin 266 (by decide +kernel) (by decide +kernel)
theorem im_X6_say : Cond.instanceMethod yX6_say ∈ zTs := zin 267 (by decide +kernel) (by decide +kernel)
theorem se_X6_say : Cond.selects RX6 yX6_say yX6_say ∈ zTs := zin 268 (by decide +kernel) (by decide +kernel)
theorem co_X6_say : Cond.code yX6_say cX6_say 2 (some .int) ∈ zTs := zin 269 (by decide +kernel) (by decide +kernel)
theorem ml_X6_48 : Cond.methodLink RX6 48 yX3_add ∈ zTs := zin 270 (by decide +kernel) (by decide +kernel)
theorem im_X3_add : Cond.instanceMethod yX3_add ∈ zTs := zin 271 (by decide +kernel) (by decide +kernel)
theorem se_X3_add : Cond.selects RX3 yX3_add yX3_add ∈ zTs := zin 272 (by decide +kernel) (by decide +kernel)
theorem co_X3_add : Cond.code yX3_add cX3_add 2 (some .boolean) ∈ zTs := zin 273 (by decide +kernel) (by decide +kernel)
theorem ml_L_18 : Cond.methodLink RL 18 yX6_wipe ∈ zTs := zin 274 (by decide +kernel) (by decide +kernel)
theorem im_X6_wipe : Cond.instanceMethod yX6_wipe ∈ zTs := zin 275 (by decide +kernel) (by decide +kernel)
theorem se_X6_wipe : Cond.selects RX6 yX6_wipe yX6_wipe ∈ zTs := zin 276 (by decide +kernel) (by decide +kernel)
theorem co_X6_wipe : Cond.code yX6_wipe cX6_wipe 2 (some .int) ∈ zTs := zin 277 (by decide +kernel) (by decide +kernel)
theorem ml_X6_56 : Cond.methodLink RX6 56 yX3_clear ∈ zTs := zin 278 (by decide +kernel) (by decide +kernel)
theorem im_X3_clear : Cond.instanceMethod yX3_clear ∈ zTs := zin 279 (by decide +kernel) (by decide +kernel)
theorem se_X3_clear : Cond.selects RX3 yX3_clear yX3_clear ∈ zTs := zin 280 (by decide +kernel) (by decide +kernel)
theorem co_X3_clear : Cond.code yX3_clear cX3_clear 1 none ∈ zTs := zin 281 (by decide +kernel) (by decide +kernel)
theorem ml_L_23 : Cond.methodLink RL 23 yX6_fault ∈ zTs := zin 282 (by decide +kernel) (by decide +kernel)
theorem im_X6_fault : Cond.instanceMethod yX6_fault ∈ zTs := zin 283 (by decide +kernel) (by decide +kernel)
theorem se_X6_fault : Cond.selects RX6 yX6_fault yX6_fault ∈ zTs := zin 284 (by decide +kernel) (by decide +kernel)
theorem co_X6_fault : Cond.code yX6_fault cX6_fault 2 (some .int) ∈ zTs := zin 285 (by decide +kernel) (by decide +kernel)
theorem ml_X6_59 : Cond.methodLink RX6 59 yX3_readWord ∈ zTs := zin 286 (by decide +kernel) (by decide +kernel)
theorem im_X3_readWord : Cond.instanceMethod yX3_readWord ∈ zTs := zin 287 (by decide +kernel) (by decide +kernel)
theorem se_X3_readWord : Cond.selects RX3 yX3_readWord yX3_readWord ∈ zTs := zin 288 (by decide +kernel) (by decide +kernel)
theorem co_X3_readWord : Cond.code yX3_readWord cX3_readWord 2 (some .int) ∈ zTs := zin 289 (by decide +kernel) (by decide +kernel)
theorem ml_X3_19 : Cond.methodLink RX3 19 yX3_leadingLetters ∈ zTs := zin 290 (by decide +kernel) (by decide +kernel)
theorem im_X3_leadingLetters : Cond.instanceMethod yX3_leadingLetters ∈ zTs := zin 292 (by decide +kernel) (by decide +kernel)
theorem co_X3_leadingLetters : Cond.code yX3_leadingLetters cX3_leadingLetters 3 (some .int) ∈ zTs := zin 293 (by decide +kernel) (by decide +kernel)
theorem ml_X3_26 : Cond.methodLink RX3 26 yX3_signAt ∈ zTs := zin 294 (by decide +kernel) (by decide +kernel)
theorem im_X3_signAt : Cond.instanceMethod yX3_signAt ∈ zTs := zin 296 (by decide +kernel) (by decide +kernel)
theorem co_X3_signAt : Cond.code yX3_signAt cX3_signAt 2 (some .int) ∈ zTs := zin 297 (by decide +kernel) (by decide +kernel)
theorem ml_X3_49 : Cond.methodLink RX3 49 yX3_isLetter ∈ zTs := zin 298 (by decide +kernel) (by decide +kernel)
theorem sm_X3_isLetter : Cond.static yX3_isLetter ∈ zTs := zin 299 (by decide +kernel) (by decide +kernel)
theorem co_X3_isLetter : Cond.code yX3_isLetter cX3_isLetter 1 (some .boolean) ∈ zTs := zin 300 (by decide +kernel) (by decide +kernel)
theorem ml_X3_29 : Cond.methodLink RX3 29 yX3_kindNamedAt ∈ zTs := zin 301 (by decide +kernel) (by decide +kernel)
theorem im_X3_kindNamedAt : Cond.instanceMethod yX3_kindNamedAt ∈ zTs := zin 303 (by decide +kernel) (by decide +kernel)
theorem co_X3_kindNamedAt : Cond.code yX3_kindNamedAt cX3_kindNamedAt 3 (some .int) ∈ zTs := zin 304 (by decide +kernel) (by decide +kernel)
theorem ml_X3_54 : Cond.methodLink RX3 54 yJ0_charAt_5068e ∈ zTs := zin 306 (by decide +kernel) (by decide +kernel)
theorem im_J0_charAt_5068e : Cond.instanceMethod yJ0_charAt_5068e ∈ zTs := zin 307 (by decide +kernel) (by decide +kernel)
theorem se_J0_charAt_5068e : Cond.selects RJ0 yJ0_charAt_5068e yJ0_charAt_5068e ∈ zTs := zin 308 (by decide +kernel) (by decide +kernel)
theorem co_J0_charAt_5068e : Cond.code yJ0_charAt_5068e cJ0_charAt_5068e 2 (some .char) ∈ zTs := zin 309 (by decide +kernel) (by decide +kernel)
theorem ml_J0_492 : Cond.methodLink RJ0 492 yJ0_isLatin1_aae02 ∈ zTs := zin 310 (by decide +kernel) (by decide +kernel)
theorem im_J0_isLatin1_aae02 : Cond.instanceMethod yJ0_isLatin1_aae02 ∈ zTs := zin 311 (by decide +kernel) (by decide +kernel)
theorem se_J0_isLatin1_aae02 : Cond.selects RJ0 yJ0_isLatin1_aae02 yJ0_isLatin1_aae02 ∈ zTs := zin 312 (by decide +kernel) (by decide +kernel)
theorem co_J0_isLatin1_aae02 : Cond.code yJ0_isLatin1_aae02 cJ0_isLatin1_aae02 1 (some .boolean) ∈ zTs := zin 313 (by decide +kernel) (by decide +kernel)
theorem fl_J0_38 : Cond.fieldLink RJ0 38 "java/lang/String" "COMPACT_STRINGS" "Z" ∈ zTs := zin 314 (by decide +kernel) (by decide +kernel)
theorem ml_J0_495 : Cond.methodLink RJ0 495 yJ1_charAt_3b067 ∈ zTs := zin 316 (by decide +kernel) (by decide +kernel)
theorem sm_J1_charAt_3b067 : Cond.static yJ1_charAt_3b067 ∈ zTs := zin 317 (by decide +kernel) (by decide +kernel)
theorem co_J1_charAt_3b067 : Cond.code yJ1_charAt_3b067 cJ1_charAt_3b067 2 (some .char) ∈ zTs := zin 318 (by decide +kernel) (by decide +kernel)
theorem ml_J1_9 : Cond.methodLink RJ1 9 yJ0_checkIndex_df160 ∈ zTs := zin 319 (by decide +kernel) (by decide +kernel)
theorem sm_J0_checkIndex_df160 : Cond.static yJ0_checkIndex_df160 ∈ zTs := zin 320 (by decide +kernel) (by decide +kernel)
theorem co_J0_checkIndex_df160 : Cond.code yJ0_checkIndex_df160 cJ0_checkIndex_df160 2 none ∈ zTs := zin 321 (by decide +kernel) (by decide +kernel)
theorem fl_J0_1053 : Cond.fieldLink RJ0 1053 "jdk/internal/util/Preconditions" "SIOOBE_FORMATTER" "Ljava/util/function/BiFunction;" ∈ zTs := zin 322 (by decide +kernel) (by decide +kernel)
theorem ml_J0_1059 : Cond.methodLink RJ0 1059 yJ3_checkIndex_8e157 ∈ zTs := zin 324 (by decide +kernel) (by decide +kernel)
theorem sm_J3_checkIndex_8e157 : Cond.static yJ3_checkIndex_8e157 ∈ zTs := zin 325 (by decide +kernel) (by decide +kernel)
theorem co_J3_checkIndex_8e157 : Cond.code yJ3_checkIndex_8e157 cJ3_checkIndex_8e157 3 (some .int) ∈ zTs := zin 326 (by decide +kernel) (by decide +kernel)
theorem ml_J0_498 : Cond.methodLink RJ0 498 yJ2_charAt_3b067 ∈ zTs := zin 327 (by decide +kernel) (by decide +kernel)
theorem sm_J2_charAt_3b067 : Cond.static yJ2_charAt_3b067 ∈ zTs := zin 328 (by decide +kernel) (by decide +kernel)
theorem co_J2_charAt_3b067 : Cond.code yJ2_charAt_3b067 cJ2_charAt_3b067 2 (some .char) ∈ zTs := zin 329 (by decide +kernel) (by decide +kernel)
theorem ml_J2_67 : Cond.methodLink RJ2 67 yJ2_checkIndex_2214a ∈ zTs := zin 330 (by decide +kernel) (by decide +kernel)
theorem sm_J2_checkIndex_2214a : Cond.static yJ2_checkIndex_2214a ∈ zTs := zin 331 (by decide +kernel) (by decide +kernel)
theorem co_J2_checkIndex_2214a : Cond.code yJ2_checkIndex_2214a cJ2_checkIndex_2214a 2 none ∈ zTs := zin 332 (by decide +kernel) (by decide +kernel)
theorem ml_J2_48 : Cond.methodLink RJ2 48 yJ2_length_9d52b ∈ zTs := zin 333 (by decide +kernel) (by decide +kernel)
theorem sm_J2_length_9d52b : Cond.static yJ2_length_9d52b ∈ zTs := zin 334 (by decide +kernel) (by decide +kernel)
theorem co_J2_length_9d52b : Cond.code yJ2_length_9d52b cJ2_length_9d52b 1 (some .int) ∈ zTs := zin 335 (by decide +kernel) (by decide +kernel)
theorem ml_J2_414 : Cond.methodLink RJ2 414 yJ0_checkIndex_df160 ∈ zTs := zin 336 (by decide +kernel) (by decide +kernel)
theorem ml_J2_71 : Cond.methodLink RJ2 71 yJ2_getChar_3b067 ∈ zTs := zin 337 (by decide +kernel) (by decide +kernel)
theorem sm_J2_getChar_3b067 : Cond.static yJ2_getChar_3b067 ∈ zTs := zin 338 (by decide +kernel) (by decide +kernel)
theorem co_J2_getChar_3b067 : Cond.code yJ2_getChar_3b067 cJ2_getChar_3b067 2 (some .char) ∈ zTs := zin 339 (by decide +kernel) (by decide +kernel)
theorem fl_J2_44 : Cond.fieldLink RJ2 44 "java/lang/StringUTF16" "$assertionsDisabled" "Z" ∈ zTs := zin 340 (by decide +kernel) (by decide +kernel)
theorem fl_J2_59 : Cond.fieldLink RJ2 59 "java/lang/StringUTF16" "HI_BYTE_SHIFT" "I" ∈ zTs := zin 342 (by decide +kernel) (by decide +kernel)
theorem fl_J2_63 : Cond.fieldLink RJ2 63 "java/lang/StringUTF16" "LO_BYTE_SHIFT" "I" ∈ zTs := zin 344 (by decide +kernel) (by decide +kernel)
theorem ml_X3_35 : Cond.methodLink RX3 35 yX3_nameStandsAt ∈ zTs := zin 346 (by decide +kernel) (by decide +kernel)
theorem im_X3_nameStandsAt : Cond.instanceMethod yX3_nameStandsAt ∈ zTs := zin 348 (by decide +kernel) (by decide +kernel)
theorem co_X3_nameStandsAt : Cond.code yX3_nameStandsAt cX3_nameStandsAt 4 (some .boolean) ∈ zTs := zin 349 (by decide +kernel) (by decide +kernel)
theorem ml_X3_39 : Cond.methodLink RX3 39 yX3_readCost ∈ zTs := zin 350 (by decide +kernel) (by decide +kernel)
theorem im_X3_readCost : Cond.instanceMethod yX3_readCost ∈ zTs := zin 352 (by decide +kernel) (by decide +kernel)
theorem co_X3_readCost : Cond.code yX3_readCost cX3_readCost 3 (some .int) ∈ zTs := zin 353 (by decide +kernel) (by decide +kernel)
theorem ml_X3_42 : Cond.methodLink RX3 42 yX3_isFigure ∈ zTs := zin 354 (by decide +kernel) (by decide +kernel)
theorem sm_X3_isFigure : Cond.static yX3_isFigure ∈ zTs := zin 355 (by decide +kernel) (by decide +kernel)
theorem co_X3_isFigure : Cond.code yX3_isFigure cX3_isFigure 1 (some .boolean) ∈ zTs := zin 356 (by decide +kernel) (by decide +kernel)
theorem ml_X6_63 : Cond.methodLink RX6 63 yX3_readLine ∈ zTs := zin 357 (by decide +kernel) (by decide +kernel)
theorem im_X3_readLine : Cond.instanceMethod yX3_readLine ∈ zTs := zin 358 (by decide +kernel) (by decide +kernel)
theorem se_X3_readLine : Cond.selects RX3 yX3_readLine yX3_readLine ∈ zTs := zin 359 (by decide +kernel) (by decide +kernel)
theorem co_X3_readLine : Cond.code yX3_readLine cX3_readLine 2 (some .int) ∈ zTs := zin 360 (by decide +kernel) (by decide +kernel)
theorem ac_Jvm_ClassFile_FieldType_byte : Cond.arrayClass Jvm.ClassFile.FieldType.byte ∈ zTs := zin 361 (by decide +kernel) (by decide +kernel)
theorem ml_L_27 : Cond.methodLink RL 27 yX6_learn ∈ zTs := zin 362 (by decide +kernel) (by decide +kernel)
theorem im_X6_learn : Cond.instanceMethod yX6_learn ∈ zTs := zin 363 (by decide +kernel) (by decide +kernel)
theorem se_X6_learn : Cond.selects RX6 yX6_learn yX6_learn ∈ zTs := zin 364 (by decide +kernel) (by decide +kernel)
theorem co_X6_learn : Cond.code yX6_learn cX6_learn 2 (some .int) ∈ zTs := zin 365 (by decide +kernel) (by decide +kernel)
theorem ml_X6_70 : Cond.methodLink RX6 70 yX1_put ∈ zTs := zin 366 (by decide +kernel) (by decide +kernel)
theorem im_X1_put : Cond.instanceMethod yX1_put ∈ zTs := zin 367 (by decide +kernel) (by decide +kernel)
theorem se_X1_put : Cond.selects RX1 yX1_put yX1_put ∈ zTs := zin 368 (by decide +kernel) (by decide +kernel)
theorem co_X1_put : Cond.code yX1_put cX1_put 3 (some .int) ∈ zTs := zin 369 (by decide +kernel) (by decide +kernel)
theorem ml_X1_28 : Cond.methodLink RX1 28 yX1_find ∈ zTs := zin 370 (by decide +kernel) (by decide +kernel)
theorem im_X1_find : Cond.instanceMethod yX1_find ∈ zTs := zin 372 (by decide +kernel) (by decide +kernel)
theorem co_X1_find : Cond.code yX1_find cX1_find 3 (some .int) ∈ zTs := zin 373 (by decide +kernel) (by decide +kernel)
theorem ml_X1_51 : Cond.methodLink RX1 51 yX1_standsAt ∈ zTs := zin 374 (by decide +kernel) (by decide +kernel)
theorem im_X1_standsAt : Cond.instanceMethod yX1_standsAt ∈ zTs := zin 375 (by decide +kernel) (by decide +kernel)
theorem se_X1_standsAt : Cond.selects RX1 yX1_standsAt yX1_standsAt ∈ zTs := zin 376 (by decide +kernel) (by decide +kernel)
theorem co_X1_standsAt : Cond.code yX1_standsAt cX1_standsAt 6 (some .boolean) ∈ zTs := zin 377 (by decide +kernel) (by decide +kernel)
theorem ml_X1_42 : Cond.methodLink RX1 42 (⟨"java/lang/System", "arraycopy", "(Ljava/lang/Object;ILjava/lang/Object;II)V"⟩ : MethodName) ∈ zTs := zin 378 (by decide +kernel) (by decide +kernel)
theorem sm_java_lang_System_arraycopy : Cond.static (⟨"java/lang/System", "arraycopy", "(Ljava/lang/Object;ILjava/lang/Object;II)V"⟩ : MethodName) ∈ zTs := zin 379 (by decide +kernel) (by decide +kernel)
theorem na_java_lang_System_arraycopy : Cond.native (⟨"java/lang/System", "arraycopy", "(Ljava/lang/Object;ILjava/lang/Object;II)V"⟩ : MethodName) ∈ zTs := zin 380 (by decide +kernel) (by decide +kernel)
theorem ml_X6_76 : Cond.methodLink RX6 76 yX6_somethingChanged ∈ zTs := zin 381 (by decide +kernel) (by decide +kernel)
theorem im_X6_somethingChanged : Cond.instanceMethod yX6_somethingChanged ∈ zTs := zin 383 (by decide +kernel) (by decide +kernel)
theorem co_X6_somethingChanged : Cond.code yX6_somethingChanged cX6_somethingChanged 1 none ∈ zTs := zin 384 (by decide +kernel) (by decide +kernel)
theorem ml_L_31 : Cond.methodLink RL 31 yX6_forget ∈ zTs := zin 385 (by decide +kernel) (by decide +kernel)
theorem im_X6_forget : Cond.instanceMethod yX6_forget ∈ zTs := zin 386 (by decide +kernel) (by decide +kernel)
theorem se_X6_forget : Cond.selects RX6 yX6_forget yX6_forget ∈ zTs := zin 387 (by decide +kernel) (by decide +kernel)
theorem co_X6_forget : Cond.code yX6_forget cX6_forget 2 (some .int) ∈ zTs := zin 388 (by decide +kernel) (by decide +kernel)
theorem ml_X6_79 : Cond.methodLink RX6 79 yX1_has ∈ zTs := zin 389 (by decide +kernel) (by decide +kernel)
theorem im_X1_has : Cond.instanceMethod yX1_has ∈ zTs := zin 390 (by decide +kernel) (by decide +kernel)
theorem se_X1_has : Cond.selects RX1 yX1_has yX1_has ∈ zTs := zin 391 (by decide +kernel) (by decide +kernel)
theorem co_X1_has : Cond.code yX1_has cX1_has 2 (some .boolean) ∈ zTs := zin 392 (by decide +kernel) (by decide +kernel)
theorem ml_X6_82 : Cond.methodLink RX6 82 yX1_remove ∈ zTs := zin 393 (by decide +kernel) (by decide +kernel)
theorem im_X1_remove : Cond.instanceMethod yX1_remove ∈ zTs := zin 394 (by decide +kernel) (by decide +kernel)
theorem se_X1_remove : Cond.selects RX1 yX1_remove yX1_remove ∈ zTs := zin 395 (by decide +kernel) (by decide +kernel)
theorem co_X1_remove : Cond.code yX1_remove cX1_remove 3 none ∈ zTs := zin 396 (by decide +kernel) (by decide +kernel)
theorem ml_L_35 : Cond.methodLink RL 35 yX6_word ∈ zTs := zin 397 (by decide +kernel) (by decide +kernel)
theorem im_X6_word : Cond.instanceMethod yX6_word ∈ zTs := zin 398 (by decide +kernel) (by decide +kernel)
theorem se_X6_word : Cond.selects RX6 yX6_word yX6_word ∈ zTs := zin 399 (by decide +kernel) (by decide +kernel)
theorem co_X6_word : Cond.code yX6_word cX6_word 3 (some .int) ∈ zTs := zin 400 (by decide +kernel) (by decide +kernel)
theorem ml_X6_87 : Cond.methodLink RX6 87 yX1_tell ∈ zTs := zin 401 (by decide +kernel) (by decide +kernel)
theorem im_X1_tell : Cond.instanceMethod yX1_tell ∈ zTs := zin 402 (by decide +kernel) (by decide +kernel)
theorem se_X1_tell : Cond.selects RX1 yX1_tell yX1_tell ∈ zTs := zin 403 (by decide +kernel) (by decide +kernel)
theorem co_X1_tell : Cond.code yX1_tell cX1_tell 4 (some .int) ∈ zTs := zin 404 (by decide +kernel) (by decide +kernel)
theorem ml_L_40 : Cond.methodLink RL 40 yX6_line ∈ zTs := zin 405 (by decide +kernel) (by decide +kernel)
theorem im_X6_line : Cond.instanceMethod yX6_line ∈ zTs := zin 406 (by decide +kernel) (by decide +kernel)
theorem se_X6_line : Cond.selects RX6 yX6_line yX6_line ∈ zTs := zin 407 (by decide +kernel) (by decide +kernel)
theorem co_X6_line : Cond.code yX6_line cX6_line 1 (some .int) ∈ zTs := zin 408 (by decide +kernel) (by decide +kernel)
theorem ml_X6_91 : Cond.methodLink RX6 91 yX0_takeLine ∈ zTs := zin 409 (by decide +kernel) (by decide +kernel)
theorem im_X0_takeLine : Cond.instanceMethod yX0_takeLine ∈ zTs := zin 410 (by decide +kernel) (by decide +kernel)
theorem se_X0_takeLine : Cond.selects RX0 yX0_takeLine yX0_takeLine ∈ zTs := zin 411 (by decide +kernel) (by decide +kernel)
theorem co_X0_takeLine : Cond.code yX0_takeLine cX0_takeLine 2 none ∈ zTs := zin 412 (by decide +kernel) (by decide +kernel)
theorem ml_X0_34 : Cond.methodLink RX0 34 yJ9_min_7cf53 ∈ zTs := zin 413 (by decide +kernel) (by decide +kernel)
theorem sm_J9_min_7cf53 : Cond.static yJ9_min_7cf53 ∈ zTs := zin 414 (by decide +kernel) (by decide +kernel)
theorem co_J9_min_7cf53 : Cond.code yJ9_min_7cf53 cJ9_min_7cf53 2 (some .int) ∈ zTs := zin 415 (by decide +kernel) (by decide +kernel)
theorem ml_X0_46 : Cond.methodLink RX0 46 (⟨"java/lang/System", "arraycopy", "(Ljava/lang/Object;ILjava/lang/Object;II)V"⟩ : MethodName) ∈ zTs := zin 416 (by decide +kernel) (by decide +kernel)
theorem ml_L_44 : Cond.methodLink RL 44 yX6_join ∈ zTs := zin 417 (by decide +kernel) (by decide +kernel)
theorem im_X6_join : Cond.instanceMethod yX6_join ∈ zTs := zin 418 (by decide +kernel) (by decide +kernel)
theorem se_X6_join : Cond.selects RX6 yX6_join yX6_join ∈ zTs := zin 419 (by decide +kernel) (by decide +kernel)
theorem co_X6_join : Cond.code yX6_join cX6_join 6 (some .int) ∈ zTs := zin 420 (by decide +kernel) (by decide +kernel)
theorem ml_X6_98 : Cond.methodLink RX6 98 yX6_isJoin ∈ zTs := zin 421 (by decide +kernel) (by decide +kernel)
theorem sm_X6_isJoin : Cond.static yX6_isJoin ∈ zTs := zin 422 (by decide +kernel) (by decide +kernel)
theorem co_X6_isJoin : Cond.code yX6_isJoin cX6_isJoin 2 (some .boolean) ∈ zTs := zin 423 (by decide +kernel) (by decide +kernel)
theorem ml_L_49 : Cond.methodLink RL 49 yX6_rule ∈ zTs := zin 424 (by decide +kernel) (by decide +kernel)
theorem im_X6_rule : Cond.instanceMethod yX6_rule ∈ zTs := zin 425 (by decide +kernel) (by decide +kernel)
theorem se_X6_rule : Cond.selects RX6 yX6_rule yX6_rule ∈ zTs := zin 426 (by decide +kernel) (by decide +kernel)
theorem co_X6_rule : Cond.code yX6_rule cX6_rule 4 (some .int) ∈ zTs := zin 427 (by decide +kernel) (by decide +kernel)
theorem fl_X6_106 : Cond.fieldLink RX6 106 "CutLetters" "RULE_LIMITS" "[I" ∈ zTs := zin 428 (by decide +kernel) (by decide +kernel)
theorem ml_L_53 : Cond.methodLink RL 53 yX6_pieces ∈ zTs := zin 430 (by decide +kernel) (by decide +kernel)
theorem im_X6_pieces : Cond.instanceMethod yX6_pieces ∈ zTs := zin 431 (by decide +kernel) (by decide +kernel)
theorem se_X6_pieces : Cond.selects RX6 yX6_pieces yX6_pieces ∈ zTs := zin 432 (by decide +kernel) (by decide +kernel)
theorem co_X6_pieces : Cond.code yX6_pieces cX6_pieces 1 (some .int) ∈ zTs := zin 433 (by decide +kernel) (by decide +kernel)
theorem ml_X6_112 : Cond.methodLink RX6 112 yX6_hasLine ∈ zTs := zin 434 (by decide +kernel) (by decide +kernel)
theorem im_X6_hasLine : Cond.instanceMethod yX6_hasLine ∈ zTs := zin 436 (by decide +kernel) (by decide +kernel)
theorem co_X6_hasLine : Cond.code yX6_hasLine cX6_hasLine 1 (some .boolean) ∈ zTs := zin 437 (by decide +kernel) (by decide +kernel)
theorem ml_X6_116 : Cond.methodLink RX6 116 yX6_makeNet ∈ zTs := zin 438 (by decide +kernel) (by decide +kernel)
theorem im_X6_makeNet : Cond.instanceMethod yX6_makeNet ∈ zTs := zin 440 (by decide +kernel) (by decide +kernel)
theorem co_X6_makeNet : Cond.code yX6_makeNet cX6_makeNet 1 none ∈ zTs := zin 441 (by decide +kernel) (by decide +kernel)
theorem ml_X6_183 : Cond.methodLink RX6 183 yX2_make ∈ zTs := zin 442 (by decide +kernel) (by decide +kernel)
theorem im_X2_make : Cond.instanceMethod yX2_make ∈ zTs := zin 443 (by decide +kernel) (by decide +kernel)
theorem se_X2_make : Cond.selects RX2 yX2_make yX2_make ∈ zTs := zin 444 (by decide +kernel) (by decide +kernel)
theorem co_X2_make : Cond.code yX2_make cX2_make 3 none ∈ zTs := zin 445 (by decide +kernel) (by decide +kernel)
theorem ml_X2_47 : Cond.methodLink RX2 47 (⟨"java/lang/System", "arraycopy", "(Ljava/lang/Object;ILjava/lang/Object;II)V"⟩ : MethodName) ∈ zTs := zin 446 (by decide +kernel) (by decide +kernel)
theorem ml_X2_56 : Cond.methodLink RX2 56 yX2_fillSlots ∈ zTs := zin 447 (by decide +kernel) (by decide +kernel)
theorem im_X2_fillSlots : Cond.instanceMethod yX2_fillSlots ∈ zTs := zin 449 (by decide +kernel) (by decide +kernel)
theorem co_X2_fillSlots : Cond.code yX2_fillSlots cX2_fillSlots 5 none ∈ zTs := zin 450 (by decide +kernel) (by decide +kernel)
theorem ml_X2_63 : Cond.methodLink RX2 63 yX2_fillWords ∈ zTs := zin 451 (by decide +kernel) (by decide +kernel)
theorem im_X2_fillWords : Cond.instanceMethod yX2_fillWords ∈ zTs := zin 453 (by decide +kernel) (by decide +kernel)
theorem co_X2_fillWords : Cond.code yX2_fillWords cX2_fillWords 6 (some .boolean) ∈ zTs := zin 454 (by decide +kernel) (by decide +kernel)
theorem ml_X2_83 : Cond.methodLink RX2 83 yX1_standsAt ∈ zTs := zin 455 (by decide +kernel) (by decide +kernel)
theorem ml_X2_70 : Cond.methodLink RX2 70 yX2_fillWild ∈ zTs := zin 456 (by decide +kernel) (by decide +kernel)
theorem im_X2_fillWild : Cond.instanceMethod yX2_fillWild ∈ zTs := zin 458 (by decide +kernel) (by decide +kernel)
theorem co_X2_fillWild : Cond.code yX2_fillWild cX2_fillWild 5 none ∈ zTs := zin 459 (by decide +kernel) (by decide +kernel)
theorem ml_X2_89 : Cond.methodLink RX2 89 yX0_runLength ∈ zTs := zin 460 (by decide +kernel) (by decide +kernel)
theorem im_X0_runLength : Cond.instanceMethod yX0_runLength ∈ zTs := zin 461 (by decide +kernel) (by decide +kernel)
theorem se_X0_runLength : Cond.selects RX0 yX0_runLength yX0_runLength ∈ zTs := zin 462 (by decide +kernel) (by decide +kernel)
theorem co_X0_runLength : Cond.code yX0_runLength cX0_runLength 4 (some .int) ∈ zTs := zin 463 (by decide +kernel) (by decide +kernel)
theorem ml_X0_52 : Cond.methodLink RX0 52 yX0_classOf ∈ zTs := zin 464 (by decide +kernel) (by decide +kernel)
theorem sm_X0_classOf : Cond.static yX0_classOf ∈ zTs := zin 465 (by decide +kernel) (by decide +kernel)
theorem co_X0_classOf : Cond.code yX0_classOf cX0_classOf 1 (some .int) ∈ zTs := zin 466 (by decide +kernel) (by decide +kernel)
theorem ml_X2_60 : Cond.methodLink RX2 60 yX2_addSlots ∈ zTs := zin 467 (by decide +kernel) (by decide +kernel)
theorem im_X2_addSlots : Cond.instanceMethod yX2_addSlots ∈ zTs := zin 469 (by decide +kernel) (by decide +kernel)
theorem co_X2_addSlots : Cond.code yX2_addSlots cX2_addSlots 4 none ∈ zTs := zin 470 (by decide +kernel) (by decide +kernel)
theorem ml_X2_93 : Cond.methodLink RX2 93 yX2_add ∈ zTs := zin 471 (by decide +kernel) (by decide +kernel)
theorem im_X2_add : Cond.instanceMethod yX2_add ∈ zTs := zin 473 (by decide +kernel) (by decide +kernel)
theorem co_X2_add : Cond.code yX2_add cX2_add 6 none ∈ zTs := zin 474 (by decide +kernel) (by decide +kernel)
theorem ml_L_57 : Cond.methodLink RL 57 yX6_piece ∈ zTs := zin 475 (by decide +kernel) (by decide +kernel)
theorem im_X6_piece : Cond.instanceMethod yX6_piece ∈ zTs := zin 476 (by decide +kernel) (by decide +kernel)
theorem se_X6_piece : Cond.selects RX6 yX6_piece yX6_piece ∈ zTs := zin 477 (by decide +kernel) (by decide +kernel)
theorem co_X6_piece : Cond.code yX6_piece cX6_piece 3 (some .int) ∈ zTs := zin 478 (by decide +kernel) (by decide +kernel)
theorem ml_X6_135 : Cond.methodLink RX6 135 yX6_makeRanking ∈ zTs := zin 479 (by decide +kernel) (by decide +kernel)
theorem im_X6_makeRanking : Cond.instanceMethod yX6_makeRanking ∈ zTs := zin 481 (by decide +kernel) (by decide +kernel)
theorem co_X6_makeRanking : Cond.code yX6_makeRanking cX6_makeRanking 1 none ∈ zTs := zin 482 (by decide +kernel) (by decide +kernel)
theorem ml_X6_186 : Cond.methodLink RX6 186 yX4_make ∈ zTs := zin 483 (by decide +kernel) (by decide +kernel)
theorem im_X4_make : Cond.instanceMethod yX4_make ∈ zTs := zin 484 (by decide +kernel) (by decide +kernel)
theorem se_X4_make : Cond.selects RX4 yX4_make yX4_make ∈ zTs := zin 485 (by decide +kernel) (by decide +kernel)
theorem co_X4_make : Cond.code yX4_make cX4_make 4 none ∈ zTs := zin 486 (by decide +kernel) (by decide +kernel)
theorem ml_X4_24 : Cond.methodLink RX4 24 yX4_reachSpots ∈ zTs := zin 487 (by decide +kernel) (by decide +kernel)
theorem im_X4_reachSpots : Cond.instanceMethod yX4_reachSpots ∈ zTs := zin 489 (by decide +kernel) (by decide +kernel)
theorem co_X4_reachSpots : Cond.code yX4_reachSpots cX4_reachSpots 4 none ∈ zTs := zin 490 (by decide +kernel) (by decide +kernel)
theorem cn_X4_45 : Cond.constant RX4 45 (1000000) ∈ zTs := zin 491 (by decide +kernel) (by decide +kernel)
theorem ml_X4_60 : Cond.methodLink RX4 60 yX4_spotBehind ∈ zTs := zin 492 (by decide +kernel) (by decide +kernel)
theorem sm_X4_spotBehind : Cond.static yX4_spotBehind ∈ zTs := zin 493 (by decide +kernel) (by decide +kernel)
theorem co_X4_spotBehind : Cond.code yX4_spotBehind cX4_spotBehind 2 (some .int) ∈ zTs := zin 494 (by decide +kernel) (by decide +kernel)
theorem ml_X4_80 : Cond.methodLink RX4 80 yX4_leastUpTo ∈ zTs := zin 495 (by decide +kernel) (by decide +kernel)
theorem im_X4_leastUpTo : Cond.instanceMethod yX4_leastUpTo ∈ zTs := zin 497 (by decide +kernel) (by decide +kernel)
theorem co_X4_leastUpTo : Cond.code yX4_leastUpTo cX4_leastUpTo 6 (some .int) ∈ zTs := zin 498 (by decide +kernel) (by decide +kernel)
theorem ml_X4_49 : Cond.methodLink RX4 49 yX2_joinBefore ∈ zTs := zin 499 (by decide +kernel) (by decide +kernel)
theorem im_X2_joinBefore : Cond.instanceMethod yX2_joinBefore ∈ zTs := zin 500 (by decide +kernel) (by decide +kernel)
theorem se_X2_joinBefore : Cond.selects RX2 yX2_joinBefore yX2_joinBefore ∈ zTs := zin 501 (by decide +kernel) (by decide +kernel)
theorem co_X2_joinBefore : Cond.code yX2_joinBefore cX2_joinBefore 3 (some .int) ∈ zTs := zin 502 (by decide +kernel) (by decide +kernel)
theorem ml_X4_83 : Cond.methodLink RX4 83 yJ9_min_7cf53 ∈ zTs := zin 503 (by decide +kernel) (by decide +kernel)
theorem ml_X4_28 : Cond.methodLink RX4 28 yX4_rankEnds ∈ zTs := zin 504 (by decide +kernel) (by decide +kernel)
theorem im_X4_rankEnds : Cond.instanceMethod yX4_rankEnds ∈ zTs := zin 506 (by decide +kernel) (by decide +kernel)
theorem co_X4_rankEnds : Cond.code yX4_rankEnds cX4_rankEnds 4 none ∈ zTs := zin 507 (by decide +kernel) (by decide +kernel)
theorem ml_X4_41 : Cond.methodLink RX4 41 yX2_joinAtEnd ∈ zTs := zin 508 (by decide +kernel) (by decide +kernel)
theorem im_X2_joinAtEnd : Cond.instanceMethod yX2_joinAtEnd ∈ zTs := zin 509 (by decide +kernel) (by decide +kernel)
theorem se_X2_joinAtEnd : Cond.selects RX2 yX2_joinAtEnd yX2_joinAtEnd ∈ zTs := zin 510 (by decide +kernel) (by decide +kernel)
theorem co_X2_joinAtEnd : Cond.code yX2_joinAtEnd cX2_joinAtEnd 2 (some .int) ∈ zTs := zin 511 (by decide +kernel) (by decide +kernel)
theorem ml_X4_37 : Cond.methodLink RX4 37 yX4_rankSpot ∈ zTs := zin 512 (by decide +kernel) (by decide +kernel)
theorem im_X4_rankSpot : Cond.instanceMethod yX4_rankSpot ∈ zTs := zin 514 (by decide +kernel) (by decide +kernel)
theorem co_X4_rankSpot : Cond.code yX4_rankSpot cX4_rankSpot 6 none ∈ zTs := zin 515 (by decide +kernel) (by decide +kernel)
theorem ml_X4_56 : Cond.methodLink RX4 56 yX4_offerWays ∈ zTs := zin 516 (by decide +kernel) (by decide +kernel)
theorem im_X4_offerWays : Cond.instanceMethod yX4_offerWays ∈ zTs := zin 518 (by decide +kernel) (by decide +kernel)
theorem co_X4_offerWays : Cond.code yX4_offerWays cX4_offerWays 10 none ∈ zTs := zin 519 (by decide +kernel) (by decide +kernel)
theorem ml_X4_64 : Cond.methodLink RX4 64 yX4_offer ∈ zTs := zin 520 (by decide +kernel) (by decide +kernel)
theorem im_X4_offer : Cond.instanceMethod yX4_offer ∈ zTs := zin 522 (by decide +kernel) (by decide +kernel)
theorem co_X4_offer : Cond.code yX4_offer cX4_offer 5 (some .boolean) ∈ zTs := zin 523 (by decide +kernel) (by decide +kernel)
theorem ml_X6_138 : Cond.methodLink RX6 138 yX4_leastWith ∈ zTs := zin 524 (by decide +kernel) (by decide +kernel)
theorem im_X4_leastWith : Cond.instanceMethod yX4_leastWith ∈ zTs := zin 525 (by decide +kernel) (by decide +kernel)
theorem se_X4_leastWith : Cond.selects RX4 yX4_leastWith yX4_leastWith ∈ zTs := zin 526 (by decide +kernel) (by decide +kernel)
theorem co_X4_leastWith : Cond.code yX4_leastWith cX4_leastWith 5 (some .int) ∈ zTs := zin 527 (by decide +kernel) (by decide +kernel)
theorem ml_L_61 : Cond.methodLink RL 61 yX6_ways ∈ zTs := zin 528 (by decide +kernel) (by decide +kernel)
theorem im_X6_ways : Cond.instanceMethod yX6_ways ∈ zTs := zin 529 (by decide +kernel) (by decide +kernel)
theorem se_X6_ways : Cond.selects RX6 yX6_ways yX6_ways ∈ zTs := zin 530 (by decide +kernel) (by decide +kernel)
theorem co_X6_ways : Cond.code yX6_ways cX6_ways 1 (some .int) ∈ zTs := zin 531 (by decide +kernel) (by decide +kernel)
theorem ml_X6_142 : Cond.methodLink RX6 142 yX2_countWays ∈ zTs := zin 532 (by decide +kernel) (by decide +kernel)
theorem im_X2_countWays : Cond.instanceMethod yX2_countWays ∈ zTs := zin 533 (by decide +kernel) (by decide +kernel)
theorem se_X2_countWays : Cond.selects RX2 yX2_countWays yX2_countWays ∈ zTs := zin 534 (by decide +kernel) (by decide +kernel)
theorem co_X2_countWays : Cond.code yX2_countWays cX2_countWays 3 (some .int) ∈ zTs := zin 535 (by decide +kernel) (by decide +kernel)
theorem cn_X2_98 : Cond.constant RX2 98 (1000003) ∈ zTs := zin 536 (by decide +kernel) (by decide +kernel)
theorem ml_L_65 : Cond.methodLink RL 65 yX6_cutting ∈ zTs := zin 537 (by decide +kernel) (by decide +kernel)
theorem im_X6_cutting : Cond.instanceMethod yX6_cutting ∈ zTs := zin 538 (by decide +kernel) (by decide +kernel)
theorem se_X6_cutting : Cond.selects RX6 yX6_cutting yX6_cutting ∈ zTs := zin 539 (by decide +kernel) (by decide +kernel)
theorem co_X6_cutting : Cond.code yX6_cutting cX6_cutting 4 (some .int) ∈ zTs := zin 540 (by decide +kernel) (by decide +kernel)
theorem ml_X6_145 : Cond.methodLink RX6 145 yX4_cuttings ∈ zTs := zin 541 (by decide +kernel) (by decide +kernel)
theorem im_X4_cuttings : Cond.instanceMethod yX4_cuttings ∈ zTs := zin 542 (by decide +kernel) (by decide +kernel)
theorem se_X4_cuttings : Cond.selects RX4 yX4_cuttings yX4_cuttings ∈ zTs := zin 543 (by decide +kernel) (by decide +kernel)
theorem co_X4_cuttings : Cond.code yX4_cuttings cX4_cuttings 1 (some .int) ∈ zTs := zin 544 (by decide +kernel) (by decide +kernel)
theorem ml_X6_148 : Cond.methodLink RX6 148 yX4_costOf ∈ zTs := zin 545 (by decide +kernel) (by decide +kernel)
theorem im_X4_costOf : Cond.instanceMethod yX4_costOf ∈ zTs := zin 546 (by decide +kernel) (by decide +kernel)
theorem se_X4_costOf : Cond.selects RX4 yX4_costOf yX4_costOf ∈ zTs := zin 547 (by decide +kernel) (by decide +kernel)
theorem co_X4_costOf : Cond.code yX4_costOf cX4_costOf 2 (some .int) ∈ zTs := zin 548 (by decide +kernel) (by decide +kernel)
theorem ml_X6_152 : Cond.methodLink RX6 152 yX4_follow ∈ zTs := zin 549 (by decide +kernel) (by decide +kernel)
theorem im_X4_follow : Cond.instanceMethod yX4_follow ∈ zTs := zin 550 (by decide +kernel) (by decide +kernel)
theorem se_X4_follow : Cond.selects RX4 yX4_follow yX4_follow ∈ zTs := zin 551 (by decide +kernel) (by decide +kernel)
theorem co_X4_follow : Cond.code yX4_follow cX4_follow 9 (some .int) ∈ zTs := zin 552 (by decide +kernel) (by decide +kernel)
theorem ml_L_69 : Cond.methodLink RL 69 yX6_sure ∈ zTs := zin 553 (by decide +kernel) (by decide +kernel)
theorem im_X6_sure : Cond.instanceMethod yX6_sure ∈ zTs := zin 554 (by decide +kernel) (by decide +kernel)
theorem se_X6_sure : Cond.selects RX6 yX6_sure yX6_sure ∈ zTs := zin 555 (by decide +kernel) (by decide +kernel)
theorem co_X6_sure : Cond.code yX6_sure cX6_sure 2 (some .int) ∈ zTs := zin 556 (by decide +kernel) (by decide +kernel)
theorem ml_X6_158 : Cond.methodLink RX6 158 yX4_surePlaces ∈ zTs := zin 557 (by decide +kernel) (by decide +kernel)
theorem im_X4_surePlaces : Cond.instanceMethod yX4_surePlaces ∈ zTs := zin 558 (by decide +kernel) (by decide +kernel)
theorem se_X4_surePlaces : Cond.selects RX4 yX4_surePlaces yX4_surePlaces ∈ zTs := zin 559 (by decide +kernel) (by decide +kernel)
theorem co_X4_surePlaces : Cond.code yX4_surePlaces cX4_surePlaces 10 (some .int) ∈ zTs := zin 560 (by decide +kernel) (by decide +kernel)
theorem ml_X4_88 : Cond.methodLink RX4 88 yX4_costOf ∈ zTs := zin 561 (by decide +kernel) (by decide +kernel)
theorem ml_X4_91 : Cond.methodLink RX4 91 yX4_leastWith ∈ zTs := zin 562 (by decide +kernel) (by decide +kernel)
theorem ml_L_73 : Cond.methodLink RL 73 yX6_sign ∈ zTs := zin 563 (by decide +kernel) (by decide +kernel)
theorem im_X6_sign : Cond.instanceMethod yX6_sign ∈ zTs := zin 564 (by decide +kernel) (by decide +kernel)
theorem se_X6_sign : Cond.selects RX6 yX6_sign yX6_sign ∈ zTs := zin 565 (by decide +kernel) (by decide +kernel)
theorem co_X6_sign : Cond.code yX6_sign cX6_sign 3 (some .int) ∈ zTs := zin 566 (by decide +kernel) (by decide +kernel)
theorem ml_X6_161 : Cond.methodLink RX6 161 yX5_write ∈ zTs := zin 567 (by decide +kernel) (by decide +kernel)
theorem im_X5_write : Cond.instanceMethod yX5_write ∈ zTs := zin 568 (by decide +kernel) (by decide +kernel)
theorem se_X5_write : Cond.selects RX5 yX5_write yX5_write ∈ zTs := zin 569 (by decide +kernel) (by decide +kernel)
theorem co_X5_write : Cond.code yX5_write cX5_write 7 none ∈ zTs := zin 570 (by decide +kernel) (by decide +kernel)
theorem ml_X5_19 : Cond.methodLink RX5 19 yX4_follow ∈ zTs := zin 571 (by decide +kernel) (by decide +kernel)
theorem ml_X5_25 : Cond.methodLink RX5 25 yX5_add ∈ zTs := zin 572 (by decide +kernel) (by decide +kernel)
theorem im_X5_add : Cond.instanceMethod yX5_add ∈ zTs := zin 574 (by decide +kernel) (by decide +kernel)
theorem co_X5_add : Cond.code yX5_add cX5_add 2 none ∈ zTs := zin 575 (by decide +kernel) (by decide +kernel)
theorem ml_X5_32 : Cond.methodLink RX5 32 yX5_writePiece ∈ zTs := zin 576 (by decide +kernel) (by decide +kernel)
theorem im_X5_writePiece : Cond.instanceMethod yX5_writePiece ∈ zTs := zin 578 (by decide +kernel) (by decide +kernel)
theorem co_X5_writePiece : Cond.code yX5_writePiece cX5_writePiece 6 none ∈ zTs := zin 579 (by decide +kernel) (by decide +kernel)
theorem ml_L_77 : Cond.methodLink RL 77 yX6_image ∈ zTs := zin 580 (by decide +kernel) (by decide +kernel)
theorem im_X6_image : Cond.instanceMethod yX6_image ∈ zTs := zin 581 (by decide +kernel) (by decide +kernel)
theorem se_X6_image : Cond.selects RX6 yX6_image yX6_image ∈ zTs := zin 582 (by decide +kernel) (by decide +kernel)
theorem co_X6_image : Cond.code yX6_image cX6_image 3 (some .int) ∈ zTs := zin 583 (by decide +kernel) (by decide +kernel)
theorem ml_X6_169 : Cond.methodLink RX6 169 yX0_copy ∈ zTs := zin 584 (by decide +kernel) (by decide +kernel)
theorem im_X0_copy : Cond.instanceMethod yX0_copy ∈ zTs := zin 585 (by decide +kernel) (by decide +kernel)
theorem se_X0_copy : Cond.selects RX0 yX0_copy yX0_copy ∈ zTs := zin 586 (by decide +kernel) (by decide +kernel)
theorem co_X0_copy : Cond.code yX0_copy cX0_copy 2 none ∈ zTs := zin 587 (by decide +kernel) (by decide +kernel)
theorem ml_X0_56 : Cond.methodLink RX0 56 yX1_copy ∈ zTs := zin 588 (by decide +kernel) (by decide +kernel)
theorem im_X1_copy : Cond.instanceMethod yX1_copy ∈ zTs := zin 589 (by decide +kernel) (by decide +kernel)
theorem se_X1_copy : Cond.selects RX1 yX1_copy yX1_copy ∈ zTs := zin 590 (by decide +kernel) (by decide +kernel)
theorem co_X1_copy : Cond.code yX1_copy cX1_copy 2 none ∈ zTs := zin 591 (by decide +kernel) (by decide +kernel)
theorem ml_L_81 : Cond.methodLink RL 81 yX6_restore ∈ zTs := zin 592 (by decide +kernel) (by decide +kernel)
theorem im_X6_restore : Cond.instanceMethod yX6_restore ∈ zTs := zin 593 (by decide +kernel) (by decide +kernel)
theorem se_X6_restore : Cond.selects RX6 yX6_restore yX6_restore ∈ zTs := zin 594 (by decide +kernel) (by decide +kernel)
theorem co_X6_restore : Cond.code yX6_restore cX6_restore 3 (some .int) ∈ zTs := zin 595 (by decide +kernel) (by decide +kernel)
theorem ml_L_85 : Cond.methodLink RL 85 yX6_told ∈ zTs := zin 596 (by decide +kernel) (by decide +kernel)
theorem im_X6_told : Cond.instanceMethod yX6_told ∈ zTs := zin 597 (by decide +kernel) (by decide +kernel)
theorem se_X6_told : Cond.selects RX6 yX6_told yX6_told ∈ zTs := zin 598 (by decide +kernel) (by decide +kernel)
theorem co_X6_told : Cond.code yX6_told cX6_told 2 (some .int) ∈ zTs := zin 599 (by decide +kernel) (by decide +kernel)
theorem cl_L_10 : Cond.classLink RL 10 RX7 ∈ zTs := zin 600 (by decide +kernel) (by decide +kernel)
theorem ia_X7 : Cond.instantiable RX7 28 ∈ zTs := zin 601 (by decide +kernel) (by decide +kernel)
theorem ml_L_12 : Cond.methodLink RL 12 yX7_init ∈ zTs := zin 602 (by decide +kernel) (by decide +kernel)
theorem im_X7_init : Cond.instanceMethod yX7_init ∈ zTs := zin 603 (by decide +kernel) (by decide +kernel)
theorem co_X7_init : Cond.code yX7_init cX7_init 1 none ∈ zTs := zin 604 (by decide +kernel) (by decide +kernel)
theorem ml_X7_1 : Cond.methodLink RX7 1 (⟨"java/lang/Object", "<init>", "()V"⟩ : MethodName) ∈ zTs := zin 605 (by decide +kernel) (by decide +kernel)
theorem fl_X7_7 : Cond.fieldLink RX7 7 "CutLettersModel" "letters" "[I" ∈ zTs := zin 606 (by decide +kernel) (by decide +kernel)
theorem fl_X7_13 : Cond.fieldLink RX7 13 "CutLettersModel" "size" "[I" ∈ zTs := zin 607 (by decide +kernel) (by decide +kernel)
theorem fl_X7_16 : Cond.fieldLink RX7 16 "CutLettersModel" "kind" "[I" ∈ zTs := zin 608 (by decide +kernel) (by decide +kernel)
theorem fl_X7_19 : Cond.fieldLink RX7 19 "CutLettersModel" "cost" "[I" ∈ zTs := zin 609 (by decide +kernel) (by decide +kernel)
theorem fl_X7_106 : Cond.fieldLink RX7 106 "CutLettersModel" "words" "I" ∈ zTs := zin 610 (by decide +kernel) (by decide +kernel)
theorem fl_X7_22 : Cond.fieldLink RX7 22 "CutLettersModel" "joins" "[I" ∈ zTs := zin 611 (by decide +kernel) (by decide +kernel)
theorem fl_X7_25 : Cond.fieldLink RX7 25 "CutLettersModel" "rules" "[I" ∈ zTs := zin 612 (by decide +kernel) (by decide +kernel)
theorem fl_X7_28 : Cond.fieldLink RX7 28 "CutLettersModel" "line" "[I" ∈ zTs := zin 613 (by decide +kernel) (by decide +kernel)
theorem fl_X7_109 : Cond.fieldLink RX7 109 "CutLettersModel" "long1" "I" ∈ zTs := zin 614 (by decide +kernel) (by decide +kernel)
theorem fl_X7_78 : Cond.fieldLink RX7 78 "CutLettersModel" "signs" "I" ∈ zTs := zin 615 (by decide +kernel) (by decide +kernel)
theorem fl_X7_31 : Cond.fieldLink RX7 31 "CutLettersModel" "pad" "[I" ∈ zTs := zin 616 (by decide +kernel) (by decide +kernel)
theorem fl_X7_86 : Cond.fieldLink RX7 86 "CutLettersModel" "readSize" "I" ∈ zTs := zin 617 (by decide +kernel) (by decide +kernel)
theorem fl_X7_89 : Cond.fieldLink RX7 89 "CutLettersModel" "readKind" "I" ∈ zTs := zin 618 (by decide +kernel) (by decide +kernel)
theorem fl_X7_96 : Cond.fieldLink RX7 96 "CutLettersModel" "readCost" "I" ∈ zTs := zin 619 (by decide +kernel) (by decide +kernel)
theorem fl_X7_34 : Cond.fieldLink RX7 34 "CutLettersModel" "place" "[I" ∈ zTs := zin 620 (by decide +kernel) (by decide +kernel)
theorem fl_X7_37 : Cond.fieldLink RX7 37 "CutLettersModel" "length" "[I" ∈ zTs := zin 621 (by decide +kernel) (by decide +kernel)
theorem fl_X7_40 : Cond.fieldLink RX7 40 "CutLettersModel" "sort" "[I" ∈ zTs := zin 622 (by decide +kernel) (by decide +kernel)
theorem fl_X7_43 : Cond.fieldLink RX7 43 "CutLettersModel" "price" "[I" ∈ zTs := zin 623 (by decide +kernel) (by decide +kernel)
theorem fl_X7_46 : Cond.fieldLink RX7 46 "CutLettersModel" "of" "[I" ∈ zTs := zin 624 (by decide +kernel) (by decide +kernel)
theorem fl_X7_49 : Cond.fieldLink RX7 49 "CutLettersModel" "begins" "[I" ∈ zTs := zin 625 (by decide +kernel) (by decide +kernel)
theorem fl_X7_112 : Cond.fieldLink RX7 112 "CutLettersModel" "many" "I" ∈ zTs := zin 626 (by decide +kernel) (by decide +kernel)
theorem fl_X7_52 : Cond.fieldLink RX7 52 "CutLettersModel" "rowCost" "[I" ∈ zTs := zin 627 (by decide +kernel) (by decide +kernel)
theorem fl_X7_55 : Cond.fieldLink RX7 55 "CutLettersModel" "rowNext" "[I" ∈ zTs := zin 628 (by decide +kernel) (by decide +kernel)
theorem fl_X7_58 : Cond.fieldLink RX7 58 "CutLettersModel" "rows" "[I" ∈ zTs := zin 629 (by decide +kernel) (by decide +kernel)
theorem fl_X7_61 : Cond.fieldLink RX7 61 "CutLettersModel" "ahead" "[I" ∈ zTs := zin 630 (by decide +kernel) (by decide +kernel)
theorem fl_X7_64 : Cond.fieldLink RX7 64 "CutLettersModel" "waysTo" "[I" ∈ zTs := zin 631 (by decide +kernel) (by decide +kernel)
theorem fl_X7_67 : Cond.fieldLink RX7 67 "CutLettersModel" "image" "[I" ∈ zTs := zin 632 (by decide +kernel) (by decide +kernel)
theorem fl_X7_70 : Cond.fieldLink RX7 70 "CutLettersModel" "isKept" "[Z" ∈ zTs := zin 633 (by decide +kernel) (by decide +kernel)
theorem ac_Jvm_ClassFile_FieldType_boolean : Cond.arrayClass Jvm.ClassFile.FieldType.boolean ∈ zTs := zin 691 (by decide +kernel) (by decide +kernel)
theorem ml_L_17 : Cond.methodLink RL 17 yX7_say ∈ zTs := zin 692 (by decide +kernel) (by decide +kernel)
theorem im_X7_say : Cond.instanceMethod yX7_say ∈ zTs := zin 693 (by decide +kernel) (by decide +kernel)
theorem se_X7_say : Cond.selects RX7 yX7_say yX7_say ∈ zTs := zin 694 (by decide +kernel) (by decide +kernel)
theorem co_X7_say : Cond.code yX7_say cX7_say 2 (some .int) ∈ zTs := zin 695 (by decide +kernel) (by decide +kernel)
theorem ml_X7_74 : Cond.methodLink RX7 74 yX7_in ∈ zTs := zin 696 (by decide +kernel) (by decide +kernel)
theorem sm_X7_in : Cond.static yX7_in ∈ zTs := zin 697 (by decide +kernel) (by decide +kernel)
theorem co_X7_in : Cond.code yX7_in cX7_in 3 (some .boolean) ∈ zTs := zin 698 (by decide +kernel) (by decide +kernel)
theorem ml_L_22 : Cond.methodLink RL 22 yX7_wipe ∈ zTs := zin 699 (by decide +kernel) (by decide +kernel)
theorem im_X7_wipe : Cond.instanceMethod yX7_wipe ∈ zTs := zin 700 (by decide +kernel) (by decide +kernel)
theorem se_X7_wipe : Cond.selects RX7 yX7_wipe yX7_wipe ∈ zTs := zin 701 (by decide +kernel) (by decide +kernel)
theorem co_X7_wipe : Cond.code yX7_wipe cX7_wipe 2 (some .int) ∈ zTs := zin 702 (by decide +kernel) (by decide +kernel)
theorem ml_L_26 : Cond.methodLink RL 26 yX7_fault ∈ zTs := zin 703 (by decide +kernel) (by decide +kernel)
theorem im_X7_fault : Cond.instanceMethod yX7_fault ∈ zTs := zin 704 (by decide +kernel) (by decide +kernel)
theorem se_X7_fault : Cond.selects RX7 yX7_fault yX7_fault ∈ zTs := zin 705 (by decide +kernel) (by decide +kernel)
theorem co_X7_fault : Cond.code yX7_fault cX7_fault 2 (some .int) ∈ zTs := zin 706 (by decide +kernel) (by decide +kernel)
theorem ml_X7_99 : Cond.methodLink RX7 99 yX7_wordFault ∈ zTs := zin 707 (by decide +kernel) (by decide +kernel)
theorem im_X7_wordFault : Cond.instanceMethod yX7_wordFault ∈ zTs := zin 709 (by decide +kernel) (by decide +kernel)
theorem co_X7_wordFault : Cond.code yX7_wordFault cX7_wordFault 4 (some .int) ∈ zTs := zin 710 (by decide +kernel) (by decide +kernel)
theorem ml_X7_82 : Cond.methodLink RX7 82 yX7_isLetter ∈ zTs := zin 711 (by decide +kernel) (by decide +kernel)
theorem sm_X7_isLetter : Cond.static yX7_isLetter ∈ zTs := zin 712 (by decide +kernel) (by decide +kernel)
theorem co_X7_isLetter : Cond.code yX7_isLetter cX7_isLetter 1 (some .boolean) ∈ zTs := zin 713 (by decide +kernel) (by decide +kernel)
theorem ml_X7_92 : Cond.methodLink RX7 92 yX7_name ∈ zTs := zin 714 (by decide +kernel) (by decide +kernel)
theorem sm_X7_name : Cond.static yX7_name ∈ zTs := zin 715 (by decide +kernel) (by decide +kernel)
theorem co_X7_name : Cond.code yX7_name cX7_name 2 (some .int) ∈ zTs := zin 716 (by decide +kernel) (by decide +kernel)
theorem ml_X7_103 : Cond.methodLink RX7 103 yX7_lineFault ∈ zTs := zin 717 (by decide +kernel) (by decide +kernel)
theorem im_X7_lineFault : Cond.instanceMethod yX7_lineFault ∈ zTs := zin 719 (by decide +kernel) (by decide +kernel)
theorem co_X7_lineFault : Cond.code yX7_lineFault cX7_lineFault 2 (some .int) ∈ zTs := zin 720 (by decide +kernel) (by decide +kernel)
theorem ml_L_30 : Cond.methodLink RL 30 yX7_learn ∈ zTs := zin 721 (by decide +kernel) (by decide +kernel)
theorem im_X7_learn : Cond.instanceMethod yX7_learn ∈ zTs := zin 722 (by decide +kernel) (by decide +kernel)
theorem se_X7_learn : Cond.selects RX7 yX7_learn yX7_learn ∈ zTs := zin 723 (by decide +kernel) (by decide +kernel)
theorem co_X7_learn : Cond.code yX7_learn cX7_learn 5 (some .int) ∈ zTs := zin 724 (by decide +kernel) (by decide +kernel)
theorem ml_L_34 : Cond.methodLink RL 34 yX7_forget ∈ zTs := zin 725 (by decide +kernel) (by decide +kernel)
theorem im_X7_forget : Cond.instanceMethod yX7_forget ∈ zTs := zin 726 (by decide +kernel) (by decide +kernel)
theorem se_X7_forget : Cond.selects RX7 yX7_forget yX7_forget ∈ zTs := zin 727 (by decide +kernel) (by decide +kernel)
theorem co_X7_forget : Cond.code yX7_forget cX7_forget 4 (some .int) ∈ zTs := zin 728 (by decide +kernel) (by decide +kernel)
theorem ml_L_39 : Cond.methodLink RL 39 yX7_word ∈ zTs := zin 729 (by decide +kernel) (by decide +kernel)
theorem im_X7_word : Cond.instanceMethod yX7_word ∈ zTs := zin 730 (by decide +kernel) (by decide +kernel)
theorem se_X7_word : Cond.selects RX7 yX7_word yX7_word ∈ zTs := zin 731 (by decide +kernel) (by decide +kernel)
theorem co_X7_word : Cond.code yX7_word cX7_word 3 (some .int) ∈ zTs := zin 732 (by decide +kernel) (by decide +kernel)
theorem ml_L_43 : Cond.methodLink RL 43 yX7_line ∈ zTs := zin 733 (by decide +kernel) (by decide +kernel)
theorem im_X7_line : Cond.instanceMethod yX7_line ∈ zTs := zin 734 (by decide +kernel) (by decide +kernel)
theorem se_X7_line : Cond.selects RX7 yX7_line yX7_line ∈ zTs := zin 735 (by decide +kernel) (by decide +kernel)
theorem co_X7_line : Cond.code yX7_line cX7_line 2 (some .int) ∈ zTs := zin 736 (by decide +kernel) (by decide +kernel)
theorem ml_L_48 : Cond.methodLink RL 48 yX7_join ∈ zTs := zin 737 (by decide +kernel) (by decide +kernel)
theorem im_X7_join : Cond.instanceMethod yX7_join ∈ zTs := zin 738 (by decide +kernel) (by decide +kernel)
theorem se_X7_join : Cond.selects RX7 yX7_join yX7_join ∈ zTs := zin 739 (by decide +kernel) (by decide +kernel)
theorem co_X7_join : Cond.code yX7_join cX7_join 5 (some .int) ∈ zTs := zin 740 (by decide +kernel) (by decide +kernel)
theorem ml_L_52 : Cond.methodLink RL 52 yX7_rule ∈ zTs := zin 741 (by decide +kernel) (by decide +kernel)
theorem im_X7_rule : Cond.instanceMethod yX7_rule ∈ zTs := zin 742 (by decide +kernel) (by decide +kernel)
theorem se_X7_rule : Cond.selects RX7 yX7_rule yX7_rule ∈ zTs := zin 743 (by decide +kernel) (by decide +kernel)
theorem co_X7_rule : Cond.code yX7_rule cX7_rule 4 (some .int) ∈ zTs := zin 744 (by decide +kernel) (by decide +kernel)
theorem ml_L_56 : Cond.methodLink RL 56 yX7_pieces ∈ zTs := zin 745 (by decide +kernel) (by decide +kernel)
theorem im_X7_pieces : Cond.instanceMethod yX7_pieces ∈ zTs := zin 746 (by decide +kernel) (by decide +kernel)
theorem se_X7_pieces : Cond.selects RX7 yX7_pieces yX7_pieces ∈ zTs := zin 747 (by decide +kernel) (by decide +kernel)
theorem co_X7_pieces : Cond.code yX7_pieces cX7_pieces 1 (some .int) ∈ zTs := zin 748 (by decide +kernel) (by decide +kernel)
theorem ml_X7_127 : Cond.methodLink RX7 127 yX7_layPieces ∈ zTs := zin 749 (by decide +kernel) (by decide +kernel)
theorem im_X7_layPieces : Cond.instanceMethod yX7_layPieces ∈ zTs := zin 751 (by decide +kernel) (by decide +kernel)
theorem co_X7_layPieces : Cond.code yX7_layPieces cX7_layPieces 8 none ∈ zTs := zin 752 (by decide +kernel) (by decide +kernel)
theorem ml_X7_115 : Cond.methodLink RX7 115 yX7_classOf ∈ zTs := zin 753 (by decide +kernel) (by decide +kernel)
theorem sm_X7_classOf : Cond.static yX7_classOf ∈ zTs := zin 754 (by decide +kernel) (by decide +kernel)
theorem co_X7_classOf : Cond.code yX7_classOf cX7_classOf 1 (some .int) ∈ zTs := zin 755 (by decide +kernel) (by decide +kernel)
theorem ml_X7_119 : Cond.methodLink RX7 119 yX7_stands ∈ zTs := zin 756 (by decide +kernel) (by decide +kernel)
theorem im_X7_stands : Cond.instanceMethod yX7_stands ∈ zTs := zin 758 (by decide +kernel) (by decide +kernel)
theorem co_X7_stands : Cond.code yX7_stands cX7_stands 5 (some .boolean) ∈ zTs := zin 759 (by decide +kernel) (by decide +kernel)
theorem ml_X7_123 : Cond.methodLink RX7 123 yX7_put ∈ zTs := zin 760 (by decide +kernel) (by decide +kernel)
theorem im_X7_put : Cond.instanceMethod yX7_put ∈ zTs := zin 762 (by decide +kernel) (by decide +kernel)
theorem co_X7_put : Cond.code yX7_put cX7_put 6 none ∈ zTs := zin 763 (by decide +kernel) (by decide +kernel)
theorem ml_L_60 : Cond.methodLink RL 60 yX7_piece ∈ zTs := zin 764 (by decide +kernel) (by decide +kernel)
theorem im_X7_piece : Cond.instanceMethod yX7_piece ∈ zTs := zin 765 (by decide +kernel) (by decide +kernel)
theorem se_X7_piece : Cond.selects RX7 yX7_piece yX7_piece ∈ zTs := zin 766 (by decide +kernel) (by decide +kernel)
theorem co_X7_piece : Cond.code yX7_piece cX7_piece 3 (some .int) ∈ zTs := zin 767 (by decide +kernel) (by decide +kernel)
theorem ml_X7_136 : Cond.methodLink RX7 136 yX7_layRows ∈ zTs := zin 768 (by decide +kernel) (by decide +kernel)
theorem im_X7_layRows : Cond.instanceMethod yX7_layRows ∈ zTs := zin 770 (by decide +kernel) (by decide +kernel)
theorem co_X7_layRows : Cond.code yX7_layRows cX7_layRows 13 none ∈ zTs := zin 771 (by decide +kernel) (by decide +kernel)
theorem ml_X7_130 : Cond.methodLink RX7 130 yX7_behind ∈ zTs := zin 772 (by decide +kernel) (by decide +kernel)
theorem im_X7_behind : Cond.instanceMethod yX7_behind ∈ zTs := zin 774 (by decide +kernel) (by decide +kernel)
theorem co_X7_behind : Cond.code yX7_behind cX7_behind 2 (some .int) ∈ zTs := zin 775 (by decide +kernel) (by decide +kernel)
theorem ml_X7_133 : Cond.methodLink RX7 133 yX7_joinOf ∈ zTs := zin 776 (by decide +kernel) (by decide +kernel)
theorem im_X7_joinOf : Cond.instanceMethod yX7_joinOf ∈ zTs := zin 778 (by decide +kernel) (by decide +kernel)
theorem co_X7_joinOf : Cond.code yX7_joinOf cX7_joinOf 3 (some .int) ∈ zTs := zin 779 (by decide +kernel) (by decide +kernel)
theorem ml_X7_139 : Cond.methodLink RX7 139 yX7_leastOf ∈ zTs := zin 780 (by decide +kernel) (by decide +kernel)
theorem im_X7_leastOf : Cond.instanceMethod yX7_leastOf ∈ zTs := zin 782 (by decide +kernel) (by decide +kernel)
theorem co_X7_leastOf : Cond.code yX7_leastOf cX7_leastOf 5 (some .int) ∈ zTs := zin 783 (by decide +kernel) (by decide +kernel)
theorem ml_L_64 : Cond.methodLink RL 64 yX7_ways ∈ zTs := zin 784 (by decide +kernel) (by decide +kernel)
theorem im_X7_ways : Cond.instanceMethod yX7_ways ∈ zTs := zin 785 (by decide +kernel) (by decide +kernel)
theorem se_X7_ways : Cond.selects RX7 yX7_ways yX7_ways ∈ zTs := zin 786 (by decide +kernel) (by decide +kernel)
theorem co_X7_ways : Cond.code yX7_ways cX7_ways 3 (some .int) ∈ zTs := zin 787 (by decide +kernel) (by decide +kernel)
theorem cn_X7_142 : Cond.constant RX7 142 (1000003) ∈ zTs := zin 788 (by decide +kernel) (by decide +kernel)
theorem ml_L_68 : Cond.methodLink RL 68 yX7_cutting ∈ zTs := zin 789 (by decide +kernel) (by decide +kernel)
theorem im_X7_cutting : Cond.instanceMethod yX7_cutting ∈ zTs := zin 790 (by decide +kernel) (by decide +kernel)
theorem se_X7_cutting : Cond.selects RX7 yX7_cutting yX7_cutting ∈ zTs := zin 791 (by decide +kernel) (by decide +kernel)
theorem co_X7_cutting : Cond.code yX7_cutting cX7_cutting 6 (some .int) ∈ zTs := zin 792 (by decide +kernel) (by decide +kernel)
theorem ml_X7_143 : Cond.methodLink RX7 143 yX7_cuttingOf ∈ zTs := zin 793 (by decide +kernel) (by decide +kernel)
theorem im_X7_cuttingOf : Cond.instanceMethod yX7_cuttingOf ∈ zTs := zin 795 (by decide +kernel) (by decide +kernel)
theorem co_X7_cuttingOf : Cond.code yX7_cuttingOf cX7_cuttingOf 12 (some .int) ∈ zTs := zin 796 (by decide +kernel) (by decide +kernel)
theorem ml_X7_146 : Cond.methodLink RX7 146 yX7_costOf ∈ zTs := zin 797 (by decide +kernel) (by decide +kernel)
theorem im_X7_costOf : Cond.instanceMethod yX7_costOf ∈ zTs := zin 799 (by decide +kernel) (by decide +kernel)
theorem co_X7_costOf : Cond.code yX7_costOf cX7_costOf 2 (some .int) ∈ zTs := zin 800 (by decide +kernel) (by decide +kernel)
theorem ml_X7_149 : Cond.methodLink RX7 149 yX7_next ∈ zTs := zin 801 (by decide +kernel) (by decide +kernel)
theorem im_X7_next : Cond.instanceMethod yX7_next ∈ zTs := zin 803 (by decide +kernel) (by decide +kernel)
theorem co_X7_next : Cond.code yX7_next cX7_next 2 (some .int) ∈ zTs := zin 804 (by decide +kernel) (by decide +kernel)
theorem ml_L_72 : Cond.methodLink RL 72 yX7_sure ∈ zTs := zin 805 (by decide +kernel) (by decide +kernel)
theorem im_X7_sure : Cond.instanceMethod yX7_sure ∈ zTs := zin 806 (by decide +kernel) (by decide +kernel)
theorem se_X7_sure : Cond.selects RX7 yX7_sure yX7_sure ∈ zTs := zin 807 (by decide +kernel) (by decide +kernel)
theorem co_X7_sure : Cond.code yX7_sure cX7_sure 8 (some .int) ∈ zTs := zin 808 (by decide +kernel) (by decide +kernel)
theorem ml_L_76 : Cond.methodLink RL 76 yX7_sign ∈ zTs := zin 809 (by decide +kernel) (by decide +kernel)
theorem im_X7_sign : Cond.instanceMethod yX7_sign ∈ zTs := zin 810 (by decide +kernel) (by decide +kernel)
theorem se_X7_sign : Cond.selects RX7 yX7_sign yX7_sign ∈ zTs := zin 811 (by decide +kernel) (by decide +kernel)
theorem co_X7_sign : Cond.code yX7_sign cX7_sign 9 (some .int) ∈ zTs := zin 812 (by decide +kernel) (by decide +kernel)
theorem ml_L_80 : Cond.methodLink RL 80 yX7_image ∈ zTs := zin 813 (by decide +kernel) (by decide +kernel)
theorem im_X7_image : Cond.instanceMethod yX7_image ∈ zTs := zin 814 (by decide +kernel) (by decide +kernel)
theorem se_X7_image : Cond.selects RX7 yX7_image yX7_image ∈ zTs := zin 815 (by decide +kernel) (by decide +kernel)
theorem co_X7_image : Cond.code yX7_image cX7_image 4 (some .int) ∈ zTs := zin 816 (by decide +kernel) (by decide +kernel)
theorem ml_L_84 : Cond.methodLink RL 84 yX7_restore ∈ zTs := zin 817 (by decide +kernel) (by decide +kernel)
theorem im_X7_restore : Cond.instanceMethod yX7_restore ∈ zTs := zin 818 (by decide +kernel) (by decide +kernel)
theorem se_X7_restore : Cond.selects RX7 yX7_restore yX7_restore ∈ zTs := zin 819 (by decide +kernel) (by decide +kernel)
theorem co_X7_restore : Cond.code yX7_restore cX7_restore 4 (some .int) ∈ zTs := zin 820 (by decide +kernel) (by decide +kernel)
theorem ml_L_88 : Cond.methodLink RL 88 yX7_told ∈ zTs := zin 821 (by decide +kernel) (by decide +kernel)
theorem im_X7_told : Cond.instanceMethod yX7_told ∈ zTs := zin 822 (by decide +kernel) (by decide +kernel)
theorem se_X7_told : Cond.selects RX7 yX7_told yX7_told ∈ zTs := zin 823 (by decide +kernel) (by decide +kernel)
theorem co_X7_told : Cond.code yX7_told cX7_told 2 (some .int) ∈ zTs := zin 824 (by decide +kernel) (by decide +kernel)
theorem fl_J0_15 : Cond.fieldLink RJ0 15 "java/lang/String" "coder" "B" ∈ zTs := zin 825 (by decide +kernel) (by decide +kernel)
theorem fl_J0_9 : Cond.fieldLink RJ0 9 "java/lang/String" "value" "[B" ∈ zTs := zin 826 (by decide +kernel) (by decide +kernel)
theorem se_X3_leadingLetters : Cond.selects RX3 yX3_leadingLetters yX3_leadingLetters ∈ zTs := zin 0 (by decide +kernel) (by decide +kernel)
theorem se_X3_signAt : Cond.selects RX3 yX3_signAt yX3_signAt ∈ zTs := zin 1 (by decide +kernel) (by decide +kernel)
theorem se_X3_kindNamedAt : Cond.selects RX3 yX3_kindNamedAt yX3_kindNamedAt ∈ zTs := zin 2 (by decide +kernel) (by decide +kernel)
theorem se_X3_nameStandsAt : Cond.selects RX3 yX3_nameStandsAt yX3_nameStandsAt ∈ zTs := zin 3 (by decide +kernel) (by decide +kernel)
theorem se_X3_readCost : Cond.selects RX3 yX3_readCost yX3_readCost ∈ zTs := zin 4 (by decide +kernel) (by decide +kernel)
theorem se_X1_find : Cond.selects RX1 yX1_find yX1_find ∈ zTs := zin 5 (by decide +kernel) (by decide +kernel)
theorem se_X6_somethingChanged : Cond.selects RX6 yX6_somethingChanged yX6_somethingChanged ∈ zTs := zin 6 (by decide +kernel) (by decide +kernel)
theorem se_X6_hasLine : Cond.selects RX6 yX6_hasLine yX6_hasLine ∈ zTs := zin 7 (by decide +kernel) (by decide +kernel)
theorem se_X6_makeNet : Cond.selects RX6 yX6_makeNet yX6_makeNet ∈ zTs := zin 8 (by decide +kernel) (by decide +kernel)
theorem se_X2_fillSlots : Cond.selects RX2 yX2_fillSlots yX2_fillSlots ∈ zTs := zin 9 (by decide +kernel) (by decide +kernel)
theorem se_X2_fillWords : Cond.selects RX2 yX2_fillWords yX2_fillWords ∈ zTs := zin 10 (by decide +kernel) (by decide +kernel)
theorem se_X2_fillWild : Cond.selects RX2 yX2_fillWild yX2_fillWild ∈ zTs := zin 11 (by decide +kernel) (by decide +kernel)
theorem se_X2_addSlots : Cond.selects RX2 yX2_addSlots yX2_addSlots ∈ zTs := zin 12 (by decide +kernel) (by decide +kernel)
theorem se_X2_add : Cond.selects RX2 yX2_add yX2_add ∈ zTs := zin 13 (by decide +kernel) (by decide +kernel)
theorem se_X6_makeRanking : Cond.selects RX6 yX6_makeRanking yX6_makeRanking ∈ zTs := zin 14 (by decide +kernel) (by decide +kernel)
theorem se_X4_reachSpots : Cond.selects RX4 yX4_reachSpots yX4_reachSpots ∈ zTs := zin 15 (by decide +kernel) (by decide +kernel)
theorem se_X4_leastUpTo : Cond.selects RX4 yX4_leastUpTo yX4_leastUpTo ∈ zTs := zin 16 (by decide +kernel) (by decide +kernel)
theorem se_X4_rankEnds : Cond.selects RX4 yX4_rankEnds yX4_rankEnds ∈ zTs := zin 17 (by decide +kernel) (by decide +kernel)
theorem se_X4_rankSpot : Cond.selects RX4 yX4_rankSpot yX4_rankSpot ∈ zTs := zin 18 (by decide +kernel) (by decide +kernel)
theorem se_X4_offerWays : Cond.selects RX4 yX4_offerWays yX4_offerWays ∈ zTs := zin 19 (by decide +kernel) (by decide +kernel)
theorem se_X4_offer : Cond.selects RX4 yX4_offer yX4_offer ∈ zTs := zin 20 (by decide +kernel) (by decide +kernel)
theorem se_X5_add : Cond.selects RX5 yX5_add yX5_add ∈ zTs := zin 21 (by decide +kernel) (by decide +kernel)
theorem se_X5_writePiece : Cond.selects RX5 yX5_writePiece yX5_writePiece ∈ zTs := zin 22 (by decide +kernel) (by decide +kernel)
theorem se_X7_wordFault : Cond.selects RX7 yX7_wordFault yX7_wordFault ∈ zTs := zin 23 (by decide +kernel) (by decide +kernel)
theorem se_X7_lineFault : Cond.selects RX7 yX7_lineFault yX7_lineFault ∈ zTs := zin 24 (by decide +kernel) (by decide +kernel)
theorem se_X7_layPieces : Cond.selects RX7 yX7_layPieces yX7_layPieces ∈ zTs := zin 25 (by decide +kernel) (by decide +kernel)
theorem se_X7_stands : Cond.selects RX7 yX7_stands yX7_stands ∈ zTs := zin 26 (by decide +kernel) (by decide +kernel)
theorem se_X7_put : Cond.selects RX7 yX7_put yX7_put ∈ zTs := zin 27 (by decide +kernel) (by decide +kernel)
theorem se_X7_layRows : Cond.selects RX7 yX7_layRows yX7_layRows ∈ zTs := zin 28 (by decide +kernel) (by decide +kernel)
theorem se_X7_behind : Cond.selects RX7 yX7_behind yX7_behind ∈ zTs := zin 29 (by decide +kernel) (by decide +kernel)
theorem se_X7_joinOf : Cond.selects RX7 yX7_joinOf yX7_joinOf ∈ zTs := zin 30 (by decide +kernel) (by decide +kernel)
theorem se_X7_leastOf : Cond.selects RX7 yX7_leastOf yX7_leastOf ∈ zTs := zin 31 (by decide +kernel) (by decide +kernel)
theorem se_X7_cuttingOf : Cond.selects RX7 yX7_cuttingOf yX7_cuttingOf ∈ zTs := zin 32 (by decide +kernel) (by decide +kernel)
theorem se_X7_costOf : Cond.selects RX7 yX7_costOf yX7_costOf ∈ zTs := zin 33 (by decide +kernel) (by decide +kernel)
theorem se_X7_next : Cond.selects RX7 yX7_next yX7_next ∈ zTs := zin 34 (by decide +kernel) (by decide +kernel)
end
section
/-! THE PLAIN MACHINE: ints are integers in range, worlds are lists of cells with such ints; a method's walk speaks of a predicate Z alone, by the rules below -/
abbrev zV : Type := Int ⊕ Option Nat
abbrev zC : Type := (Bool × Nat × (Nat → Int)) ⊕ ((Nat × (Nat → Option Nat)) ⊕ (Nat × List zV))
abbrev zW : Type := List (Nat × zC)
abbrev zK : Type := ClassId × ClassId × ClassId
abbrev zP : Type := Nat → Nat → Nat → List (Option zV) → List zV → zW → Prop
def iZ (z : Int) : Int32 := Int32.ofInt z
def zR (z : Int) : Prop := -2147483648 ≤ z ∧ z ≤ 2147483647
def zv : zV → Value
  | .inl z => .int (iZ z)
  | .inr r => va_rf r
def zc (k : zK) : zC → va_E
  | .inl (b, n, g) => .inl (if b then k.2.1 else k.1, n, .inl (fun j => iZ (g j)))
  | .inr (.inl (n, f)) => .inl (k.2.2, n, .inr (.inr (.inr (.inr f))))
  | .inr (.inr (c, fs)) => .inr (c, fs.map zv)
def zw (k : zK) (ws : zW) : va_W := ws.map (fun q => (q.1, zc k q.2))
def zty (k : zK) : List (ClassId × FieldType) := [(k.1, .int), (k.2.1, .boolean), (k.2.2, .object "CutLetters$Book")]
def zVr : zV → Prop
  | .inl z => zR z
  | .inr _ => True
def zCr : zC → Prop
  | .inl (_, _, g) => ∀ j, zR (g j)
  | .inr (.inl _) => True
  | .inr (.inr (_, fs)) => ∀ v ∈ fs, zVr v
def zWr (ws : zW) : Prop := ∀ q ∈ ws, zCr q.2
def zup (g : Nat → Int) (k : Nat) (x : Int) : Nat → Int := fun j => if j = k then x else g j
def zcp (f g : Nat → Int) (sp dp n : Nat) : Nat → Int := fun k => if dp ≤ k ∧ k < dp + n then f (sp + (k - dp)) else g k
def zput : zW → List Nat → zW → zW
  | ws, [], cs => ws ++ cs
  | ws, _ :: _, [] => ws
  | ws, i :: is, c :: cs => zput (ws.set i c) is cs
-- ints
theorem iZ_add (x y : Int) : iZ x + iZ y = iZ (x + y) := (Int32.ofInt_add x y).symm
theorem iZ_sub (x y : Int) : iZ x - iZ y = iZ (x - y) := (Int32.ofInt_sub x y).symm
theorem iZ_mul (x y : Int) : iZ x * iZ y = iZ (x * y) := (Int32.ofInt_mul x y).symm
theorem iZ_toInt {x : Int} (h : zR x) : (iZ x).toInt = x := Int32.toInt_ofInt_of_le (by have := h.1; omega) (by have := h.2; omega)
theorem iZ_of (x : Int32) : iZ x.toInt = x := Int32.ofInt_toInt x
theorem zR_of (x : Int32) : zR x.toInt := ⟨by have := x.le_toInt; omega, by have := x.toInt_lt; omega⟩
theorem iZ_lt {x y : Int} (hx : zR x) (hy : zR y) : iZ x < iZ y ↔ x < y := by rw [Int32.lt_iff_toInt_lt, iZ_toInt hx, iZ_toInt hy]
theorem iZ_le {x y : Int} (hx : zR x) (hy : zR y) : iZ x ≤ iZ y ↔ x ≤ y := by rw [Int32.le_iff_toInt_le, iZ_toInt hx, iZ_toInt hy]
theorem iZ_eq {x y : Int} (hx : zR x) (hy : zR y) : iZ x = iZ y ↔ x = y := by
  constructor
  · intro h
    have := congrArg Int32.toInt h
    rwa [iZ_toInt hx, iZ_toInt hy] at this
  · intro h; rw [h]
theorem zR_0 : zR 0 := ⟨by decide, by decide⟩
theorem iZ_0 : iZ 0 = 0 := by decide +kernel
theorem iZ_nat {x : Int} (hx : zR x) (h0 : 0 ≤ x) : (iZ x).toNatClampNeg = x.toNat := by
  rw [Int32.toNatClampNeg, iZ_toInt hx]
theorem iZ_in {x : Int} {n : Nat} (hx : zR x) (h0 : 0 ≤ x) (h1 : x < n) : vp_in (iZ x) n := by
  rw [vp_in_iff, iZ_toInt hx]; exact ⟨h0, h1⟩
theorem iZ_upd {g : Nat → Int} {k : Nat} {x : Int} : upd (fun j => iZ (g j)) k (iZ x) = fun j => iZ (zup g k x j) := by
  funext j
  by_cases h : j = k
  · simp [upd, zup, h]
  · simp [upd, zup, h]
theorem iZ_cpy {f g : Nat → Int} {sp dp n : Nat} : va_cpy (fun j => iZ (f j)) (fun j => iZ (g j)) sp dp n = fun j => iZ (zcp f g sp dp n j) := by
  funext j
  by_cases h : dp ≤ j ∧ j < dp + n
  · simp [va_cpy, zcp, h]
  · simp [va_cpy, zcp, h]
theorem zup_r {g : Nat → Int} {k : Nat} {x : Int} (h : ∀ j, zR (g j)) (hx : zR x) : ∀ j, zR (zup g k x j) := by
  intro j
  by_cases e : j = k
  · simp [zup, e, hx]
  · simp [zup, e, h j]
theorem zcp_r {f g : Nat → Int} {sp dp n : Nat} (hf : ∀ j, zR (f j)) (hg : ∀ j, zR (g j)) : ∀ j, zR (zcp f g sp dp n j) := by
  intro j
  by_cases e : dp ≤ j ∧ j < dp + n
  · simp only [zcp, if_pos e]; exact hf _
  · simp only [zcp, if_neg e]; exact hg _
-- cells
theorem zw_at {k : zK} {ws : zW} {i a : Nat} {x : zC} (h : ws[i]? = some (a, x)) : (zw k ws)[i]? = some (a, zc k x) := by
  simp [zw, List.getElem?_map, h]
theorem zw_set {k : zK} {ws : zW} {i a : Nat} {x : zC} : (zw k ws).set i (a, zc k x) = zw k (ws.set i (a, x)) := by
  simp [zw, List.map_set]
theorem zw_app {k : zK} {ws vs : zW} : zw k (ws ++ vs) = zw k ws ++ zw k vs := by simp [zw]
theorem zWr_at {ws : zW} {i a : Nat} {x : zC} (h : zWr ws) (hi : ws[i]? = some (a, x)) : zCr x := h (a, x) (List.mem_of_getElem? hi)
theorem zWr_set {ws : zW} {i a : Nat} {x : zC} (h : zWr ws) (hx : zCr x) : zWr (ws.set i (a, x)) := by
  intro q hq
  rcases List.mem_or_eq_of_mem_set hq with h1 | h1
  · exact h q h1
  · rw [h1]; exact hx
theorem zfst_set {ws : zW} {i a : Nat} {x y : zC} (hi : ws[i]? = some (a, y)) : (ws.set i (a, x)).map Prod.fst = ws.map Prod.fst := by
  rw [List.map_set]
  apply List.ext_getElem?
  intro j
  rw [List.getElem?_set]
  by_cases hj : i = j
  · subst hj
    obtain ⟨h1, h2⟩ := List.getElem?_eq_some_iff.mp hi
    simp [h1, h2]
  · simp [hj]
theorem zcat (v : zV) : (zv v).category = 1 := by
  cases v with
  | inl z => rfl
  | inr r => cases r <;> rfl
theorem zcat_sum (st : List zV) : ((st.map zv).map fun v => v.category).sum = st.length := by
  induction st with
  | nil => rfl
  | cons v st ih => simp only [List.map_cons, List.sum_cons, List.length_cons, ih, zcat]; omega
-- locals
def zL (ls : Array Slot) (nL : Nat) (lv : List (Option zV)) : Prop := ∃ l, lv_has ls nL l ∧ (∀ q ∈ l, q.2.category = 1) ∧ ∀ i v, lv[i]? = some (some v) → (i, zv v) ∈ l
theorem zL_at {ls : Array Slot} {nL : Nat} {lv : List (Option zV)} (h : zL ls nL lv) {i : Nat} {v : zV} (hi : lv[i]? = some (some v)) : ls[i]? = some (.val (zv v)) := by
  obtain ⟨l, h1, -, h3⟩ := h
  exact h1.2.2 _ (h3 i v hi)
theorem zL_st {ls : Array Slot} {nL : Nat} {lv : List (Option zV)} {l : List (Nat × Value)} {i : Nat} {v : zV} (hc : ∀ q ∈ l, q.2.category = 1) (h3 : ∀ i v, lv[i]? = some (some v) → (i, zv v) ∈ l) (h : lv_has ls nL ((i, zv v) :: l.filter (fun q => !(q.1 == i) && !(q.1 + 1 == i && q.2.category == 2)))) : zL ls nL (lv.set i (some v)) := by
  refine ⟨_, h, ?_, ?_⟩
  · intro q hq
    rcases List.mem_cons.mp hq with rfl | hq
    · exact zcat v
    · exact hc q (List.mem_filter.mp hq).1
  · intro j w hj
    rw [List.getElem?_set] at hj
    by_cases e : i = j
    · subst e
      by_cases hl : i < lv.length
      · simp [hl] at hj
        subst hj
        exact List.mem_cons_self
      · simp [hl] at hj
    · simp [e] at hj
      refine List.mem_cons_of_mem _ (List.mem_filter.mpr ⟨h3 j w hj, ?_⟩)
      have h2 := hc _ (h3 j w hj)
      have e' : ¬ j = i := fun z => e z.symm
      simp [e', h2]
end
section
/-! what a walk may take as given of the launch's own cells: kept by everything that a method does -/
abbrev zE : Type := (Nat → Prop) → State → Heap → Prop
def zEok (E : zE) : Prop := (∀ (A : Nat → Prop) (u U : State) (H : Heap), u.WarmedH U.vm → E A u H → E A U H) ∧ (∀ (A : Nat → Prop) (u U : State) (H : Heap), U.vm = u.vm → E A u H → E A U H) ∧ (∀ (A : Nat → Prop) (U : State) (H H1 : Heap), E A U H → (∀ a : Nat, a < H.size → ¬ A a → H1[a]? = H[a]?) → E A U H1) ∧ (∀ (A B : Nat → Prop) (U : State) (H : Heap), E A U H → (∀ q, B q → A q) → E B U H)
/-- where a method's walk stands -/
def zS (p : Program) (l : Launch) (e : Env) (R : Room) (s : State) (m : MethodId) (args : Array Value) (below : List Frame) (meth : Method) (c : Code) (Q : State → Prop) (A : Nat → Prop) (D : va_G) (k : zK) (nL : Nat) (a0 : List Nat) : zP := fun kc ks pc lv st ws =>
  ∀ (H : Heap) (locs : List Loc) (ls : Array Slot), zWr ws → (∀ v ∈ st, zVr v) → (∀ (i : Nat) (v : zV), lv[i]? = some (some v) → zVr v) → a0 <+: ws.map Prod.fst → va_P D vwCl (zw k ws) H → va_D A (zw k ws) → va_S A s.heap H locs → zL ls nL lv → W p l e R s m args below meth c H locs kc ks Q (F0 m pc ls (st.map zv))
/-- the rule book of a method: its code cc, its class own, its words Ts, nL locals, the room R; PR: what must hold when it returns (an int, or 0) -/
def zB (l : Launch) (D : va_G) (k : zK) (E : zE) (cc : ByteArray) (own : String) (nL : Nat) (R : Room) (mc ms : Nat) (rt : Option FieldType) (ini : Prop) (a0 : List Nat) (PR : Int → zW → Prop) (Z : zP) : Prop :=
  ∃ (p : Program) (e : Env) (s : State) (m : MethodId) (args : Array Value) (below : List Frame) (meth : Method) (c : Code) (Q : State → Prop) (A : Nat → Prop),
    p.tables.exec = Jvm.exec ∧ c.code = cc ∧ c.maxLocals = nL ∧ s.vm.findClass own = some m.cls ∧ (∀ w ∈ zTs, w.before args s = true) ∧ va_K D vwCl (zty k) s ∧ (∀ q, s.heap.size ≤ q → A q) ∧ zEok E ∧ E A s s.heap ∧ (ini → meth.name = "<init>") ∧
    (∀ (H : Heap) (locs : List Loc) (ls : Array Slot) (pc : Nat) (z : Int) (ws : zW), rt ≠ none → decode cc pc = .ok (.ireturn, 1) → zR z → zWr ws → a0 <+: ws.map Prod.fst → PR z ws → va_P D vwCl (zw k ws) H → va_D A (zw k ws) → va_S A s.heap H locs → W p l e R s m args below meth c H locs mc ms Q (F0 m pc ls [.int (iZ z)])) ∧
    (∀ (H : Heap) (locs : List Loc) (ls : Array Slot) (pc : Nat) (ws : zW), rt = none → decode cc pc = .ok (.return_, 1) → zWr ws → a0 <+: ws.map Prod.fst → PR 0 ws → va_P D vwCl (zw k ws) H → va_D A (zw k ws) → va_S A s.heap H locs → W p l e R s m args below meth c H locs mc ms Q (F0 m pc ls [])) ∧
    Z = zS p l e R s m args below meth c Q A D k nL a0
section ZB
variable {l : Launch} {D : va_G} {k : zK} {E : zE} {cc : ByteArray} {own : String} {nL : Nat} {R : Room} {mc ms : Nat} {rt : Option FieldType} {ini : Prop} {a0 : List Nat} {PR : Int → zW → Prop} {Z : zP}
variable {kc ks pc : Nat} {lv : List (Option zV)} {st : List zV} {ws : zW} {x y : Int}
theorem zB.iconst (B : zB l D k E cc own nL R mc ms rt ini a0 PR Z) {n : Int} (hd : decode cc pc = .ok (.iconst n, 1)) (hr : zR n) (h : Z kc ks (pc + 1) lv (.inl n :: st) ws) : Z kc ks pc lv st ws := by
  obtain ⟨p, e, s, m, args, below, meth, c, Q, A, hx, hb, hml, hown, hts, hK, hA, hE, hEs, hin, hri, hrv, rfl⟩ := B
  intro H locs ls r1 r2 r3 r4 hP hD hS hl
  exact lv_iconst hx hb hd rfl (h H locs ls r1 (List.forall_mem_cons.mpr ⟨hr, r2⟩) r3 r4 hP hD hS hl)
theorem zB.bipush (B : zB l D k E cc own nL R mc ms rt ini a0 PR Z) {n : Int} (hd : decode cc pc = .ok (.bipush n, 2)) (hr : -128 ≤ n ∧ n ≤ 127) (h : Z kc ks (pc + 2) lv (.inl n :: st) ws) : Z kc ks pc lv st ws := by
  obtain ⟨p, e, s, m, args, below, meth, c, Q, A, hx, hb, hml, hown, hts, hK, hA, hE, hEs, hin, hri, hrv, rfl⟩ := B
  intro H locs ls r1 r2 r3 r4 hP hD hS hl
  refine lv_bipush hx hb hd (v := iZ n) ?_ (h H locs ls r1 (List.forall_mem_cons.mpr ⟨(⟨by omega, by omega⟩ : zR n), r2⟩) r3 r4 hP hD hS hl)
  apply Int32.toInt_inj.mp
  rw [iZ_toInt ⟨by omega, by omega⟩, Int8.toInt_toInt32, Int8.toInt_ofInt_of_le (by omega) (by omega)]
theorem zB.sipush (B : zB l D k E cc own nL R mc ms rt ini a0 PR Z) {n : Int} (hd : decode cc pc = .ok (.sipush n, 3)) (hr : -32768 ≤ n ∧ n ≤ 32767) (h : Z kc ks (pc + 3) lv (.inl n :: st) ws) : Z kc ks pc lv st ws := by
  obtain ⟨p, e, s, m, args, below, meth, c, Q, A, hx, hb, hml, hown, hts, hK, hA, hE, hEs, hin, hri, hrv, rfl⟩ := B
  intro H locs ls r1 r2 r3 r4 hP hD hS hl
  refine lv_sipush hx hb hd (v := iZ n) ?_ (h H locs ls r1 (List.forall_mem_cons.mpr ⟨(⟨by omega, by omega⟩ : zR n), r2⟩) r3 r4 hP hD hS hl)
  apply Int32.toInt_inj.mp
  rw [iZ_toInt ⟨by omega, by omega⟩, Int16.toInt_toInt32, Int16.toInt_ofInt_of_le (by omega) (by omega)]
theorem zB.ldc (B : zB l D k E cc own nL R mc ms rt ini a0 PR Z) {i : Nat} {n : Int} (hd : decode cc pc = .ok (.ldc i, 2)) (hw : Jvm.Cond.constant own i (iZ n) ∈ zTs) (hr : zR n) (h : Z kc ks (pc + 2) lv (.inl n :: st) ws) : Z kc ks pc lv st ws := by
  obtain ⟨p, e, s, m, args, below, meth, c, Q, A, hx, hb, hml, hown, hts, hK, hA, hE, hEs, hin, hri, hrv, rfl⟩ := B
  intro H locs ls r1 r2 r3 r4 hP hD hS hl
  exact lv_ldc hx hb hown (hts _ hw) hd (h H locs ls r1 (List.forall_mem_cons.mpr ⟨hr, r2⟩) r3 r4 hP hD hS hl)
theorem zB.iload_n (B : zB l D k E cc own nL R mc ms rt ini a0 PR Z) {i : Nat} {q : Fin 4} (hd : decode cc pc = .ok (.iload_n q, 1)) (hq : (q : Nat) = i) (hi : lv[i]? = some (some (.inl x))) (h : Z kc ks (pc + 1) lv (.inl x :: st) ws) : Z kc ks pc lv st ws := by
  obtain ⟨p, e, s, m, args, below, meth, c, Q, A, hx, hb, hml, hown, hts, hK, hA, hE, hEs, hin, hri, hrv, rfl⟩ := B
  intro H locs ls r1 r2 r3 r4 hP hD hS hl
  exact lv_iload_n hx hb hd hq (zL_at hl hi) (h H locs ls r1 (List.forall_mem_cons.mpr ⟨r3 i _ hi, r2⟩) r3 r4 hP hD hS hl)
theorem zB.iload (B : zB l D k E cc own nL R mc ms rt ini a0 PR Z) {i : Nat} (hd : decode cc pc = .ok (.iload i, 2)) (hi : lv[i]? = some (some (.inl x))) (h : Z kc ks (pc + 2) lv (.inl x :: st) ws) : Z kc ks pc lv st ws := by
  obtain ⟨p, e, s, m, args, below, meth, c, Q, A, hx, hb, hml, hown, hts, hK, hA, hE, hEs, hin, hri, hrv, rfl⟩ := B
  intro H locs ls r1 r2 r3 r4 hP hD hS hl
  exact lv_iload hx hb hd (zL_at hl hi) (h H locs ls r1 (List.forall_mem_cons.mpr ⟨r3 i _ hi, r2⟩) r3 r4 hP hD hS hl)
theorem zB.aload_n (B : zB l D k E cc own nL R mc ms rt ini a0 PR Z) {i a : Nat} {q : Fin 4} (hd : decode cc pc = .ok (.aload_n q, 1)) (hq : (q : Nat) = i) (hi : lv[i]? = some (some (.inr (some a)))) (h : Z kc ks (pc + 1) lv (.inr (some a) :: st) ws) : Z kc ks pc lv st ws := by
  obtain ⟨p, e, s, m, args, below, meth, c, Q, A, hx, hb, hml, hown, hts, hK, hA, hE, hEs, hin, hri, hrv, rfl⟩ := B
  intro H locs ls r1 r2 r3 r4 hP hD hS hl
  exact lv_aload_n hx hb hd hq (zL_at hl hi) (h H locs ls r1 (List.forall_mem_cons.mpr ⟨trivial, r2⟩) r3 r4 hP hD hS hl)
theorem zB.aload (B : zB l D k E cc own nL R mc ms rt ini a0 PR Z) {i a : Nat} (hd : decode cc pc = .ok (.aload i, 2)) (hi : lv[i]? = some (some (.inr (some a)))) (h : Z kc ks (pc + 2) lv (.inr (some a) :: st) ws) : Z kc ks pc lv st ws := by
  obtain ⟨p, e, s, m, args, below, meth, c, Q, A, hx, hb, hml, hown, hts, hK, hA, hE, hEs, hin, hri, hrv, rfl⟩ := B
  intro H locs ls r1 r2 r3 r4 hP hD hS hl
  exact lv_aload hx hb hd (zL_at hl hi) (h H locs ls r1 (List.forall_mem_cons.mpr ⟨trivial, r2⟩) r3 r4 hP hD hS hl)
theorem zlv_set {lv : List (Option zV)} {i : Nat} {v : zV} (h : ∀ (i : Nat) (v : zV), lv[i]? = some (some v) → zVr v) (hv : zVr v) : ∀ (j : Nat) (w : zV), (lv.set i (some v))[j]? = some (some w) → zVr w := by
  intro j w hj
  rw [List.getElem?_set] at hj
  by_cases e : i = j
  · subst e
    by_cases hl : i < lv.length
    · simp [hl] at hj
      subst hj
      exact hv
    · simp [hl] at hj
  · simp [e] at hj
    exact h j w hj
theorem zB.istore_n (B : zB l D k E cc own nL R mc ms rt ini a0 PR Z) {i : Nat} {q : Fin 4} (hd : decode cc pc = .ok (.istore_n q, 1)) (hq : (q : Nat) = i) (hn : i < nL) (h : Z kc ks (pc + 1) (lv.set i (some (.inl x))) st ws) : Z kc ks pc lv (.inl x :: st) ws := by
  obtain ⟨p, e, s, m, args, below, meth, c, Q, A, hx, hb, hml, hown, hts, hK, hA, hE, hEs, hin, hri, hrv, rfl⟩ := B
  intro H locs ls r1 r2 r3 r4 hP hD hS hl
  obtain ⟨h1, h2⟩ := List.forall_mem_cons.mp r2
  obtain ⟨ll, g1, g2, g3⟩ := hl
  exact lv_istore_n hx hb hd hq g1 hn rfl (fun ls' hl' => h H locs ls' r1 h2 (zlv_set r3 h1) r4 hP hD hS (zL_st g2 g3 hl'))
theorem zB.istore (B : zB l D k E cc own nL R mc ms rt ini a0 PR Z) {i : Nat} (hd : decode cc pc = .ok (.istore i, 2)) (hn : i < nL) (h : Z kc ks (pc + 2) (lv.set i (some (.inl x))) st ws) : Z kc ks pc lv (.inl x :: st) ws := by
  obtain ⟨p, e, s, m, args, below, meth, c, Q, A, hx, hb, hml, hown, hts, hK, hA, hE, hEs, hin, hri, hrv, rfl⟩ := B
  intro H locs ls r1 r2 r3 r4 hP hD hS hl
  obtain ⟨h1, h2⟩ := List.forall_mem_cons.mp r2
  obtain ⟨ll, g1, g2, g3⟩ := hl
  exact lv_istore hx hb hd g1 hn rfl (fun ls' hl' => h H locs ls' r1 h2 (zlv_set r3 h1) r4 hP hD hS (zL_st g2 g3 hl'))
theorem zB.astore_n (B : zB l D k E cc own nL R mc ms rt ini a0 PR Z) {i a : Nat} {q : Fin 4} (hd : decode cc pc = .ok (.astore_n q, 1)) (hq : (q : Nat) = i) (hn : i < nL) (h : Z kc ks (pc + 1) (lv.set i (some (.inr (some a)))) st ws) : Z kc ks pc lv (.inr (some a) :: st) ws := by
  obtain ⟨p, e, s, m, args, below, meth, c, Q, A, hx, hb, hml, hown, hts, hK, hA, hE, hEs, hin, hri, hrv, rfl⟩ := B
  intro H locs ls r1 r2 r3 r4 hP hD hS hl
  obtain ⟨h1, h2⟩ := List.forall_mem_cons.mp r2
  obtain ⟨ll, g1, g2, g3⟩ := hl
  exact lv_astore_n hx hb hd hq g1 hn rfl (fun ls' hl' => h H locs ls' r1 h2 (zlv_set r3 h1) r4 hP hD hS (zL_st (v := .inr (some a)) g2 g3 hl'))
theorem zB.iinc (B : zB l D k E cc own nL R mc ms rt ini a0 PR Z) {i : Nat} {n : Int} (hd : decode cc pc = .ok (.iinc i n, 3)) (hn : i < nL) (hi : lv[i]? = some (some (.inl x))) (hr : zR (x + n)) (h : Z kc ks (pc + 3) (lv.set i (some (.inl (x + n)))) st ws) : Z kc ks pc lv st ws := by
  obtain ⟨p, e, s, m, args, below, meth, c, Q, A, hx, hb, hml, hown, hts, hK, hA, hE, hEs, hin, hri, hrv, rfl⟩ := B
  intro H locs ls r1 r2 r3 r4 hP hD hS hl
  obtain ⟨ll, g1, g2, g3⟩ := hl
  obtain ⟨j, hj⟩ := List.getElem?_of_mem (g3 i _ hi)
  exact lv_iinc hx hb hd g1 hj (v := iZ (x + n)) (iZ_add x n) hn rfl (fun ls' hl' => h H locs ls' r1 r2 (zlv_set r3 hr) r4 hP hD hS (zL_st (v := .inl (x + n)) g2 g3 hl'))
-- arithmetic
theorem zB.iadd (B : zB l D k E cc own nL R mc ms rt ini a0 PR Z) (hd : decode cc pc = .ok (.iadd, 1)) (hr : zR (x + y)) (h : Z kc ks (pc + 1) lv (.inl (x + y) :: st) ws) : Z kc ks pc lv (.inl y :: .inl x :: st) ws := by
  obtain ⟨p, e, s, m, args, below, meth, c, Q, A, hx, hb, hml, hown, hts, hK, hA, hE, hEs, hin, hri, hrv, rfl⟩ := B
  intro H locs ls r1 r2 r3 r4 hP hD hS hl
  refine lv_iadd (x := iZ x) (y := iZ y) hx hb hd ?_
  rw [iZ_add]
  exact h H locs ls r1 (List.forall_mem_cons.mpr ⟨hr, (List.forall_mem_cons.mp (List.forall_mem_cons.mp r2).2).2⟩) r3 r4 hP hD hS hl
theorem zB.isub (B : zB l D k E cc own nL R mc ms rt ini a0 PR Z) (hd : decode cc pc = .ok (.isub, 1)) (hr : zR (x - y)) (h : Z kc ks (pc + 1) lv (.inl (x - y) :: st) ws) : Z kc ks pc lv (.inl y :: .inl x :: st) ws := by
  obtain ⟨p, e, s, m, args, below, meth, c, Q, A, hx, hb, hml, hown, hts, hK, hA, hE, hEs, hin, hri, hrv, rfl⟩ := B
  intro H locs ls r1 r2 r3 r4 hP hD hS hl
  refine lv_isub (x := iZ x) (y := iZ y) hx hb hd ?_
  rw [iZ_sub]
  exact h H locs ls r1 (List.forall_mem_cons.mpr ⟨hr, (List.forall_mem_cons.mp (List.forall_mem_cons.mp r2).2).2⟩) r3 r4 hP hD hS hl
theorem zB.imul (B : zB l D k E cc own nL R mc ms rt ini a0 PR Z) (hd : decode cc pc = .ok (.imul, 1)) (hr : zR (x * y)) (h : Z kc ks (pc + 1) lv (.inl (x * y) :: st) ws) : Z kc ks pc lv (.inl y :: .inl x :: st) ws := by
  obtain ⟨p, e, s, m, args, below, meth, c, Q, A, hx, hb, hml, hown, hts, hK, hA, hE, hEs, hin, hri, hrv, rfl⟩ := B
  intro H locs ls r1 r2 r3 r4 hP hD hS hl
  refine lv_imul (x := iZ x) (y := iZ y) hx hb hd ?_
  rw [iZ_mul]
  exact h H locs ls r1 (List.forall_mem_cons.mpr ⟨hr, (List.forall_mem_cons.mp (List.forall_mem_cons.mp r2).2).2⟩) r3 r4 hP hD hS hl
/-- a sum, a difference, a product that may wrap: some int -/
theorem zB.iaddw (B : zB l D k E cc own nL R mc ms rt ini a0 PR Z) (hd : decode cc pc = .ok (.iadd, 1)) (h : ∀ r : Int, zR r → (zR (x + y) → r = x + y) → Z kc ks (pc + 1) lv (.inl r :: st) ws) : Z kc ks pc lv (.inl y :: .inl x :: st) ws := by
  obtain ⟨p, e, s, m, args, below, meth, c, Q, A, hx, hb, hml, hown, hts, hK, hA, hE, hEs, hin, hri, hrv, rfl⟩ := B
  intro H locs ls r1 r2 r3 r4 hP hD hS hl
  refine lv_iadd (x := iZ x) (y := iZ y) hx hb hd ?_
  rw [iZ_add, ← iZ_of (iZ (x + y))]
  exact h _ (zR_of _) (fun q => iZ_toInt q) H locs ls r1 (List.forall_mem_cons.mpr ⟨zR_of _, (List.forall_mem_cons.mp (List.forall_mem_cons.mp r2).2).2⟩) r3 r4 hP hD hS hl
theorem zB.isubw (B : zB l D k E cc own nL R mc ms rt ini a0 PR Z) (hd : decode cc pc = .ok (.isub, 1)) (h : ∀ r : Int, zR r → (zR (x - y) → r = x - y) → Z kc ks (pc + 1) lv (.inl r :: st) ws) : Z kc ks pc lv (.inl y :: .inl x :: st) ws := by
  obtain ⟨p, e, s, m, args, below, meth, c, Q, A, hx, hb, hml, hown, hts, hK, hA, hE, hEs, hin, hri, hrv, rfl⟩ := B
  intro H locs ls r1 r2 r3 r4 hP hD hS hl
  refine lv_isub (x := iZ x) (y := iZ y) hx hb hd ?_
  rw [iZ_sub, ← iZ_of (iZ (x - y))]
  exact h _ (zR_of _) (fun q => iZ_toInt q) H locs ls r1 (List.forall_mem_cons.mpr ⟨zR_of _, (List.forall_mem_cons.mp (List.forall_mem_cons.mp r2).2).2⟩) r3 r4 hP hD hS hl
theorem zB.imulw (B : zB l D k E cc own nL R mc ms rt ini a0 PR Z) (hd : decode cc pc = .ok (.imul, 1)) (h : ∀ r : Int, zR r → (zR (x * y) → r = x * y) → Z kc ks (pc + 1) lv (.inl r :: st) ws) : Z kc ks pc lv (.inl y :: .inl x :: st) ws := by
  obtain ⟨p, e, s, m, args, below, meth, c, Q, A, hx, hb, hml, hown, hts, hK, hA, hE, hEs, hin, hri, hrv, rfl⟩ := B
  intro H locs ls r1 r2 r3 r4 hP hD hS hl
  refine lv_imul (x := iZ x) (y := iZ y) hx hb hd ?_
  rw [iZ_mul, ← iZ_of (iZ (x * y))]
  exact h _ (zR_of _) (fun q => iZ_toInt q) H locs ls r1 (List.forall_mem_cons.mpr ⟨zR_of _, (List.forall_mem_cons.mp (List.forall_mem_cons.mp r2).2).2⟩) r3 r4 hP hD hS hl
/-- and, or, xor, shl: the int that comes, by its own word -/
theorem zB.iand (B : zB l D k E cc own nL R mc ms rt ini a0 PR Z) (hd : decode cc pc = .ok (.iand, 1)) (h : ∀ r : Int, zR r → r = (iZ x &&& iZ y).toInt → Z kc ks (pc + 1) lv (.inl r :: st) ws) : Z kc ks pc lv (.inl y :: .inl x :: st) ws := by
  obtain ⟨p, e, s, m, args, below, meth, c, Q, A, hx, hb, hml, hown, hts, hK, hA, hE, hEs, hin, hri, hrv, rfl⟩ := B
  intro H locs ls r1 r2 r3 r4 hP hD hS hl
  refine lv_iand (x := iZ x) (y := iZ y) hx hb hd ?_
  rw [← iZ_of (iZ x &&& iZ y)]
  exact h _ (zR_of _) rfl H locs ls r1 (List.forall_mem_cons.mpr ⟨zR_of _, (List.forall_mem_cons.mp (List.forall_mem_cons.mp r2).2).2⟩) r3 r4 hP hD hS hl
theorem zB.ior (B : zB l D k E cc own nL R mc ms rt ini a0 PR Z) (hd : decode cc pc = .ok (.ior, 1)) (h : ∀ r : Int, zR r → r = (iZ x ||| iZ y).toInt → Z kc ks (pc + 1) lv (.inl r :: st) ws) : Z kc ks pc lv (.inl y :: .inl x :: st) ws := by
  obtain ⟨p, e, s, m, args, below, meth, c, Q, A, hx, hb, hml, hown, hts, hK, hA, hE, hEs, hin, hri, hrv, rfl⟩ := B
  intro H locs ls r1 r2 r3 r4 hP hD hS hl
  refine lv_ior (x := iZ x) (y := iZ y) hx hb hd ?_
  rw [← iZ_of (iZ x ||| iZ y)]
  exact h _ (zR_of _) rfl H locs ls r1 (List.forall_mem_cons.mpr ⟨zR_of _, (List.forall_mem_cons.mp (List.forall_mem_cons.mp r2).2).2⟩) r3 r4 hP hD hS hl
theorem zB.ixor (B : zB l D k E cc own nL R mc ms rt ini a0 PR Z) (hd : decode cc pc = .ok (.ixor, 1)) (h : ∀ r : Int, zR r → r = (iZ x ^^^ iZ y).toInt → Z kc ks (pc + 1) lv (.inl r :: st) ws) : Z kc ks pc lv (.inl y :: .inl x :: st) ws := by
  obtain ⟨p, e, s, m, args, below, meth, c, Q, A, hx, hb, hml, hown, hts, hK, hA, hE, hEs, hin, hri, hrv, rfl⟩ := B
  intro H locs ls r1 r2 r3 r4 hP hD hS hl
  refine lv_ixor (x := iZ x) (y := iZ y) hx hb hd ?_
  rw [← iZ_of (iZ x ^^^ iZ y)]
  exact h _ (zR_of _) rfl H locs ls r1 (List.forall_mem_cons.mpr ⟨zR_of _, (List.forall_mem_cons.mp (List.forall_mem_cons.mp r2).2).2⟩) r3 r4 hP hD hS hl
theorem zB.ishl (B : zB l D k E cc own nL R mc ms rt ini a0 PR Z) (hd : decode cc pc = .ok (.ishl, 1)) (h : ∀ r : Int, zR r → r = (iZ x <<< (iZ y &&& 31)).toInt → Z kc ks (pc + 1) lv (.inl r :: st) ws) : Z kc ks pc lv (.inl y :: .inl x :: st) ws := by
  obtain ⟨p, e, s, m, args, below, meth, c, Q, A, hx, hb, hml, hown, hts, hK, hA, hE, hEs, hin, hri, hrv, rfl⟩ := B
  intro H locs ls r1 r2 r3 r4 hP hD hS hl
  refine lv_ishl (x := iZ x) (y := iZ y) hx hb hd ?_
  rw [← iZ_of (iZ x <<< (iZ y &&& 31))]
  exact h _ (zR_of _) rfl H locs ls r1 (List.forall_mem_cons.mpr ⟨zR_of _, (List.forall_mem_cons.mp (List.forall_mem_cons.mp r2).2).2⟩) r3 r4 hP hD hS hl
theorem iZ_div {x y : Int} (hx : zR x) (h0 : 0 ≤ x) (hy : 0 < y) (hy2 : zR y) : iZ x / iZ y = iZ (x / y) := by
  obtain ⟨a, rfl⟩ := Int.eq_ofNat_of_zero_le h0
  obtain ⟨b, rfl⟩ := Int.eq_ofNat_of_zero_le (Int.le_of_lt hy)
  have ha : a < 2 ^ 31 := by have := hx.2; omega
  have hb : b < 2 ^ 31 := by have := hy2.2; omega
  have e := pk_div (a := a) (d := b) ha (by omega) hb
  have e1 : ∀ n : Nat, iZ (n : Int) = nI n := fun n => Int32.ofInt_eq_ofNat
  rw [e1, e1, e, ← e1]
  rfl
theorem iZ_rem {x y : Int} (hx : zR x) (h0 : 0 ≤ x) (hy : 0 < y) (hy2 : zR y) : iZ x - iZ x / iZ y * iZ y = iZ (x % y) := by
  rw [iZ_div hx h0 hy hy2, iZ_mul, iZ_sub]
  congr 1
  have := Int.emod_def x y
  rw [this, Int.mul_comm]
theorem zB.idiv (B : zB l D k E cc own nL R mc ms rt ini a0 PR Z) (hd : decode cc pc = .ok (.idiv, 1)) (h0 : 0 ≤ x) (hy : 0 < y) (h : Z kc ks (pc + 1) lv (.inl (x / y) :: st) ws) : Z kc ks pc lv (.inl y :: .inl x :: st) ws := by
  obtain ⟨p, e, s, m, args, below, meth, c, Q, A, hx, hb, hml, hown, hts, hK, hA, hE, hEs, hin, hri, hrv, rfl⟩ := B
  intro H locs ls r1 r2 r3 r4 hP hD hS hl
  obtain ⟨ry, rr⟩ := List.forall_mem_cons.mp r2
  obtain ⟨rx, rr⟩ := List.forall_mem_cons.mp rr
  have rx' : zR x := rx
  have ry' : zR y := ry
  refine lv_idiv (x := iZ x) (y := iZ y) hx hb hd (fun z => ?_) ?_
  · have := (iZ_eq ry' zR_0).mp (z.trans iZ_0.symm); omega
  · rw [iZ_div rx' h0 hy ry']
    refine h H locs ls r1 (List.forall_mem_cons.mpr ⟨?_, rr⟩) r3 r4 hP hD hS hl
    have h1 : 0 ≤ x / y := Int.ediv_nonneg h0 (by omega)
    have h2 : x / y ≤ x := Int.ediv_le_self y h0
    exact (⟨by omega, by have := rx'.2; omega⟩ : zR (x / y))
theorem zB.irem (B : zB l D k E cc own nL R mc ms rt ini a0 PR Z) (hd : decode cc pc = .ok (.irem, 1)) (h0 : 0 ≤ x) (hy : 0 < y) (h : Z kc ks (pc + 1) lv (.inl (x % y) :: st) ws) : Z kc ks pc lv (.inl y :: .inl x :: st) ws := by
  obtain ⟨p, e, s, m, args, below, meth, c, Q, A, hx, hb, hml, hown, hts, hK, hA, hE, hEs, hin, hri, hrv, rfl⟩ := B
  intro H locs ls r1 r2 r3 r4 hP hD hS hl
  obtain ⟨ry, rr⟩ := List.forall_mem_cons.mp r2
  obtain ⟨rx, rr⟩ := List.forall_mem_cons.mp rr
  have rx' : zR x := rx
  have ry' : zR y := ry
  refine lv_irem (x := iZ x) (y := iZ y) hx hb hd (fun z => ?_) ?_
  · have := (iZ_eq ry' zR_0).mp (z.trans iZ_0.symm); omega
  · rw [iZ_rem rx' h0 hy ry']
    refine h H locs ls r1 (List.forall_mem_cons.mpr ⟨?_, rr⟩) r3 r4 hP hD hS hl
    have h1 : 0 ≤ x % y := Int.emod_nonneg x (by omega)
    have h2 : x % y < y := Int.emod_lt_of_pos x hy
    exact (⟨by omega, by have := ry'.2; omega⟩ : zR (x % y))
/-- a quotient, a rest of any ints by a divisor that is no 0: some int -/
theorem zB.idivw (B : zB l D k E cc own nL R mc ms rt ini a0 PR Z) (hd : decode cc pc = .ok (.idiv, 1)) (hy : y ≠ 0) (h : ∀ r : Int, zR r → (0 ≤ x → 0 < y → r = x / y) → Z kc ks (pc + 1) lv (.inl r :: st) ws) : Z kc ks pc lv (.inl y :: .inl x :: st) ws := by
  obtain ⟨p, e, s, m, args, below, meth, c, Q, A, hx, hb, hml, hown, hts, hK, hA, hE, hEs, hin, hri, hrv, rfl⟩ := B
  intro H locs ls r1 r2 r3 r4 hP hD hS hl
  obtain ⟨ry, rr⟩ := List.forall_mem_cons.mp r2
  obtain ⟨rx, rr⟩ := List.forall_mem_cons.mp rr
  have rx' : zR x := rx
  have ry' : zR y := ry
  refine lv_idiv (x := iZ x) (y := iZ y) hx hb hd (fun z => ?_) ?_
  · exact hy ((iZ_eq ry' zR_0).mp (z.trans iZ_0.symm))
  · rw [← iZ_of (iZ x / iZ y)]
    refine h _ (zR_of _) (fun q1 q2 => ?_) H locs ls r1 (List.forall_mem_cons.mpr ⟨zR_of _, rr⟩) r3 r4 hP hD hS hl
    rw [iZ_div rx' q1 q2 ry']
    have h1 : 0 ≤ x / y := Int.ediv_nonneg q1 (by omega)
    have h2 : x / y ≤ x := Int.ediv_le_self y q1
    exact iZ_toInt ⟨by omega, by have := rx'.2; omega⟩
theorem zB.iremw (B : zB l D k E cc own nL R mc ms rt ini a0 PR Z) (hd : decode cc pc = .ok (.irem, 1)) (hy : y ≠ 0) (h : ∀ r : Int, zR r → (0 ≤ x → 0 < y → r = x % y) → Z kc ks (pc + 1) lv (.inl r :: st) ws) : Z kc ks pc lv (.inl y :: .inl x :: st) ws := by
  obtain ⟨p, e, s, m, args, below, meth, c, Q, A, hx, hb, hml, hown, hts, hK, hA, hE, hEs, hin, hri, hrv, rfl⟩ := B
  intro H locs ls r1 r2 r3 r4 hP hD hS hl
  obtain ⟨ry, rr⟩ := List.forall_mem_cons.mp r2
  obtain ⟨rx, rr⟩ := List.forall_mem_cons.mp rr
  have rx' : zR x := rx
  have ry' : zR y := ry
  refine lv_irem (x := iZ x) (y := iZ y) hx hb hd (fun z => ?_) ?_
  · exact hy ((iZ_eq ry' zR_0).mp (z.trans iZ_0.symm))
  · rw [← iZ_of (iZ x - iZ x / iZ y * iZ y)]
    refine h _ (zR_of _) (fun q1 q2 => ?_) H locs ls r1 (List.forall_mem_cons.mpr ⟨zR_of _, rr⟩) r3 r4 hP hD hS hl
    rw [iZ_rem rx' q1 q2 ry']
    have h1 : 0 ≤ x % y := Int.emod_nonneg x (by omega)
    have h2 : x % y < y := Int.emod_lt_of_pos x q2
    exact iZ_toInt ⟨by omega, by have := ry'.2; omega⟩
-- the stack
theorem zB.dup (B : zB l D k E cc own nL R mc ms rt ini a0 PR Z) {v : zV} (hd : decode cc pc = .ok (.dup, 1)) (h : Z kc ks (pc + 1) lv (v :: v :: st) ws) : Z kc ks pc lv (v :: st) ws := by
  obtain ⟨p, e, s, m, args, below, meth, c, Q, A, hx, hb, hml, hown, hts, hK, hA, hE, hEs, hin, hri, hrv, rfl⟩ := B
  intro H locs ls r1 r2 r3 r4 hP hD hS hl
  exact lv_dup (va := zv v) hx hb hd (zcat v) (h H locs ls r1 (List.forall_mem_cons.mpr ⟨r2 v List.mem_cons_self, r2⟩) r3 r4 hP hD hS hl)
theorem zB.pop (B : zB l D k E cc own nL R mc ms rt ini a0 PR Z) {v : zV} (hd : decode cc pc = .ok (.pop, 1)) (h : Z kc ks (pc + 1) lv st ws) : Z kc ks pc lv (v :: st) ws := by
  obtain ⟨p, e, s, m, args, below, meth, c, Q, A, hx, hb, hml, hown, hts, hK, hA, hE, hEs, hin, hri, hrv, rfl⟩ := B
  intro H locs ls r1 r2 r3 r4 hP hD hS hl
  exact lv_pop (va := zv v) hx hb hd (zcat v) (h H locs ls r1 (List.forall_mem_cons.mp r2).2 r3 r4 hP hD hS hl)
theorem zB.dup2 (B : zB l D k E cc own nL R mc ms rt ini a0 PR Z) {v w : zV} (hd : decode cc pc = .ok (.dup2, 1)) (h : Z kc ks (pc + 1) lv (v :: w :: v :: w :: st) ws) : Z kc ks pc lv (v :: w :: st) ws := by
  obtain ⟨p, e, s, m, args, below, meth, c, Q, A, hx, hb, hml, hown, hts, hK, hA, hE, hEs, hin, hri, hrv, rfl⟩ := B
  intro H locs ls r1 r2 r3 r4 hP hD hS hl
  exact lv_dup2_11 (va := zv v) (vb := zv w) hx hb hd (zcat v) (zcat w) (h H locs ls r1 (List.forall_mem_cons.mpr ⟨r2 v List.mem_cons_self, List.forall_mem_cons.mpr ⟨r2 w (List.mem_cons_of_mem _ List.mem_cons_self), r2⟩⟩) r3 r4 hP hD hS hl)
-- jumps
theorem zB.goto (B : zB l D k E cc own nL R mc ms rt ini a0 PR Z) {off : Int} {tgt : Nat} (hd : decode cc pc = .ok (.goto off, 3)) (ht : (pc : Int) + off = (tgt : Int)) (h : Z kc ks tgt lv st ws) : Z kc ks pc lv st ws := by
  obtain ⟨p, e, s, m, args, below, meth, c, Q, A, hx, hb, hml, hown, hts, hK, hA, hE, hEs, hin, hri, hrv, rfl⟩ := B
  intro H locs ls r1 r2 r3 r4 hP hD hS hl
  exact lv_goto hx hb hd ht (h H locs ls r1 r2 r3 r4 hP hD hS hl)
theorem zB.icmp_eq (B : zB l D k E cc own nL R mc ms rt ini a0 PR Z) {off : Int} {tgt : Nat} (hd : decode cc pc = .ok (.if_icmp .eq off, 3)) (ht : (pc : Int) + off = (tgt : Int)) (kt : x = y → Z kc ks tgt lv st ws) (kf : ¬ x = y → Z kc ks (pc + 3) lv st ws) : Z kc ks pc lv (.inl y :: .inl x :: st) ws := by
  obtain ⟨p, e, s, m, args, below, meth, c, Q, A, hx, hb, hml, hown, hts, hK, hA, hE, hEs, hin, hri, hrv, rfl⟩ := B
  intro H locs ls r1 r2 r3 r4 hP hD hS hl
  obtain ⟨ry, rr⟩ := List.forall_mem_cons.mp r2
  obtain ⟨rx, rr⟩ := List.forall_mem_cons.mp rr
  have rx : zR x := rx
  have ry : zR y := ry
  refine lv_icmp_eq (x := iZ x) (y := iZ y) hx hb hd ht (fun q => ?_) (fun q => ?_)
  · exact kt ((iZ_eq rx ry).mp q) H locs ls r1 rr r3 r4 hP hD hS hl
  · exact kf (fun z => q ((iZ_eq rx ry).mpr z)) H locs ls r1 rr r3 r4 hP hD hS hl
theorem zB.icmp_ne (B : zB l D k E cc own nL R mc ms rt ini a0 PR Z) {off : Int} {tgt : Nat} (hd : decode cc pc = .ok (.if_icmp .ne off, 3)) (ht : (pc : Int) + off = (tgt : Int)) (kt : x ≠ y → Z kc ks tgt lv st ws) (kf : x = y → Z kc ks (pc + 3) lv st ws) : Z kc ks pc lv (.inl y :: .inl x :: st) ws := by
  obtain ⟨p, e, s, m, args, below, meth, c, Q, A, hx, hb, hml, hown, hts, hK, hA, hE, hEs, hin, hri, hrv, rfl⟩ := B
  intro H locs ls r1 r2 r3 r4 hP hD hS hl
  obtain ⟨ry, rr⟩ := List.forall_mem_cons.mp r2
  obtain ⟨rx, rr⟩ := List.forall_mem_cons.mp rr
  have rx : zR x := rx
  have ry : zR y := ry
  refine lv_icmp_ne (x := iZ x) (y := iZ y) hx hb hd ht (fun q => ?_) (fun q => ?_)
  · exact kt (fun z => q ((iZ_eq rx ry).mpr z)) H locs ls r1 rr r3 r4 hP hD hS hl
  · exact kf ((iZ_eq rx ry).mp (q)) H locs ls r1 rr r3 r4 hP hD hS hl
theorem zB.icmp_lt (B : zB l D k E cc own nL R mc ms rt ini a0 PR Z) {off : Int} {tgt : Nat} (hd : decode cc pc = .ok (.if_icmp .lt off, 3)) (ht : (pc : Int) + off = (tgt : Int)) (kt : x < y → Z kc ks tgt lv st ws) (kf : ¬ x < y → Z kc ks (pc + 3) lv st ws) : Z kc ks pc lv (.inl y :: .inl x :: st) ws := by
  obtain ⟨p, e, s, m, args, below, meth, c, Q, A, hx, hb, hml, hown, hts, hK, hA, hE, hEs, hin, hri, hrv, rfl⟩ := B
  intro H locs ls r1 r2 r3 r4 hP hD hS hl
  obtain ⟨ry, rr⟩ := List.forall_mem_cons.mp r2
  obtain ⟨rx, rr⟩ := List.forall_mem_cons.mp rr
  have rx : zR x := rx
  have ry : zR y := ry
  refine lv_icmp_lt (x := iZ x) (y := iZ y) hx hb hd ht (fun q => ?_) (fun q => ?_)
  · exact kt ((iZ_lt rx ry).mp q) H locs ls r1 rr r3 r4 hP hD hS hl
  · exact kf (fun z => q ((iZ_lt rx ry).mpr z)) H locs ls r1 rr r3 r4 hP hD hS hl
theorem zB.icmp_ge (B : zB l D k E cc own nL R mc ms rt ini a0 PR Z) {off : Int} {tgt : Nat} (hd : decode cc pc = .ok (.if_icmp .ge off, 3)) (ht : (pc : Int) + off = (tgt : Int)) (kt : y ≤ x → Z kc ks tgt lv st ws) (kf : ¬ y ≤ x → Z kc ks (pc + 3) lv st ws) : Z kc ks pc lv (.inl y :: .inl x :: st) ws := by
  obtain ⟨p, e, s, m, args, below, meth, c, Q, A, hx, hb, hml, hown, hts, hK, hA, hE, hEs, hin, hri, hrv, rfl⟩ := B
  intro H locs ls r1 r2 r3 r4 hP hD hS hl
  obtain ⟨ry, rr⟩ := List.forall_mem_cons.mp r2
  obtain ⟨rx, rr⟩ := List.forall_mem_cons.mp rr
  have rx : zR x := rx
  have ry : zR y := ry
  refine lv_icmp_ge (x := iZ x) (y := iZ y) hx hb hd ht (fun q => ?_) (fun q => ?_)
  · exact kt ((iZ_le ry rx).mp q) H locs ls r1 rr r3 r4 hP hD hS hl
  · exact kf (fun z => q ((iZ_le ry rx).mpr z)) H locs ls r1 rr r3 r4 hP hD hS hl
theorem zB.icmp_gt (B : zB l D k E cc own nL R mc ms rt ini a0 PR Z) {off : Int} {tgt : Nat} (hd : decode cc pc = .ok (.if_icmp .gt off, 3)) (ht : (pc : Int) + off = (tgt : Int)) (kt : y < x → Z kc ks tgt lv st ws) (kf : ¬ y < x → Z kc ks (pc + 3) lv st ws) : Z kc ks pc lv (.inl y :: .inl x :: st) ws := by
  obtain ⟨p, e, s, m, args, below, meth, c, Q, A, hx, hb, hml, hown, hts, hK, hA, hE, hEs, hin, hri, hrv, rfl⟩ := B
  intro H locs ls r1 r2 r3 r4 hP hD hS hl
  obtain ⟨ry, rr⟩ := List.forall_mem_cons.mp r2
  obtain ⟨rx, rr⟩ := List.forall_mem_cons.mp rr
  have rx : zR x := rx
  have ry : zR y := ry
  refine lv_icmp_gt (x := iZ x) (y := iZ y) hx hb hd ht (fun q => ?_) (fun q => ?_)
  · exact kt ((iZ_lt ry rx).mp q) H locs ls r1 rr r3 r4 hP hD hS hl
  · exact kf (fun z => q ((iZ_lt ry rx).mpr z)) H locs ls r1 rr r3 r4 hP hD hS hl
theorem zB.icmp_le (B : zB l D k E cc own nL R mc ms rt ini a0 PR Z) {off : Int} {tgt : Nat} (hd : decode cc pc = .ok (.if_icmp .le off, 3)) (ht : (pc : Int) + off = (tgt : Int)) (kt : x ≤ y → Z kc ks tgt lv st ws) (kf : ¬ x ≤ y → Z kc ks (pc + 3) lv st ws) : Z kc ks pc lv (.inl y :: .inl x :: st) ws := by
  obtain ⟨p, e, s, m, args, below, meth, c, Q, A, hx, hb, hml, hown, hts, hK, hA, hE, hEs, hin, hri, hrv, rfl⟩ := B
  intro H locs ls r1 r2 r3 r4 hP hD hS hl
  obtain ⟨ry, rr⟩ := List.forall_mem_cons.mp r2
  obtain ⟨rx, rr⟩ := List.forall_mem_cons.mp rr
  have rx : zR x := rx
  have ry : zR y := ry
  refine lv_icmp_le (x := iZ x) (y := iZ y) hx hb hd ht (fun q => ?_) (fun q => ?_)
  · exact kt ((iZ_le rx ry).mp q) H locs ls r1 rr r3 r4 hP hD hS hl
  · exact kf (fun z => q ((iZ_le rx ry).mpr z)) H locs ls r1 rr r3 r4 hP hD hS hl
theorem zB.if_eq (B : zB l D k E cc own nL R mc ms rt ini a0 PR Z) {off : Int} {tgt : Nat} (hd : decode cc pc = .ok (.ifCond .eq off, 3)) (ht : (pc : Int) + off = (tgt : Int)) (kt : x = 0 → Z kc ks tgt lv st ws) (kf : ¬ x = 0 → Z kc ks (pc + 3) lv st ws) : Z kc ks pc lv (.inl x :: st) ws := by
  obtain ⟨p, e, s, m, args, below, meth, c, Q, A, hx, hb, hml, hown, hts, hK, hA, hE, hEs, hin, hri, hrv, rfl⟩ := B
  intro H locs ls r1 r2 r3 r4 hP hD hS hl
  obtain ⟨rx, rr⟩ := List.forall_mem_cons.mp r2
  have rx : zR x := rx
  refine lv_if_eq (x := iZ x) hx hb hd ht (fun q => ?_) (fun q => ?_) <;> rw [← iZ_0] at q
  · exact kt ((iZ_eq rx zR_0).mp q) H locs ls r1 rr r3 r4 hP hD hS hl
  · exact kf (fun z => q ((iZ_eq rx zR_0).mpr z)) H locs ls r1 rr r3 r4 hP hD hS hl
theorem zB.if_ne (B : zB l D k E cc own nL R mc ms rt ini a0 PR Z) {off : Int} {tgt : Nat} (hd : decode cc pc = .ok (.ifCond .ne off, 3)) (ht : (pc : Int) + off = (tgt : Int)) (kt : x ≠ 0 → Z kc ks tgt lv st ws) (kf : x = 0 → Z kc ks (pc + 3) lv st ws) : Z kc ks pc lv (.inl x :: st) ws := by
  obtain ⟨p, e, s, m, args, below, meth, c, Q, A, hx, hb, hml, hown, hts, hK, hA, hE, hEs, hin, hri, hrv, rfl⟩ := B
  intro H locs ls r1 r2 r3 r4 hP hD hS hl
  obtain ⟨rx, rr⟩ := List.forall_mem_cons.mp r2
  have rx : zR x := rx
  refine lv_if_ne (x := iZ x) hx hb hd ht (fun q => ?_) (fun q => ?_) <;> rw [← iZ_0] at q
  · exact kt (fun z => q ((iZ_eq rx zR_0).mpr z)) H locs ls r1 rr r3 r4 hP hD hS hl
  · exact kf ((iZ_eq rx zR_0).mp (q)) H locs ls r1 rr r3 r4 hP hD hS hl
theorem zB.if_lt (B : zB l D k E cc own nL R mc ms rt ini a0 PR Z) {off : Int} {tgt : Nat} (hd : decode cc pc = .ok (.ifCond .lt off, 3)) (ht : (pc : Int) + off = (tgt : Int)) (kt : x < 0 → Z kc ks tgt lv st ws) (kf : ¬ x < 0 → Z kc ks (pc + 3) lv st ws) : Z kc ks pc lv (.inl x :: st) ws := by
  obtain ⟨p, e, s, m, args, below, meth, c, Q, A, hx, hb, hml, hown, hts, hK, hA, hE, hEs, hin, hri, hrv, rfl⟩ := B
  intro H locs ls r1 r2 r3 r4 hP hD hS hl
  obtain ⟨rx, rr⟩ := List.forall_mem_cons.mp r2
  have rx : zR x := rx
  refine lv_if_lt (x := iZ x) hx hb hd ht (fun q => ?_) (fun q => ?_) <;> rw [← iZ_0] at q
  · exact kt ((iZ_lt rx zR_0).mp q) H locs ls r1 rr r3 r4 hP hD hS hl
  · exact kf (fun z => q ((iZ_lt rx zR_0).mpr z)) H locs ls r1 rr r3 r4 hP hD hS hl
theorem zB.if_ge (B : zB l D k E cc own nL R mc ms rt ini a0 PR Z) {off : Int} {tgt : Nat} (hd : decode cc pc = .ok (.ifCond .ge off, 3)) (ht : (pc : Int) + off = (tgt : Int)) (kt : 0 ≤ x → Z kc ks tgt lv st ws) (kf : ¬ 0 ≤ x → Z kc ks (pc + 3) lv st ws) : Z kc ks pc lv (.inl x :: st) ws := by
  obtain ⟨p, e, s, m, args, below, meth, c, Q, A, hx, hb, hml, hown, hts, hK, hA, hE, hEs, hin, hri, hrv, rfl⟩ := B
  intro H locs ls r1 r2 r3 r4 hP hD hS hl
  obtain ⟨rx, rr⟩ := List.forall_mem_cons.mp r2
  have rx : zR x := rx
  refine lv_if_ge (x := iZ x) hx hb hd ht (fun q => ?_) (fun q => ?_) <;> rw [← iZ_0] at q
  · exact kt ((iZ_le zR_0 rx).mp q) H locs ls r1 rr r3 r4 hP hD hS hl
  · exact kf (fun z => q ((iZ_le zR_0 rx).mpr z)) H locs ls r1 rr r3 r4 hP hD hS hl
theorem zB.if_gt (B : zB l D k E cc own nL R mc ms rt ini a0 PR Z) {off : Int} {tgt : Nat} (hd : decode cc pc = .ok (.ifCond .gt off, 3)) (ht : (pc : Int) + off = (tgt : Int)) (kt : 0 < x → Z kc ks tgt lv st ws) (kf : ¬ 0 < x → Z kc ks (pc + 3) lv st ws) : Z kc ks pc lv (.inl x :: st) ws := by
  obtain ⟨p, e, s, m, args, below, meth, c, Q, A, hx, hb, hml, hown, hts, hK, hA, hE, hEs, hin, hri, hrv, rfl⟩ := B
  intro H locs ls r1 r2 r3 r4 hP hD hS hl
  obtain ⟨rx, rr⟩ := List.forall_mem_cons.mp r2
  have rx : zR x := rx
  refine lv_if_gt (x := iZ x) hx hb hd ht (fun q => ?_) (fun q => ?_) <;> rw [← iZ_0] at q
  · exact kt ((iZ_lt zR_0 rx).mp q) H locs ls r1 rr r3 r4 hP hD hS hl
  · exact kf (fun z => q ((iZ_lt zR_0 rx).mpr z)) H locs ls r1 rr r3 r4 hP hD hS hl
theorem zB.if_le (B : zB l D k E cc own nL R mc ms rt ini a0 PR Z) {off : Int} {tgt : Nat} (hd : decode cc pc = .ok (.ifCond .le off, 3)) (ht : (pc : Int) + off = (tgt : Int)) (kt : x ≤ 0 → Z kc ks tgt lv st ws) (kf : ¬ x ≤ 0 → Z kc ks (pc + 3) lv st ws) : Z kc ks pc lv (.inl x :: st) ws := by
  obtain ⟨p, e, s, m, args, below, meth, c, Q, A, hx, hb, hml, hown, hts, hK, hA, hE, hEs, hin, hri, hrv, rfl⟩ := B
  intro H locs ls r1 r2 r3 r4 hP hD hS hl
  obtain ⟨rx, rr⟩ := List.forall_mem_cons.mp r2
  have rx : zR x := rx
  refine lv_if_le (x := iZ x) hx hb hd ht (fun q => ?_) (fun q => ?_) <;> rw [← iZ_0] at q
  · exact kt ((iZ_le rx zR_0).mp q) H locs ls r1 rr r3 r4 hP hD hS hl
  · exact kf (fun z => q ((iZ_le rx zR_0).mpr z)) H locs ls r1 rr r3 r4 hP hD hS hl
end ZB
end
section
section ZH
variable {l : Launch} {D : va_G} {k : zK} {E : zE} {cc : ByteArray} {own : String} {nL : Nat} {R : Room} {mc ms : Nat} {rt : Option FieldType} {ini : Prop} {a0 : List Nat} {PR : Int → zW → Prop} {Z : zP}
variable {kc ks pc : Nat} {lv : List (Option zV)} {st : List zV} {ws : zW} {x y : Int}
/-- ranges of what is held -/
theorem zB.rst (B : zB l D k E cc own nL R mc ms rt ini a0 PR Z) (h : zR x → Z kc ks pc lv (.inl x :: st) ws) : Z kc ks pc lv (.inl x :: st) ws := by
  obtain ⟨p, e, s, m, args, below, meth, c, Q, A, hx, hb, hml, hown, hts, hK, hA, hE, hEs, hin, hri, hrv, rfl⟩ := B
  intro H locs ls r1 r2 r3 r4 hP hD hS hl
  exact h (r2 _ List.mem_cons_self) H locs ls r1 r2 r3 r4 hP hD hS hl
theorem zB.rlv (B : zB l D k E cc own nL R mc ms rt ini a0 PR Z) (i : Nat) (hi : lv[i]? = some (some (.inl x))) (h : zR x → Z kc ks pc lv st ws) : Z kc ks pc lv st ws := by
  obtain ⟨p, e, s, m, args, below, meth, c, Q, A, hx, hb, hml, hown, hts, hK, hA, hE, hEs, hin, hri, hrv, rfl⟩ := B
  intro H locs ls r1 r2 r3 r4 hP hD hS hl
  exact h (r3 i _ hi) H locs ls r1 r2 r3 r4 hP hD hS hl
theorem zB.rws (B : zB l D k E cc own nL R mc ms rt ini a0 PR Z) (h : zWr ws → Z kc ks pc lv st ws) : Z kc ks pc lv st ws := by
  obtain ⟨p, e, s, m, args, below, meth, c, Q, A, hx, hb, hml, hown, hts, hK, hA, hE, hEs, hin, hri, hrv, rfl⟩ := B
  intro H locs ls r1 r2 r3 r4 hP hD hS hl
  exact h r1 H locs ls r1 r2 r3 r4 hP hD hS hl
/-- fewer cells counted is more -/
theorem zB.widen (B : zB l D k E cc own nL R mc ms rt ini a0 PR Z) {kc' ks' : Nat} (h1 : kc ≤ kc') (h2 : ks ≤ ks') (h : Z kc' ks' pc lv st ws) : Z kc ks pc lv st ws := by
  obtain ⟨p, e, s, m, args, below, meth, c, Q, A, hx, hb, hml, hown, hts, hK, hA, hE, hEs, hin, hri, hrv, rfl⟩ := B
  intro H locs ls r1 r2 r3 r4 hP hD hS hl
  exact W.widen h1 h2 (h H locs ls r1 r2 r3 r4 hP hD hS hl)
-- fields
theorem zB.getfield (B : zB l D k E cc own nL R mc ms rt ini a0 PR Z) {a index ci N : Nat} {C : String} {T : u_T} {fs : List zV} {v : zV} (i : Nat) (hi : ws[i]? = some (a, .inr (.inr (ci, fs)))) (hc : vwCl[ci]? = some (C, T, N)) (hin : ∀ w ∈ u_ws C T N, w ∈ zTs) (j : Nat) (hj : j < N) (hlink : Cond.fieldLink own index (T j).1 (T j).2.1 (T j).2.2.1 ∈ zTs) (hv : fs[j]? = some v) (hd : decode cc pc = .ok (.getfield index, 3))
    (h : Z kc ks (pc + 3) lv (v :: st) ws) : Z kc ks pc lv (.inr (some a) :: st) ws := by
  obtain ⟨p, e, s, m, args, below, meth, c, Q, A, hx, hb, hml, hown, hts, hK, hA, hE, hEs, hin0, hri, hrv, rfl⟩ := B
  intro H locs ls r1 r2 r3 r4 hP hD hS hl
  refine va_get (D := D) (v := zv v) hx hb hts hin hown hK hP i (zw_at hi) hc j hj (hts _ hlink) (fun _ q => q) (by rw [List.getElem?_map, hv]; rfl) hd ?_
  exact h H locs ls r1 (List.forall_mem_cons.mpr ⟨zWr_at r1 hi v (List.mem_of_getElem? hv), (List.forall_mem_cons.mp r2).2⟩) r3 r4 hP hD hS hl
theorem zCr_fs {ci j : Nat} {fs : List zV} {v : zV} (h : zCr (.inr (.inr (ci, fs)))) (hv : zVr v) : zCr (.inr (.inr (ci, fs.set j v))) := by
  intro q hq
  rcases List.mem_or_eq_of_mem_set hq with h1 | h1
  · exact h q h1
  · rw [h1]; exact hv
theorem zB.putfield (B : zB l D k E cc own nL R mc ms rt ini a0 PR Z) {a index ci N : Nat} {C : String} {T : u_T} {fs : List zV} {v : zV} (i : Nat) (hi : ws[i]? = some (a, .inr (.inr (ci, fs)))) (hc : vwCl[ci]? = some (C, T, N)) (hin : ∀ w ∈ u_ws C T N, w ∈ zTs) (ty0 : Nat → FieldType) (hty : ∀ k, k < N → parseFieldDescriptor (T k).2.2.1 = some (ty0 k)) (hnm : ∀ a, a < N → ∀ b, b < N → a ≠ b → (T a).2.1 ≠ (T b).2.1) (j : Nat) (hj : j < N) (hlink : Cond.fieldLink own index (T j).1 (T j).2.1 (T j).2.2.1 ∈ zTs) (hf : (T j).2.2.2 = false) (hn : narrow (ty0 j) (zv v) = zv v) (hfit : fits (ty0 j) (zv v) = true) (hl0 : j < fs.length) (hd : decode cc pc = .ok (.putfield index, 3))
    (h : Z kc ks (pc + 3) lv st (ws.set i (a, .inr (.inr (ci, fs.set j v))))) : Z kc ks pc lv (v :: .inr (some a) :: st) ws := by
  obtain ⟨p, e, s, m, args, below, meth, c, Q, A, hx, hb, hml, hown, hts, hK, hA, hE, hEs, hin0, hri, hrv, rfl⟩ := B
  intro H locs ls r1 r2 r3 r4 hP hD hS hl
  obtain ⟨rv, rr⟩ := List.forall_mem_cons.mp r2
  refine va_put (D := D) (v := zv v) hx hb hts hin ty0 hty hnm hown hK hP hD hS i (zw_at hi) hc j hj (hts _ hlink) (fun _ q => q) hf (hty j hj) hn hfit (by rw [List.length_map]; exact hl0) hd (fun H1 locs1 hP1 hD1 hS1 => ?_)
  have e2 : (zw k ws).set i (a, .inr (ci, (fs.map zv).set j (zv v))) = zw k (ws.set i (a, .inr (.inr (ci, fs.set j v)))) := by
    rw [← zw_set]; simp [zc, List.map_set]
  rw [e2] at hP1 hD1
  exact h H1 locs1 ls (zWr_set r1 (zCr_fs (zWr_at r1 hi) rv)) (List.forall_mem_cons.mp rr).2 r3 (by rw [zfst_set hi]; exact r4) hP1 hD1 hS1 hl
theorem zB.putfieldF (B : zB l D k E cc own nL R mc ms rt ini a0 PR Z) (hini : ini) {a index ci N : Nat} {C : String} {T : u_T} {fs : List zV} {v : zV} (i : Nat) (hi : ws[i]? = some (a, .inr (.inr (ci, fs)))) (hc : vwCl[ci]? = some (C, T, N)) (hin : ∀ w ∈ u_ws C T N, w ∈ zTs) (ty0 : Nat → FieldType) (hty : ∀ k, k < N → parseFieldDescriptor (T k).2.2.1 = some (ty0 k)) (hnm : ∀ a, a < N → ∀ b, b < N → a ≠ b → (T a).2.1 ≠ (T b).2.1) (j : Nat) (hj : j < N) (hlink : Cond.fieldLink own index (T j).1 (T j).2.1 (T j).2.2.1 ∈ zTs) (hf : (T j).2.2.2 = true) (hdecl : (T j).1 = own) (hn : narrow (ty0 j) (zv v) = zv v) (hfit : fits (ty0 j) (zv v) = true) (hl0 : j < fs.length) (hd : decode cc pc = .ok (.putfield index, 3))
    (h : Z kc ks (pc + 3) lv st (ws.set i (a, .inr (.inr (ci, fs.set j v))))) : Z kc ks pc lv (v :: .inr (some a) :: st) ws := by
  obtain ⟨p, e, s, m, args, below, meth, c, Q, A, hx, hb, hml, hown, hts, hK, hA, hE, hEs, hin0, hri, hrv, rfl⟩ := B
  intro H locs ls r1 r2 r3 r4 hP hD hS hl
  obtain ⟨rv, rr⟩ := List.forall_mem_cons.mp r2
  refine va_putF (D := D) (v := zv v) hx hb hts hin ty0 hty hnm hown hK hP hD hS i (zw_at hi) hc j hj (hts _ hlink) (fun _ q => q) hf (hin0 hini) hdecl (hty j hj) hn hfit (by rw [List.length_map]; exact hl0) hd (fun H1 locs1 hP1 hD1 hS1 => ?_)
  have e2 : (zw k ws).set i (a, .inr (ci, (fs.map zv).set j (zv v))) = zw k (ws.set i (a, .inr (.inr (ci, fs.set j v)))) := by
    rw [← zw_set]; simp [zc, List.map_set]
  rw [e2] at hP1 hD1
  exact h H1 locs1 ls (zWr_set r1 (zCr_fs (zWr_at r1 hi) rv)) (List.forall_mem_cons.mp rr).2 r3 (by rw [zfst_set hi]; exact r4) hP1 hD1 hS1 hl
-- arrays of ints
theorem zB.iaload (B : zB l D k E cc own nL R mc ms rt ini a0 PR Z) {a n : Nat} {g : Nat → Int} (i : Nat) (hi : ws[i]? = some (a, .inl (false, n, g))) (h0 : 0 ≤ x) (h1 : x < n) (hd : decode cc pc = .ok (.iaload, 1))
    (h : zR (g x.toNat) → Z kc ks (pc + 1) lv (.inl (g x.toNat) :: st) ws) : Z kc ks pc lv (.inl x :: .inr (some a) :: st) ws := by
  obtain ⟨p, e, s, m, args, below, meth, c, Q, A, hx, hb, hml, hown, hts, hK, hA, hE, hEs, hin0, hri, hrv, rfl⟩ := B
  intro H locs ls r1 r2 r3 r4 hP hD hS hl
  obtain ⟨rx, rr⟩ := List.forall_mem_cons.mp r2
  have rx : zR x := rx
  refine va_iald (D := D) hx hb hK hP i 0 (zw_at hi) rfl (iZ_in rx h0 h1) hd ?_
  rw [iZ_nat rx h0]
  have hg := zWr_at r1 hi x.toNat
  exact h hg H locs ls r1 (List.forall_mem_cons.mpr ⟨hg, (List.forall_mem_cons.mp rr).2⟩) r3 r4 hP hD hS hl
theorem zB.baload (B : zB l D k E cc own nL R mc ms rt ini a0 PR Z) {a n : Nat} {g : Nat → Int} (i : Nat) (hi : ws[i]? = some (a, .inl (true, n, g))) (h0 : 0 ≤ x) (h1 : x < n) (hd : decode cc pc = .ok (.baload, 1))
    (h : zR (g x.toNat) → Z kc ks (pc + 1) lv (.inl (g x.toNat) :: st) ws) : Z kc ks pc lv (.inl x :: .inr (some a) :: st) ws := by
  obtain ⟨p, e, s, m, args, below, meth, c, Q, A, hx, hb, hml, hown, hts, hK, hA, hE, hEs, hin0, hri, hrv, rfl⟩ := B
  intro H locs ls r1 r2 r3 r4 hP hD hS hl
  obtain ⟨rx, rr⟩ := List.forall_mem_cons.mp r2
  have rx : zR x := rx
  refine va_zald (D := D) hx hb hK hP i 1 (zw_at hi) rfl (iZ_in rx h0 h1) hd ?_
  rw [iZ_nat rx h0]
  have hg := zWr_at r1 hi x.toNat
  exact h hg H locs ls r1 (List.forall_mem_cons.mpr ⟨hg, (List.forall_mem_cons.mp rr).2⟩) r3 r4 hP hD hS hl
theorem zB.iastore (B : zB l D k E cc own nL R mc ms rt ini a0 PR Z) {a n : Nat} {g : Nat → Int} (i : Nat) (hi : ws[i]? = some (a, .inl (false, n, g))) (h0 : 0 ≤ x) (h1 : x < n) (hd : decode cc pc = .ok (.iastore, 1))
    (h : Z kc ks (pc + 1) lv st (ws.set i (a, .inl (false, n, zup g x.toNat y)))) : Z kc ks pc lv (.inl y :: .inl x :: .inr (some a) :: st) ws := by
  obtain ⟨p, e, s, m, args, below, meth, c, Q, A, hx, hb, hml, hown, hts, hK, hA, hE, hEs, hin0, hri, hrv, rfl⟩ := B
  intro H locs ls r1 r2 r3 r4 hP hD hS hl
  obtain ⟨ry, rr⟩ := List.forall_mem_cons.mp r2
  obtain ⟨rx, rr⟩ := List.forall_mem_cons.mp rr
  have rx : zR x := rx
  refine va_iast (D := D) hx hb hK hP hD hS i 0 (zw_at hi) rfl (iZ_in rx h0 h1) hd (fun H1 locs1 hP1 hD1 hS1 => ?_)
  rw [iZ_nat rx h0, iZ_upd] at hP1 hD1
  have e2 : (zw k ws).set i (a, zc k (.inl (false, n, zup g x.toNat y))) = zw k (ws.set i (a, .inl (false, n, zup g x.toNat y))) := zw_set
  exact h H1 locs1 ls (zWr_set r1 (zup_r (zWr_at r1 hi) ry)) (List.forall_mem_cons.mp rr).2 r3 (by rw [zfst_set hi]; exact r4) (by rw [← e2]; exact hP1) (by rw [← e2]; exact hD1) hS1 hl
theorem zB.bastore (B : zB l D k E cc own nL R mc ms rt ini a0 PR Z) {a n : Nat} {g : Nat → Int} (i : Nat) (hi : ws[i]? = some (a, .inl (true, n, g))) (h0 : 0 ≤ x) (h1 : x < n) (hy : vp_nar .boolean (iZ y) = iZ y) (hd : decode cc pc = .ok (.bastore, 1))
    (h : Z kc ks (pc + 1) lv st (ws.set i (a, .inl (true, n, zup g x.toNat y)))) : Z kc ks pc lv (.inl y :: .inl x :: .inr (some a) :: st) ws := by
  obtain ⟨p, e, s, m, args, below, meth, c, Q, A, hx, hb, hml, hown, hts, hK, hA, hE, hEs, hin0, hri, hrv, rfl⟩ := B
  intro H locs ls r1 r2 r3 r4 hP hD hS hl
  obtain ⟨ry, rr⟩ := List.forall_mem_cons.mp r2
  obtain ⟨rx, rr⟩ := List.forall_mem_cons.mp rr
  have rx : zR x := rx
  refine va_zast (D := D) hx hb hK hP hD hS i 1 (zw_at hi) rfl (iZ_in rx h0 h1) hd (fun H1 locs1 hP1 hD1 hS1 => ?_)
  rw [iZ_nat rx h0, hy, iZ_upd] at hP1 hD1
  have e2 : (zw k ws).set i (a, zc k (.inl (true, n, zup g x.toNat y))) = zw k (ws.set i (a, .inl (true, n, zup g x.toNat y))) := zw_set
  exact h H1 locs1 ls (zWr_set r1 (zup_r (zWr_at r1 hi) ry)) (List.forall_mem_cons.mp rr).2 r3 (by rw [zfst_set hi]; exact r4) (by rw [← e2]; exact hP1) (by rw [← e2]; exact hD1) hS1 hl
theorem zB.arraylength (B : zB l D k E cc own nL R mc ms rt ini a0 PR Z) {a n : Nat} {g : Nat → Int} (i : Nat) (hi : ws[i]? = some (a, .inl (false, n, g))) (hn : n ≤ 2147483647) (hd : decode cc pc = .ok (.arraylength, 1))
    (h : Z kc ks (pc + 1) lv (.inl (n : Int) :: st) ws) : Z kc ks pc lv (.inr (some a) :: st) ws := by
  obtain ⟨p, e, s, m, args, below, meth, c, Q, A, hx, hb, hml, hown, hts, hK, hA, hE, hEs, hin0, hri, hrv, rfl⟩ := B
  intro H locs ls r1 r2 r3 r4 hP hD hS hl
  exact va_alen (D := D) (v := iZ n) hx hb hK hP i 0 (zw_at hi) (ty := .int) rfl Int32.ofInt_eq_ofNat.symm hd (h H locs ls r1 (List.forall_mem_cons.mpr ⟨(⟨by omega, by omega⟩ : zR n), (List.forall_mem_cons.mp r2).2⟩) r3 r4 hP hD hS hl)
-- returns
theorem zB.ireturn (B : zB l D k E cc own nL R mc ms rt ini a0 PR Z) (hrt : rt ≠ none) (hd : decode cc pc = .ok (.ireturn, 1)) (h1 : kc ≤ mc) (h2 : ks ≤ ms) (h : zR x → zWr ws → PR x ws) : Z kc ks pc lv [.inl x] ws := by
  obtain ⟨p, e, s, m, args, below, meth, c, Q, A, hx, hb, hml, hown, hts, hK, hA, hE, hEs, hin0, hri, hrv, rfl⟩ := B
  intro H locs ls r1 r2 r3 r4 hP hD hS hl
  have rx := r2 _ List.mem_cons_self
  exact W.widen h1 h2 (hri H locs ls pc x ws hrt hd rx r1 r4 (h rx r1) hP hD hS)
theorem zB.vreturn (B : zB l D k E cc own nL R mc ms rt ini a0 PR Z) (hrt : rt = none) (hd : decode cc pc = .ok (.return_, 1)) (h1 : kc ≤ mc) (h2 : ks ≤ ms) (h : zWr ws → PR 0 ws) : Z kc ks pc lv [] ws := by
  obtain ⟨p, e, s, m, args, below, meth, c, Q, A, hx, hb, hml, hown, hts, hK, hA, hE, hEs, hin0, hri, hrv, rfl⟩ := B
  intro H locs ls r1 r2 r3 r4 hP hD hS hl
  exact W.widen h1 h2 (hrv H locs ls pc ws hrt hd r1 r4 (h r1) hP hD hS)
end ZH
end
section
/-! CONTRACTS over plain worlds, how a walk gives one, how a call takes one -/
def zPre (D : va_G) (k : zK) (E : zE) (av : List zV) (wc : zW) (sz : Nat) : Array Value → State → Prop := va_Pc (av.map zv) (fun U => U.heap.size = sz ∧ va_P D vwCl (zw k wc) U.heap ∧ va_K D vwCl (zty k) U ∧ va_D (fun _ => True) (zw k wc) ∧ E (va_A (zw k wc) sz) U U.heap)
def zQi (D : va_G) (k : zK) (wc : zW) (sz : Nat) (Po : Int → zW → Prop) : Array Value → State → Outcome → State → Prop := va_Qi (fun (r : Int32) (u : zW) => ∃ z : Int, r = iZ z ∧ zR z ∧ zWr u ∧ wc.map Prod.fst <+: u.map Prod.fst ∧ Po z u) (fun u t => va_P D vwCl (zw k u) t.heap ∧ va_D (va_A (zw k wc) sz) (zw k u)) (va_A (zw k wc) sz)
def zQv (D : va_G) (k : zK) (wc : zW) (sz : Nat) (Po : Int → zW → Prop) : Array Value → State → Outcome → State → Prop := va_Qv (fun (u : zW) => zWr u ∧ wc.map Prod.fst <+: u.map Prod.fst ∧ Po 0 u) (fun u t => va_P D vwCl (zw k u) t.heap ∧ va_D (va_A (zw k wc) sz) (zw k u)) (va_A (zw k wc) sz)
/-- a method that answers an int (a boolean): Pre of arguments and cells, Post of arguments, cells, answer, cells behind it -/
def zMi (l : Launch) (D : va_G) (k : zK) (E : zE) (y : MethodName) (b : ByteArray) (n : Nat) (rt : FieldType) (rm : Room) (mc ms : Nat) (av : List zV) (wc : zW) (P : Prop) (Po : Int → zW → Prop) : Prop :=
  ∀ (sz : Nat), zWr wc → (∀ v ∈ av, zVr v) → P → Met l y (Cond.code y b n (some rt) :: zTs) rm (zPre D k E av wc sz) (zQi D k wc sz Po) mc ms (va_A (zw k wc) sz)
def zMv (l : Launch) (D : va_G) (k : zK) (E : zE) (y : MethodName) (b : ByteArray) (n : Nat) (rm : Room) (mc ms : Nat) (av : List zV) (wc : zW) (P : Prop) (Po : Int → zW → Prop) : Prop :=
  ∀ (sz : Nat), zWr wc → (∀ v ∈ av, zVr v) → P → Met l y (Cond.code y b n none :: zTs) rm (zPre D k E av wc sz) (zQv D k wc sz Po) mc ms (va_A (zw k wc) sz)
/-- locals at the entry -/
def zlv (n : Nat) (av : List zV) : List (Option zV) := av.map some ++ List.replicate (n - av.length) none
theorem zsl_len (av : List zV) : (lg_sl (av.map zv)).length = av.length := by
  induction av with
  | nil => rfl
  | cons v av ih =>
    have h : ¬ (zv v).category = 2 := by rw [zcat]; decide
    simp only [lg_sl, List.map_cons, List.flatMap_cons, if_neg h, List.length_append, List.length_cons, List.length_nil] at ih ⊢
    omega
theorem zargs_mem (av : List zV) : ∀ (j i : Nat) (v : zV), av[i]? = some v → (j + i, zv v) ∈ lv_args j (av.map zv) := by
  induction av with
  | nil => intro j i v h; simp at h
  | cons w av ih =>
    intro j i v h
    have hc : ¬ (zv w).category = 2 := by rw [zcat]; decide
    simp only [List.map_cons, lv_args, if_neg hc]
    cases i with
    | zero =>
      simp at h
      subst h
      exact List.mem_cons_self
    | succ i =>
      simp at h
      have := ih (j + 1) i v h
      rw [show j + (i + 1) = j + 1 + i by omega]
      exact List.mem_cons_of_mem _ this
theorem zargs_cat (av : List zV) : ∀ (j : Nat), ∀ q ∈ lv_args j (av.map zv), q.2.category = 1 := by
  induction av with
  | nil => intro j q h; simp [lv_args] at h
  | cons w av ih =>
    intro j q h
    have hc : ¬ (zv w).category = 2 := by rw [zcat]; decide
    simp only [List.map_cons, lv_args, if_neg hc] at h
    rcases List.mem_cons.mp h with rfl | h
    · exact zcat w
    · exact ih _ q h
theorem zlv_at {n i : Nat} {av : List zV} {v : zV} (h : (zlv n av)[i]? = some (some v)) : av[i]? = some v := by
  unfold zlv at h
  by_cases hi : i < av.length
  · rw [List.getElem?_append_left (by simpa using hi), List.getElem?_map] at h
    cases hv : av[i]? with
    | none => rw [hv] at h; cases h
    | some w => rw [hv] at h; simp at h; rw [h]
  · rw [List.getElem?_append_right (by simpa using hi), List.getElem?_replicate] at h
    split at h <;> simp at h
theorem zL_entry {n : Nat} (av : List zV) (h : av.length ≤ n) : zL ((lg_sl (av.map zv) ++ List.replicate (n - (lg_sl (av.map zv)).length) Slot.unset).toArray) n (zlv n av) := by
  refine ⟨lv_args 0 (av.map zv), lv_entry (av.map zv) (by rw [zsl_len]; exact h), zargs_cat av 0, fun i v hi => ?_⟩
  have := zargs_mem av 0 i v (zlv_at hi)
  rwa [Nat.zero_add] at this
theorem zMi.of {l : Launch} {D : va_G} {k : zK} {E : zE} {y : MethodName} {b : ByteArray} {n : Nat} {rt : FieldType} {rm : Room} {mc ms : Nat} {av : List zV} {wc : zW} {P : Prop} {Po : Int → zW → Prop} (own : String) (hE : zEok E) (hy : plainName y.cls = true) (ho : y.cls = own)
    (hlen : av.length ≤ n) (hnar : ∀ z u, P → Po z u → narrow rt (.int (iZ z)) = .int (iZ z))
    (walk : ∀ Z, P → (∀ v ∈ av, zVr v) → zWr wc → zB l D k E b own n rm mc ms (some rt) False (wc.map Prod.fst) Po Z → Z 0 0 0 (zlv n av) [] wc) : zMi l D k E y b n rt rm mc ms av wc P Po := by
  intro sz hr hav hpre
  refine Met.ofW (cc := b) (maxL := n) (ret := some rt) hy rfl ?_
  intro p e s m args below meth c s₁ Bd hml hv
  obtain ⟨rfl, hsz, hP, hK, hD0, hEs⟩ := hv
  have hx := Bd.exec
  have hb := Bd.bytes
  have hrt := Bd.returns
  have hts0 := atoms_spec (ws := Cond.code y b n (some rt) :: zTs) Bd.pre
  have hown : s.vm.findClass own = some m.cls := ho ▸ findClass_of_methodNamed Bd.named
  have hlocks := Bd.notSynchronized
  subst hsz
  have hD := hD0.self (sz := s.heap.size)
  rw [lg_entry_eq]
  refine walk (zS p l e rm s m (av.map zv).toArray below meth c (MQ below (zQi D k wc s.heap.size Po) (av.map zv).toArray s mc ms (va_A (zw k wc) s.heap.size)) (va_A (zw k wc) s.heap.size) D k n (wc.map Prod.fst)) hpre hav hr
    ⟨p, e, s, m, (av.map zv).toArray, below, meth, c, (MQ below (zQi D k wc s.heap.size Po) (av.map zv).toArray s mc ms (va_A (zw k wc) s.heap.size)), va_A (zw k wc) s.heap.size, hx, hb, hml, hown, fun w hw => hts0 w (List.mem_cons_of_mem _ hw), hK, fun q h => Or.inr h, hE, hEs, fun h => h.elim, ?_, fun _ _ _ _ _ h => absurd h (Option.some_ne_none _), rfl⟩ s.heap [] _ hr (fun _ h => by cases h) (fun i v hi => hav v (List.mem_of_getElem? (zlv_at hi))) (List.prefix_refl _) hP hD va_S.rf (zL_entry av hlen)
  intro H locs ls pc z ws _ hd rz rw0 ra hPR hP1 hD1 hS1
  exact W.zret (v := iZ z) hx hb hrt (hnar z ws hpre hPR) (fun t ht hW => ⟨⟨iZ z, ws, rfl, ⟨z, rfl, rz, rw0, ra, hPR⟩, by rw [ht]; exact hP1, hD1⟩, hS1.F ht⟩) hS1.2.2 hd
theorem zMv.of {l : Launch} {D : va_G} {k : zK} {E : zE} {y : MethodName} {b : ByteArray} {n : Nat} {rm : Room} {mc ms : Nat} {av : List zV} {wc : zW} {P : Prop} {Po : Int → zW → Prop} (own : String) (hE : zEok E) (hy : plainName y.cls = true) (ho : y.cls = own)
    (hlen : av.length ≤ n)
    (walk : ∀ Z, P → (∀ v ∈ av, zVr v) → zWr wc → zB l D k E b own n rm mc ms none (y.name = "<init>") (wc.map Prod.fst) Po Z → Z 0 0 0 (zlv n av) [] wc) : zMv l D k E y b n rm mc ms av wc P Po := by
  intro sz hr hav hpre
  refine Met.ofW (cc := b) (maxL := n) (ret := none) hy rfl ?_
  intro p e s m args below meth c s₁ Bd hml hv
  obtain ⟨rfl, hsz, hP, hK, hD0, hEs⟩ := hv
  have hx := Bd.exec
  have hb := Bd.bytes
  have hrt := Bd.returns
  have hts0 := atoms_spec (ws := Cond.code y b n none :: zTs) Bd.pre
  have hown : s.vm.findClass own = some m.cls := ho ▸ findClass_of_methodNamed Bd.named
  have hlocks := Bd.notSynchronized
  subst hsz
  have hD := hD0.self (sz := s.heap.size)
  rw [lg_entry_eq]
  refine walk (zS p l e rm s m (av.map zv).toArray below meth c (MQ below (zQv D k wc s.heap.size Po) (av.map zv).toArray s mc ms (va_A (zw k wc) s.heap.size)) (va_A (zw k wc) s.heap.size) D k n (wc.map Prod.fst)) hpre hav hr
    ⟨p, e, s, m, (av.map zv).toArray, below, meth, c, (MQ below (zQv D k wc s.heap.size Po) (av.map zv).toArray s mc ms (va_A (zw k wc) s.heap.size)), va_A (zw k wc) s.heap.size, hx, hb, hml, hown, fun w hw => hts0 w (List.mem_cons_of_mem _ hw), hK, fun q h => Or.inr h, hE, hEs, fun h => (name_of_methodNamed Bd.named Bd.method).1.trans h, fun _ _ _ _ _ _ h => absurd rfl h, ?_, rfl⟩ s.heap [] _ hr (fun _ h => by cases h) (fun i v hi => hav v (List.mem_of_getElem? (zlv_at hi))) (List.prefix_refl _) hP hD va_S.rf (zL_entry av hlen)
  intro H locs ls pc ws _ hd rw0 ra hPR hP1 hD1 hS1
  exact W.vret hx hb hrt (fun t ht hW => ⟨⟨ws, rfl, ⟨rw0, ra, hPR⟩, by rw [ht]; exact hP1, hD1⟩, hS1.F ht⟩) hS1.2.2 hd
-- what a call leaves
theorem zput_len : ∀ (is : List Nat) (ws u : zW), is.length ≤ u.length → (zput ws is u).length = ws.length + (u.length - is.length)
  | [], ws, u, _ => by simp [zput]
  | i :: is, ws, [], h => by simp at h
  | i :: is, ws, c :: u, h => by
    rw [zput, zput_len is (ws.set i c) u (by simpa using h)]
    simp
theorem zput_out : ∀ (is : List Nat) (ws u : zW) (j : Nat), j < ws.length → j ∉ is → (zput ws is u)[j]? = ws[j]?
  | [], ws, u, j, hj, _ => by rw [zput, List.getElem?_append_left hj]
  | i :: is, ws, [], j, hj, _ => by rw [zput]
  | i :: is, ws, c :: u, j, hj, hn => by
    rw [zput, zput_out is (ws.set i c) u j (by simpa using hj) (fun h => hn (List.mem_cons_of_mem _ h))]
    exact List.getElem?_set_ne (fun h => hn (by rw [h]; exact List.mem_cons_self))
theorem zput_in : ∀ (is : List Nat) (ws u : zW) (r i : Nat), va_nd is = true → is.length ≤ u.length → is[r]? = some i → i < ws.length → (zput ws is u)[i]? = u[r]?
  | [], ws, u, r, i, _, _, h, _ => by simp at h
  | j :: is, ws, [], r, i, _, h, _, _ => by simp at h
  | j :: is, ws, c :: u, r, i, hn, hl, h, hi => by
    simp only [va_nd, Bool.and_eq_true, decide_eq_true_eq] at hn
    rw [zput]
    cases r with
    | zero =>
      simp at h
      subst h
      rw [zput_out is (ws.set j c) u j (by simpa using hi) hn.1]
      simp [hi]
    | succ r =>
      simp at h
      rw [zput_in is (ws.set j c) u r i hn.2 (by simpa using hl) h (by simpa using hi)]
      simp
theorem zput_new : ∀ (is : List Nat) (ws u : zW) (j : Nat), is.length ≤ u.length → (zput ws is u)[ws.length + j]? = u[is.length + j]?
  | [], ws, u, j, _ => by rw [zput, List.getElem?_append_right (by omega)]; simp
  | i :: is, ws, [], j, h => by simp at h
  | i :: is, ws, c :: u, j, h => by
    have := zput_new is (ws.set i c) u j (by simpa using h)
    rw [List.length_set] at this
    rw [zput, this, List.length_cons, show is.length + 1 + j = (is.length + j) + 1 by omega]
    simp
end
section
theorem zw_get {k : zK} {ws : zW} {i : Nat} {q : Nat × va_E} (h : (zw k ws)[i]? = some q) : ∃ x : zC, ws[i]? = some (q.1, x) ∧ q.2 = zc k x := by
  rw [zw, List.getElem?_map] at h
  cases hw : ws[i]? with
  | none => rw [hw] at h; cases h
  | some r =>
    rw [hw] at h
    simp at h
    subst h
    exact ⟨r.2, rfl, rfl⟩
theorem zsub_at {ws wc : zW} {is : List Nat} (h : is.map (fun i => ws[i]?) = wc.map some) {r : Nat} {q : Nat × zC} (hr : wc[r]? = some q) : ∃ i, is[r]? = some i ∧ ws[i]? = some q := by
  have h1 : (is.map (fun i => ws[i]?))[r]? = some (some q) := by rw [h, List.getElem?_map, hr]; rfl
  rw [List.getElem?_map] at h1
  cases hi : is[r]? with
  | none => rw [hi] at h1; cases h1
  | some i => rw [hi] at h1; exact ⟨i, rfl, Option.some.inj h1⟩
theorem zsub_len {ws wc : zW} {is : List Nat} (h : is.map (fun i => ws[i]?) = wc.map some) : is.length = wc.length := by
  have := congrArg List.length h
  simpa using this
theorem zsub_zw {k : zK} {ws wc : zW} {is : List Nat} (h : is.map (fun i => ws[i]?) = wc.map some) : is.map (fun i => (zw k ws)[i]?) = (zw k wc).map some := by
  have e : ∀ i : Nat, (zw k ws)[i]? = (ws[i]?).map (fun q : Nat × zC => (q.1, zc k q.2)) := fun i => by rw [zw, List.getElem?_map]
  have h2 := congrArg (List.map (Option.map (fun q : Nat × zC => (q.1, zc k q.2)))) h
  simp only [List.map_map] at h2
  have e1 : is.map (fun i => (zw k ws)[i]?) = is.map (Option.map (fun q : Nat × zC => (q.1, zc k q.2)) ∘ fun i => ws[i]?) := List.map_congr_left (fun i _ => e i)
  rw [e1, h2]
  simp [zw, Function.comp_def]
theorem zjoin {A : Nat → Prop} {D : va_G} {k : zK} {ws wc u : zW} {H H1 : Heap} {is : List Nat} (hP : va_P D vwCl (zw k ws) H) (hD : va_D A (zw k ws)) (hsub : is.map (fun i => ws[i]?) = wc.map some) (hnd : va_nd is = true)
    (hk : ∀ q : Nat, q < H.size → ¬ va_A (zw k wc) H.size q → H1[q]? = H[q]?) (hF : ∀ q, va_A (zw k wc) H.size q → A q) (hP1 : va_P D vwCl (zw k u) H1) (hD1 : va_D (va_A (zw k wc) H.size) (zw k u)) (ha : wc.map Prod.fst <+: u.map Prod.fst) :
    va_P D vwCl (zw k (zput ws is u)) H1 ∧ va_D A (zw k (zput ws is u)) ∧ (zput ws is u).map Prod.fst = ws.map Prod.fst ++ (u.map Prod.fst).drop is.length := by
  have hlen : is.length = wc.length := zsub_len hsub
  have hlu : is.length ≤ u.length := by
    have := ha.length_le
    simp at this
    omega
  -- the address of u's r-th is wc's
  have hadr : ∀ (r : Nat) (q : Nat × zC), wc[r]? = some q → ∃ x, u[r]? = some (q.1, x) := by
    intro r q hr
    obtain ⟨t, ht⟩ := ha
    have h1 : (u.map Prod.fst)[r]? = some q.1 := by
      rw [← ht, List.getElem?_append_left (by have := (List.getElem?_eq_some_iff.mp hr).1; simpa using this), List.getElem?_map, hr]; rfl
    rw [List.getElem?_map] at h1
    cases hu : u[r]? with
    | none => rw [hu] at h1; cases h1
    | some p => rw [hu] at h1; simp at h1; exact ⟨p.2, by rw [← h1]⟩
  -- which entries there are
  have key : ∀ (j a : Nat) (x : zC), (zput ws is u)[j]? = some (a, x) → (∃ r : Nat, is[r]? = some j ∧ u[r]? = some (a, x) ∧ ∃ y : zC, ws[j]? = some (a, y)) ∨ (j ∉ is ∧ ws[j]? = some (a, x)) ∨ (ws.length ≤ j ∧ u[is.length + (j - ws.length)]? = some (a, x)) := by
    intro j a x hj
    by_cases hlt : j < ws.length
    · by_cases hin : j ∈ is
      · obtain ⟨r, hr⟩ := List.getElem?_of_mem hin
        have h1 := zput_in is ws u r j hnd hlu hr hlt
        rw [hj] at h1
        have hrl : r < wc.length := by rw [← hlen]; exact (List.getElem?_eq_some_iff.mp hr).1
        obtain ⟨i, hi, hwi⟩ := zsub_at hsub (List.getElem?_eq_getElem hrl)
        rw [hr] at hi
        cases hi
        obtain ⟨x', hx'⟩ := hadr r _ (List.getElem?_eq_getElem hrl)
        rw [← h1] at hx'
        simp at hx'
        exact Or.inl ⟨r, hr, h1.symm, _, by rw [hwi, hx'.1]⟩
      · rw [zput_out is ws u j hlt hin] at hj
        exact Or.inr (Or.inl ⟨hin, hj⟩)
    · have h1 := zput_new is ws u (j - ws.length) hlu
      rw [show ws.length + (j - ws.length) = j by omega, hj] at h1
      exact Or.inr (Or.inr ⟨by omega, h1.symm⟩)
  -- an old entry that isn't the callee's
  have old : ∀ (j a : Nat) (x : zC), j ∉ is → ws[j]? = some (a, x) → a < H.size ∧ ¬ va_A (zw k wc) H.size a := by
    intro j a x hin hj
    have hl := (hP j _ (zw_at hj)).lt
    refine ⟨hl, fun h => ?_⟩
    rcases h with ⟨r, e, h⟩ | h
    · obtain ⟨y, hy, -⟩ := zw_get h
      obtain ⟨i, hi, hwi⟩ := zsub_at hsub hy
      have := hD.1 j i _ _ (zw_at hj) (zw_at hwi) rfl
      subst this
      exact hin (List.mem_of_getElem? hi)
    · exact absurd h (by have : a < H.size := hl; omega)
  refine ⟨?_, ⟨?_, ?_⟩, ?_⟩
  · intro j q hq
    obtain ⟨x, hx, he⟩ := zw_get hq
    obtain ⟨a, e⟩ := q
    simp only at hx he
    subst he
    rcases key j a x hx with ⟨r, -, hu, -⟩ | ⟨hin, hw⟩ | ⟨-, hu⟩
    · exact hP1 r _ (zw_at hu)
    · obtain ⟨h1, h2⟩ := old j a x hin hw
      exact (hP j _ (zw_at hw)).kept (hk a h1 h2)
    · exact hP1 _ _ (zw_at hu)
  · intro i j p q hi hj hpq
    obtain ⟨x, hx, -⟩ := zw_get hi
    obtain ⟨y, hy, -⟩ := zw_get hj
    rw [hpq] at hx
    rcases key i _ x hx with ⟨r, hr, hu, y1, hw⟩ | ⟨hin, hw⟩ | ⟨hge, hu⟩ <;> rcases key j _ y hy with ⟨r', hr', hu', y1', hw'⟩ | ⟨hin', hw'⟩ | ⟨hge', hu'⟩
    · exact hD.1 i j _ _ (zw_at hw) (zw_at hw') rfl
    · exact hD.1 i j _ _ (zw_at hw) (zw_at hw') rfl
    · have := hD1.1 _ _ _ _ (zw_at hu) (zw_at hu') rfl
      have := (List.getElem?_eq_some_iff.mp hr).1
      omega
    · exact hD.1 i j _ _ (zw_at hw) (zw_at hw') rfl
    · exact hD.1 i j _ _ (zw_at hw) (zw_at hw') rfl
    · exact absurd (hD1.2 _ _ (zw_at hu')) (old i _ x hin hw).2
    · have := hD1.1 _ _ _ _ (zw_at hu) (zw_at hu') rfl
      have := (List.getElem?_eq_some_iff.mp hr').1
      omega
    · exact absurd (hD1.2 _ _ (zw_at hu)) (old j _ y hin' hw').2
    · have := hD1.1 _ _ _ _ (zw_at hu) (zw_at hu') rfl
      omega
  · intro j q hq
    obtain ⟨x, hx, -⟩ := zw_get hq
    rcases key j _ x hx with ⟨r, -, -, y, hw⟩ | ⟨-, hw⟩ | ⟨-, hu⟩
    · have := hD.2 j _ (zw_at (k := k) hw); exact this
    · have := hD.2 j _ (zw_at (k := k) hw); exact this
    · have := hF _ (hD1.2 _ _ (zw_at (k := k) hu)); exact this
  · apply List.ext_getElem?
    intro j
    rw [List.getElem?_map]
    by_cases hlt : j < ws.length
    · rw [List.getElem?_append_left (by simpa using hlt), List.getElem?_map]
      have hl2 : j < (zput ws is u).length := by rw [zput_len is ws u hlu]; omega
      rw [List.getElem?_eq_getElem hl2]
      rcases key j _ _ (List.getElem?_eq_getElem hl2) with ⟨r, -, -, y, hw⟩ | ⟨-, hw⟩ | ⟨hge, -⟩
      · rw [hw]; rfl
      · rw [hw]; rfl
      · omega
    · have h1 := zput_new is ws u (j - ws.length) hlu
      rw [show ws.length + (j - ws.length) = j by omega] at h1
      rw [h1, List.getElem?_append_right (by simpa using hlt), List.getElem?_drop, List.getElem?_map]
      simp
theorem zput_r : ∀ (is : List Nat) (ws u : zW), zWr ws → zWr u → zWr (zput ws is u)
  | [], ws, u, h1, h2 => fun q hq => by
    rw [zput] at hq
    exact (List.mem_append.mp hq).elim (h1 q) (h2 q)
  | i :: is, ws, [], h1, h2 => by rw [zput]; exact h1
  | i :: is, ws, c :: u, h1, h2 => by
    rw [zput]
    refine zput_r is (ws.set i c) u ?_ (fun q hq => h2 q (List.mem_cons_of_mem _ hq))
    intro q hq
    rcases List.mem_or_eq_of_mem_set hq with h | h
    · exact h1 q h
    · rw [h]; exact h2 c List.mem_cons_self
theorem zpre_blind {D : va_G} {k : zK} {E : zE} (hE : zEok E) (av : List zV) (wc : zW) (sz : Nat) : FrameBlind (zPre D k E av wc sz) := by
  intro a U g mk q
  obtain ⟨q0, q1, qP, qK, qD, qE⟩ := q
  exact ⟨q0, q1, qP, va_K.moved (u := U) (U := U.calling g mk a) (Vm.Alike.refl U.vm) qK, qD, hE.2.1 _ U _ _ rfl qE⟩
theorem zgoodV {own C : String} {idx n : Nat} {y : MethodName} {b : ByteArray} {r : Option FieldType} (h1 : Cond.methodLink own idx y ∈ zTs) (h2 : Cond.instanceMethod y ∈ zTs) (h3 : Cond.selects C y y ∈ zTs) (h4 : Cond.initialized C ∈ zTs) (h5 : Cond.code y b n r ∈ zTs) : GoodIn zTs (wsV own idx C y (Cond.code y b n r :: zTs)) := by
  intro w hw
  have hm : w ∈ zTs := by
    rcases List.mem_append.mp hw with h | h
    · simp only [List.mem_cons, List.not_mem_nil, or_false] at h
      rcases h with rfl | rfl | rfl | rfl
      · exact h1
      · exact h2
      · exact h3
      · exact h4
    · rcases List.mem_cons.mp h with rfl | h
      · exact h5
      · exact h
  exact ⟨hm, good_of_word (zTs_good hm)⟩
theorem zgoodS {own : String} {idx n : Nat} {y : MethodName} {b : ByteArray} {r : Option FieldType} (h1 : Cond.methodLink own idx y ∈ zTs) (h2 : Cond.static y ∈ zTs) (h4 : Cond.initialized own ∈ zTs) (h5 : Cond.code y b n r ∈ zTs) : GoodIn zTs (wsS own idx y (Cond.code y b n r :: zTs)) := by
  intro w hw
  have hm : w ∈ zTs := by
    rcases List.mem_append.mp hw with h | h
    · simp only [List.mem_cons, List.not_mem_nil, or_false] at h
      rcases h with rfl | rfl | rfl
      · exact h1
      · exact h2
      · exact h4
    · rcases List.mem_cons.mp h with rfl | h
      · exact h5
      · exact h
  exact ⟨hm, good_of_word (zTs_good hm)⟩
theorem zgoodI {n : Nat} {y : MethodName} {b : ByteArray} {r : Option FieldType} (h5 : Cond.code y b n r ∈ zTs) : GoodIn zTs (Cond.code y b n r :: zTs) := by
  intro w hw
  have hm : w ∈ zTs := by
    rcases List.mem_cons.mp hw with rfl | h
    · exact h5
    · exact h
  exact ⟨hm, good_of_word (zTs_good hm)⟩
end
section
section ZC
variable {l : Launch} {D : va_G} {k : zK} {E : zE} {cc : ByteArray} {own : String} {nL : Nat} {R : Room} {mc ms : Nat} {rt : Option FieldType} {ini : Prop} {a0 : List Nat} {PR : Int → zW → Prop} {Z : zP}
variable {kc ks pc : Nat} {lv : List (Option zV)} {st stk : List zV} {ws wc : zW} {x y : Int}
theorem zB.callVi (B : zB l D k E cc own nL R mc ms rt ini a0 PR Z) {y : MethodName} {b : ByteArray} {n index mc' ms' : Nat} {rr : FieldType} {rm : Room} {P : Prop} {Po : Int → zW → Prop} {a : Nat} {As : List zV} (na : Nat) (M : zMi l D k E y b n rr rm mc' ms' (.inr (some a) :: As) wc P Po) {ci N : Nat} {C : String} {T : u_T} {fs : List zV} (i : Nat) (hi : ws[i]? = some (a, .inr (.inr (ci, fs)))) (hc : vwCl[ci]? = some (C, T, N)) (h1 : Cond.methodLink own index y ∈ zTs) (h2 : Cond.instanceMethod y ∈ zTs) (h3 : Cond.selects C y y ∈ zTs) (h4 : Cond.initialized C ∈ zTs) (h5 : Cond.code y b n (some rr) ∈ zTs) (hdn : y.cls = C ∧ y.cls ≠ "java/lang/invoke/MethodHandle" ∧ y.cls ≠ "java/lang/invoke/VarHandle" ∧ (parseMethodDescriptor y.desc).map (fun d => d.parameters.length) = some na) (hna : As.length = na) (hrc : rm.cells = mc') (hrs : rm.slots = ms') (hR : rm.frames + 1 ≤ R.frames ∧ 8 + (n + 11) + rm.locals ≤ R.locals) (hf : kc + mc' ≤ R.cells ∧ ks + ms' ≤ R.slots) (is : List Nat) (hsub : is.map (fun i => ws[i]?) = wc.map some) (hnd : va_nd is = true) (hstk : stk = As.reverse ++ .inr (some a) :: st) (hst : st.length ≤ 8) (hd : decode cc pc = .ok (.invokevirtual index, 3)) (hpre : (∀ v ∈ As, zVr v) → P)
    (h : ∀ (z : Int) (u : zW), zR z → zWr u → wc.map Prod.fst <+: u.map Prod.fst → Po z u → Z (kc + mc') (ks + ms') (pc + 3) lv (.inl z :: st) (zput ws is u)) : Z kc ks pc lv stk ws := by
  obtain ⟨p, e, s, m, args, below, meth, c, Q, A, hx, hb, hml, hown, hts, hK, hA, hE, hEs, hin0, hri, hrv, rfl⟩ := B
  intro H locs ls r1 r2 r3 r4 hP hD hS hl
  subst hstk
  have hAs : ∀ v ∈ As, zVr v := fun v hv => r2 v (List.mem_append_left _ (List.mem_reverse.mpr hv))
  have hav0 : ∀ v ∈ (.inr (some a) :: As : List zV), zVr v := List.forall_mem_cons.mpr ⟨trivial, hAs⟩
  have rst : ∀ v ∈ st, zVr v := fun v hv => r2 v (List.mem_append_right _ (List.mem_cons_of_mem _ hv))
  have hpre0 := hpre hAs
  have hrc0 : zWr wc := by
    intro q hq
    obtain ⟨r, hr⟩ := List.getElem?_of_mem hq
    obtain ⟨i, -, hwi⟩ := zsub_at hsub hr
    exact r1 q (List.mem_of_getElem? hwi)
  have hsz := zsub_zw (k := k) hsub
  have hPc : va_P D vwCl (zw k wc) H := by
    intro r q hr
    obtain ⟨x, hx1, he⟩ := zw_get hr
    obtain ⟨i, -, hwi⟩ := zsub_at hsub hx1
    have := hP i _ (zw_at hwi)
    obtain ⟨qa, qe⟩ := q
    simp only at he
    subst he
    exact this
  have hDc : va_D A (zw k wc) := hD.sub is hnd hsz
  have hFc := va_free hD hS hA is hsz
  have hPRE : ∀ U : State, U.heap = H → s.WarmedH U.vm → zPre D k E (.inr (some a) :: As) wc H.size (((.inr (some a) :: As : List zV)).map zv).toArray U := by
    intro U hU hW
    refine ⟨rfl, by rw [hU], by rw [hU]; exact hPc, va_K.moved hW.alike hK, hDc.weaken (fun _ _ _ _ => trivial), ?_⟩
    rw [hU]
    exact hE.1 _ _ _ _ hW (hE.2.2.2 _ _ _ _ (hE.2.2.1 _ _ _ _ hEs (fun q h1 h2 => hS.2.1 q h1 h2)) hFc)
  refine va_calli (va_runV (As := As.map zv) (rest := st.map zv) ⟨hx, hb, hml, hown, hts⟩ (M H.size hrc0 hav0 hpre0) (cwV na hts (zgoodV h1 h2 h3 h4 h5) rfl hrc hrs hdn hR) ⟨zpre_blind hE _ _ _, va_recv hK hP hc (zw_at hi), hPRE⟩ rfl (by rw [List.length_map]; exact hna) hl.choose_spec.1.1 (by simp [zv, va_rf]) (lv_room (by rw [zcat_sum]; exact hst)) hd hf) hS (fun q _ h => hFc q h) hFc (fun r u t H1 locs1 ht hvm hw hB hz1 hk1 hS1 => ?_)
  obtain ⟨z, rfl, rz, ru, ra, hPo⟩ := hw
  obtain ⟨hP1, hD1⟩ := hB
  rw [ht] at hP1
  obtain ⟨g1, g2, g3⟩ := zjoin hP hD hsub hnd hk1 hFc hP1 hD1 ra
  exact h z u rz ru ra hPo H1 locs1 ls (zput_r is ws u r1 ru) (List.forall_mem_cons.mpr ⟨rz, rst⟩) r3 (by rw [g3]; exact List.IsPrefix.trans r4 (List.prefix_append _ _)) g1 g2 hS1 hl
theorem zB.callVv (B : zB l D k E cc own nL R mc ms rt ini a0 PR Z) {y : MethodName} {b : ByteArray} {n index mc' ms' : Nat} {rm : Room} {P : Prop} {Po : Int → zW → Prop} {a : Nat} {As : List zV} (na : Nat) (M : zMv l D k E y b n rm mc' ms' (.inr (some a) :: As) wc P Po) {ci N : Nat} {C : String} {T : u_T} {fs : List zV} (i : Nat) (hi : ws[i]? = some (a, .inr (.inr (ci, fs)))) (hc : vwCl[ci]? = some (C, T, N)) (h1 : Cond.methodLink own index y ∈ zTs) (h2 : Cond.instanceMethod y ∈ zTs) (h3 : Cond.selects C y y ∈ zTs) (h4 : Cond.initialized C ∈ zTs) (h5 : Cond.code y b n none ∈ zTs) (hdn : y.cls = C ∧ y.cls ≠ "java/lang/invoke/MethodHandle" ∧ y.cls ≠ "java/lang/invoke/VarHandle" ∧ (parseMethodDescriptor y.desc).map (fun d => d.parameters.length) = some na) (hna : As.length = na) (hrc : rm.cells = mc') (hrs : rm.slots = ms') (hR : rm.frames + 1 ≤ R.frames ∧ 8 + (n + 11) + rm.locals ≤ R.locals) (hf : kc + mc' ≤ R.cells ∧ ks + ms' ≤ R.slots) (is : List Nat) (hsub : is.map (fun i => ws[i]?) = wc.map some) (hnd : va_nd is = true) (hstk : stk = As.reverse ++ .inr (some a) :: st) (hst : st.length ≤ 8) (hd : decode cc pc = .ok (.invokevirtual index, 3)) (hpre : (∀ v ∈ As, zVr v) → P)
    (h : ∀ (u : zW), zWr u → wc.map Prod.fst <+: u.map Prod.fst → Po 0 u → Z (kc + mc') (ks + ms') (pc + 3) lv st (zput ws is u)) : Z kc ks pc lv stk ws := by
  obtain ⟨p, e, s, m, args, below, meth, c, Q, A, hx, hb, hml, hown, hts, hK, hA, hE, hEs, hin0, hri, hrv, rfl⟩ := B
  intro H locs ls r1 r2 r3 r4 hP hD hS hl
  subst hstk
  have hAs : ∀ v ∈ As, zVr v := fun v hv => r2 v (List.mem_append_left _ (List.mem_reverse.mpr hv))
  have hav0 : ∀ v ∈ (.inr (some a) :: As : List zV), zVr v := List.forall_mem_cons.mpr ⟨trivial, hAs⟩
  have rst : ∀ v ∈ st, zVr v := fun v hv => r2 v (List.mem_append_right _ (List.mem_cons_of_mem _ hv))
  have hpre0 := hpre hAs
  have hrc0 : zWr wc := by
    intro q hq
    obtain ⟨r, hr⟩ := List.getElem?_of_mem hq
    obtain ⟨i, -, hwi⟩ := zsub_at hsub hr
    exact r1 q (List.mem_of_getElem? hwi)
  have hsz := zsub_zw (k := k) hsub
  have hPc : va_P D vwCl (zw k wc) H := by
    intro r q hr
    obtain ⟨x, hx1, he⟩ := zw_get hr
    obtain ⟨i, -, hwi⟩ := zsub_at hsub hx1
    have := hP i _ (zw_at hwi)
    obtain ⟨qa, qe⟩ := q
    simp only at he
    subst he
    exact this
  have hDc : va_D A (zw k wc) := hD.sub is hnd hsz
  have hFc := va_free hD hS hA is hsz
  have hPRE : ∀ U : State, U.heap = H → s.WarmedH U.vm → zPre D k E (.inr (some a) :: As) wc H.size (((.inr (some a) :: As : List zV)).map zv).toArray U := by
    intro U hU hW
    refine ⟨rfl, by rw [hU], by rw [hU]; exact hPc, va_K.moved hW.alike hK, hDc.weaken (fun _ _ _ _ => trivial), ?_⟩
    rw [hU]
    exact hE.1 _ _ _ _ hW (hE.2.2.2 _ _ _ _ (hE.2.2.1 _ _ _ _ hEs (fun q h1 h2 => hS.2.1 q h1 h2)) hFc)
  refine va_callv (va_runV (As := As.map zv) (rest := st.map zv) ⟨hx, hb, hml, hown, hts⟩ (M H.size hrc0 hav0 hpre0) (cwV na hts (zgoodV h1 h2 h3 h4 h5) rfl hrc hrs hdn hR) ⟨zpre_blind hE _ _ _, va_recv hK hP hc (zw_at hi), hPRE⟩ rfl (by rw [List.length_map]; exact hna) hl.choose_spec.1.1 (by simp [zv, va_rf]) (lv_room (by rw [zcat_sum]; exact hst)) hd hf) hS (fun q _ h => hFc q h) hFc (fun u t H1 locs1 ht hvm hw hB hz1 hk1 hS1 => ?_)
  obtain ⟨ru, ra, hPo⟩ := hw
  obtain ⟨hP1, hD1⟩ := hB
  rw [ht] at hP1
  obtain ⟨g1, g2, g3⟩ := zjoin hP hD hsub hnd hk1 hFc hP1 hD1 ra
  exact h u ru ra hPo H1 locs1 ls (zput_r is ws u r1 ru) rst r3 (by rw [g3]; exact List.IsPrefix.trans r4 (List.prefix_append _ _)) g1 g2 hS1 hl
theorem zB.callSi (B : zB l D k E cc own nL R mc ms rt ini a0 PR Z) {y : MethodName} {b : ByteArray} {n index mc' ms' : Nat} {rr : FieldType} {rm : Room} {P : Prop} {Po : Int → zW → Prop} {As : List zV} (na : Nat) (M : zMi l D k E y b n rr rm mc' ms' As wc P Po) (h1 : Cond.methodLink own index y ∈ zTs) (h2 : Cond.static y ∈ zTs) (h4 : Cond.initialized own ∈ zTs) (h5 : Cond.code y b n (some rr) ∈ zTs) (hdn : y.cls = own ∧ y.cls ≠ "java/lang/invoke/MethodHandle" ∧ y.cls ≠ "java/lang/invoke/VarHandle" ∧ (parseMethodDescriptor y.desc).map (fun d => d.parameters.length) = some na) (hna : As.length = na) (hrc : rm.cells = mc') (hrs : rm.slots = ms') (hR : rm.frames + 1 ≤ R.frames ∧ 8 + (n + 11) + rm.locals ≤ R.locals) (hf : kc + mc' ≤ R.cells ∧ ks + ms' ≤ R.slots) (is : List Nat) (hsub : is.map (fun i => ws[i]?) = wc.map some) (hnd : va_nd is = true) (hstk : stk = As.reverse ++ st) (hst : st.length ≤ 8) (hd : decode cc pc = .ok (.invokestatic index, 3)) (hpre : (∀ v ∈ As, zVr v) → P)
    (h : ∀ (z : Int) (u : zW), zR z → zWr u → wc.map Prod.fst <+: u.map Prod.fst → Po z u → Z (kc + mc') (ks + ms') (pc + 3) lv (.inl z :: st) (zput ws is u)) : Z kc ks pc lv stk ws := by
  obtain ⟨p, e, s, m, args, below, meth, c, Q, A, hx, hb, hml, hown, hts, hK, hA, hE, hEs, hin0, hri, hrv, rfl⟩ := B
  intro H locs ls r1 r2 r3 r4 hP hD hS hl
  subst hstk
  have hav0 : ∀ v ∈ As, zVr v := fun v hv => r2 v (List.mem_append_left _ (List.mem_reverse.mpr hv))
  have rst : ∀ v ∈ st, zVr v := fun v hv => r2 v (List.mem_append_right _ hv)
  have hpre0 := hpre hav0
  have hrc0 : zWr wc := by
    intro q hq
    obtain ⟨r, hr⟩ := List.getElem?_of_mem hq
    obtain ⟨i, -, hwi⟩ := zsub_at hsub hr
    exact r1 q (List.mem_of_getElem? hwi)
  have hsz := zsub_zw (k := k) hsub
  have hPc : va_P D vwCl (zw k wc) H := by
    intro r q hr
    obtain ⟨x, hx1, he⟩ := zw_get hr
    obtain ⟨i, -, hwi⟩ := zsub_at hsub hx1
    have := hP i _ (zw_at hwi)
    obtain ⟨qa, qe⟩ := q
    simp only at he
    subst he
    exact this
  have hDc : va_D A (zw k wc) := hD.sub is hnd hsz
  have hFc := va_free hD hS hA is hsz
  have hPRE : ∀ U : State, U.heap = H → s.WarmedH U.vm → zPre D k E (As) wc H.size (((As : List zV)).map zv).toArray U := by
    intro U hU hW
    refine ⟨rfl, by rw [hU], by rw [hU]; exact hPc, va_K.moved hW.alike hK, hDc.weaken (fun _ _ _ _ => trivial), ?_⟩
    rw [hU]
    exact hE.1 _ _ _ _ hW (hE.2.2.2 _ _ _ _ (hE.2.2.1 _ _ _ _ hEs (fun q h1 h2 => hS.2.1 q h1 h2)) hFc)
  refine va_calli (va_runS (As := As.map zv) (rest := st.map zv) ⟨hx, hb, hml, hown, hts⟩ (M H.size hrc0 hav0 hpre0) (cwS na hts (zgoodS h1 h2 h4 h5) rfl hrc hrs hdn hR) ⟨zpre_blind hE _ _ _, hPRE⟩ rfl (by rw [List.length_map]; exact hna) hl.choose_spec.1.1 (by simp) (lv_room (by rw [zcat_sum]; exact hst)) hd hf) hS (fun q _ h => hFc q h) hFc (fun r u t H1 locs1 ht hvm hw hB hz1 hk1 hS1 => ?_)
  obtain ⟨z, rfl, rz, ru, ra, hPo⟩ := hw
  obtain ⟨hP1, hD1⟩ := hB
  rw [ht] at hP1
  obtain ⟨g1, g2, g3⟩ := zjoin hP hD hsub hnd hk1 hFc hP1 hD1 ra
  exact h z u rz ru ra hPo H1 locs1 ls (zput_r is ws u r1 ru) (List.forall_mem_cons.mpr ⟨rz, rst⟩) r3 (by rw [g3]; exact List.IsPrefix.trans r4 (List.prefix_append _ _)) g1 g2 hS1 hl
theorem zB.callIv (B : zB l D k E cc own nL R mc ms rt ini a0 PR Z) {y : MethodName} {b : ByteArray} {n index mc' ms' : Nat} {rm : Room} {P : Prop} {Po : Int → zW → Prop} {a : Nat} {As : List zV} (na : Nat) (M : zMv l D k E y b n rm mc' ms' (.inr (some a) :: As) wc P Po) (h1 : Cond.methodLink own index y ∈ zTs) (h2 : Cond.instanceMethod y ∈ zTs) (h4 : Cond.initialized y.cls ∈ zTs) (h5 : Cond.code y b n none ∈ zTs) (hnm : y.name = "<init>") (hdn : y.cls ≠ "java/lang/invoke/MethodHandle" ∧ y.cls ≠ "java/lang/invoke/VarHandle" ∧ (parseMethodDescriptor y.desc).map (fun d => d.parameters.length) = some na) (hna : As.length = na) (hrc : rm.cells = mc') (hrs : rm.slots = ms') (hR : rm.frames + 1 ≤ R.frames ∧ 8 + (n + 11) + rm.locals ≤ R.locals) (hf : kc + mc' ≤ R.cells ∧ ks + ms' ≤ R.slots) (is : List Nat) (hsub : is.map (fun i => ws[i]?) = wc.map some) (hnd : va_nd is = true) (hstk : stk = As.reverse ++ .inr (some a) :: st) (hst : st.length ≤ 8) (hd : decode cc pc = .ok (.invokespecial index, 3)) (hpre : (∀ v ∈ As, zVr v) → P)
    (h : ∀ (u : zW), zWr u → wc.map Prod.fst <+: u.map Prod.fst → Po 0 u → Z (kc + mc') (ks + ms') (pc + 3) lv st (zput ws is u)) : Z kc ks pc lv stk ws := by
  obtain ⟨p, e, s, m, args, below, meth, c, Q, A, hx, hb, hml, hown, hts, hK, hA, hE, hEs, hin0, hri, hrv, rfl⟩ := B
  intro H locs ls r1 r2 r3 r4 hP hD hS hl
  subst hstk
  have hAs : ∀ v ∈ As, zVr v := fun v hv => r2 v (List.mem_append_left _ (List.mem_reverse.mpr hv))
  have hav0 : ∀ v ∈ (.inr (some a) :: As : List zV), zVr v := List.forall_mem_cons.mpr ⟨trivial, hAs⟩
  have rst : ∀ v ∈ st, zVr v := fun v hv => r2 v (List.mem_append_right _ (List.mem_cons_of_mem _ hv))
  have hpre0 := hpre hAs
  have hrc0 : zWr wc := by
    intro q hq
    obtain ⟨r, hr⟩ := List.getElem?_of_mem hq
    obtain ⟨i, -, hwi⟩ := zsub_at hsub hr
    exact r1 q (List.mem_of_getElem? hwi)
  have hsz := zsub_zw (k := k) hsub
  have hPc : va_P D vwCl (zw k wc) H := by
    intro r q hr
    obtain ⟨x, hx1, he⟩ := zw_get hr
    obtain ⟨i, -, hwi⟩ := zsub_at hsub hx1
    have := hP i _ (zw_at hwi)
    obtain ⟨qa, qe⟩ := q
    simp only at he
    subst he
    exact this
  have hDc : va_D A (zw k wc) := hD.sub is hnd hsz
  have hFc := va_free hD hS hA is hsz
  have hPRE : ∀ U : State, U.heap = H → s.WarmedH U.vm → zPre D k E (.inr (some a) :: As) wc H.size (((.inr (some a) :: As : List zV)).map zv).toArray U := by
    intro U hU hW
    refine ⟨rfl, by rw [hU], by rw [hU]; exact hPc, va_K.moved hW.alike hK, hDc.weaken (fun _ _ _ _ => trivial), ?_⟩
    rw [hU]
    exact hE.1 _ _ _ _ hW (hE.2.2.2 _ _ _ _ (hE.2.2.1 _ _ _ _ hEs (fun q h1 h2 => hS.2.1 q h1 h2)) hFc)
  refine va_callv (va_runI (As := As.map zv) (rest := st.map zv) ⟨hx, hb, hml, hown, hts⟩ (M H.size hrc0 hav0 hpre0) (cwI na hts (zgoodI h5) rfl hrc hrs (hts _ h4) (hts _ h1) (hts _ h2) hnm hdn hR) ⟨zpre_blind hE _ _ _, hPRE⟩ rfl (by rw [List.length_map]; exact hna) hl.choose_spec.1.1 (by simp [zv, va_rf]) (lv_room (by rw [zcat_sum]; exact hst)) hd hf) hS (fun q _ h => hFc q h) hFc (fun u t H1 locs1 ht hvm hw hB hz1 hk1 hS1 => ?_)
  obtain ⟨ru, ra, hPo⟩ := hw
  obtain ⟨hP1, hD1⟩ := hB
  rw [ht] at hP1
  obtain ⟨g1, g2, g3⟩ := zjoin hP hD hsub hnd hk1 hFc hP1 hD1 ra
  exact h u ru ra hPo H1 locs1 ls (zput_r is ws u r1 ru) rst r3 (by rw [g3]; exact List.IsPrefix.trans r4 (List.prefix_append _ _)) g1 g2 hS1 hl
end ZC
end
section
section ZM
variable {l : Launch} {D : va_G} {k : zK} {E : zE} {cc : ByteArray} {own : String} {nL : Nat} {R : Room} {mc ms : Nat} {rt : Option FieldType} {ini : Prop} {a0 : List Nat} {PR : Int → zW → Prop} {Z : zP}
variable {kc ks pc : Nat} {lv : List (Option zV)} {st : List zV} {ws : zW} {x y : Int}
theorem zsplit (v : Int) {X : Int → Prop} (h1 : X v) (h2 : x ≠ v → X x) : X x := by
  by_cases h : x = v
  · rw [h]; exact h1
  · exact h2 h
theorem zB.tsOut (B : zB l D k E cc own nL R mc ms rt ini a0 PR Z) {dflt lo hi : Int} {offs : Array Int} {len tgt : Nat} (hd : decode cc pc = .ok (.tableswitch dflt lo hi offs, len)) (h : x < lo ∨ hi < x) (ht : (pc : Int) + dflt = (tgt : Int)) (kk : Z kc ks tgt lv st ws) : Z kc ks pc lv (.inl x :: st) ws := by
  obtain ⟨p, e, s, m, args, below, meth, c, Q, A, hx, hb, hml, hown, hts, hK, hA, hE, hEs, hin, hri, hrv, rfl⟩ := B
  intro H locs ls r1 r2 r3 r4 hP hD hS hl
  obtain ⟨rx, rr⟩ := List.forall_mem_cons.mp r2
  exact lv_tableOut (x := iZ x) hx hb hd (by rw [iZ_toInt rx]; exact h) ht (kk H locs ls r1 rr r3 r4 hP hD hS hl)
theorem zB.tsIn (B : zB l D k E cc own nL R mc ms rt ini a0 PR Z) {dflt lo hi off : Int} {offs : Array Int} {len tgt : Nat} (hd : decode cc pc = .ok (.tableswitch dflt lo hi offs, len)) (h1 : ¬ x < lo) (h2 : ¬ hi < x) (ho : offs[(x - lo).toNat]? = some off) (ht : (pc : Int) + off = (tgt : Int)) (kk : Z kc ks tgt lv st ws) : Z kc ks pc lv (.inl x :: st) ws := by
  obtain ⟨p, e, s, m, args, below, meth, c, Q, A, hx, hb, hml, hown, hts, hK, hA, hE, hEs, hin, hri, hrv, rfl⟩ := B
  intro H locs ls r1 r2 r3 r4 hP hD hS hl
  obtain ⟨rx, rr⟩ := List.forall_mem_cons.mp r2
  have rx : zR x := rx
  exact lv_tableIn (x := iZ x) hx hb hd (by rw [iZ_toInt rx]; exact h1) (by rw [iZ_toInt rx]; exact h2) (by rw [iZ_toInt rx]; exact ho) ht (kk H locs ls r1 rr r3 r4 hP hD hS hl)
theorem zB.mmin (B : zB l D k E cc own nL R mc ms rt ini a0 PR Z) {index : Nat} (h1 : Cond.methodLink own index Lib.Math.min.name ∈ zTs) (h2 : Cond.static Lib.Math.min.name ∈ zTs) (h3 : Cond.initialized "java/lang/Math" ∈ zTs) (h4 : Cond.code Lib.Math.min.name Lib.Math.min.code 2 (some .int) ∈ zTs) (hfr : 1 ≤ R.frames) (hlo : st.length + 13 ≤ R.locals) (hcc : kc ≤ R.cells) (hss : ks ≤ R.slots) (hd : decode cc pc = .ok (.invokestatic index, 3))
    (h : ∀ r : Int, zR r → r ≤ x → r ≤ y → (r = x ∨ r = y) → Z kc ks (pc + 3) lv (.inl r :: st) ws) : Z kc ks pc lv (.inl y :: .inl x :: st) ws := by
  obtain ⟨p, e, s, m, args, below, meth, c, Q, A, hx, hb, hml, hown, hts, hK, hA, hE, hEs, hin, hri, hrv, rfl⟩ := B
  intro H locs ls r1 r2 r3 r4 hP hD hS hl
  obtain ⟨ry, rr⟩ := List.forall_mem_cons.mp r2
  obtain ⟨rx, rr⟩ := List.forall_mem_cons.mp rr
  have rx : zR x := rx
  have ry : zR y := ry
  refine va_mmin (x := iZ x) (y := iZ y) hx hb (hml.trans hl.choose_spec.1.1.symm) hown (hts _ h1) (hts _ h2) (hts _ h3) (hts _ h4) hfr (by rw [zcat_sum]; exact hlo) hcc hss hd ?_
  by_cases hlt : y < x
  · rw [if_pos ((iZ_lt ry rx).mpr hlt)]
    exact h y ry (by omega) (by omega) (Or.inr rfl) H locs ls r1 (List.forall_mem_cons.mpr ⟨ry, rr⟩) r3 r4 hP hD hS hl
  · rw [if_neg (fun z => hlt ((iZ_lt ry rx).mp z))]
    exact h x rx (by omega) (by omega) (Or.inl rfl) H locs ls r1 (List.forall_mem_cons.mpr ⟨rx, rr⟩) r3 r4 hP hD hS hl
theorem zB.acopy (B : zB l D k E cc own nL R mc ms rt ini a0 PR Z) {index a b n0 n1 : Nat} {f g : Nat → Int} {sp dp n : Int} (h1 : Cond.methodLink own index arraycopyName ∈ zTs) (h2 : Cond.native arraycopyName ∈ zTs) (h3 : Cond.static arraycopyName ∈ zTs) (h4 : Cond.initialized "java/lang/System" ∈ zTs) (i0 i1 : Nat) (hi0 : ws[i0]? = some (a, .inl (false, n0, f))) (hi1 : ws[i1]? = some (b, .inl (false, n1, g))) (g1 : 0 ≤ sp) (g2 : 0 ≤ dp) (g3 : 0 ≤ n) (g4 : sp + n ≤ n0) (g5 : dp + n ≤ n1) (hfr : 1 ≤ R.frames) (hlo : st.length + 18 ≤ R.locals) (hd : decode cc pc = .ok (.invokestatic index, 3))
    (h : Z kc ks (pc + 3) lv st (ws.set i1 (b, .inl (false, n1, zcp f g sp.toNat dp.toNat n.toNat)))) : Z kc ks pc lv (.inl n :: .inl dp :: .inr (some b) :: .inl sp :: .inr (some a) :: st) ws := by
  obtain ⟨p, e, s, m, args, below, meth, c, Q, A, hx, hb, hml, hown, hts, hK, hA, hE, hEs, hin, hri, hrv, rfl⟩ := B
  intro H locs ls r1 r2 r3 r4 hP hD hS hl
  obtain ⟨rn, rr⟩ := List.forall_mem_cons.mp r2
  obtain ⟨rd, rr⟩ := List.forall_mem_cons.mp rr
  obtain ⟨-, rr⟩ := List.forall_mem_cons.mp rr
  obtain ⟨rs, rr⟩ := List.forall_mem_cons.mp rr
  obtain ⟨-, rr⟩ := List.forall_mem_cons.mp rr
  have rn : zR n := rn
  have rd : zR dp := rd
  have rs : zR sp := rs
  refine va_copyi (D := D) (sp := iZ sp) (dp := iZ dp) (n := iZ n) hx hb (hml.trans hl.choose_spec.1.1.symm) hown (hts _ h1) (hts _ h2) (hts _ h3) (hts _ h4) hK hP hD hS i0 i1 0 0 (zw_at hi0) (zw_at hi1) (ty := .int) rfl rfl rfl ?_ ?_ ?_ ?_ ?_ (fun _ _ => rfl) hfr (by rw [zcat_sum]; exact hlo) hd (fun H1 locs1 hP1 hD1 hS1 => ?_)
  · rw [← iZ_0, iZ_lt rs zR_0]; omega
  · rw [← iZ_0, iZ_lt rd zR_0]; omega
  · rw [← iZ_0, iZ_lt rn zR_0]; omega
  · rw [iZ_nat rs g1, iZ_nat rn g3]; omega
  · rw [iZ_nat rd g2, iZ_nat rn g3]; omega
  · rw [iZ_nat rs g1, iZ_nat rn g3, iZ_nat rd g2, iZ_cpy] at hP1 hD1
    have e2 : (zw k ws).set i1 (b, zc k (.inl (false, n1, zcp f g sp.toNat dp.toNat n.toNat))) = zw k (ws.set i1 (b, .inl (false, n1, zcp f g sp.toNat dp.toNat n.toNat))) := zw_set
    exact h H1 locs1 ls (zWr_set r1 (zcp_r (zWr_at r1 hi0) (zWr_at r1 hi1))) rr r3 (by rw [zfst_set hi1]; exact r4) (by rw [← e2]; exact hP1) (by rw [← e2]; exact hD1) hS1 hl
theorem zWr_app {c : Nat × zC} (h : zWr ws) (hc : zCr c.2) : zWr (ws ++ [c]) := by
  intro q hq
  rcases List.mem_append.mp hq with h1 | h1
  · exact h q h1
  · rw [List.mem_singleton.mp h1]; exact hc
theorem zpfx_app {c : Nat × zC} (h : a0 <+: ws.map Prod.fst) : a0 <+: (ws ++ [c]).map Prod.fst := by
  rw [List.map_append]
  exact List.IsPrefix.trans h (List.prefix_append _ _)
theorem zB.newarrI (B : zB l D k E cc own nL R mc ms rt ini a0 PR Z) {n : Int} (hw : Cond.arrayClass .int ∈ zTs) (h0 : 0 ≤ n) (hn : n ≤ 100000) (hcc : kc + 1 ≤ R.cells) (hss : ks + n.toNat ≤ R.slots) (hd : decode cc pc = .ok (.newarray .int, 2))
    (h : ∀ q : Nat, Z (kc + 1) (ks + n.toNat) (pc + 2) lv (.inr (some q) :: st) (ws ++ [(q, .inl (false, n.toNat, fun _ => 0))])) : Z kc ks pc lv (.inl n :: st) ws := by
  obtain ⟨p, e, s, m, args, below, meth, c, Q, A, hx, hb, hml, hown, hts, hK, hA, hE, hEs, hin, hri, hrv, rfl⟩ := B
  intro H locs ls r1 r2 r3 r4 hP hD hS hl
  obtain ⟨rn, rr⟩ := List.forall_mem_cons.mp r2
  have rn : zR n := rn
  refine va_newa (D := D) (atype := .int) (n := iZ n) (N' := n.toNat) (a0 := (n.toNat, .inl (fun _ => iZ 0))) hx hb (hts _ hw) rfl hK hP hD hS hA (fun cA => by rw [vp_cell_i, iZ_0]; rfl) (by rw [← iZ_0, iZ_lt rn zR_0]; omega) (iZ_nat rn h0) (by show n.toNat * 4 ≤ _; omega) hcc hss hd (fun q cA H1 hK1 hP1 hD1 hS1 => ?_)
  have e1 : cA = k.1 := by
    have a1 := (hK1.2 3 (cA, .int) rfl).2
    have a2 := (hK.2 0 (k.1, .int) rfl).2
    exact Option.some.inj (a1.symm.trans a2)
  subst e1
  have e2 : zw k ws ++ [(q, zc k (.inl (false, n.toNat, fun _ => 0)))] = zw k (ws ++ [(q, .inl (false, n.toNat, fun _ => 0))]) := by rw [zw_app]; rfl
  exact h q H1 locs ls (zWr_app r1 (fun _ => zR_0)) (List.forall_mem_cons.mpr ⟨trivial, rr⟩) r3 (zpfx_app r4) (by rw [← e2]; exact hP1) (by rw [← e2]; exact hD1) hS1 hl
theorem zB.newarrZ (B : zB l D k E cc own nL R mc ms rt ini a0 PR Z) {n : Int} (hw : Cond.arrayClass .boolean ∈ zTs) (h0 : 0 ≤ n) (hn : n ≤ 100000) (hcc : kc + 1 ≤ R.cells) (hss : ks + n.toNat ≤ R.slots) (hd : decode cc pc = .ok (.newarray .boolean, 2))
    (h : ∀ q : Nat, Z (kc + 1) (ks + n.toNat) (pc + 2) lv (.inr (some q) :: st) (ws ++ [(q, .inl (true, n.toNat, fun _ => 0))])) : Z kc ks pc lv (.inl n :: st) ws := by
  obtain ⟨p, e, s, m, args, below, meth, c, Q, A, hx, hb, hml, hown, hts, hK, hA, hE, hEs, hin, hri, hrv, rfl⟩ := B
  intro H locs ls r1 r2 r3 r4 hP hD hS hl
  obtain ⟨rn, rr⟩ := List.forall_mem_cons.mp r2
  have rn : zR n := rn
  refine va_newa (D := D) (atype := .boolean) (n := iZ n) (N' := n.toNat) (a0 := (n.toNat, .inl (fun _ => iZ 0))) hx hb (hts _ hw) rfl hK hP hD hS hA (fun cA => by rw [vp_cell_i, iZ_0]; rfl) (by rw [← iZ_0, iZ_lt rn zR_0]; omega) (iZ_nat rn h0) (by show n.toNat * 1 ≤ _; omega) hcc hss hd (fun q cA H1 hK1 hP1 hD1 hS1 => ?_)
  have e1 : cA = k.2.1 := by
    have a1 := (hK1.2 3 (cA, .boolean) rfl).2
    have a2 := (hK.2 1 (k.2.1, .boolean) rfl).2
    exact Option.some.inj (a1.symm.trans a2)
  subst e1
  have e2 : zw k ws ++ [(q, zc k (.inl (true, n.toNat, fun _ => 0)))] = zw k (ws ++ [(q, .inl (true, n.toNat, fun _ => 0))]) := by rw [zw_app]; rfl
  exact h q H1 locs ls (zWr_app r1 (fun _ => zR_0)) (List.forall_mem_cons.mpr ⟨trivial, rr⟩) r3 (zpfx_app r4) (by rw [← e2]; exact hP1) (by rw [← e2]; exact hD1) hS1 hl
theorem zB.new (B : zB l D k E cc own nL R mc ms rt ini a0 PR Z) {index ci N : Nat} {C : String} {T : u_T} (ty : Nat → FieldType) (hty : ∀ k, k < N → parseFieldDescriptor (T k).2.2.1 = some (ty k)) (hc : vwCl[ci]? = some (C, T, N)) (hin : ∀ w ∈ u_ws C T N, w ∈ zTs) (h1 : Cond.classLink own index C ∈ zTs) (h2 : Cond.instantiable C N ∈ zTs) (h3 : Cond.initialized C ∈ zTs) (fs : List zV) (hfs : ∀ j, j < N → defaultValue (ty j) = vp_V (fs.map zv) j) (hfr : ∀ v ∈ fs, zVr v) (hcc : kc + 1 ≤ R.cells) (hss : ks + N ≤ R.slots) (hd : decode cc pc = .ok (.new index, 3))
    (h : ∀ q : Nat, Z (kc + 1) (ks + N) (pc + 3) lv (.inr (some q) :: st) (ws ++ [(q, .inr (.inr (ci, fs)))])) : Z kc ks pc lv st ws := by
  obtain ⟨p, e, s, m, args, below, meth, c, Q, A, hx, hb, hml, hown, hts, hK, hA, hE, hEs, hin0, hri, hrv, rfl⟩ := B
  intro H locs ls r1 r2 r3 r4 hP hD hS hl
  refine va_new (D := D) (ci := ci) (fs := fs.map zv) hx hb hts hin ty hty hown (hts _ h1) (hts _ h2) (hts _ h3) hK hP hD hS hA hc hfs hcc hss hd (fun q H1 hP1 hD1 hS1 => ?_)
  have e2 : zw k ws ++ [(q, zc k (.inr (.inr (ci, fs))))] = zw k (ws ++ [(q, .inr (.inr (ci, fs)))]) := by rw [zw_app]; rfl
  exact h q H1 locs ls (zWr_app r1 hfr) (List.forall_mem_cons.mpr ⟨trivial, r2⟩) r3 (zpfx_app r4) (by rw [← e2]; exact hP1) (by rw [← e2]; exact hD1) hS1 hl
theorem zB.objInit (B : zB l D k E cc own nL R mc ms rt ini a0 PR Z) {index a : Nat} (h1 : Cond.methodLink own index Lib.objectInit ∈ zTs) (h2 : Cond.instanceMethod Lib.objectInit ∈ zTs) (h3 : Cond.code Lib.objectInit ⟨#[0xb1]⟩ 1 none ∈ zTs) (hfr : 1 ≤ R.frames) (hlo : st.length + 12 ≤ R.locals) (hd : decode cc pc = .ok (.invokespecial index, 3))
    (h : Z kc ks (pc + 3) lv st ws) : Z kc ks pc lv (.inr (some a) :: st) ws := by
  obtain ⟨p, e, s, m, args, below, meth, c, Q, A, hx, hb, hml, hown, hts, hK, hA, hE, hEs, hin0, hri, hrv, rfl⟩ := B
  intro H locs ls r1 r2 r3 r4 hP hD hS hl
  refine W.objInit hx hb hown (hts _ h1) (hts _ h2) (hts _ h3) rfl (hl.choose_spec.1.1.trans hml.symm) (a := a) (rest := st.map zv) rfl hd hfr ?_ ?_
  · have : 2 * (F0 m pc ls ((.inr (some a) :: st : List zV).map zv)).monitorRoom = 0 := by rfl
    rw [this, zcat_sum]; omega
  · exact h H locs ls r1 (List.forall_mem_cons.mp r2).2 r3 r4 hP hD hS hl
theorem zB.ifnonnull (B : zB l D k E cc own nL R mc ms rt ini a0 PR Z) {a tgt : Nat} {off : Int} (hd : decode cc pc = .ok (.ifnonnull off, 3)) (ht : (pc : Int) + off = (tgt : Int)) (h : Z kc ks tgt lv st ws) : Z kc ks pc lv (.inr (some a) :: st) ws := by
  obtain ⟨p, e, s, m, args, below, meth, c, Q, A, hx, hb, hml, hown, hts, hK, hA, hE, hEs, hin0, hri, hrv, rfl⟩ := B
  intro H locs ls r1 r2 r3 r4 hP hD hS hl
  exact lv_ifnonnull (x := a) hx hb hd ht (h H locs ls r1 (List.forall_mem_cons.mp r2).2 r3 r4 hP hD hS hl)
theorem zB.ifnonnullN (B : zB l D k E cc own nL R mc ms rt ini a0 PR Z) {off : Int} (hd : decode cc pc = .ok (.ifnonnull off, 3)) (h : Z kc ks (pc + 3) lv st ws) : Z kc ks pc lv (.inr none :: st) ws := by
  obtain ⟨p, e, s, m, args, below, meth, c, Q, A, hx, hb, hml, hown, hts, hK, hA, hE, hEs, hin0, hri, hrv, rfl⟩ := B
  intro H locs ls r1 r2 r3 r4 hP hD hS hl
  exact lv_ifnonnullN hx hb hd (h H locs ls r1 (List.forall_mem_cons.mp r2).2 r3 r4 hP hD hS hl)
theorem zB.aaload (B : zB l D k E cc own nL R mc ms rt ini a0 PR Z) {a n : Nat} {f : Nat → Option Nat} {r : Option Nat} (i : Nat) (hi : ws[i]? = some (a, .inr (.inl (n, f)))) (h0 : 0 ≤ x) (h1 : x < n) (hr : f x.toNat = r) (hd : decode cc pc = .ok (.aaload, 1))
    (h : Z kc ks (pc + 1) lv (.inr r :: st) ws) : Z kc ks pc lv (.inl x :: .inr (some a) :: st) ws := by
  obtain ⟨p, e, s, m, args, below, meth, c, Q, A, hx, hb, hml, hown, hts, hK, hA, hE, hEs, hin0, hri, hrv, rfl⟩ := B
  intro H locs ls r1 r2 r3 r4 hP hD hS hl
  obtain ⟨rx, rr⟩ := List.forall_mem_cons.mp r2
  have rx : zR x := rx
  refine va_aldq (D := D) hx hb hK hP i 2 (zw_at hi) rfl (iZ_in rx h0 h1) hd ?_
  rw [iZ_nat rx h0, hr]
  exact h H locs ls r1 (List.forall_mem_cons.mpr ⟨trivial, (List.forall_mem_cons.mp rr).2⟩) r3 r4 hP hD hS hl
theorem zB.aastore (B : zB l D k E cc own nL R mc ms rt ini a0 PR Z) {a n v : Nat} {f : Nat → Option Nat} {fs : List zV} (i j : Nat) (hi : ws[i]? = some (a, .inr (.inl (n, f)))) (hj : ws[j]? = some (v, .inr (.inr (0, fs)))) (h0 : 0 ≤ x) (h1 : x < n) (hd : decode cc pc = .ok (.aastore, 1))
    (h : Z kc ks (pc + 1) lv st (ws.set i (a, .inr (.inl (n, va_up f x.toNat (some v)))))) : Z kc ks pc lv (.inr (some v) :: .inl x :: .inr (some a) :: st) ws := by
  obtain ⟨p, e, s, m, args, below, meth, c, Q, A, hx, hb, hml, hown, hts, hK, hA, hE, hEs, hin0, hri, hrv, rfl⟩ := B
  intro H locs ls r1 r2 r3 r4 hP hD hS hl
  obtain ⟨-, rr⟩ := List.forall_mem_cons.mp r2
  obtain ⟨rx, rr⟩ := List.forall_mem_cons.mp rr
  have rx : zR x := rx
  refine va_astq (D := D) (r := (RX0, TX0, 5)) hx hb hK hP hD hS i 2 j 0 (zw_at hi) rfl (zw_at hj) rfl (iZ_in rx h0 h1) hd (fun H1 locs1 hP1 hD1 hS1 => ?_)
  rw [iZ_nat rx h0] at hP1 hD1
  have e2 : (zw k ws).set i (a, zc k (.inr (.inl (n, va_up f x.toNat (some v))))) = zw k (ws.set i (a, .inr (.inl (n, va_up f x.toNat (some v))))) := zw_set
  exact h H1 locs1 ls (zWr_set r1 trivial) (List.forall_mem_cons.mp rr).2 r3 (by rw [zfst_set hi]; exact r4) (by rw [← e2]; exact hP1) (by rw [← e2]; exact hD1) hS1 hl
theorem zB.anewarr (B : zB l D k E cc own nL R mc ms rt ini a0 PR Z) {n : Int} {index : Nat} (hEA : ∀ A U H, E A U H → va_AO RX0 U) (h1 : Cond.classLink own index RX0 ∈ zTs) (h0 : 0 ≤ n) (hn : n ≤ 100000) (hcc : kc + 1 ≤ R.cells) (hss : ks + n.toNat ≤ R.slots) (hd : decode cc pc = .ok (.anewarray index, 3))
    (h : ∀ q : Nat, Z (kc + 1) (ks + n.toNat) (pc + 3) lv (.inr (some q) :: st) (ws ++ [(q, .inr (.inl (n.toNat, fun _ => none)))])) : Z kc ks pc lv (.inl n :: st) ws := by
  obtain ⟨p, e, s, m, args, below, meth, c, Q, A, hx, hb, hml, hown, hts, hK, hA, hE, hEs, hin, hri, hrv, rfl⟩ := B
  intro H locs ls r1 r2 r3 r4 hP hD hS hl
  obtain ⟨rn, rr⟩ := List.forall_mem_cons.mp r2
  have rn : zR n := rn
  refine va_newq (D := D) (C := RX0) (n := iZ n) (N' := n.toNat) hx hb hown (hts _ h1) (hEA _ _ _ hEs) hK hP hD hS hA (by rw [← iZ_0, iZ_lt rn zR_0]; omega) (iZ_nat rn h0) (by omega) hcc hss hd (fun q cA H1 hK1 hP1 hD1 hS1 => ?_)
  have e1 : cA = k.2.2 := by
    obtain ⟨kA, comp, -, -, -, a1⟩ := (hK1.2 3 (cA, .object RX0) rfl).2
    obtain ⟨kA', comp', -, -, -, a2⟩ := (hK.2 2 (k.2.2, .object "CutLetters$Book") rfl).2
    exact Option.some.inj (a1.symm.trans a2)
  subst e1
  have e2 : zw k ws ++ [(q, zc k (.inr (.inl (n.toNat, fun _ => none))))] = zw k (ws ++ [(q, .inr (.inl (n.toNat, fun _ => none)))]) := by rw [zw_app]; rfl
  exact h q H1 locs ls (zWr_app r1 trivial) (List.forall_mem_cons.mpr ⟨trivial, rr⟩) r3 (zpfx_app r4) (by rw [← e2]; exact hP1) (by rw [← e2]; exact hD1) hS1 hl
end ZM
end
section
theorem dX3_init_0 : decode cX3_init 0 = .ok (.aload_n 0, 1) := by decide +kernel
theorem dX3_init_1 : decode cX3_init 1 = .ok (.invokespecial 3, 3) := by decide +kernel
theorem dX3_init_4 : decode cX3_init 4 = .ok (.aload_n 0, 1) := by decide +kernel
theorem dX3_init_5 : decode cX3_init 5 = .ok (.bipush 40, 2) := by decide +kernel
theorem dX3_init_7 : decode cX3_init 7 = .ok (.newarray .int, 2) := by decide +kernel
theorem dX3_init_9 : decode cX3_init 9 = .ok (.putfield 9, 3) := by decide +kernel
theorem dX3_init_12 : decode cX3_init 12 = .ok (.return_, 1) := by decide +kernel
theorem dX3_add_0 : decode cX3_add 0 = .ok (.aload_n 0, 1) := by decide +kernel
theorem dX3_add_1 : decode cX3_add 1 = .ok (.getfield 15, 3) := by decide +kernel
theorem dX3_add_4 : decode cX3_add 4 = .ok (.bipush 40, 2) := by decide +kernel
theorem dX3_add_6 : decode cX3_add 6 = .ok (.if_icmp .lt 5, 3) := by decide +kernel
theorem dX3_add_9 : decode cX3_add 9 = .ok (.iconst 0, 1) := by decide +kernel
theorem dX3_add_10 : decode cX3_add 10 = .ok (.ireturn, 1) := by decide +kernel
theorem dX3_add_11 : decode cX3_add 11 = .ok (.aload_n 0, 1) := by decide +kernel
theorem dX3_add_12 : decode cX3_add 12 = .ok (.getfield 9, 3) := by decide +kernel
theorem dX3_add_15 : decode cX3_add 15 = .ok (.aload_n 0, 1) := by decide +kernel
theorem dX3_add_16 : decode cX3_add 16 = .ok (.getfield 15, 3) := by decide +kernel
theorem dX3_add_19 : decode cX3_add 19 = .ok (.iload_n 1, 1) := by decide +kernel
theorem dX3_add_20 : decode cX3_add 20 = .ok (.iastore, 1) := by decide +kernel
theorem dX3_add_21 : decode cX3_add 21 = .ok (.aload_n 0, 1) := by decide +kernel
theorem dX3_add_22 : decode cX3_add 22 = .ok (.dup, 1) := by decide +kernel
theorem dX3_add_23 : decode cX3_add 23 = .ok (.getfield 15, 3) := by decide +kernel
theorem dX3_add_26 : decode cX3_add 26 = .ok (.iconst 1, 1) := by decide +kernel
theorem dX3_add_27 : decode cX3_add 27 = .ok (.iadd, 1) := by decide +kernel
theorem dX3_add_28 : decode cX3_add 28 = .ok (.putfield 15, 3) := by decide +kernel
theorem dX3_add_31 : decode cX3_add 31 = .ok (.iconst 1, 1) := by decide +kernel
theorem dX3_add_32 : decode cX3_add 32 = .ok (.ireturn, 1) := by decide +kernel
theorem dX3_clear_0 : decode cX3_clear 0 = .ok (.aload_n 0, 1) := by decide +kernel
theorem dX3_clear_1 : decode cX3_clear 1 = .ok (.iconst 0, 1) := by decide +kernel
theorem dX3_clear_2 : decode cX3_clear 2 = .ok (.putfield 15, 3) := by decide +kernel
theorem dX3_clear_5 : decode cX3_clear 5 = .ok (.return_, 1) := by decide +kernel
theorem dX3_readLine_0 : decode cX3_readLine 0 = .ok (.aload_n 0, 1) := by decide +kernel
theorem dX3_readLine_1 : decode cX3_readLine 1 = .ok (.bipush 24, 2) := by decide +kernel
theorem dX3_readLine_3 : decode cX3_readLine 3 = .ok (.invokevirtual 19, 3) := by decide +kernel
theorem dX3_readLine_6 : decode cX3_readLine 6 = .ok (.istore_n 1, 1) := by decide +kernel
theorem dX3_readLine_7 : decode cX3_readLine 7 = .ok (.iload_n 1, 1) := by decide +kernel
theorem dX3_readLine_8 : decode cX3_readLine 8 = .ok (.ifCond .le 16, 3) := by decide +kernel
theorem dX3_readLine_11 : decode cX3_readLine 11 = .ok (.iload_n 1, 1) := by decide +kernel
theorem dX3_readLine_12 : decode cX3_readLine 12 = .ok (.aload_n 0, 1) := by decide +kernel
theorem dX3_readLine_13 : decode cX3_readLine 13 = .ok (.getfield 15, 3) := by decide +kernel
theorem dX3_readLine_16 : decode cX3_readLine 16 = .ok (.if_icmp .ne 8, 3) := by decide +kernel
theorem dX3_readLine_19 : decode cX3_readLine 19 = .ok (.bipush (-6), 2) := by decide +kernel
theorem dX3_readLine_21 : decode cX3_readLine 21 = .ok (.goto 4, 3) := by decide +kernel
theorem dX3_readLine_24 : decode cX3_readLine 24 = .ok (.iload_n 1, 1) := by decide +kernel
theorem dX3_readLine_25 : decode cX3_readLine 25 = .ok (.ireturn, 1) := by decide +kernel
theorem dX3_readWord_0 : decode cX3_readWord 0 = .ok (.aload_n 0, 1) := by decide +kernel
theorem dX3_readWord_1 : decode cX3_readWord 1 = .ok (.aload_n 0, 1) := by decide +kernel
theorem dX3_readWord_2 : decode cX3_readWord 2 = .ok (.bipush 6, 2) := by decide +kernel
theorem dX3_readWord_4 : decode cX3_readWord 4 = .ok (.invokevirtual 19, 3) := by decide +kernel
theorem dX3_readWord_7 : decode cX3_readWord 7 = .ok (.putfield 23, 3) := by decide +kernel
theorem dX3_readWord_10 : decode cX3_readWord 10 = .ok (.aload_n 0, 1) := by decide +kernel
theorem dX3_readWord_11 : decode cX3_readWord 11 = .ok (.getfield 23, 3) := by decide +kernel
theorem dX3_readWord_14 : decode cX3_readWord 14 = .ok (.ifCond .eq 16, 3) := by decide +kernel
theorem dX3_readWord_17 : decode cX3_readWord 17 = .ok (.aload_n 0, 1) := by decide +kernel
theorem dX3_readWord_18 : decode cX3_readWord 18 = .ok (.aload_n 0, 1) := by decide +kernel
theorem dX3_readWord_19 : decode cX3_readWord 19 = .ok (.getfield 23, 3) := by decide +kernel
theorem dX3_readWord_22 : decode cX3_readWord 22 = .ok (.invokevirtual 26, 3) := by decide +kernel
theorem dX3_readWord_25 : decode cX3_readWord 25 = .ok (.bipush 61, 2) := by decide +kernel
theorem dX3_readWord_27 : decode cX3_readWord 27 = .ok (.if_icmp .eq 8, 3) := by decide +kernel
theorem dX3_readWord_30 : decode cX3_readWord 30 = .ok (.aload_n 0, 1) := by decide +kernel
theorem dX3_readWord_31 : decode cX3_readWord 31 = .ok (.getfield 23, 3) := by decide +kernel
theorem dX3_readWord_34 : decode cX3_readWord 34 = .ok (.ireturn, 1) := by decide +kernel
theorem dX3_readWord_35 : decode cX3_readWord 35 = .ok (.aload_n 0, 1) := by decide +kernel
theorem dX3_readWord_36 : decode cX3_readWord 36 = .ok (.getfield 23, 3) := by decide +kernel
theorem dX3_readWord_39 : decode cX3_readWord 39 = .ok (.iconst 1, 1) := by decide +kernel
theorem dX3_readWord_40 : decode cX3_readWord 40 = .ok (.iadd, 1) := by decide +kernel
theorem dX3_readWord_41 : decode cX3_readWord 41 = .ok (.istore_n 1, 1) := by decide +kernel
theorem dX3_readWord_42 : decode cX3_readWord 42 = .ok (.aload_n 0, 1) := by decide +kernel
theorem dX3_readWord_43 : decode cX3_readWord 43 = .ok (.aload_n 0, 1) := by decide +kernel
theorem dX3_readWord_44 : decode cX3_readWord 44 = .ok (.iload_n 1, 1) := by decide +kernel
theorem dX3_readWord_45 : decode cX3_readWord 45 = .ok (.invokevirtual 29, 3) := by decide +kernel
theorem dX3_readWord_48 : decode cX3_readWord 48 = .ok (.putfield 32, 3) := by decide +kernel
theorem dX3_readWord_51 : decode cX3_readWord 51 = .ok (.aload_n 0, 1) := by decide +kernel
theorem dX3_readWord_52 : decode cX3_readWord 52 = .ok (.getfield 32, 3) := by decide +kernel
theorem dX3_readWord_55 : decode cX3_readWord 55 = .ok (.bipush (-6), 2) := by decide +kernel
theorem dX3_readWord_57 : decode cX3_readWord 57 = .ok (.if_icmp .ne 5, 3) := by decide +kernel
theorem dX3_readWord_60 : decode cX3_readWord 60 = .ok (.iload_n 1, 1) := by decide +kernel
theorem dX3_readWord_61 : decode cX3_readWord 61 = .ok (.ireturn, 1) := by decide +kernel
theorem dX3_readWord_62 : decode cX3_readWord 62 = .ok (.aload_n 0, 1) := by decide +kernel
theorem dX3_readWord_63 : decode cX3_readWord 63 = .ok (.aload_n 0, 1) := by decide +kernel
theorem dX3_readWord_64 : decode cX3_readWord 64 = .ok (.iload_n 1, 1) := by decide +kernel
theorem dX3_readWord_65 : decode cX3_readWord 65 = .ok (.aload_n 0, 1) := by decide +kernel
theorem dX3_readWord_66 : decode cX3_readWord 66 = .ok (.getfield 32, 3) := by decide +kernel
theorem dX3_readWord_69 : decode cX3_readWord 69 = .ok (.invokevirtual 35, 3) := by decide +kernel
theorem dX3_readWord_72 : decode cX3_readWord 72 = .ok (.ifCond .eq 9, 3) := by decide +kernel
theorem dX3_readWord_75 : decode cX3_readWord 75 = .ok (.iload_n 1, 1) := by decide +kernel
theorem dX3_readWord_76 : decode cX3_readWord 76 = .ok (.iconst 4, 1) := by decide +kernel
theorem dX3_readWord_77 : decode cX3_readWord 77 = .ok (.iadd, 1) := by decide +kernel
theorem dX3_readWord_78 : decode cX3_readWord 78 = .ok (.goto 6, 3) := by decide +kernel
theorem dX3_readWord_81 : decode cX3_readWord 81 = .ok (.iload_n 1, 1) := by decide +kernel
theorem dX3_readWord_82 : decode cX3_readWord 82 = .ok (.iconst 1, 1) := by decide +kernel
theorem dX3_readWord_83 : decode cX3_readWord 83 = .ok (.iadd, 1) := by decide +kernel
theorem dX3_readWord_84 : decode cX3_readWord 84 = .ok (.invokevirtual 39, 3) := by decide +kernel
theorem dX3_readWord_87 : decode cX3_readWord 87 = .ok (.ireturn, 1) := by decide +kernel
theorem dX3_readCost_0 : decode cX3_readCost 0 = .ok (.aload_n 0, 1) := by decide +kernel
theorem dX3_readCost_1 : decode cX3_readCost 1 = .ok (.iload_n 1, 1) := by decide +kernel
theorem dX3_readCost_2 : decode cX3_readCost 2 = .ok (.invokevirtual 26, 3) := by decide +kernel
theorem dX3_readCost_5 : decode cX3_readCost 5 = .ok (.invokestatic 42, 3) := by decide +kernel
theorem dX3_readCost_8 : decode cX3_readCost 8 = .ok (.ifCond .ne 5, 3) := by decide +kernel
theorem dX3_readCost_11 : decode cX3_readCost 11 = .ok (.iload_n 1, 1) := by decide +kernel
theorem dX3_readCost_12 : decode cX3_readCost 12 = .ok (.ireturn, 1) := by decide +kernel
theorem dX3_readCost_13 : decode cX3_readCost 13 = .ok (.aload_n 0, 1) := by decide +kernel
theorem dX3_readCost_14 : decode cX3_readCost 14 = .ok (.aload_n 0, 1) := by decide +kernel
theorem dX3_readCost_15 : decode cX3_readCost 15 = .ok (.iload_n 1, 1) := by decide +kernel
theorem dX3_readCost_16 : decode cX3_readCost 16 = .ok (.invokevirtual 26, 3) := by decide +kernel
theorem dX3_readCost_19 : decode cX3_readCost 19 = .ok (.bipush 48, 2) := by decide +kernel
theorem dX3_readCost_21 : decode cX3_readCost 21 = .ok (.isub, 1) := by decide +kernel
theorem dX3_readCost_22 : decode cX3_readCost 22 = .ok (.putfield 46, 3) := by decide +kernel
theorem dX3_readCost_25 : decode cX3_readCost 25 = .ok (.iload_n 1, 1) := by decide +kernel
theorem dX3_readCost_26 : decode cX3_readCost 26 = .ok (.iconst 1, 1) := by decide +kernel
theorem dX3_readCost_27 : decode cX3_readCost 27 = .ok (.iadd, 1) := by decide +kernel
theorem dX3_readCost_28 : decode cX3_readCost 28 = .ok (.istore_n 2, 1) := by decide +kernel
theorem dX3_readCost_29 : decode cX3_readCost 29 = .ok (.aload_n 0, 1) := by decide +kernel
theorem dX3_readCost_30 : decode cX3_readCost 30 = .ok (.iload_n 2, 1) := by decide +kernel
theorem dX3_readCost_31 : decode cX3_readCost 31 = .ok (.invokevirtual 26, 3) := by decide +kernel
theorem dX3_readCost_34 : decode cX3_readCost 34 = .ok (.invokestatic 42, 3) := by decide +kernel
theorem dX3_readCost_37 : decode cX3_readCost 37 = .ok (.ifCond .eq 26, 3) := by decide +kernel
theorem dX3_readCost_40 : decode cX3_readCost 40 = .ok (.aload_n 0, 1) := by decide +kernel
theorem dX3_readCost_41 : decode cX3_readCost 41 = .ok (.aload_n 0, 1) := by decide +kernel
theorem dX3_readCost_42 : decode cX3_readCost 42 = .ok (.getfield 46, 3) := by decide +kernel
theorem dX3_readCost_45 : decode cX3_readCost 45 = .ok (.bipush 10, 2) := by decide +kernel
theorem dX3_readCost_47 : decode cX3_readCost 47 = .ok (.imul, 1) := by decide +kernel
theorem dX3_readCost_48 : decode cX3_readCost 48 = .ok (.aload_n 0, 1) := by decide +kernel
theorem dX3_readCost_49 : decode cX3_readCost 49 = .ok (.iload_n 2, 1) := by decide +kernel
theorem dX3_readCost_50 : decode cX3_readCost 50 = .ok (.invokevirtual 26, 3) := by decide +kernel
theorem dX3_readCost_53 : decode cX3_readCost 53 = .ok (.iadd, 1) := by decide +kernel
theorem dX3_readCost_54 : decode cX3_readCost 54 = .ok (.bipush 48, 2) := by decide +kernel
theorem dX3_readCost_56 : decode cX3_readCost 56 = .ok (.isub, 1) := by decide +kernel
theorem dX3_readCost_57 : decode cX3_readCost 57 = .ok (.putfield 46, 3) := by decide +kernel
theorem dX3_readCost_60 : decode cX3_readCost 60 = .ok (.iinc 2 1, 3) := by decide +kernel
theorem dX3_readCost_63 : decode cX3_readCost 63 = .ok (.iload_n 2, 1) := by decide +kernel
theorem dX3_readCost_64 : decode cX3_readCost 64 = .ok (.aload_n 0, 1) := by decide +kernel
theorem dX3_readCost_65 : decode cX3_readCost 65 = .ok (.getfield 15, 3) := by decide +kernel
theorem dX3_readCost_68 : decode cX3_readCost 68 = .ok (.if_icmp .ne 8, 3) := by decide +kernel
theorem dX3_readCost_71 : decode cX3_readCost 71 = .ok (.bipush (-6), 2) := by decide +kernel
theorem dX3_readCost_73 : decode cX3_readCost 73 = .ok (.goto 4, 3) := by decide +kernel
theorem dX3_readCost_76 : decode cX3_readCost 76 = .ok (.iload_n 2, 1) := by decide +kernel
theorem dX3_readCost_77 : decode cX3_readCost 77 = .ok (.ireturn, 1) := by decide +kernel
theorem dX3_leadingLetters_0 : decode cX3_leadingLetters 0 = .ok (.iconst 0, 1) := by decide +kernel
theorem dX3_leadingLetters_1 : decode cX3_leadingLetters 1 = .ok (.istore_n 2, 1) := by decide +kernel
theorem dX3_leadingLetters_2 : decode cX3_leadingLetters 2 = .ok (.iload_n 2, 1) := by decide +kernel
theorem dX3_leadingLetters_3 : decode cX3_leadingLetters 3 = .ok (.iload_n 1, 1) := by decide +kernel
theorem dX3_leadingLetters_4 : decode cX3_leadingLetters 4 = .ok (.if_icmp .ge 20, 3) := by decide +kernel
theorem dX3_leadingLetters_7 : decode cX3_leadingLetters 7 = .ok (.aload_n 0, 1) := by decide +kernel
theorem dX3_leadingLetters_8 : decode cX3_leadingLetters 8 = .ok (.iload_n 2, 1) := by decide +kernel
theorem dX3_leadingLetters_9 : decode cX3_leadingLetters 9 = .ok (.invokevirtual 26, 3) := by decide +kernel
theorem dX3_leadingLetters_12 : decode cX3_leadingLetters 12 = .ok (.invokestatic 49, 3) := by decide +kernel
theorem dX3_leadingLetters_15 : decode cX3_leadingLetters 15 = .ok (.ifCond .eq 9, 3) := by decide +kernel
theorem dX3_leadingLetters_18 : decode cX3_leadingLetters 18 = .ok (.iinc 2 1, 3) := by decide +kernel
theorem dX3_leadingLetters_21 : decode cX3_leadingLetters 21 = .ok (.goto (-19), 3) := by decide +kernel
theorem dX3_leadingLetters_24 : decode cX3_leadingLetters 24 = .ok (.iload_n 2, 1) := by decide +kernel
theorem dX3_leadingLetters_25 : decode cX3_leadingLetters 25 = .ok (.ireturn, 1) := by decide +kernel
theorem dX3_signAt_0 : decode cX3_signAt 0 = .ok (.iload_n 1, 1) := by decide +kernel
theorem dX3_signAt_1 : decode cX3_signAt 1 = .ok (.ifCond .lt 26, 3) := by decide +kernel
theorem dX3_signAt_4 : decode cX3_signAt 4 = .ok (.iload_n 1, 1) := by decide +kernel
theorem dX3_signAt_5 : decode cX3_signAt 5 = .ok (.aload_n 0, 1) := by decide +kernel
theorem dX3_signAt_6 : decode cX3_signAt 6 = .ok (.getfield 15, 3) := by decide +kernel
theorem dX3_signAt_9 : decode cX3_signAt 9 = .ok (.if_icmp .ge 18, 3) := by decide +kernel
theorem dX3_signAt_12 : decode cX3_signAt 12 = .ok (.iload_n 1, 1) := by decide +kernel
theorem dX3_signAt_13 : decode cX3_signAt 13 = .ok (.bipush 40, 2) := by decide +kernel
theorem dX3_signAt_15 : decode cX3_signAt 15 = .ok (.if_icmp .ge 12, 3) := by decide +kernel
theorem dX3_signAt_18 : decode cX3_signAt 18 = .ok (.aload_n 0, 1) := by decide +kernel
theorem dX3_signAt_19 : decode cX3_signAt 19 = .ok (.getfield 9, 3) := by decide +kernel
theorem dX3_signAt_22 : decode cX3_signAt 22 = .ok (.iload_n 1, 1) := by decide +kernel
theorem dX3_signAt_23 : decode cX3_signAt 23 = .ok (.iaload, 1) := by decide +kernel
theorem dX3_signAt_24 : decode cX3_signAt 24 = .ok (.goto 4, 3) := by decide +kernel
theorem dX3_signAt_27 : decode cX3_signAt 27 = .ok (.iconst 0, 1) := by decide +kernel
theorem dX3_signAt_28 : decode cX3_signAt 28 = .ok (.ireturn, 1) := by decide +kernel
theorem dX3_kindNamedAt_0 : decode cX3_kindNamedAt 0 = .ok (.iconst 0, 1) := by decide +kernel
theorem dX3_kindNamedAt_1 : decode cX3_kindNamedAt 1 = .ok (.istore_n 2, 1) := by decide +kernel
theorem dX3_kindNamedAt_2 : decode cX3_kindNamedAt 2 = .ok (.iload_n 2, 1) := by decide +kernel
theorem dX3_kindNamedAt_3 : decode cX3_kindNamedAt 3 = .ok (.iconst 3, 1) := by decide +kernel
theorem dX3_kindNamedAt_4 : decode cX3_kindNamedAt 4 = .ok (.if_icmp .ge 27, 3) := by decide +kernel
theorem dX3_kindNamedAt_7 : decode cX3_kindNamedAt 7 = .ok (.aload_n 0, 1) := by decide +kernel
theorem dX3_kindNamedAt_8 : decode cX3_kindNamedAt 8 = .ok (.iload_n 1, 1) := by decide +kernel
theorem dX3_kindNamedAt_9 : decode cX3_kindNamedAt 9 = .ok (.invokevirtual 26, 3) := by decide +kernel
theorem dX3_kindNamedAt_12 : decode cX3_kindNamedAt 12 = .ok (.ldc 52, 2) := by decide +kernel
theorem dX3_kindNamedAt_14 : decode cX3_kindNamedAt 14 = .ok (.iload_n 2, 1) := by decide +kernel
theorem dX3_kindNamedAt_15 : decode cX3_kindNamedAt 15 = .ok (.iconst 4, 1) := by decide +kernel
theorem dX3_kindNamedAt_16 : decode cX3_kindNamedAt 16 = .ok (.imul, 1) := by decide +kernel
theorem dX3_kindNamedAt_17 : decode cX3_kindNamedAt 17 = .ok (.invokevirtual 54, 3) := by decide +kernel
theorem dX3_kindNamedAt_20 : decode cX3_kindNamedAt 20 = .ok (.if_icmp .ne 5, 3) := by decide +kernel
theorem dX3_kindNamedAt_23 : decode cX3_kindNamedAt 23 = .ok (.iload_n 2, 1) := by decide +kernel
theorem dX3_kindNamedAt_24 : decode cX3_kindNamedAt 24 = .ok (.ireturn, 1) := by decide +kernel
theorem dX3_kindNamedAt_25 : decode cX3_kindNamedAt 25 = .ok (.iinc 2 1, 3) := by decide +kernel
theorem dX3_kindNamedAt_28 : decode cX3_kindNamedAt 28 = .ok (.goto (-26), 3) := by decide +kernel
theorem dX3_kindNamedAt_31 : decode cX3_kindNamedAt 31 = .ok (.bipush (-6), 2) := by decide +kernel
theorem dX3_kindNamedAt_33 : decode cX3_kindNamedAt 33 = .ok (.ireturn, 1) := by decide +kernel
theorem dX3_nameStandsAt_0 : decode cX3_nameStandsAt 0 = .ok (.iconst 0, 1) := by decide +kernel
theorem dX3_nameStandsAt_1 : decode cX3_nameStandsAt 1 = .ok (.istore_n 3, 1) := by decide +kernel
theorem dX3_nameStandsAt_2 : decode cX3_nameStandsAt 2 = .ok (.iload_n 3, 1) := by decide +kernel
theorem dX3_nameStandsAt_3 : decode cX3_nameStandsAt 3 = .ok (.iconst 4, 1) := by decide +kernel
theorem dX3_nameStandsAt_4 : decode cX3_nameStandsAt 4 = .ok (.if_icmp .ge 31, 3) := by decide +kernel
theorem dX3_nameStandsAt_7 : decode cX3_nameStandsAt 7 = .ok (.aload_n 0, 1) := by decide +kernel
theorem dX3_nameStandsAt_8 : decode cX3_nameStandsAt 8 = .ok (.iload_n 1, 1) := by decide +kernel
theorem dX3_nameStandsAt_9 : decode cX3_nameStandsAt 9 = .ok (.iload_n 3, 1) := by decide +kernel
theorem dX3_nameStandsAt_10 : decode cX3_nameStandsAt 10 = .ok (.iadd, 1) := by decide +kernel
theorem dX3_nameStandsAt_11 : decode cX3_nameStandsAt 11 = .ok (.invokevirtual 26, 3) := by decide +kernel
theorem dX3_nameStandsAt_14 : decode cX3_nameStandsAt 14 = .ok (.ldc 52, 2) := by decide +kernel
theorem dX3_nameStandsAt_16 : decode cX3_nameStandsAt 16 = .ok (.iload_n 2, 1) := by decide +kernel
theorem dX3_nameStandsAt_17 : decode cX3_nameStandsAt 17 = .ok (.iconst 4, 1) := by decide +kernel
theorem dX3_nameStandsAt_18 : decode cX3_nameStandsAt 18 = .ok (.imul, 1) := by decide +kernel
theorem dX3_nameStandsAt_19 : decode cX3_nameStandsAt 19 = .ok (.iload_n 3, 1) := by decide +kernel
theorem dX3_nameStandsAt_20 : decode cX3_nameStandsAt 20 = .ok (.iadd, 1) := by decide +kernel
theorem dX3_nameStandsAt_21 : decode cX3_nameStandsAt 21 = .ok (.invokevirtual 54, 3) := by decide +kernel
theorem dX3_nameStandsAt_24 : decode cX3_nameStandsAt 24 = .ok (.if_icmp .eq 5, 3) := by decide +kernel
theorem dX3_nameStandsAt_27 : decode cX3_nameStandsAt 27 = .ok (.iconst 0, 1) := by decide +kernel
theorem dX3_nameStandsAt_28 : decode cX3_nameStandsAt 28 = .ok (.ireturn, 1) := by decide +kernel
theorem dX3_nameStandsAt_29 : decode cX3_nameStandsAt 29 = .ok (.iinc 3 1, 3) := by decide +kernel
theorem dX3_nameStandsAt_32 : decode cX3_nameStandsAt 32 = .ok (.goto (-30), 3) := by decide +kernel
theorem dX3_nameStandsAt_35 : decode cX3_nameStandsAt 35 = .ok (.iconst 1, 1) := by decide +kernel
theorem dX3_nameStandsAt_36 : decode cX3_nameStandsAt 36 = .ok (.ireturn, 1) := by decide +kernel
theorem dX3_isLetter_0 : decode cX3_isLetter 0 = .ok (.iload_n 0, 1) := by decide +kernel
theorem dX3_isLetter_1 : decode cX3_isLetter 1 = .ok (.bipush 97, 2) := by decide +kernel
theorem dX3_isLetter_3 : decode cX3_isLetter 3 = .ok (.if_icmp .lt 13, 3) := by decide +kernel
theorem dX3_isLetter_6 : decode cX3_isLetter 6 = .ok (.iload_n 0, 1) := by decide +kernel
theorem dX3_isLetter_7 : decode cX3_isLetter 7 = .ok (.bipush 104, 2) := by decide +kernel
theorem dX3_isLetter_9 : decode cX3_isLetter 9 = .ok (.if_icmp .gt 7, 3) := by decide +kernel
theorem dX3_isLetter_12 : decode cX3_isLetter 12 = .ok (.iconst 1, 1) := by decide +kernel
theorem dX3_isLetter_13 : decode cX3_isLetter 13 = .ok (.goto 4, 3) := by decide +kernel
theorem dX3_isLetter_16 : decode cX3_isLetter 16 = .ok (.iconst 0, 1) := by decide +kernel
theorem dX3_isLetter_17 : decode cX3_isLetter 17 = .ok (.ireturn, 1) := by decide +kernel
theorem dX3_isFigure_0 : decode cX3_isFigure 0 = .ok (.iload_n 0, 1) := by decide +kernel
theorem dX3_isFigure_1 : decode cX3_isFigure 1 = .ok (.bipush 48, 2) := by decide +kernel
theorem dX3_isFigure_3 : decode cX3_isFigure 3 = .ok (.if_icmp .lt 13, 3) := by decide +kernel
theorem dX3_isFigure_6 : decode cX3_isFigure 6 = .ok (.iload_n 0, 1) := by decide +kernel
theorem dX3_isFigure_7 : decode cX3_isFigure 7 = .ok (.bipush 57, 2) := by decide +kernel
theorem dX3_isFigure_9 : decode cX3_isFigure 9 = .ok (.if_icmp .gt 7, 3) := by decide +kernel
theorem dX3_isFigure_12 : decode cX3_isFigure 12 = .ok (.iconst 1, 1) := by decide +kernel
theorem dX3_isFigure_13 : decode cX3_isFigure 13 = .ok (.goto 4, 3) := by decide +kernel
theorem dX3_isFigure_16 : decode cX3_isFigure 16 = .ok (.iconst 0, 1) := by decide +kernel
theorem dX3_isFigure_17 : decode cX3_isFigure 17 = .ok (.ireturn, 1) := by decide +kernel
end
section
set_option maxHeartbeats 4000000 in
set_option maxRecDepth 100000 in
theorem mX3_isLetter {l : Launch} {D : va_G} {k : zK} {E : zE} (hE : zEok E) (sg : Int) : zMi l D k E yX3_isLetter cX3_isLetter 1 .boolean { frames := 0, cells := 0, slots := 0, locals := 0 } 0 0 [.inl sg] [] (True) (fun z u => u = [] ∧ (z = 0 ∨ z = 1)) := by
  refine zMi.of RX3 hE (by decide) rfl (by simp) (fun z u hp hq => ?_) ?_
  · have hz : z = 0 ∨ z = 1 := by obtain ⟨_, hq⟩ := hq; first | exact hq | exact hq.1
    rcases hz with rfl | rfl <;> decide
  intro Z hP hav hwr B
  obtain ⟨l_sg, u_sg⟩ : zR sg := hav (.inl sg) (by simp)
  show Z 0 0 0 [some (.inl sg)] [] _
  refine B.iload_n (pc := 0) (i := 0) dX3_isLetter_0 rfl rfl ?_
  refine B.bipush (pc := 1) dX3_isLetter_1 ⟨by decide, by decide⟩ ?_
  refine B.icmp_lt (pc := 3) (tgt := 16) dX3_isLetter_3 (by decide) (fun c1 => ?_) (fun c1 => ?_)
  · refine B.iconst (pc := 16) dX3_isLetter_16 ⟨by decide, by decide⟩ ?_
    refine B.ireturn (pc := 17) (by simp) dX3_isLetter_17 (Nat.le_refl _) (Nat.le_refl _) (fun rz rw => ⟨rfl, ?_⟩)
    first | trivial | omega
  · refine B.iload_n (pc := 6) (i := 0) dX3_isLetter_6 rfl rfl ?_
    refine B.bipush (pc := 7) dX3_isLetter_7 ⟨by decide, by decide⟩ ?_
    refine B.icmp_gt (pc := 9) (tgt := 16) dX3_isLetter_9 (by decide) (fun c2 => ?_) (fun c2 => ?_)
    · refine B.iconst (pc := 16) dX3_isLetter_16 ⟨by decide, by decide⟩ ?_
      refine B.ireturn (pc := 17) (by simp) dX3_isLetter_17 (Nat.le_refl _) (Nat.le_refl _) (fun rz rw => ⟨rfl, ?_⟩)
      first | trivial | omega
    · refine B.iconst (pc := 12) dX3_isLetter_12 ⟨by decide, by decide⟩ ?_
      refine B.goto (pc := 13) (tgt := 17) dX3_isLetter_13 (by decide) ?_
      refine B.ireturn (pc := 17) (by simp) dX3_isLetter_17 (Nat.le_refl _) (Nat.le_refl _) (fun rz rw => ⟨rfl, ?_⟩)
      first | trivial | omega
set_option maxHeartbeats 4000000 in
set_option maxRecDepth 100000 in
theorem mX3_isFigure {l : Launch} {D : va_G} {k : zK} {E : zE} (hE : zEok E) (sg : Int) : zMi l D k E yX3_isFigure cX3_isFigure 1 .boolean { frames := 0, cells := 0, slots := 0, locals := 0 } 0 0 [.inl sg] [] (True) (fun z u => u = [] ∧ ((z = 0 ∨ z = 1) ∧ (z = 1 → 48 ≤ sg ∧ sg ≤ 57))) := by
  refine zMi.of RX3 hE (by decide) rfl (by simp) (fun z u hp hq => ?_) ?_
  · have hz : z = 0 ∨ z = 1 := by obtain ⟨_, hq⟩ := hq; first | exact hq | exact hq.1
    rcases hz with rfl | rfl <;> decide
  intro Z hP hav hwr B
  obtain ⟨l_sg, u_sg⟩ : zR sg := hav (.inl sg) (by simp)
  show Z 0 0 0 [some (.inl sg)] [] _
  refine B.iload_n (pc := 0) (i := 0) dX3_isFigure_0 rfl rfl ?_
  refine B.bipush (pc := 1) dX3_isFigure_1 ⟨by decide, by decide⟩ ?_
  refine B.icmp_lt (pc := 3) (tgt := 16) dX3_isFigure_3 (by decide) (fun c1 => ?_) (fun c1 => ?_)
  · refine B.iconst (pc := 16) dX3_isFigure_16 ⟨by decide, by decide⟩ ?_
    refine B.ireturn (pc := 17) (by simp) dX3_isFigure_17 (Nat.le_refl _) (Nat.le_refl _) (fun rz rw => ⟨rfl, ?_⟩)
    first | (refine ⟨by omega, by omega⟩)
  · refine B.iload_n (pc := 6) (i := 0) dX3_isFigure_6 rfl rfl ?_
    refine B.bipush (pc := 7) dX3_isFigure_7 ⟨by decide, by decide⟩ ?_
    refine B.icmp_gt (pc := 9) (tgt := 16) dX3_isFigure_9 (by decide) (fun c2 => ?_) (fun c2 => ?_)
    · refine B.iconst (pc := 16) dX3_isFigure_16 ⟨by decide, by decide⟩ ?_
      refine B.ireturn (pc := 17) (by simp) dX3_isFigure_17 (Nat.le_refl _) (Nat.le_refl _) (fun rz rw => ⟨rfl, ?_⟩)
      first | (refine ⟨by omega, by omega⟩)
    · refine B.iconst (pc := 12) dX3_isFigure_12 ⟨by decide, by decide⟩ ?_
      refine B.goto (pc := 13) (tgt := 17) dX3_isFigure_13 (by decide) ?_
      refine B.ireturn (pc := 17) (by simp) dX3_isFigure_17 (Nat.le_refl _) (Nat.le_refl _) (fun rz rw => ⟨rfl, ?_⟩)
      first | (refine ⟨by omega, by omega⟩)
set_option maxHeartbeats 4000000 in
set_option maxRecDepth 100000 in
theorem mX3_signAt {l : Launch} {D : va_G} {k : zK} {E : zE} (hE : zEok E) (p_a p_signs_a : Nat) (p_count p_letters p_kind p_cost at_ : Int) (p_signs : Nat → Int) : zMi l D k E yX3_signAt cX3_signAt 2 .int { frames := 0, cells := 0, slots := 0, locals := 0 } 0 0 [.inr (some p_a), .inl at_] [(p_a, .inr (.inr (3, [.inr (some p_signs_a), .inl p_count, .inl p_letters, .inl p_kind, .inl p_cost]))), (p_signs_a, .inl (false, 40, p_signs))] (0 ≤ p_count ∧ p_count ≤ 40) (fun z u => u = [(p_a, .inr (.inr (3, [.inr (some p_signs_a), .inl p_count, .inl p_letters, .inl p_kind, .inl p_cost]))), (p_signs_a, .inl (false, 40, p_signs))] ∧ ((0 ≤ at_ → at_ < p_count → z = p_signs at_.toNat) ∧ (at_ < 0 ∨ p_count ≤ at_ → z = 0))) := by
  refine zMi.of RX3 hE (by decide) rfl (by simp) (fun _ _ _ _ => rfl) ?_
  intro Z hP hav hwr B
  obtain ⟨l_at_, u_at_⟩ : zR at_ := hav (.inl at_) (by simp)
  obtain ⟨l_p_count, u_p_count⟩ : zR p_count := zWr_at hwr (i := 0) rfl (.inl p_count) (by simp)
  obtain ⟨l_p_letters, u_p_letters⟩ : zR p_letters := zWr_at hwr (i := 0) rfl (.inl p_letters) (by simp)
  obtain ⟨l_p_kind, u_p_kind⟩ : zR p_kind := zWr_at hwr (i := 0) rfl (.inl p_kind) (by simp)
  obtain ⟨l_p_cost, u_p_cost⟩ : zR p_cost := zWr_at hwr (i := 0) rfl (.inl p_cost) (by simp)
  show Z 0 0 0 [some (.inr (some p_a)), some (.inl at_)] [] _
  refine B.iload_n (pc := 0) (i := 1) dX3_signAt_0 rfl rfl ?_
  refine B.if_lt (pc := 1) (tgt := 27) dX3_signAt_1 (by decide) (fun c1 => ?_) (fun c1 => ?_)
  · refine B.iconst (pc := 27) dX3_signAt_27 ⟨by decide, by decide⟩ ?_
    refine B.ireturn (pc := 28) (by simp) dX3_signAt_28 (Nat.le_refl _) (Nat.le_refl _) (fun rz rw => ⟨rfl, ?_⟩)
    omega
  · refine B.iload_n (pc := 4) (i := 1) dX3_signAt_4 rfl rfl ?_
    refine B.aload_n (pc := 5) (i := 0) dX3_signAt_5 rfl rfl ?_
    refine B.getfield (pc := 6) 0 rfl rfl inX3z 1 (by decide) fl_X3_15 rfl dX3_signAt_6 ?_
    refine B.icmp_ge (pc := 9) (tgt := 27) dX3_signAt_9 (by decide) (fun c2 => ?_) (fun c2 => ?_)
    · refine B.iconst (pc := 27) dX3_signAt_27 ⟨by decide, by decide⟩ ?_
      refine B.ireturn (pc := 28) (by simp) dX3_signAt_28 (Nat.le_refl _) (Nat.le_refl _) (fun rz rw => ⟨rfl, ?_⟩)
      omega
    · refine B.iload_n (pc := 12) (i := 1) dX3_signAt_12 rfl rfl ?_
      refine B.bipush (pc := 13) dX3_signAt_13 ⟨by decide, by decide⟩ ?_
      refine B.icmp_ge (pc := 15) (tgt := 27) dX3_signAt_15 (by decide) (fun c3 => ?_) (fun c3 => ?_)
      · refine B.iconst (pc := 27) dX3_signAt_27 ⟨by decide, by decide⟩ ?_
        refine B.ireturn (pc := 28) (by simp) dX3_signAt_28 (Nat.le_refl _) (Nat.le_refl _) (fun rz rw => ⟨rfl, ?_⟩)
        omega
      · refine B.aload_n (pc := 18) (i := 0) dX3_signAt_18 rfl rfl ?_
        refine B.getfield (pc := 19) 0 rfl rfl inX3z 0 (by decide) fl_X3_9 rfl dX3_signAt_19 ?_
        refine B.iload_n (pc := 22) (i := 1) dX3_signAt_22 rfl rfl ?_
        refine B.iaload (pc := 23) 1 rfl (by omega) (by omega) dX3_signAt_23 (fun r4 => ?_)
        obtain ⟨lr4, ur4⟩ := r4
        refine B.goto (pc := 24) (tgt := 28) dX3_signAt_24 (by decide) ?_
        refine B.ireturn (pc := 28) (by simp) dX3_signAt_28 (Nat.le_refl _) (Nat.le_refl _) (fun rz rw => ⟨rfl, ?_⟩)
        omega
set_option maxHeartbeats 4000000 in
set_option maxRecDepth 100000 in
theorem mX3_add {l : Launch} {D : va_G} {k : zK} {E : zE} (hE : zEok E) (p_a p_signs_a : Nat) (p_count p_letters p_kind p_cost sg : Int) (p_signs : Nat → Int) : zMi l D k E yX3_add cX3_add 2 .boolean { frames := 0, cells := 0, slots := 0, locals := 0 } 0 0 [.inr (some p_a), .inl sg] [(p_a, .inr (.inr (3, [.inr (some p_signs_a), .inl p_count, .inl p_letters, .inl p_kind, .inl p_cost]))), (p_signs_a, .inl (false, 40, p_signs))] (0 ≤ p_count ∧ p_count ≤ 40) (fun z u => ∃ (p_count' : Int) (p_signs' : Nat → Int), u = [(p_a, .inr (.inr (3, [.inr (some p_signs_a), .inl p_count', .inl p_letters, .inl p_kind, .inl p_cost]))), (p_signs_a, .inl (false, 40, p_signs'))] ∧ ((z = 0 ∨ z = 1) ∧ 0 ≤ p_count' ∧ p_count' ≤ 40)) := by
  refine zMi.of RX3 hE (by decide) rfl (by simp) (fun z u hp hq => ?_) ?_
  · have hz : z = 0 ∨ z = 1 := by obtain ⟨_, _, _, hq⟩ := hq; first | exact hq | exact hq.1
    rcases hz with rfl | rfl <;> decide
  intro Z hP hav hwr B
  obtain ⟨l_sg, u_sg⟩ : zR sg := hav (.inl sg) (by simp)
  obtain ⟨l_p_count, u_p_count⟩ : zR p_count := zWr_at hwr (i := 0) rfl (.inl p_count) (by simp)
  obtain ⟨l_p_letters, u_p_letters⟩ : zR p_letters := zWr_at hwr (i := 0) rfl (.inl p_letters) (by simp)
  obtain ⟨l_p_kind, u_p_kind⟩ : zR p_kind := zWr_at hwr (i := 0) rfl (.inl p_kind) (by simp)
  obtain ⟨l_p_cost, u_p_cost⟩ : zR p_cost := zWr_at hwr (i := 0) rfl (.inl p_cost) (by simp)
  show Z 0 0 0 [some (.inr (some p_a)), some (.inl sg)] [] _
  refine B.aload_n (pc := 0) (i := 0) dX3_add_0 rfl rfl ?_
  refine B.getfield (pc := 1) 0 rfl rfl inX3z 1 (by decide) fl_X3_15 rfl dX3_add_1 ?_
  refine B.bipush (pc := 4) dX3_add_4 ⟨by decide, by decide⟩ ?_
  refine B.icmp_lt (pc := 6) (tgt := 11) dX3_add_6 (by decide) (fun c1 => ?_) (fun c1 => ?_)
  · refine B.aload_n (pc := 11) (i := 0) dX3_add_11 rfl rfl ?_
    refine B.getfield (pc := 12) 0 rfl rfl inX3z 0 (by decide) fl_X3_9 rfl dX3_add_12 ?_
    refine B.aload_n (pc := 15) (i := 0) dX3_add_15 rfl rfl ?_
    refine B.getfield (pc := 16) 0 rfl rfl inX3z 1 (by decide) fl_X3_15 rfl dX3_add_16 ?_
    refine B.iload_n (pc := 19) (i := 1) dX3_add_19 rfl rfl ?_
    refine B.iastore (pc := 20) 1 rfl (by omega) (by omega) dX3_add_20 ?_
    simp only [List.set_cons_zero, List.set_cons_succ]
    refine B.aload_n (pc := 21) (i := 0) dX3_add_21 rfl rfl ?_
    refine B.dup (pc := 22) dX3_add_22 ?_
    refine B.getfield (pc := 23) 0 rfl rfl inX3z 1 (by decide) fl_X3_15 rfl dX3_add_23 ?_
    refine B.iconst (pc := 26) dX3_add_26 ⟨by decide, by decide⟩ ?_
    refine B.iadd (pc := 27) dX3_add_27 ⟨by omega, by omega⟩ ?_
    refine B.putfield (pc := 28) 0 rfl rfl inX3z tyX3 tyX3_ok nmX3 1 (by decide) fl_X3_15 rfl rfl rfl (Nat.le_of_ble_eq_true rfl) dX3_add_28 ?_
    simp only [List.set_cons_zero, List.set_cons_succ]
    refine B.iconst (pc := 31) dX3_add_31 ⟨by decide, by decide⟩ ?_
    refine B.ireturn (pc := 32) (by simp) dX3_add_32 (Nat.le_refl _) (Nat.le_refl _) (fun rz rw => ⟨_, _, rfl, ?_⟩)
    (refine ⟨by omega, by omega, by omega⟩)
  · refine B.iconst (pc := 9) dX3_add_9 ⟨by decide, by decide⟩ ?_
    refine B.ireturn (pc := 10) (by simp) dX3_add_10 (Nat.le_refl _) (Nat.le_refl _) (fun rz rw => ⟨_, _, rfl, ?_⟩)
    (refine ⟨by omega, by omega, by omega⟩)
set_option maxHeartbeats 4000000 in
set_option maxRecDepth 100000 in
theorem mX3_clear {l : Launch} {D : va_G} {k : zK} {E : zE} (hE : zEok E) (p_a p_signs_a : Nat) (p_count p_letters p_kind p_cost : Int) (p_signs : Nat → Int) : zMv l D k E yX3_clear cX3_clear 1 { frames := 0, cells := 0, slots := 0, locals := 0 } 0 0 [.inr (some p_a)] [(p_a, .inr (.inr (3, [.inr (some p_signs_a), .inl p_count, .inl p_letters, .inl p_kind, .inl p_cost]))), (p_signs_a, .inl (false, 40, p_signs))] (True) (fun z u => ∃ (p_count' : Int), u = [(p_a, .inr (.inr (3, [.inr (some p_signs_a), .inl p_count', .inl p_letters, .inl p_kind, .inl p_cost]))), (p_signs_a, .inl (false, 40, p_signs))] ∧ (p_count' = 0)) := by
  refine zMv.of RX3 hE (by decide) rfl (by simp) ?_
  intro Z hP hav hwr B
  obtain ⟨l_p_count, u_p_count⟩ : zR p_count := zWr_at hwr (i := 0) rfl (.inl p_count) (by simp)
  obtain ⟨l_p_letters, u_p_letters⟩ : zR p_letters := zWr_at hwr (i := 0) rfl (.inl p_letters) (by simp)
  obtain ⟨l_p_kind, u_p_kind⟩ : zR p_kind := zWr_at hwr (i := 0) rfl (.inl p_kind) (by simp)
  obtain ⟨l_p_cost, u_p_cost⟩ : zR p_cost := zWr_at hwr (i := 0) rfl (.inl p_cost) (by simp)
  show Z 0 0 0 [some (.inr (some p_a))] [] _
  refine B.aload_n (pc := 0) (i := 0) dX3_clear_0 rfl rfl ?_
  refine B.iconst (pc := 1) dX3_clear_1 ⟨by decide, by decide⟩ ?_
  refine B.putfield (pc := 2) 0 rfl rfl inX3z tyX3 tyX3_ok nmX3 1 (by decide) fl_X3_15 rfl rfl rfl (Nat.le_of_ble_eq_true rfl) dX3_clear_2 ?_
  simp only [List.set_cons_zero, List.set_cons_succ]
  refine B.vreturn (pc := 5) rfl dX3_clear_5 (Nat.le_refl _) (Nat.le_refl _) (fun rw => ⟨_, rfl, ?_⟩)
  first | trivial | omega
set_option maxHeartbeats 4000000 in
set_option maxRecDepth 100000 in
theorem mX3_leadingLetters {l : Launch} {D : va_G} {k : zK} {E : zE} (hE : zEok E) (p_a p_signs_a : Nat) (p_count p_letters p_kind p_cost most : Int) (p_signs : Nat → Int) : zMi l D k E yX3_leadingLetters cX3_leadingLetters 3 .int { frames := 1, cells := 0, slots := 0, locals := 21 } 0 0 [.inr (some p_a), .inl most] [(p_a, .inr (.inr (3, [.inr (some p_signs_a), .inl p_count, .inl p_letters, .inl p_kind, .inl p_cost]))), (p_signs_a, .inl (false, 40, p_signs))] (0 ≤ p_count ∧ p_count ≤ 40 ∧ 0 ≤ most ∧ most ≤ 40) (fun z u => u = [(p_a, .inr (.inr (3, [.inr (some p_signs_a), .inl p_count, .inl p_letters, .inl p_kind, .inl p_cost]))), (p_signs_a, .inl (false, 40, p_signs))] ∧ (0 ≤ z ∧ z ≤ most)) := by
  refine zMi.of RX3 hE (by decide) rfl (by simp) (fun _ _ _ _ => rfl) ?_
  intro Z hP hav hwr B
  obtain ⟨l_most, u_most⟩ : zR most := hav (.inl most) (by simp)
  obtain ⟨l_p_count, u_p_count⟩ : zR p_count := zWr_at hwr (i := 0) rfl (.inl p_count) (by simp)
  obtain ⟨l_p_letters, u_p_letters⟩ : zR p_letters := zWr_at hwr (i := 0) rfl (.inl p_letters) (by simp)
  obtain ⟨l_p_kind, u_p_kind⟩ : zR p_kind := zWr_at hwr (i := 0) rfl (.inl p_kind) (by simp)
  obtain ⟨l_p_cost, u_p_cost⟩ : zR p_cost := zWr_at hwr (i := 0) rfl (.inl p_cost) (by simp)
  have key : ∀ n : Nat, (∀ (lv : List (Option zV)) (ws : zW), (∃ (f : Int), lv = [some (.inr (some p_a)), some (.inl most), some (.inl f)] ∧ ws = [(p_a, .inr (.inr (3, [.inr (some p_signs_a), .inl p_count, .inl p_letters, .inl p_kind, .inl p_cost]))), (p_signs_a, .inl (false, 40, p_signs))] ∧ n = (most - f).toNat ∧ (0 ≤ f ∧ f ≤ most)) → Z 0 0 2 lv [] ws) := by
    intro n
    induction n using Nat.strongRecOn with
    | _ n ih =>
      · intro lv ws hJ
        obtain ⟨f, rfl, rfl, rfl, hi⟩ := hJ
        refine B.iload_n (pc := 2) (i := 2) dX3_leadingLetters_2 rfl rfl ?_
        refine B.iload_n (pc := 3) (i := 1) dX3_leadingLetters_3 rfl rfl ?_
        refine B.icmp_ge (pc := 4) (tgt := 24) dX3_leadingLetters_4 (by decide) (fun c1 => ?_) (fun c1 => ?_)
        · refine B.iload_n (pc := 24) (i := 2) dX3_leadingLetters_24 rfl rfl ?_
          refine B.ireturn (pc := 25) (by simp) dX3_leadingLetters_25 (Nat.le_refl _) (Nat.le_refl _) (fun rz rw => ⟨rfl, ?_⟩)
          omega
        · refine B.aload_n (pc := 7) (i := 0) dX3_leadingLetters_7 rfl rfl ?_
          refine B.iload_n (pc := 8) (i := 2) dX3_leadingLetters_8 rfl rfl ?_
          refine B.callVi (pc := 9) 1 (mX3_signAt hE _ _ _ _ _ _ _ _) 0 rfl rfl ml_X3_26 im_X3_signAt se_X3_signAt it_X3 co_X3_signAt (by decide +kernel) rfl rfl rfl ⟨by decide, by decide⟩ ⟨by decide, by decide⟩ [0, 1] rfl rfl rfl (Nat.le_of_ble_eq_true rfl) dX3_leadingLetters_9 (fun _ => by omega) (fun zk2 uk2 rzk2 ruk2 rak2 hqk2 => ?_)
          obtain ⟨lzk2, uzk2⟩ := rzk2
          obtain ⟨rfl, hk2⟩ := hqk2
          simp only [zput, List.set_cons_zero, List.set_cons_succ, List.append_nil, Nat.add_zero]
          refine B.callSi (pc := 12) 1 (mX3_isLetter hE _) ml_X3_49 sm_X3_isLetter it_X3 co_X3_isLetter (by decide +kernel) rfl rfl rfl ⟨by decide, by decide⟩ ⟨by decide, by decide⟩ [] rfl rfl rfl (Nat.le_of_ble_eq_true rfl) dX3_leadingLetters_12 (fun _ => trivial) (fun zk3 uk3 rzk3 ruk3 rak3 hqk3 => ?_)
          obtain ⟨lzk3, uzk3⟩ := rzk3
          obtain ⟨rfl, hk3⟩ := hqk3
          simp only [zput, List.append_nil, Nat.add_zero]
          refine B.if_eq (pc := 15) (tgt := 24) dX3_leadingLetters_15 (by decide) (fun c4 => ?_) (fun c4 => ?_)
          · refine B.iload_n (pc := 24) (i := 2) dX3_leadingLetters_24 rfl rfl ?_
            refine B.ireturn (pc := 25) (by simp) dX3_leadingLetters_25 (Nat.le_refl _) (Nat.le_refl _) (fun rz rw => ⟨rfl, ?_⟩)
            omega
          · refine B.iinc (pc := 18) dX3_leadingLetters_18 (by decide) rfl ⟨by omega, by omega⟩ ?_
            simp only [List.set_cons_zero, List.set_cons_succ]
            refine B.goto (pc := 21) (tgt := 2) dX3_leadingLetters_21 (by decide) ?_
            refine (ih _ ?_) _ _ ⟨_, rfl, rfl, rfl, ?_⟩
            · omega
            · first | trivial | omega | (refine ⟨?_, ?_⟩ <;> omega)
  show Z 0 0 0 [some (.inr (some p_a)), some (.inl most), none] [] _
  refine B.iconst (pc := 0) dX3_leadingLetters_0 ⟨by decide, by decide⟩ ?_
  refine B.istore_n (pc := 1) (i := 2) dX3_leadingLetters_1 rfl (by decide) ?_
  simp only [List.set_cons_zero, List.set_cons_succ]
  refine (key _) _ _ ⟨_, rfl, rfl, rfl, ?_⟩
  first | trivial | omega | (refine ⟨?_, ?_⟩ <;> omega)
set_option maxHeartbeats 4000000 in
set_option maxRecDepth 100000 in
theorem mX3_readLine {l : Launch} {D : va_G} {k : zK} {E : zE} (hE : zEok E) (p_a p_signs_a : Nat) (p_count p_letters p_kind p_cost : Int) (p_signs : Nat → Int) : zMi l D k E yX3_readLine cX3_readLine 2 .int { frames := 2, cells := 0, slots := 0, locals := 43 } 0 0 [.inr (some p_a)] [(p_a, .inr (.inr (3, [.inr (some p_signs_a), .inl p_count, .inl p_letters, .inl p_kind, .inl p_cost]))), (p_signs_a, .inl (false, 40, p_signs))] (0 ≤ p_count ∧ p_count ≤ 40) (fun z u => u = [(p_a, .inr (.inr (3, [.inr (some p_signs_a), .inl p_count, .inl p_letters, .inl p_kind, .inl p_cost]))), (p_signs_a, .inl (false, 40, p_signs))] ∧ (True)) := by
  refine zMi.of RX3 hE (by decide) rfl (by simp) (fun _ _ _ _ => rfl) ?_
  intro Z hP hav hwr B
  obtain ⟨l_p_count, u_p_count⟩ : zR p_count := zWr_at hwr (i := 0) rfl (.inl p_count) (by simp)
  obtain ⟨l_p_letters, u_p_letters⟩ : zR p_letters := zWr_at hwr (i := 0) rfl (.inl p_letters) (by simp)
  obtain ⟨l_p_kind, u_p_kind⟩ : zR p_kind := zWr_at hwr (i := 0) rfl (.inl p_kind) (by simp)
  obtain ⟨l_p_cost, u_p_cost⟩ : zR p_cost := zWr_at hwr (i := 0) rfl (.inl p_cost) (by simp)
  show Z 0 0 0 [some (.inr (some p_a)), none] [] _
  refine B.aload_n (pc := 0) (i := 0) dX3_readLine_0 rfl rfl ?_
  refine B.bipush (pc := 1) dX3_readLine_1 ⟨by decide, by decide⟩ ?_
  refine B.callVi (pc := 3) 1 (mX3_leadingLetters hE _ _ _ _ _ _ _ _) 0 rfl rfl ml_X3_19 im_X3_leadingLetters se_X3_leadingLetters it_X3 co_X3_leadingLetters (by decide +kernel) rfl rfl rfl ⟨by decide, by decide⟩ ⟨by decide, by decide⟩ [0, 1] rfl rfl rfl (Nat.le_of_ble_eq_true rfl) dX3_readLine_3 (fun _ => by omega) (fun zk1 uk1 rzk1 ruk1 rak1 hqk1 => ?_)
  obtain ⟨lzk1, uzk1⟩ := rzk1
  obtain ⟨rfl, hk1⟩ := hqk1
  simp only [zput, List.set_cons_zero, List.set_cons_succ, List.append_nil, Nat.add_zero]
  refine B.istore_n (pc := 6) (i := 1) dX3_readLine_6 rfl (by decide) ?_
  simp only [List.set_cons_zero, List.set_cons_succ]
  refine B.iload_n (pc := 7) (i := 1) dX3_readLine_7 rfl rfl ?_
  refine B.if_le (pc := 8) (tgt := 24) dX3_readLine_8 (by decide) (fun c2 => ?_) (fun c2 => ?_)
  · refine B.iload_n (pc := 24) (i := 1) dX3_readLine_24 rfl rfl ?_
    refine B.ireturn (pc := 25) (by simp) dX3_readLine_25 (Nat.le_refl _) (Nat.le_refl _) (fun rz rw => ⟨rfl, ?_⟩)
    first | trivial | omega
  · refine B.iload_n (pc := 11) (i := 1) dX3_readLine_11 rfl rfl ?_
    refine B.aload_n (pc := 12) (i := 0) dX3_readLine_12 rfl rfl ?_
    refine B.getfield (pc := 13) 0 rfl rfl inX3z 1 (by decide) fl_X3_15 rfl dX3_readLine_13 ?_
    refine B.icmp_ne (pc := 16) (tgt := 24) dX3_readLine_16 (by decide) (fun c3 => ?_) (fun c3 => ?_)
    · refine B.iload_n (pc := 24) (i := 1) dX3_readLine_24 rfl rfl ?_
      refine B.ireturn (pc := 25) (by simp) dX3_readLine_25 (Nat.le_refl _) (Nat.le_refl _) (fun rz rw => ⟨rfl, ?_⟩)
      first | trivial | omega
    · refine B.bipush (pc := 19) dX3_readLine_19 ⟨by decide, by decide⟩ ?_
      refine B.goto (pc := 21) (tgt := 25) dX3_readLine_21 (by decide) ?_
      refine B.ireturn (pc := 25) (by simp) dX3_readLine_25 (Nat.le_refl _) (Nat.le_refl _) (fun rz rw => ⟨rfl, ?_⟩)
      first | trivial | omega
set_option maxHeartbeats 4000000 in
set_option maxRecDepth 100000 in
theorem mX3_readCost {l : Launch} {D : va_G} {k : zK} {E : zE} (hE : zEok E) (p_a p_signs_a : Nat) (p_count p_letters p_kind p_cost at_ : Int) (p_signs : Nat → Int) : zMi l D k E yX3_readCost cX3_readCost 3 .int { frames := 1, cells := 0, slots := 0, locals := 21 } 0 0 [.inr (some p_a), .inl at_] [(p_a, .inr (.inr (3, [.inr (some p_signs_a), .inl p_count, .inl p_letters, .inl p_kind, .inl p_cost]))), (p_signs_a, .inl (false, 40, p_signs))] (0 ≤ p_count ∧ p_count ≤ 40 ∧ 0 ≤ at_ ∧ at_ ≤ 100) (fun z u => ∃ (p_cost' : Int), u = [(p_a, .inr (.inr (3, [.inr (some p_signs_a), .inl p_count, .inl p_letters, .inl p_kind, .inl p_cost']))), (p_signs_a, .inl (false, 40, p_signs))] ∧ (z = -6 → 0 ≤ p_cost' ∧ p_cost' ≤ 99)) := by
  refine zMi.of RX3 hE (by decide) rfl (by simp) (fun _ _ _ _ => rfl) ?_
  intro Z hP hav hwr B
  obtain ⟨l_at_, u_at_⟩ : zR at_ := hav (.inl at_) (by simp)
  obtain ⟨l_p_count, u_p_count⟩ : zR p_count := zWr_at hwr (i := 0) rfl (.inl p_count) (by simp)
  obtain ⟨l_p_letters, u_p_letters⟩ : zR p_letters := zWr_at hwr (i := 0) rfl (.inl p_letters) (by simp)
  obtain ⟨l_p_kind, u_p_kind⟩ : zR p_kind := zWr_at hwr (i := 0) rfl (.inl p_kind) (by simp)
  obtain ⟨l_p_cost, u_p_cost⟩ : zR p_cost := zWr_at hwr (i := 0) rfl (.inl p_cost) (by simp)
  show Z 0 0 0 [some (.inr (some p_a)), some (.inl at_), none] [] _
  refine B.aload_n (pc := 0) (i := 0) dX3_readCost_0 rfl rfl ?_
  refine B.iload_n (pc := 1) (i := 1) dX3_readCost_1 rfl rfl ?_
  refine B.callVi (pc := 2) 1 (mX3_signAt hE _ _ _ _ _ _ _ _) 0 rfl rfl ml_X3_26 im_X3_signAt se_X3_signAt it_X3 co_X3_signAt (by decide +kernel) rfl rfl rfl ⟨by decide, by decide⟩ ⟨by decide, by decide⟩ [0, 1] rfl rfl rfl (Nat.le_of_ble_eq_true rfl) dX3_readCost_2 (fun _ => by omega) (fun zk1 uk1 rzk1 ruk1 rak1 hqk1 => ?_)
  obtain ⟨lzk1, uzk1⟩ := rzk1
  obtain ⟨rfl, hk1⟩ := hqk1
  simp only [zput, List.set_cons_zero, List.set_cons_succ, List.append_nil, Nat.add_zero]
  refine B.callSi (pc := 5) 1 (mX3_isFigure hE _) ml_X3_42 sm_X3_isFigure it_X3 co_X3_isFigure (by decide +kernel) rfl rfl rfl ⟨by decide, by decide⟩ ⟨by decide, by decide⟩ [] rfl rfl rfl (Nat.le_of_ble_eq_true rfl) dX3_readCost_5 (fun _ => trivial) (fun zk2 uk2 rzk2 ruk2 rak2 hqk2 => ?_)
  obtain ⟨lzk2, uzk2⟩ := rzk2
  obtain ⟨rfl, hk2⟩ := hqk2
  simp only [zput, List.append_nil, Nat.add_zero]
  refine B.if_ne (pc := 8) (tgt := 13) dX3_readCost_8 (by decide) (fun c3 => ?_) (fun c3 => ?_)
  · refine B.aload_n (pc := 13) (i := 0) dX3_readCost_13 rfl rfl ?_
    refine B.aload_n (pc := 14) (i := 0) dX3_readCost_14 rfl rfl ?_
    refine B.iload_n (pc := 15) (i := 1) dX3_readCost_15 rfl rfl ?_
    refine B.callVi (pc := 16) 1 (mX3_signAt hE _ _ _ _ _ _ _ _) 0 rfl rfl ml_X3_26 im_X3_signAt se_X3_signAt it_X3 co_X3_signAt (by decide +kernel) rfl rfl rfl ⟨by decide, by decide⟩ ⟨by decide, by decide⟩ [0, 1] rfl rfl rfl (Nat.le_of_ble_eq_true rfl) dX3_readCost_16 (fun _ => by omega) (fun zk4 uk4 rzk4 ruk4 rak4 hqk4 => ?_)
    obtain ⟨lzk4, uzk4⟩ := rzk4
    obtain ⟨rfl, hk4⟩ := hqk4
    simp only [zput, List.set_cons_zero, List.set_cons_succ, List.append_nil, Nat.add_zero]
    refine B.bipush (pc := 19) dX3_readCost_19 ⟨by decide, by decide⟩ ?_
    refine B.isub (pc := 21) dX3_readCost_21 ⟨by omega, by omega⟩ ?_
    refine B.putfield (pc := 22) 0 rfl rfl inX3z tyX3 tyX3_ok nmX3 4 (by decide) fl_X3_46 rfl rfl rfl (Nat.le_of_ble_eq_true rfl) dX3_readCost_22 ?_
    simp only [List.set_cons_zero, List.set_cons_succ]
    refine B.iload_n (pc := 25) (i := 1) dX3_readCost_25 rfl rfl ?_
    refine B.iconst (pc := 26) dX3_readCost_26 ⟨by decide, by decide⟩ ?_
    refine B.iadd (pc := 27) dX3_readCost_27 ⟨by omega, by omega⟩ ?_
    refine B.istore_n (pc := 28) (i := 2) dX3_readCost_28 rfl (by decide) ?_
    simp only [List.set_cons_zero, List.set_cons_succ]
    refine B.aload_n (pc := 29) (i := 0) dX3_readCost_29 rfl rfl ?_
    refine B.iload_n (pc := 30) (i := 2) dX3_readCost_30 rfl rfl ?_
    refine B.callVi (pc := 31) 1 (mX3_signAt hE _ _ _ _ _ _ _ _) 0 rfl rfl ml_X3_26 im_X3_signAt se_X3_signAt it_X3 co_X3_signAt (by decide +kernel) rfl rfl rfl ⟨by decide, by decide⟩ ⟨by decide, by decide⟩ [0, 1] rfl rfl rfl (Nat.le_of_ble_eq_true rfl) dX3_readCost_31 (fun _ => by omega) (fun zk5 uk5 rzk5 ruk5 rak5 hqk5 => ?_)
    obtain ⟨lzk5, uzk5⟩ := rzk5
    obtain ⟨rfl, hk5⟩ := hqk5
    simp only [zput, List.set_cons_zero, List.set_cons_succ, List.append_nil, Nat.add_zero]
    refine B.callSi (pc := 34) 1 (mX3_isFigure hE _) ml_X3_42 sm_X3_isFigure it_X3 co_X3_isFigure (by decide +kernel) rfl rfl rfl ⟨by decide, by decide⟩ ⟨by decide, by decide⟩ [] rfl rfl rfl (Nat.le_of_ble_eq_true rfl) dX3_readCost_34 (fun _ => trivial) (fun zk6 uk6 rzk6 ruk6 rak6 hqk6 => ?_)
    obtain ⟨lzk6, uzk6⟩ := rzk6
    obtain ⟨rfl, hk6⟩ := hqk6
    simp only [zput, List.append_nil, Nat.add_zero]
    refine B.if_eq (pc := 37) (tgt := 63) dX3_readCost_37 (by decide) (fun c7 => ?_) (fun c7 => ?_)
    · refine B.iload_n (pc := 63) (i := 2) dX3_readCost_63 rfl rfl ?_
      refine B.aload_n (pc := 64) (i := 0) dX3_readCost_64 rfl rfl ?_
      refine B.getfield (pc := 65) 0 rfl rfl inX3z 1 (by decide) fl_X3_15 rfl dX3_readCost_65 ?_
      refine B.icmp_ne (pc := 68) (tgt := 76) dX3_readCost_68 (by decide) (fun c8 => ?_) (fun c8 => ?_)
      · refine B.iload_n (pc := 76) (i := 2) dX3_readCost_76 rfl rfl ?_
        refine B.ireturn (pc := 77) (by simp) dX3_readCost_77 (Nat.le_refl _) (Nat.le_refl _) (fun rz rw => ⟨_, rfl, ?_⟩)
        first | trivial | omega
      · refine B.bipush (pc := 71) dX3_readCost_71 ⟨by decide, by decide⟩ ?_
        refine B.goto (pc := 73) (tgt := 77) dX3_readCost_73 (by decide) ?_
        refine B.ireturn (pc := 77) (by simp) dX3_readCost_77 (Nat.le_refl _) (Nat.le_refl _) (fun rz rw => ⟨_, rfl, ?_⟩)
        first | trivial | omega
    · refine B.aload_n (pc := 40) (i := 0) dX3_readCost_40 rfl rfl ?_
      refine B.aload_n (pc := 41) (i := 0) dX3_readCost_41 rfl rfl ?_
      refine B.getfield (pc := 42) 0 rfl rfl inX3z 4 (by decide) fl_X3_46 rfl dX3_readCost_42 ?_
      refine B.bipush (pc := 45) dX3_readCost_45 ⟨by decide, by decide⟩ ?_
      refine B.imul (pc := 47) dX3_readCost_47 ⟨by omega, by omega⟩ ?_
      refine B.aload_n (pc := 48) (i := 0) dX3_readCost_48 rfl rfl ?_
      refine B.iload_n (pc := 49) (i := 2) dX3_readCost_49 rfl rfl ?_
      refine B.callVi (pc := 50) 1 (mX3_signAt hE _ _ _ _ _ _ _ _) 0 rfl rfl ml_X3_26 im_X3_signAt se_X3_signAt it_X3 co_X3_signAt (by decide +kernel) rfl rfl rfl ⟨by decide, by decide⟩ ⟨by decide, by decide⟩ [0, 1] rfl rfl rfl (Nat.le_of_ble_eq_true rfl) dX3_readCost_50 (fun _ => by omega) (fun zk9 uk9 rzk9 ruk9 rak9 hqk9 => ?_)
      obtain ⟨lzk9, uzk9⟩ := rzk9
      obtain ⟨rfl, hk9⟩ := hqk9
      simp only [zput, List.set_cons_zero, List.set_cons_succ, List.append_nil, Nat.add_zero]
      refine B.iadd (pc := 53) dX3_readCost_53 ⟨by omega, by omega⟩ ?_
      refine B.bipush (pc := 54) dX3_readCost_54 ⟨by decide, by decide⟩ ?_
      refine B.isub (pc := 56) dX3_readCost_56 ⟨by omega, by omega⟩ ?_
      refine B.putfield (pc := 57) 0 rfl rfl inX3z tyX3 tyX3_ok nmX3 4 (by decide) fl_X3_46 rfl rfl rfl (Nat.le_of_ble_eq_true rfl) dX3_readCost_57 ?_
      simp only [List.set_cons_zero, List.set_cons_succ]
      refine B.iinc (pc := 60) dX3_readCost_60 (by decide) rfl ⟨by omega, by omega⟩ ?_
      simp only [List.set_cons_zero, List.set_cons_succ]
      refine B.iload_n (pc := 63) (i := 2) dX3_readCost_63 rfl rfl ?_
      refine B.aload_n (pc := 64) (i := 0) dX3_readCost_64 rfl rfl ?_
      refine B.getfield (pc := 65) 0 rfl rfl inX3z 1 (by decide) fl_X3_15 rfl dX3_readCost_65 ?_
      refine B.icmp_ne (pc := 68) (tgt := 76) dX3_readCost_68 (by decide) (fun c10 => ?_) (fun c10 => ?_)
      · refine B.iload_n (pc := 76) (i := 2) dX3_readCost_76 rfl rfl ?_
        refine B.ireturn (pc := 77) (by simp) dX3_readCost_77 (Nat.le_refl _) (Nat.le_refl _) (fun rz rw => ⟨_, rfl, ?_⟩)
        first | trivial | omega
      · refine B.bipush (pc := 71) dX3_readCost_71 ⟨by decide, by decide⟩ ?_
        refine B.goto (pc := 73) (tgt := 77) dX3_readCost_73 (by decide) ?_
        refine B.ireturn (pc := 77) (by simp) dX3_readCost_77 (Nat.le_refl _) (Nat.le_refl _) (fun rz rw => ⟨_, rfl, ?_⟩)
        first | trivial | omega
  · refine B.iload_n (pc := 11) (i := 1) dX3_readCost_11 rfl rfl ?_
    refine B.ireturn (pc := 12) (by simp) dX3_readCost_12 (Nat.le_refl _) (Nat.le_refl _) (fun rz rw => ⟨_, rfl, ?_⟩)
    first | trivial | omega
end
