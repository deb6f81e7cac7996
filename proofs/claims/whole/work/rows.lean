section
-- ===== PART A: goes FIRST, ahead of the names: the tables' words, and 'selects' of the private methods out of them =====
/-- a private method of a class that the tables say can be made, by its rows of tables_1 -/
def lw_okq (q : MethodName × Nat) : Prop := (q.1.cls ≠ "java/lang/invoke/MethodHandle" ∧ q.1.cls ≠ "java/lang/invoke/VarHandle") ∧ Cond.instantiable q.1.cls q.2 ∈ tables_1 ∧ Cond.privateMethod q.1 ∈ tables_1 ∧ Cond.instanceMethod q.1 ∈ tables_1
theorem lw_p0 : lw_okq (⟨"LawFinder", "remember", "()V"⟩, 6) := ⟨⟨by decide +kernel, by decide +kernel⟩, List.mem_of_getElem? (i := 12) (by decide +kernel), List.mem_of_getElem? (i := 134) (by decide +kernel), List.mem_of_getElem? (i := 135) (by decide +kernel)⟩
theorem lw_p1 : lw_okq (⟨"LawFinder", "isLaw", "(I)Z"⟩, 6) := ⟨⟨by decide +kernel, by decide +kernel⟩, List.mem_of_getElem? (i := 12) (by decide +kernel), List.mem_of_getElem? (i := 242) (by decide +kernel), List.mem_of_getElem? (i := 243) (by decide +kernel)⟩
theorem lw_p2 : lw_okq (⟨"LawFinder", "count", "()V"⟩, 6) := ⟨⟨by decide +kernel, by decide +kernel⟩, List.mem_of_getElem? (i := 12) (by decide +kernel), List.mem_of_getElem? (i := 253) (by decide +kernel), List.mem_of_getElem? (i := 254) (by decide +kernel)⟩
theorem lw_p3 : lw_okq (⟨"LawFinder$Tally", "sumUp", "(II)V"⟩, 2) := ⟨⟨by decide +kernel, by decide +kernel⟩, List.mem_of_getElem? (i := 76) (by decide +kernel), List.mem_of_getElem? (i := 266) (by decide +kernel), List.mem_of_getElem? (i := 267) (by decide +kernel)⟩
theorem lw_p4 : lw_okq (⟨"LawFinder$Tally", "halveEven", "(I)V"⟩, 2) := ⟨⟨by decide +kernel, by decide +kernel⟩, List.mem_of_getElem? (i := 76) (by decide +kernel), List.mem_of_getElem? (i := 271) (by decide +kernel), List.mem_of_getElem? (i := 272) (by decide +kernel)⟩
theorem lw_p5 : lw_okq (⟨"LawFinder$Tally", "hasWiderNear", "(II)Z"⟩, 2) := ⟨⟨by decide +kernel, by decide +kernel⟩, List.mem_of_getElem? (i := 76) (by decide +kernel), List.mem_of_getElem? (i := 315) (by decide +kernel), List.mem_of_getElem? (i := 316) (by decide +kernel)⟩
theorem lw_p6 : lw_okq (⟨"LawFinderModel", "keep", "()V"⟩, 8) := ⟨⟨by decide +kernel, by decide +kernel⟩, List.mem_of_getElem? (i := 413) (by decide +kernel), List.mem_of_getElem? (i := 456) (by decide +kernel), List.mem_of_getElem? (i := 457) (by decide +kernel)⟩
theorem lw_p7 : lw_okq (⟨"LawFinderModel", "set", "(III)V"⟩, 8) := ⟨⟨by decide +kernel, by decide +kernel⟩, List.mem_of_getElem? (i := 413) (by decide +kernel), List.mem_of_getElem? (i := 467) (by decide +kernel), List.mem_of_getElem? (i := 468) (by decide +kernel)⟩
theorem lw_p8 : lw_okq (⟨"LawFinderModel", "isRow", "(I)Z"⟩, 8) := ⟨⟨by decide +kernel, by decide +kernel⟩, List.mem_of_getElem? (i := 413) (by decide +kernel), List.mem_of_getElem? (i := 475) (by decide +kernel), List.mem_of_getElem? (i := 476) (by decide +kernel)⟩
theorem lw_p9 : lw_okq (⟨"LawFinderModel", "get", "(II)I"⟩, 8) := ⟨⟨by decide +kernel, by decide +kernel⟩, List.mem_of_getElem? (i := 413) (by decide +kernel), List.mem_of_getElem? (i := 479) (by decide +kernel), List.mem_of_getElem? (i := 480) (by decide +kernel)⟩
theorem lw_p10 : lw_okq (⟨"LawFinderModel", "isColumn", "(I)Z"⟩, 8) := ⟨⟨by decide +kernel, by decide +kernel⟩, List.mem_of_getElem? (i := 413) (by decide +kernel), List.mem_of_getElem? (i := 483) (by decide +kernel), List.mem_of_getElem? (i := 484) (by decide +kernel)⟩
theorem lw_p11 : lw_okq (⟨"LawFinderModel", "columns", "()I"⟩, 8) := ⟨⟨by decide +kernel, by decide +kernel⟩, List.mem_of_getElem? (i := 413) (by decide +kernel), List.mem_of_getElem? (i := 487) (by decide +kernel), List.mem_of_getElem? (i := 488) (by decide +kernel)⟩
theorem lw_p12 : lw_okq (⟨"LawFinderModel", "between0", "(II)I"⟩, 8) := ⟨⟨by decide +kernel, by decide +kernel⟩, List.mem_of_getElem? (i := 413) (by decide +kernel), List.mem_of_getElem? (i := 515) (by decide +kernel), List.mem_of_getElem? (i := 516) (by decide +kernel)⟩
theorem lw_p13 : lw_okq (⟨"LawFinderModel", "step", "(III)I"⟩, 8) := ⟨⟨by decide +kernel, by decide +kernel⟩, List.mem_of_getElem? (i := 413) (by decide +kernel), List.mem_of_getElem? (i := 522) (by decide +kernel), List.mem_of_getElem? (i := 523) (by decide +kernel)⟩
theorem lw_p14 : lw_okq (⟨"LawFinderModel", "most", "()I"⟩, 8) := ⟨⟨by decide +kernel, by decide +kernel⟩, List.mem_of_getElem? (i := 413) (by decide +kernel), List.mem_of_getElem? (i := 530) (by decide +kernel), List.mem_of_getElem? (i := 531) (by decide +kernel)⟩
theorem lw_p15 : lw_okq (⟨"LawFinderModel", "counts", "()V"⟩, 8) := ⟨⟨by decide +kernel, by decide +kernel⟩, List.mem_of_getElem? (i := 413) (by decide +kernel), List.mem_of_getElem? (i := 537) (by decide +kernel), List.mem_of_getElem? (i := 538) (by decide +kernel)⟩
def lw_privs_1 : List (MethodName × Nat) := [(⟨"LawFinder", "remember", "()V"⟩, 6), (⟨"LawFinder", "isLaw", "(I)Z"⟩, 6), (⟨"LawFinder", "count", "()V"⟩, 6), (⟨"LawFinder$Tally", "sumUp", "(II)V"⟩, 2), (⟨"LawFinder$Tally", "halveEven", "(I)V"⟩, 2), (⟨"LawFinder$Tally", "hasWiderNear", "(II)Z"⟩, 2), (⟨"LawFinderModel", "keep", "()V"⟩, 8), (⟨"LawFinderModel", "set", "(III)V"⟩, 8), (⟨"LawFinderModel", "isRow", "(I)Z"⟩, 8), (⟨"LawFinderModel", "get", "(II)I"⟩, 8), (⟨"LawFinderModel", "isColumn", "(I)Z"⟩, 8), (⟨"LawFinderModel", "columns", "()I"⟩, 8), (⟨"LawFinderModel", "between0", "(II)I"⟩, 8), (⟨"LawFinderModel", "step", "(III)I"⟩, 8), (⟨"LawFinderModel", "most", "()I"⟩, 8), (⟨"LawFinderModel", "counts", "()V"⟩, 8)]
theorem lw_r1 : ∀ q ∈ lw_privs_1, lw_okq q := List.forall_mem_cons.mpr ⟨lw_p0, List.forall_mem_cons.mpr ⟨lw_p1, List.forall_mem_cons.mpr ⟨lw_p2, List.forall_mem_cons.mpr ⟨lw_p3, List.forall_mem_cons.mpr ⟨lw_p4, List.forall_mem_cons.mpr ⟨lw_p5, List.forall_mem_cons.mpr ⟨lw_p6, List.forall_mem_cons.mpr ⟨lw_p7, List.forall_mem_cons.mpr ⟨lw_p8, List.forall_mem_cons.mpr ⟨lw_p9, List.forall_mem_cons.mpr ⟨lw_p10, List.forall_mem_cons.mpr ⟨lw_p11, List.forall_mem_cons.mpr ⟨lw_p12, List.forall_mem_cons.mpr ⟨lw_p13, List.forall_mem_cons.mpr ⟨lw_p14, List.forall_mem_cons.mpr ⟨lw_p15, fun _ h => absurd h List.not_mem_nil⟩⟩⟩⟩⟩⟩⟩⟩⟩⟩⟩⟩⟩⟩⟩⟩
theorem lw_p16 : lw_okq (⟨"LawFinderModel", "isLaw", "(I)Z"⟩, 8) := ⟨⟨by decide +kernel, by decide +kernel⟩, List.mem_of_getElem? (i := 413) (by decide +kernel), List.mem_of_getElem? (i := 549) (by decide +kernel), List.mem_of_getElem? (i := 550) (by decide +kernel)⟩
theorem lw_p17 : lw_okq (⟨"LawFinderModel", "least0", "(I)I"⟩, 8) := ⟨⟨by decide +kernel, by decide +kernel⟩, List.mem_of_getElem? (i := 413) (by decide +kernel), List.mem_of_getElem? (i := 553) (by decide +kernel), List.mem_of_getElem? (i := 554) (by decide +kernel)⟩
theorem lw_p18 : lw_okq (⟨"LawFinderModel", "turned", "(I)I"⟩, 8) := ⟨⟨by decide +kernel, by decide +kernel⟩, List.mem_of_getElem? (i := 413) (by decide +kernel), List.mem_of_getElem? (i := 557) (by decide +kernel), List.mem_of_getElem? (i := 558) (by decide +kernel)⟩
theorem lw_p19 : lw_okq (⟨"LawFinderModel", "broken0", "(I)I"⟩, 8) := ⟨⟨by decide +kernel, by decide +kernel⟩, List.mem_of_getElem? (i := 413) (by decide +kernel), List.mem_of_getElem? (i := 565) (by decide +kernel), List.mem_of_getElem? (i := 566) (by decide +kernel)⟩
theorem lw_p20 : lw_okq (⟨"LawFinderModel", "breaks", "(III)Z"⟩, 8) := ⟨⟨by decide +kernel, by decide +kernel⟩, List.mem_of_getElem? (i := 413) (by decide +kernel), List.mem_of_getElem? (i := 569) (by decide +kernel), List.mem_of_getElem? (i := 570) (by decide +kernel)⟩
theorem lw_p21 : lw_okq (⟨"LawFinderModel", "isSo", "(III)Z"⟩, 8) := ⟨⟨by decide +kernel, by decide +kernel⟩, List.mem_of_getElem? (i := 413) (by decide +kernel), List.mem_of_getElem? (i := 573) (by decide +kernel), List.mem_of_getElem? (i := 574) (by decide +kernel)⟩
theorem lw_p22 : lw_okq (⟨"LawFinderModel", "isSaid", "(II)Z"⟩, 8) := ⟨⟨by decide +kernel, by decide +kernel⟩, List.mem_of_getElem? (i := 413) (by decide +kernel), List.mem_of_getElem? (i := 585) (by decide +kernel), List.mem_of_getElem? (i := 586) (by decide +kernel)⟩
theorem lw_p23 : lw_okq (⟨"LawFinderModel", "finds", "(II)Z"⟩, 8) := ⟨⟨by decide +kernel, by decide +kernel⟩, List.mem_of_getElem? (i := 413) (by decide +kernel), List.mem_of_getElem? (i := 596) (by decide +kernel), List.mem_of_getElem? (i := 597) (by decide +kernel)⟩
theorem lw_p24 : lw_okq (⟨"LawFinderModel", "isSet", "(I)Z"⟩, 8) := ⟨⟨by decide +kernel, by decide +kernel⟩, List.mem_of_getElem? (i := 413) (by decide +kernel), List.mem_of_getElem? (i := 615) (by decide +kernel), List.mem_of_getElem? (i := 616) (by decide +kernel)⟩
theorem lw_p25 : lw_okq (⟨"LawFinderModel", "alikeIn", "(III)Z"⟩, 8) := ⟨⟨by decide +kernel, by decide +kernel⟩, List.mem_of_getElem? (i := 413) (by decide +kernel), List.mem_of_getElem? (i := 619) (by decide +kernel), List.mem_of_getElem? (i := 620) (by decide +kernel)⟩
theorem lw_p26 : lw_okq (⟨"LawFinderModel", "isLeastKey", "(I)Z"⟩, 8) := ⟨⟨by decide +kernel, by decide +kernel⟩, List.mem_of_getElem? (i := 413) (by decide +kernel), List.mem_of_getElem? (i := 627) (by decide +kernel), List.mem_of_getElem? (i := 628) (by decide +kernel)⟩
theorem lw_p27 : lw_okq (⟨"LawFinderModel", "isKey", "(I)Z"⟩, 8) := ⟨⟨by decide +kernel, by decide +kernel⟩, List.mem_of_getElem? (i := 413) (by decide +kernel), List.mem_of_getElem? (i := 631) (by decide +kernel), List.mem_of_getElem? (i := 632) (by decide +kernel)⟩
theorem lw_p28 : lw_okq (⟨"LawFinderModel", "conflicts", "()I"⟩, 8) := ⟨⟨by decide +kernel, by decide +kernel⟩, List.mem_of_getElem? (i := 413) (by decide +kernel), List.mem_of_getElem? (i := 651) (by decide +kernel), List.mem_of_getElem? (i := 652) (by decide +kernel)⟩
def lw_privs_2 : List (MethodName × Nat) := [(⟨"LawFinderModel", "isLaw", "(I)Z"⟩, 8), (⟨"LawFinderModel", "least0", "(I)I"⟩, 8), (⟨"LawFinderModel", "turned", "(I)I"⟩, 8), (⟨"LawFinderModel", "broken0", "(I)I"⟩, 8), (⟨"LawFinderModel", "breaks", "(III)Z"⟩, 8), (⟨"LawFinderModel", "isSo", "(III)Z"⟩, 8), (⟨"LawFinderModel", "isSaid", "(II)Z"⟩, 8), (⟨"LawFinderModel", "finds", "(II)Z"⟩, 8), (⟨"LawFinderModel", "isSet", "(I)Z"⟩, 8), (⟨"LawFinderModel", "alikeIn", "(III)Z"⟩, 8), (⟨"LawFinderModel", "isLeastKey", "(I)Z"⟩, 8), (⟨"LawFinderModel", "isKey", "(I)Z"⟩, 8), (⟨"LawFinderModel", "conflicts", "()I"⟩, 8)]
theorem lw_r2 : ∀ q ∈ lw_privs_2, lw_okq q := List.forall_mem_cons.mpr ⟨lw_p16, List.forall_mem_cons.mpr ⟨lw_p17, List.forall_mem_cons.mpr ⟨lw_p18, List.forall_mem_cons.mpr ⟨lw_p19, List.forall_mem_cons.mpr ⟨lw_p20, List.forall_mem_cons.mpr ⟨lw_p21, List.forall_mem_cons.mpr ⟨lw_p22, List.forall_mem_cons.mpr ⟨lw_p23, List.forall_mem_cons.mpr ⟨lw_p24, List.forall_mem_cons.mpr ⟨lw_p25, List.forall_mem_cons.mpr ⟨lw_p26, List.forall_mem_cons.mpr ⟨lw_p27, List.forall_mem_cons.mpr ⟨lw_p28, fun _ h => absurd h List.not_mem_nil⟩⟩⟩⟩⟩⟩⟩⟩⟩⟩⟩⟩⟩
def lw_privs : List (MethodName × Nat) := lw_privs_1 ++ (lw_privs_2)
def lw_tbl : List Cond := k2_sels lw_privs ++ tables_1
theorem lw_privs_ok : ∀ q ∈ lw_privs, lw_okq q := by
  show ∀ q ∈ lw_privs_1 ++ (lw_privs_2), lw_okq q
  exact List.forall_mem_append.mpr ⟨lw_r1, lw_r2⟩
end
section
def RX0 : String := "LawFinder$History"
def TX0 : u_T := fun k => match k with
  | 0 => ("LawFinder$History", "ring", "[LLawFinder$Sheet;", true)
  | 1 => ("LawFinder$History", "next", "I", false)
  | _ => ("LawFinder$History", "kept", "I", false)
def tyX0 : Nat → FieldType := fun k => match k with
  | 0 => .array (.object "LawFinder$Sheet")
  | 1 => .int
  | _ => .int
abbrev wsX00 : List Cond := u_ws RX0 TX0 3
theorem nmX0 : ∀ a, a < 3 → ∀ b, b < 3 → a ≠ b → (TX0 a).2.1 ≠ (TX0 b).2.1 := by decide +kernel
theorem tyX0_ok : ∀ k, k < 3 → parseFieldDescriptor (TX0 k).2.2.1 = some (tyX0 k) := by decide +kernel
abbrev cX0_init : ByteArray := prog_2_method_1_code
def yX0_init : MethodName := ⟨RX0, "<init>", "()V"⟩
abbrev cX0_keep : ByteArray := prog_2_method_2_code
def yX0_keep : MethodName := ⟨RX0, "keep", "(LLawFinder$Sheet;)V"⟩
abbrev cX0_giveBack : ByteArray := prog_2_method_3_code
def yX0_giveBack : MethodName := ⟨RX0, "giveBack", "(LLawFinder$Sheet;)Z"⟩
def RX1 : String := "LawFinder$Mender"
def TX1 : u_T := fun k => match k with
  | 0 => ("LawFinder$Mender", "foes", "[I", true)
  | 1 => ("LawFinder$Mender", "weights", "[I", true)
  | 2 => ("LawFinder$Mender", "brokenPairs", "I", false)
  | _ => ("LawFinder$Mender", "lightest", "I", false)
def tyX1 : Nat → FieldType := fun k => match k with
  | 0 => .array .int
  | 1 => .array .int
  | 2 => .int
  | _ => .int
abbrev wsX10 : List Cond := u_ws RX1 TX1 4
theorem nmX1 : ∀ a, a < 4 → ∀ b, b < 4 → a ≠ b → (TX1 a).2.1 ≠ (TX1 b).2.1 := by decide +kernel
theorem tyX1_ok : ∀ k, k < 4 → parseFieldDescriptor (TX1 k).2.2.1 = some (tyX1 k) := by decide +kernel
abbrev cX1_init : ByteArray := prog_3_method_1_code
def yX1_init : MethodName := ⟨RX1, "<init>", "()V"⟩
abbrev cX1_seek : ByteArray := prog_3_method_2_code
def yX1_seek : MethodName := ⟨RX1, "seek", "(LLawFinder$Sheet;)V"⟩
abbrev cX1_cost : ByteArray := prog_3_method_3_code
def yX1_cost : MethodName := ⟨RX1, "cost", "()I"⟩
abbrev cX1_slots : ByteArray := prog_3_method_4_code
def yX1_slots : MethodName := ⟨RX1, "slots", "()I"⟩
abbrev cX1_breaksOne : ByteArray := prog_3_method_5_code
def yX1_breaksOne : MethodName := ⟨RX1, "breaksOne", "(LLawFinder$Sheet;II)Z"⟩
abbrev cX1_lightestCover : ByteArray := prog_3_method_6_code
def yX1_lightestCover : MethodName := ⟨RX1, "lightestCover", "([I[III)I"⟩
abbrev cX1_busiest : ByteArray := prog_3_method_7_code
def yX1_busiest : MethodName := ⟨RX1, "busiest", "([II)I"⟩
abbrev cX1_weightOf : ByteArray := prog_3_method_8_code
def yX1_weightOf : MethodName := ⟨RX1, "weightOf", "([II)I"⟩
def RX2 : String := "LawFinder$Sheet"
def TX2 : u_T := fun k => match k with
  | 0 => ("LawFinder$Sheet", "columns", "I", false)
  | 1 => ("LawFinder$Sheet", "kindOf", "[I", true)
  | 2 => ("LawFinder$Sheet", "sizeOf", "[I", true)
  | 3 => ("LawFinder$Sheet", "priceOf", "[I", true)
  | 4 => ("LawFinder$Sheet", "numbers", "[I", true)
  | _ => ("LawFinder$Sheet", "toldLaws", "[I", true)
def tyX2 : Nat → FieldType := fun k => match k with
  | 0 => .int
  | 1 => .array .int
  | 2 => .array .int
  | 3 => .array .int
  | 4 => .array .int
  | _ => .array .int
abbrev wsX20 : List Cond := u_ws RX2 TX2 6
theorem nmX2 : ∀ a, a < 6 → ∀ b, b < 6 → a ≠ b → (TX2 a).2.1 ≠ (TX2 b).2.1 := by decide +kernel
theorem tyX2_ok : ∀ k, k < 6 → parseFieldDescriptor (TX2 k).2.2.1 = some (tyX2 k) := by decide +kernel
abbrev cX2_init : ByteArray := prog_4_method_1_code
def yX2_init : MethodName := ⟨RX2, "<init>", "()V"⟩
abbrev cX2_empty : ByteArray := prog_4_method_2_code
def yX2_empty : MethodName := ⟨RX2, "empty", "(I)V"⟩
abbrev cX2_copyFrom : ByteArray := prog_4_method_3_code
def yX2_copyFrom : MethodName := ⟨RX2, "copyFrom", "(LLawFinder$Sheet;)V"⟩
abbrev cX2_hasRow : ByteArray := prog_4_method_4_code
def yX2_hasRow : MethodName := ⟨RX2, "hasRow", "(I)Z"⟩
abbrev cX2_hasColumn : ByteArray := prog_4_method_5_code
def yX2_hasColumn : MethodName := ⟨RX2, "hasColumn", "(I)Z"⟩
abbrev cX2_seat : ByteArray := prog_4_method_6_code
def yX2_seat : MethodName := ⟨RX2, "seat", "(III)V"⟩
abbrev cX2_write : ByteArray := prog_4_method_7_code
def yX2_write : MethodName := ⟨RX2, "write", "(III)V"⟩
abbrev cX2_read : ByteArray := prog_4_method_8_code
def yX2_read : MethodName := ⟨RX2, "read", "(II)I"⟩
abbrev cX2_shortest : ByteArray := prog_4_method_9_code
def yX2_shortest : MethodName := ⟨RX2, "shortest", "()I"⟩
abbrev cX2_exchange : ByteArray := prog_4_method_10_code
def yX2_exchange : MethodName := ⟨RX2, "exchange", "(II)V"⟩
abbrev cX2_compared : ByteArray := prog_4_method_11_code
def yX2_compared : MethodName := ⟨RX2, "compared", "(II)I"⟩
abbrev cX2_word : ByteArray := prog_4_method_12_code
def yX2_word : MethodName := ⟨RX2, "word", "(II)I"⟩
abbrev cX2_pairBreaks : ByteArray := prog_4_method_13_code
def yX2_pairBreaks : MethodName := ⟨RX2, "pairBreaks", "(III)Z"⟩
def RX3 : String := "LawFinder$Tally"
def TX3 : u_T := fun k => match k with
  | 0 => ("LawFinder$Tally", "seen", "[I", true)
  | _ => ("LawFinder$Tally", "breaks", "[I", true)
def tyX3 : Nat → FieldType := fun k => match k with
  | 0 => .array .int
  | _ => .array .int
abbrev wsX30 : List Cond := u_ws RX3 TX3 2
theorem nmX3 : ∀ a, a < 2 → ∀ b, b < 2 → a ≠ b → (TX3 a).2.1 ≠ (TX3 b).2.1 := by decide +kernel
theorem tyX3_ok : ∀ k, k < 2 → parseFieldDescriptor (TX3 k).2.2.1 = some (tyX3 k) := by decide +kernel
abbrev cX3_init : ByteArray := prog_5_method_1_code
def yX3_init : MethodName := ⟨RX3, "<init>", "()V"⟩
abbrev cX3_recount : ByteArray := prog_5_method_2_code
def yX3_recount : MethodName := ⟨RX3, "recount", "(LLawFinder$Sheet;)V"⟩
abbrev cX3_sumUp : ByteArray := prog_5_method_3_code
def yX3_sumUp : MethodName := ⟨RX3, "sumUp", "(II)V"⟩
abbrev cX3_halveEven : ByteArray := prog_5_method_4_code
def yX3_halveEven : MethodName := ⟨RX3, "halveEven", "(I)V"⟩
abbrev cX3_unlikeSeen : ByteArray := prog_5_method_5_code
def yX3_unlikeSeen : MethodName := ⟨RX3, "unlikeSeen", "()I"⟩
abbrev cX3_isFound : ByteArray := prog_5_method_6_code
def yX3_isFound : MethodName := ⟨RX3, "isFound", "(III)Z"⟩
abbrev cX3_hasWiderNear : ByteArray := prog_5_method_7_code
def yX3_hasWiderNear : MethodName := ⟨RX3, "hasWiderNear", "(II)Z"⟩
abbrev cX3_isLeastKey : ByteArray := prog_5_method_8_code
def yX3_isLeastKey : MethodName := ⟨RX3, "isLeastKey", "(I)Z"⟩
def RX4 : String := "LawFinder"
def TX4 : u_T := fun k => match k with
  | 0 => ("LawFinder", "sheet", "LLawFinder$Sheet;", true)
  | 1 => ("LawFinder", "history", "LLawFinder$History;", true)
  | 2 => ("LawFinder", "tally", "LLawFinder$Tally;", true)
  | 3 => ("LawFinder", "mender", "LLawFinder$Mender;", true)
  | 4 => ("LawFinder", "counted", "Z", false)
  | _ => ("LawFinder", "mended", "Z", false)
def tyX4 : Nat → FieldType := fun k => match k with
  | 0 => .object "LawFinder$Sheet"
  | 1 => .object "LawFinder$History"
  | 2 => .object "LawFinder$Tally"
  | 3 => .object "LawFinder$Mender"
  | 4 => .boolean
  | _ => .boolean
abbrev wsX40 : List Cond := u_ws RX4 TX4 6
theorem nmX4 : ∀ a, a < 6 → ∀ b, b < 6 → a ≠ b → (TX4 a).2.1 ≠ (TX4 b).2.1 := by decide +kernel
theorem tyX4_ok : ∀ k, k < 6 → parseFieldDescriptor (TX4 k).2.2.1 = some (tyX4 k) := by decide +kernel
abbrev cX4_init : ByteArray := prog_1_method_1_code
def yX4_init : MethodName := ⟨RX4, "<init>", "()V"⟩
abbrev cX4_table : ByteArray := prog_1_method_2_code
def yX4_table : MethodName := ⟨RX4, "table", "(I)Z"⟩
abbrev cX4_put : ByteArray := prog_1_method_3_code
def yX4_put : MethodName := ⟨RX4, "put", "(IIIIIII)Z"⟩
abbrev cX4_change : ByteArray := prog_1_method_4_code
def yX4_change : MethodName := ⟨RX4, "change", "(III)Z"⟩
abbrev cX4_strike : ByteArray := prog_1_method_5_code
def yX4_strike : MethodName := ⟨RX4, "strike", "(I)Z"⟩
abbrev cX4_price : ByteArray := prog_1_method_6_code
def yX4_price : MethodName := ⟨RX4, "price", "(II)Z"⟩
abbrev cX4_swap : ByteArray := prog_1_method_7_code
def yX4_swap : MethodName := ⟨RX4, "swap", "(II)Z"⟩
abbrev cX4_at : ByteArray := prog_1_method_8_code
def yX4_at : MethodName := ⟨RX4, "at", "(II)I"⟩
abbrev cX4_row : ByteArray := prog_1_method_9_code
def yX4_row : MethodName := ⟨RX4, "row", "(II)I"⟩
abbrev cX4_between : ByteArray := prog_1_method_10_code
def yX4_between : MethodName := ⟨RX4, "between", "(II)I"⟩
abbrev cX4_pairs : ByteArray := prog_1_method_11_code
def yX4_pairs : MethodName := ⟨RX4, "pairs", "(I)I"⟩
abbrev cX4_kinds : ByteArray := prog_1_method_12_code
def yX4_kinds : MethodName := ⟨RX4, "kinds", "()I"⟩
abbrev cX4_broken : ByteArray := prog_1_method_13_code
def yX4_broken : MethodName := ⟨RX4, "broken", "(I)I"⟩
abbrev cX4_breaker : ByteArray := prog_1_method_14_code
def yX4_breaker : MethodName := ⟨RX4, "breaker", "(III)I"⟩
abbrev cX4_laws : ByteArray := prog_1_method_15_code
def yX4_laws : MethodName := ⟨RX4, "laws", "(II)I"⟩
abbrev cX4_law : ByteArray := prog_1_method_16_code
def yX4_law : MethodName := ⟨RX4, "law", "(III)I"⟩
abbrev cX4_sort : ByteArray := prog_1_method_17_code
def yX4_sort : MethodName := ⟨RX4, "sort", "(I)I"⟩
abbrev cX4_least : ByteArray := prog_1_method_18_code
def yX4_least : MethodName := ⟨RX4, "least", "(I)I"⟩
abbrev cX4_said : ByteArray := prog_1_method_19_code
def yX4_said : MethodName := ⟨RX4, "said", "(II)I"⟩
abbrev cX4_settles : ByteArray := prog_1_method_20_code
def yX4_settles : MethodName := ⟨RX4, "settles", "(I)I"⟩
abbrev cX4_keys : ByteArray := prog_1_method_21_code
def yX4_keys : MethodName := ⟨RX4, "keys", "()I"⟩
abbrev cX4_key : ByteArray := prog_1_method_22_code
def yX4_key : MethodName := ⟨RX4, "key", "(I)I"⟩
abbrev cX4_tell : ByteArray := prog_1_method_23_code
def yX4_tell : MethodName := ⟨RX4, "tell", "(II)Z"⟩
abbrev cX4_told : ByteArray := prog_1_method_24_code
def yX4_told : MethodName := ⟨RX4, "told", "(I)I"⟩
abbrev cX4_mend : ByteArray := prog_1_method_25_code
def yX4_mend : MethodName := ⟨RX4, "mend", "(I)I"⟩
abbrev cX4_undo : ByteArray := prog_1_method_26_code
def yX4_undo : MethodName := ⟨RX4, "undo", "()Z"⟩
abbrev cX4_remember : ByteArray := prog_1_method_27_code
def yX4_remember : MethodName := ⟨RX4, "remember", "()V"⟩
abbrev cX4_count : ByteArray := prog_1_method_28_code
def yX4_count : MethodName := ⟨RX4, "count", "()V"⟩
abbrev cX4_isLaw : ByteArray := prog_1_method_29_code
def yX4_isLaw : MethodName := ⟨RX4, "isLaw", "(I)Z"⟩
abbrev cX4_isSlot : ByteArray := prog_1_method_30_code
def yX4_isSlot : MethodName := ⟨RX4, "isSlot", "(I)Z"⟩
abbrev cX4_fits : ByteArray := prog_1_method_31_code
def yX4_fits : MethodName := ⟨RX4, "fits", "(II)Z"⟩
abbrev cX4_canSeek : ByteArray := prog_1_method_32_code
def yX4_canSeek : MethodName := ⟨RX4, "canSeek", "(II)Z"⟩
abbrev cX4_digitOf : ByteArray := prog_1_method_33_code
def yX4_digitOf : MethodName := ⟨RX4, "digitOf", "(II)I"⟩
abbrev cX4_columnsOf : ByteArray := prog_1_method_34_code
def yX4_columnsOf : MethodName := ⟨RX4, "columnsOf", "(I)I"⟩
abbrev cX4_turnedOf : ByteArray := prog_1_method_35_code
def yX4_turnedOf : MethodName := ⟨RX4, "turnedOf", "(I)I"⟩
abbrev cX4_covers : ByteArray := prog_1_method_36_code
def yX4_covers : MethodName := ⟨RX4, "covers", "(II)Z"⟩
abbrev cX4_alikeLaw : ByteArray := prog_1_method_37_code
def yX4_alikeLaw : MethodName := ⟨RX4, "alikeLaw", "(I)I"⟩
def RX5 : String := "LawFinderModel"
def TX5 : u_T := fun k => match k with
  | 0 => ("LawFinderModel", "now", "[I", true)
  | 1 => ("LawFinderModel", "before", "[I", true)
  | 2 => ("LawFinderModel", "kept", "I", false)
  | 3 => ("LawFinderModel", "pairCount", "[I", true)
  | 4 => ("LawFinderModel", "near", "[Z", true)
  | 5 => ("LawFinderModel", "found", "[I", true)
  | 6 => ("LawFinderModel", "foundMany", "I", false)
  | _ => ("LawFinderModel", "against", "[I", true)
def tyX5 : Nat → FieldType := fun k => match k with
  | 0 => .array .int
  | 1 => .array .int
  | 2 => .int
  | 3 => .array .int
  | 4 => .array .boolean
  | 5 => .array .int
  | 6 => .int
  | _ => .array .int
abbrev wsX50 : List Cond := u_ws RX5 TX5 8
theorem nmX5 : ∀ a, a < 8 → ∀ b, b < 8 → a ≠ b → (TX5 a).2.1 ≠ (TX5 b).2.1 := by decide +kernel
theorem tyX5_ok : ∀ k, k < 8 → parseFieldDescriptor (TX5 k).2.2.1 = some (tyX5 k) := by decide +kernel
abbrev cX5_init : ByteArray := prog_7_method_1_code
def yX5_init : MethodName := ⟨RX5, "<init>", "()V"⟩
abbrev cX5_isIn : ByteArray := prog_7_method_2_code
def yX5_isIn : MethodName := ⟨RX5, "isIn", "(III)Z"⟩
abbrev cX5_columns : ByteArray := prog_7_method_3_code
def yX5_columns : MethodName := ⟨RX5, "columns", "()I"⟩
abbrev cX5_get : ByteArray := prog_7_method_4_code
def yX5_get : MethodName := ⟨RX5, "get", "(II)I"⟩
abbrev cX5_set : ByteArray := prog_7_method_5_code
def yX5_set : MethodName := ⟨RX5, "set", "(III)V"⟩
abbrev cX5_isRow : ByteArray := prog_7_method_6_code
def yX5_isRow : MethodName := ⟨RX5, "isRow", "(I)Z"⟩
abbrev cX5_isColumn : ByteArray := prog_7_method_7_code
def yX5_isColumn : MethodName := ⟨RX5, "isColumn", "(I)Z"⟩
abbrev cX5_keep : ByteArray := prog_7_method_8_code
def yX5_keep : MethodName := ⟨RX5, "keep", "()V"⟩
abbrev cX5_undo : ByteArray := prog_7_method_9_code
def yX5_undo : MethodName := ⟨RX5, "undo", "()Z"⟩
abbrev cX5_table : ByteArray := prog_7_method_10_code
def yX5_table : MethodName := ⟨RX5, "table", "(I)Z"⟩
abbrev cX5_isNumber : ByteArray := prog_7_method_11_code
def yX5_isNumber : MethodName := ⟨RX5, "isNumber", "(II)Z"⟩
abbrev cX5_put : ByteArray := prog_7_method_12_code
def yX5_put : MethodName := ⟨RX5, "put", "(IIIIIII)Z"⟩
abbrev cX5_change : ByteArray := prog_7_method_13_code
def yX5_change : MethodName := ⟨RX5, "change", "(III)Z"⟩
abbrev cX5_strike : ByteArray := prog_7_method_14_code
def yX5_strike : MethodName := ⟨RX5, "strike", "(I)Z"⟩
abbrev cX5_price : ByteArray := prog_7_method_15_code
def yX5_price : MethodName := ⟨RX5, "price", "(II)Z"⟩
abbrev cX5_swap : ByteArray := prog_7_method_16_code
def yX5_swap : MethodName := ⟨RX5, "swap", "(II)Z"⟩
abbrev cX5_at : ByteArray := prog_7_method_17_code
def yX5_at : MethodName := ⟨RX5, "at", "(II)I"⟩
abbrev cX5_row : ByteArray := prog_7_method_18_code
def yX5_row : MethodName := ⟨RX5, "row", "(II)I"⟩
abbrev cX5_step : ByteArray := prog_7_method_19_code
def yX5_step : MethodName := ⟨RX5, "step", "(III)I"⟩
abbrev cX5_place : ByteArray := prog_7_method_20_code
def yX5_place : MethodName := ⟨RX5, "place", "(I)I"⟩
abbrev cX5_digit : ByteArray := prog_7_method_21_code
def yX5_digit : MethodName := ⟨RX5, "digit", "(II)I"⟩
abbrev cX5_between0 : ByteArray := prog_7_method_22_code
def yX5_between0 : MethodName := ⟨RX5, "between0", "(II)I"⟩
abbrev cX5_between : ByteArray := prog_7_method_23_code
def yX5_between : MethodName := ⟨RX5, "between", "(II)I"⟩
abbrev cX5_counts : ByteArray := prog_7_method_24_code
def yX5_counts : MethodName := ⟨RX5, "counts", "()V"⟩
abbrev cX5_most : ByteArray := prog_7_method_25_code
def yX5_most : MethodName := ⟨RX5, "most", "()I"⟩
abbrev cX5_pairs : ByteArray := prog_7_method_26_code
def yX5_pairs : MethodName := ⟨RX5, "pairs", "(I)I"⟩
abbrev cX5_kinds : ByteArray := prog_7_method_27_code
def yX5_kinds : MethodName := ⟨RX5, "kinds", "()I"⟩
abbrev cX5_isLaw : ByteArray := prog_7_method_28_code
def yX5_isLaw : MethodName := ⟨RX5, "isLaw", "(I)Z"⟩
abbrev cX5_turned : ByteArray := prog_7_method_29_code
def yX5_turned : MethodName := ⟨RX5, "turned", "(I)I"⟩
abbrev cX5_least0 : ByteArray := prog_7_method_30_code
def yX5_least0 : MethodName := ⟨RX5, "least0", "(I)I"⟩
abbrev cX5_least : ByteArray := prog_7_method_31_code
def yX5_least : MethodName := ⟨RX5, "least", "(I)I"⟩
abbrev cX5_isSo : ByteArray := prog_7_method_32_code
def yX5_isSo : MethodName := ⟨RX5, "isSo", "(III)Z"⟩
abbrev cX5_breaks : ByteArray := prog_7_method_33_code
def yX5_breaks : MethodName := ⟨RX5, "breaks", "(III)Z"⟩
abbrev cX5_broken0 : ByteArray := prog_7_method_34_code
def yX5_broken0 : MethodName := ⟨RX5, "broken0", "(I)I"⟩
abbrev cX5_broken : ByteArray := prog_7_method_35_code
def yX5_broken : MethodName := ⟨RX5, "broken", "(I)I"⟩
abbrev cX5_breaker : ByteArray := prog_7_method_36_code
def yX5_breaker : MethodName := ⟨RX5, "breaker", "(III)I"⟩
abbrev cX5_saysAll : ByteArray := prog_7_method_37_code
def yX5_saysAll : MethodName := ⟨RX5, "saysAll", "(II)Z"⟩
abbrev cX5_isSaid : ByteArray := prog_7_method_38_code
def yX5_isSaid : MethodName := ⟨RX5, "isSaid", "(II)Z"⟩
abbrev cX5_said : ByteArray := prog_7_method_39_code
def yX5_said : MethodName := ⟨RX5, "said", "(II)I"⟩
abbrev cX5_size : ByteArray := prog_7_method_40_code
def yX5_size : MethodName := ⟨RX5, "size", "(I)I"⟩
abbrev cX5_finds : ByteArray := prog_7_method_41_code
def yX5_finds : MethodName := ⟨RX5, "finds", "(II)Z"⟩
abbrev cX5_laws : ByteArray := prog_7_method_42_code
def yX5_laws : MethodName := ⟨RX5, "laws", "(II)I"⟩
abbrev cX5_law : ByteArray := prog_7_method_43_code
def yX5_law : MethodName := ⟨RX5, "law", "(III)I"⟩
abbrev cX5_sort : ByteArray := prog_7_method_44_code
def yX5_sort : MethodName := ⟨RX5, "sort", "(I)I"⟩
abbrev cX5_isSet : ByteArray := prog_7_method_45_code
def yX5_isSet : MethodName := ⟨RX5, "isSet", "(I)Z"⟩
abbrev cX5_alikeIn : ByteArray := prog_7_method_46_code
def yX5_alikeIn : MethodName := ⟨RX5, "alikeIn", "(III)Z"⟩
abbrev cX5_settles : ByteArray := prog_7_method_47_code
def yX5_settles : MethodName := ⟨RX5, "settles", "(I)I"⟩
abbrev cX5_isKey : ByteArray := prog_7_method_48_code
def yX5_isKey : MethodName := ⟨RX5, "isKey", "(I)Z"⟩
abbrev cX5_isLeastKey : ByteArray := prog_7_method_49_code
def yX5_isLeastKey : MethodName := ⟨RX5, "isLeastKey", "(I)Z"⟩
abbrev cX5_keys : ByteArray := prog_7_method_50_code
def yX5_keys : MethodName := ⟨RX5, "keys", "()I"⟩
abbrev cX5_key : ByteArray := prog_7_method_51_code
def yX5_key : MethodName := ⟨RX5, "key", "(I)I"⟩
abbrev cX5_tell : ByteArray := prog_7_method_52_code
def yX5_tell : MethodName := ⟨RX5, "tell", "(II)Z"⟩
abbrev cX5_told : ByteArray := prog_7_method_53_code
def yX5_told : MethodName := ⟨RX5, "told", "(I)I"⟩
abbrev cX5_conflicts : ByteArray := prog_7_method_54_code
def yX5_conflicts : MethodName := ⟨RX5, "conflicts", "()I"⟩
abbrev cX5_mend : ByteArray := prog_7_method_55_code
def yX5_mend : MethodName := ⟨RX5, "mend", "(I)I"⟩
def RJ6 : String := "java/lang/Integer"
abbrev cJ6_bitCount_0f7a4 : ByteArray := prog_8_method_49_code
def yJ6_bitCount_0f7a4 : MethodName := ⟨RJ6, "bitCount", "(I)I"⟩
def RJ9 : String := "java/lang/Math"
abbrev cJ9_max_7cf53 : ByteArray := prog_9_method_65_code
def yJ9_max_7cf53 : MethodName := ⟨RJ9, "max", "(II)I"⟩
abbrev cJ9_min_7cf53 : ByteArray := prog_9_method_69_code
def yJ9_min_7cf53 : MethodName := ⟨RJ9, "min", "(II)I"⟩
def RJ10 : String := "java/lang/System"
def RJ7 : String := "java/util/Arrays"
abbrev cJ7_fill_53178 : ByteArray := prog_11_method_103_code
def yJ7_fill_53178 : MethodName := ⟨RJ7, "fill", "([II)V"⟩
def RL : String := "LawFinderLaw"
abbrev cL_law : ByteArray := code
def yL_law : MethodName := ⟨RL, "law", "([I)Z"⟩
abbrev vwCl : List vw_C := [(RX0, TX0, 3), (RX1, TX1, 4), (RX2, TX2, 6), (RX3, TX3, 2), (RX4, TX4, 6), (RX5, TX5, 8)]
end
section
/-! THE ENGINE: a small machine of steps over whole numbers; a method is a table of steps, a run of it is a value; that the bytecode does the same is proved once, step by step. -/
abbrev AV : Type := Int32 ⊕ Option Nat
abbrev Sg : Type := Nat → Nat → Int32
abbrev Lc : Type := List (Option AV)
abbrev Ou : Type := (Option AV × Sg) ⊕ (Nat × Lc × List AV × Sg)
abbrev Ct : Type := Nat → Lc → List AV → Sg → Option Ou
abbrev Stq : Type := Ct → Lc → List AV → Sg → Option Ou
abbrev Mf : Type := List AV → Sg → Option (Option AV × Sg)
abbrev Cl : Type := Nat × Nat × List (Option Nat)
abbrev Shp : Type := List Cl
abbrev Ex : Type := Nat × (Nat → Int32)
abbrev CI3 : Type := ClassId × ClassId × ClassId
def nth : Lc → Nat → Option AV
  | [], _ => none
  | a :: _, 0 => a
  | _ :: t, n + 1 => nth t n
def stL : Lc → Nat → AV → Lc
  | [], 0, v => [some v]
  | [], n + 1, v => none :: stL [] n v
  | _ :: t, 0, v => some v :: t
  | a :: t, n + 1, v => a :: stL t n v
def shAt : Shp → Nat → Option Cl
  | [], _ => none
  | a :: _, 0 => some a
  | _ :: t, n + 1 => shAt t n
def rfAt : List (Option Nat) → Nat → Option Nat
  | [], _ => none
  | a :: _, 0 => a
  | _ :: t, n + 1 => rfAt t n
def tk : Nat → Lc → Lc
  | 0, _ => []
  | _ + 1, [] => []
  | n + 1, a :: t => a :: tk n t
def us (g : Sg) (k : Nat) (f : Nat → Int32) : Sg := fun a => if a = k then f else g a
def inB (i : Int32) (n : Nat) : Bool := !(decide (i < 0) || decide (n ≤ i.toNatClampNeg))
def isB (v : Int32) : Bool := decide (v = 0) || decide (v = 1)
def fiv : Nat → Int32
  | 0 => 1
  | 1 => 5
  | 2 => 25
  | 3 => 125
  | _ => 625
def pk : Nat → List AV → List AV → Option (List AV × List AV)
  | 0, acc, st => some (acc, st)
  | n + 1, acc, v :: st => pk n (v :: acc) st
  | _ + 1, _, [] => none
-- the steps
def o_ic (nx : Nat) (v : Int32) : Stq := fun go L st g => go nx L (.inl v :: st) g
def o_il (nx i : Nat) : Stq := fun go L st g => match nth L i with
  | some (.inl x) => go nx L (.inl x :: st) g
  | _ => none
def o_al (nx i : Nat) : Stq := fun go L st g => match nth L i with
  | some (.inr (some x)) => go nx L (.inr (some x) :: st) g
  | _ => none
def o_is (nx i : Nat) : Stq := fun go L st g => match st with
  | .inl x :: r => go nx (stL L i (.inl x)) r g
  | _ => none
def o_inc (nx i : Nat) (d : Int32) : Stq := fun go L st g => match nth L i with
  | some (.inl x) => go nx (stL L i (.inl (x + d))) st g
  | _ => none
def o_b2 (nx : Nat) (h : Int32 → Int32 → Int32) : Stq := fun go L st g => match st with
  | .inl y :: .inl x :: r => go nx L (.inl (h x y) :: r) g
  | _ => none
def o_div (nx : Nat) : Stq := fun go L st g => match st with
  | .inl y :: .inl x :: r => if y = 0 then none else go nx L (.inl (x / y) :: r) g
  | _ => none
def o_rem (nx : Nat) : Stq := fun go L st g => match st with
  | .inl y :: .inl x :: r => if y = 0 then none else go nx L (.inl (x - x / y * y) :: r) g
  | _ => none
def o_dup (nx : Nat) : Stq := fun go L st g => match st with
  | v :: r => go nx L (v :: v :: r) g
  | _ => none
def o_dup2 (nx : Nat) : Stq := fun go L st g => match st with
  | v :: w :: r => go nx L (v :: w :: v :: w :: r) g
  | _ => none
def o_eq0 (t nx : Nat) : Stq := fun go L st g => match st with
  | .inl x :: r => if x = 0 then go t L r g else go nx L r g
  | _ => none
def o_ne0 (t nx : Nat) : Stq := fun go L st g => match st with
  | .inl x :: r => if x = 0 then go nx L r g else go t L r g
  | _ => none
def o_lt0 (t nx : Nat) : Stq := fun go L st g => match st with
  | .inl x :: r => if x < 0 then go t L r g else go nx L r g
  | _ => none
def o_ge0 (t nx : Nat) : Stq := fun go L st g => match st with
  | .inl x :: r => if 0 ≤ x then go t L r g else go nx L r g
  | _ => none
def o_gt0 (t nx : Nat) : Stq := fun go L st g => match st with
  | .inl x :: r => if 0 < x then go t L r g else go nx L r g
  | _ => none
def o_le0 (t nx : Nat) : Stq := fun go L st g => match st with
  | .inl x :: r => if x ≤ 0 then go t L r g else go nx L r g
  | _ => none
def o_eq (t nx : Nat) : Stq := fun go L st g => match st with
  | .inl y :: .inl x :: r => if x = y then go t L r g else go nx L r g
  | _ => none
def o_ne (t nx : Nat) : Stq := fun go L st g => match st with
  | .inl y :: .inl x :: r => if x = y then go nx L r g else go t L r g
  | _ => none
def o_lt (t nx : Nat) : Stq := fun go L st g => match st with
  | .inl y :: .inl x :: r => if x < y then go t L r g else go nx L r g
  | _ => none
def o_ge (t nx : Nat) : Stq := fun go L st g => match st with
  | .inl y :: .inl x :: r => if y ≤ x then go t L r g else go nx L r g
  | _ => none
def o_gt (t nx : Nat) : Stq := fun go L st g => match st with
  | .inl y :: .inl x :: r => if y < x then go t L r g else go nx L r g
  | _ => none
def o_le (t nx : Nat) : Stq := fun go L st g => match st with
  | .inl y :: .inl x :: r => if x ≤ y then go t L r g else go nx L r g
  | _ => none
def o_goto (t : Nat) : Stq := fun go L st g => go t L st g
def swG (go : Ct) (L : Lc) (r : List AV) (g : Sg) (x : Int32) (d : Nat) : List (Int32 × Nat) → Option Ou
  | [] => go d L r g
  | q :: t => if x = q.1 then go q.2 L r g else swG go L r g x d t
def o_sw (d : Nat) (ps : List (Int32 × Nat)) : Stq := fun go L st g => match st with
  | .inl x :: r => swG go L r g x d ps
  | _ => none
def o_gI (sh : Shp) (nx ci k : Nat) : Stq := fun go L st g => match st with
  | .inr (some q) :: r => (match shAt sh q with
    | some (3, ci', _) => if ci' = ci then go nx L (.inl (g q k) :: r) g else none
    | _ => none)
  | _ => none
def o_gR (sh : Shp) (nx ci k : Nat) : Stq := fun go L st g => match st with
  | .inr (some q) :: r => (match shAt sh q with
    | some (3, ci', rs) => if ci' = ci then go nx L (.inr (rfAt rs k) :: r) g else none
    | _ => none)
  | _ => none
def o_pI (sh : Shp) (nx ci k : Nat) : Stq := fun go L st g => match st with
  | .inl v :: .inr (some q) :: r => (match shAt sh q with
    | some (3, ci', _) => if ci' = ci then go nx L r (us g q (upd (g q) k v)) else none
    | _ => none)
  | _ => none
def o_pZ (sh : Shp) (nx ci k : Nat) : Stq := fun go L st g => match st with
  | .inl v :: .inr (some q) :: r => (match shAt sh q with
    | some (3, ci', _) => if ci' = ci then (if isB v = true then go nx L r (us g q (upd (g q) k v)) else none) else none
    | _ => none)
  | _ => none
def o_gs (nx : Nat) : Stq := fun go L st g => go nx L (.inr (some 1000000) :: st) g
def o_ia (sh : Shp) (E : Ex) (nx : Nat) : Stq := fun go L st g => match st with
  | .inl i :: .inr (some q) :: r => (match shAt sh q with
    | some (0, n, _) => if inB i n = true then go nx L (.inl (g q i.toNatClampNeg) :: r) g else none
    | some _ => none
    | none => if q = 1000000 then (if inB i 5 = true then go nx L (.inl (fiv i.toNatClampNeg) :: r) g else none)
        else if q = 1000001 then (if inB i E.1 = true then go nx L (.inl (E.2 i.toNatClampNeg) :: r) g else none) else none)
  | _ => none
def o_is_ (sh : Shp) (nx : Nat) : Stq := fun go L st g => match st with
  | .inl x :: .inl i :: .inr (some q) :: r => (match shAt sh q with
    | some (0, n, _) => if inB i n = true then go nx L r (us g q (upd (g q) i.toNatClampNeg x)) else none
    | _ => none)
  | _ => none
def o_za (sh : Shp) (nx : Nat) : Stq := fun go L st g => match st with
  | .inl i :: .inr (some q) :: r => (match shAt sh q with
    | some (1, n, _) => if inB i n = true then go nx L (.inl (g q i.toNatClampNeg) :: r) g else none
    | _ => none)
  | _ => none
def o_zs (sh : Shp) (nx : Nat) : Stq := fun go L st g => match st with
  | .inl x :: .inl i :: .inr (some q) :: r => (match shAt sh q with
    | some (1, n, _) => if inB i n = true then (if isB x = true then go nx L r (us g q (upd (g q) i.toNatClampNeg x)) else none) else none
    | _ => none)
  | _ => none
def o_ra (sh : Shp) (nx : Nat) : Stq := fun go L st g => match st with
  | .inl i :: .inr (some q) :: r => (match shAt sh q with
    | some (2, _, rs) => if inB i rs.length = true then go nx L (.inr (rfAt rs i.toNatClampNeg) :: r) g else none
    | _ => none)
  | _ => none
def o_len (sh : Shp) (E : Ex) (nx : Nat) : Stq := fun go L st g => match st with
  | .inr (some q) :: r => (match shAt sh q with
    | some (0, n, _) => go nx L (.inl (Int32.ofNat n) :: r) g
    | some _ => none
    | none => if q = 1000001 then go nx L (.inl (Int32.ofNat E.1) :: r) g else none)
  | _ => none
def o_call (env : Nat → Mf) (nx j n : Nat) : Stq := fun go L st g => match pk n [] st with
  | some (as, r) => (match Nat.ble r.length 8 with
    | true => (match env j as g with
      | some (some v, g') => go nx L (v :: r) g'
      | some (none, g') => go nx L r g'
      | none => none)
    | false => none)
  | none => none
def o_copy (sh : Shp) (nx : Nat) : Stq := fun go L st g => match st with
  | .inl n :: .inl dp :: .inr (some d) :: .inl sp :: .inr (some q) :: [] => (match shAt sh q, shAt sh d with
    | some (0, n0, _), some (0, n1, _) => if (0 ≤ sp ∧ 0 ≤ dp ∧ 0 ≤ n) ∧ sp.toNatClampNeg + n.toNatClampNeg ≤ n0 ∧ dp.toNatClampNeg + n.toNatClampNeg ≤ n1 then go nx L [] (us g d (va_cpy (g q) (g d) sp.toNatClampNeg dp.toNatClampNeg n.toNatClampNeg)) else none
    | _, _ => none)
  | _ => none
def o_ret : Stq := fun _ _ st g => match st with
  | [.inl v] => some (.inl (some (.inl v), g))
  | _ => none
def o_retZ : Stq := fun _ _ st g => match st with
  | [.inl v] => if isB v = true then some (.inl (some (.inl v), g)) else none
  | _ => none
def o_retV : Stq := fun _ _ st g => match st with
  | [] => some (.inl (none, g))
  | _ => none
-- runs
def ft : List (Nat × Stq) → Nat → Option Stq
  | [], _ => none
  | a :: t, n => match Nat.beq a.1 n with
    | true => some a.2
    | false => ft t n
def cu : List (Nat × Nat) → Nat → Option Nat
  | [], _ => none
  | a :: t, n => match Nat.beq a.1 n with
    | true => some a.2
    | false => cu t n
def seg (T : List (Nat × Stq)) (K : List (Nat × Nat)) : Nat → Ct
  | 0 => fun _ _ _ _ => none
  | n + 1 => fun pc L st g => match ft T pc with
    | none => none
    | some f => f (fun pc' L' st' g' => match cu K pc' with
      | some k => some (.inr (pc', tk k L', st', g'))
      | none => seg T K n pc' L' st' g') L st g
def rn (T : List (Nat × Stq)) (K : List (Nat × Nat)) : Nat → Nat → Lc → List AV → Sg → Option (Option AV × Sg)
  | 0, _, _, _, _ => none
  | n + 1, pc, L, st, g => match seg T K 2000 pc L st g with
    | some (.inl o) => some o
    | some (.inr (pc', L', st', g')) => rn T K n pc' L' st' g'
    | none => none
def Rn (T : List (Nat × Stq)) (K : List (Nat × Nat)) (pc : Nat) (L : Lc) (st : List AV) (g : Sg) (o : Option AV × Sg) : Prop := ∃ n, rn T K n pc L st g = some o
theorem Rn_ret {T : List (Nat × Stq)} {K : List (Nat × Nat)} {pc : Nat} {L : Lc} {st : List AV} {g : Sg} {o : Option AV × Sg} (h : seg T K 2000 pc L st g = some (.inl o)) : Rn T K pc L st g o := ⟨1, by simp [rn, h]⟩
theorem Rn_go {T : List (Nat × Stq)} {K : List (Nat × Nat)} {pc pc' : Nat} {L L' : Lc} {st st' : List AV} {g g' : Sg} {o : Option AV × Sg} (h : seg T K 2000 pc L st g = some (.inr (pc', L', st', g'))) (k : Rn T K pc' L' st' g' o) : Rn T K pc L st g o := by
  obtain ⟨n, hn⟩ := k
  exact ⟨n + 1, by simp [rn, h, hn]⟩
-- the world
def cv (ad : Nat → Nat) : AV → Value
  | .inl x => .int x
  | .inr r => va_rf (r.map ad)
def fk : Nat → List Bool
  | 0 => [true, false, false]
  | 1 => [true, true, false, false]
  | 2 => [false, true, true, true, true, true]
  | 3 => [true, true]
  | 4 => [true, true, true, true, false, false]
  | 5 => [true, true, false, true, true, true, false, true]
  | _ => []
def cf (ad : Nat → Nat) (rs : List (Option Nat)) (f : Nat → Int32) (ks : List Bool) : List Value := ks.mapIdx (fun j b => if b = true then va_rf ((rfAt rs j).map ad) else .int (f j))
def cE (ad : Nat → Nat) (C : CI3) (f : Nat → Int32) : Cl → va_E
  | (0, n, _) => .inl (C.1, n, .inl f)
  | (1, n, _) => .inl (C.2.1, n, .inl f)
  | (2, _, rs) => .inl (C.2.2, rs.length, .inr (.inr (.inr (.inr (fun j => (rfAt rs j).map ad)))))
  | (_, ci, rs) => .inr (ci, cf ad rs f (fk ci))
def cW (ad : Nat → Nat) (C : CI3) (sh : Shp) (g : Sg) : va_W := sh.mapIdx (fun k c => (ad k, cE ad C (g k) c))
def LH (ad : Nat → Nat) (nL : Nat) (ls : Array Slot) (L : Lc) : Prop := ls.size = nL ∧ lv_wf ls ∧ ∀ (i : Nat) (v : AV), nth L i = some v → ls[i]? = some (.val (cv ad v))
def tyl (C : CI3) : List (ClassId × FieldType) := [(C.1, .int), (C.2.1, .boolean), (C.2.2, .object RX2)]
theorem shAt_eq : ∀ (sh : Shp) (k : Nat), shAt sh k = sh[k]?
  | [], _ => by simp [shAt]
  | a :: t, 0 => by simp [shAt]
  | a :: t, n + 1 => by simp [shAt, shAt_eq t n]
theorem nth_stL : ∀ (L : Lc) (i j : Nat) (v : AV), nth (stL L i v) j = if j = i then some v else nth L j
  | [], 0, 0, v => by simp [stL, nth]
  | [], 0, j + 1, v => by simp [stL, nth]
  | [], i + 1, 0, v => by simp [stL, nth]
  | [], i + 1, j + 1, v => by simp [stL, nth, nth_stL [] i j v]
  | a :: t, 0, 0, v => by simp [stL, nth]
  | a :: t, 0, j + 1, v => by simp [stL, nth]
  | a :: t, i + 1, 0, v => by simp [stL, nth]
  | a :: t, i + 1, j + 1, v => by simp [stL, nth, nth_stL t i j v]
theorem nth_tk : ∀ (k : Nat) (L : Lc) (j : Nat) (v : AV), nth (tk k L) j = some v → nth L j = some v
  | 0, L, j, v, h => by simp [tk, nth] at h
  | k + 1, [], j, v, h => by simp [tk, nth] at h
  | k + 1, a :: t, 0, v, h => by simpa [tk, nth] using h
  | k + 1, a :: t, j + 1, v, h => by
    have h' : nth (tk k t) j = some v := by simpa [tk, nth] using h
    simpa [nth] using nth_tk k t j v h'
theorem cv_cat (ad : Nat → Nat) (v : AV) : (cv ad v).category = 1 := by
  rcases v with x | r
  · rfl
  · cases r <;> rfl
theorem LH.tk {ad : Nat → Nat} {nL : Nat} {ls : Array Slot} {L : Lc} (k : Nat) (h : LH ad nL ls L) : LH ad nL ls (tk k L) := ⟨h.1, h.2.1, fun i v hv => h.2.2 i v (nth_tk k L i v hv)⟩
def lhl (ad : Nat → Nat) (nL : Nat) (L : Lc) : List (Nat × Value) := (List.range nL).filterMap (fun j => (nth L j).map (fun w => (j, cv ad w)))
theorem LH.has {ad : Nat → Nat} {nL : Nat} {ls : Array Slot} {L : Lc} (h : LH ad nL ls L) : lv_has ls nL (lhl ad nL L) := by
  refine ⟨h.1, h.2.1, fun q hq => ?_⟩
  obtain ⟨j, -, hj⟩ := List.mem_filterMap.mp hq
  cases hn : nth L j with
  | none => simp [hn] at hj
  | some w =>
    simp [hn] at hj
    rw [← hj]
    exact h.2.2 j w hn
theorem LH.stored {ad : Nat → Nat} {nL : Nat} {ls ls' : Array Slot} {L : Lc} {i : Nat} {v : AV} (h : LH ad nL ls L) (h' : lv_has ls' nL ((i, cv ad v) :: (lhl ad nL L).filter (fun q => !(q.1 == i) && !(q.1 + 1 == i && q.2.category == 2)))) : LH ad nL ls' (stL L i v) := by
  refine ⟨h'.1, h'.2.1, fun j w hw => ?_⟩
  rw [nth_stL] at hw
  by_cases hj : j = i
  · rw [if_pos hj] at hw
    cases hw
    rw [hj]
    exact h'.2.2 (i, cv ad v) List.mem_cons_self
  · rw [if_neg hj] at hw
    have hlt : j < nL := by
      have := lv_lt (h.2.2 j w hw)
      rw [h.1] at this
      exact this
    refine h'.2.2 (j, cv ad w) (List.mem_cons_of_mem _ (List.mem_filter.mpr ⟨List.mem_filterMap.mpr ⟨j, List.mem_range.mpr hlt, by simp [hw]⟩, ?_⟩))
    simp [hj, cv_cat]
theorem cW_get {ad : Nat → Nat} {C : CI3} {sh : Shp} {g : Sg} {k : Nat} {c : Cl} (h : shAt sh k = some c) : (cW ad C sh g)[k]? = some (ad k, cE ad C (g k) c) := by
  rw [shAt_eq] at h
  simp [cW, List.getElem?_mapIdx, h]
theorem cW_set {ad : Nat → Nat} {C : CI3} {sh : Shp} {g : Sg} {k : Nat} {c : Cl} {f : Nat → Int32} (h : shAt sh k = some c) : (cW ad C sh g).set k (ad k, cE ad C f c) = cW ad C sh (us g k f) := by
  rw [shAt_eq] at h
  apply List.ext_getElem?
  intro j
  have hk : k < sh.length := (List.getElem?_eq_some_iff.mp h).1
  by_cases hj : k = j
  · subst hj
    rw [List.getElem?_set_self (by simpa [cW] using hk)]
    simp [cW, List.getElem?_mapIdx, h, us]
  · rw [List.getElem?_set_ne hj]
    simp [cW, List.getElem?_mapIdx, us, Ne.symm hj]
theorem cW_len {ad : Nat → Nat} {C : CI3} {sh : Shp} {g : Sg} : (cW ad C sh g).length = sh.length := by simp [cW]
theorem cW_D {A : Nat → Prop} {ad : Nat → Nat} {C : CI3} {sh : Shp} {g g' : Sg} (h : va_D A (cW ad C sh g)) : va_D A (cW ad C sh g') := by
  have key : ∀ (i : Nat) (p : Nat × va_E), (cW ad C sh g')[i]? = some p → ∃ p', (cW ad C sh g)[i]? = some p' ∧ p'.1 = p.1 := by
    intro i p hp
    rw [cW, List.getElem?_mapIdx] at hp
    cases hs : sh[i]? with
    | none => simp [hs] at hp
    | some c =>
      refine ⟨(ad i, cE ad C (g i) c), by simp [cW, List.getElem?_mapIdx, hs], ?_⟩
      simp [hs] at hp
      rw [← hp]
  refine ⟨fun i j p q hp hq e => ?_, fun k q hq => ?_⟩
  · obtain ⟨p', h1, e1⟩ := key i p hp
    obtain ⟨q', h2, e2⟩ := key j q hq
    exact h.1 i j p' q' h1 h2 (by rw [e1, e2, e])
  · obtain ⟨q', h2, e2⟩ := key k q hq
    rw [← e2]
    exact h.2 k q' h2
theorem cW_A {ad : Nat → Nat} {C : CI3} {sh : Shp} {g g' : Sg} {sz : Nat} {q : Nat} (h : va_A (cW ad C sh g) sz q) : va_A (cW ad C sh g') sz q := by
  rcases h with ⟨k, e, h⟩ | h
  · rw [cW, List.getElem?_mapIdx] at h
    cases hs : sh[k]? with
    | none => simp [hs] at h
    | some c =>
      simp [hs] at h
      exact Or.inl ⟨k, cE ad C (g' k) c, by simp [cW, List.getElem?_mapIdx, hs, h.1]⟩
  · exact Or.inr h
theorem cf_get {ad : Nat → Nat} {rs : List (Option Nat)} {f : Nat → Int32} {ks : List Bool} {k : Nat} {b : Bool} (h : ks[k]? = some b) : (cf ad rs f ks)[k]? = some (if b = true then va_rf ((rfAt rs k).map ad) else .int (f k)) := by simp [cf, List.getElem?_mapIdx, h]
theorem cf_set {ad : Nat → Nat} {rs : List (Option Nat)} {f : Nat → Int32} {ks : List Bool} {k : Nat} {v : Int32} (h : ks[k]? = some false) : (cf ad rs f ks).set k (.int v) = cf ad rs (upd f k v) ks := by
  apply List.ext_getElem?
  intro j
  have hk : k < ks.length := (List.getElem?_eq_some_iff.mp h).1
  by_cases hj : k = j
  · subst hj
    rw [List.getElem?_set_self (by simpa [cf] using hk)]
    simp [cf, List.getElem?_mapIdx, h, upd]
  · rw [List.getElem?_set_ne hj]
    simp [cf, List.getElem?_mapIdx, upd, Ne.symm hj]
theorem cf_len {ad : Nat → Nat} {rs : List (Option Nat)} {f : Nat → Int32} {ks : List Bool} : (cf ad rs f ks).length = ks.length := by simp [cf]
theorem inB_in {i : Int32} {n : Nat} (h : inB i n = true) : vp_in i n := by
  unfold inB at h
  unfold vp_in
  simpa using h
end
section
/-! THE STEPS ARE THE BYTECODE'S -/
def TB : List Cond := lw_tbl.filter goodWord
def NW : List Cond := [.methodLinkNest RX4 25 yX3_init RX4, .methodLinkNest RX4 32 yX1_init RX4, .methodLinkNest RX2 43 yX4_isSlot RX4, .fieldLinkNest RX2 56 RX4 "FIVES" "[I" RX4, .fieldLinkNest RX3 44 RX4 "FIVES" "[I" RX4, .methodLinkNest RX3 55 yX4_digitOf RX4, .methodLinkNest RX3 58 yX4_turnedOf RX4, .methodLinkNest RX2 68 yX4_covers RX4, .methodLinkNest RX2 72 yX4_turnedOf RX4, .methodLinkNest RX3 62 yX4_columnsOf RX4, .methodLinkNest RX3 69 yX4_alikeLaw RX4]
theorem inTB {w : Cond} (i : Nat) (h : lw_tbl[i]? = some w) (g : goodWord w = true) : w ∈ TB := List.mem_filter.mpr ⟨List.mem_of_getElem? h, g⟩
/-- what stays true while a method runs -/
def Cx (p : Program) (R : Room) (s : State) (m : MethodId) (args : Array Value) (c : Code) (cc : ByteArray) (nL : Nat) (own : String) (D : va_G) (C : CI3) (A : Nat → Prop) (ad : Nat → Nat) (sh : Shp) (E : Ex) : Prop :=
  p.tables.exec = Jvm.exec ∧ c.code = cc ∧ c.maxLocals = nL ∧ s.vm.findClass own = some m.cls ∧ (∀ w ∈ TB, w.before args s = true) ∧ (∀ w ∈ NW, va_Nw w s) ∧ va_K D vwCl (tyl C) s ∧ (∀ q, s.heap.size ≤ q → A q) ∧ (∀ g, va_D A (cW ad C sh g)) ∧ va_Z RX4 "FIVES" "[I" (.ref (ad 1000000)) A s s.heap ∧ va_T .int (ad 1000000) 5 (fun j => .int (fiv j)) A s s.heap ∧ va_T .int (ad 1000001) E.1 (fun j => .int (E.2 j)) A s s.heap
/-- the machine comes to Q from the abstract frame -/
def AW (p : Program) (l : Launch) (e : Env) (R : Room) (s : State) (m : MethodId) (args : Array Value) (below : List Frame) (meth : Method) (c : Code) (cells slots : Nat) (Q : State → Prop) (D : va_G) (C : CI3) (A : Nat → Prop) (ad : Nat → Nat) (sh : Shp) (nL : Nat) (pc : Nat) (L : Lc) (st : List AV) (g : Sg) : Prop :=
  ∀ (H : Heap) (locs : List Loc) (ls : Array Slot), va_P D vwCl (cW ad C sh g) H → va_S A s.heap H locs → LH ad nL ls L → W p l e R s m args below meth c H locs cells slots Q (F0 m pc ls (st.map (cv ad)))
def OKr (p : Program) (l : Launch) (e : Env) (R : Room) (s : State) (m : MethodId) (args : Array Value) (below : List Frame) (meth : Method) (c : Code) (cells slots : Nat) (Q : State → Prop) (D : va_G) (C : CI3) (A : Nat → Prop) (ad : Nat → Nat) (sh : Shp) (nL : Nat) (cc : ByteArray) (rt : Option FieldType) (r : Option AV) (g : Sg) : Prop :=
  ∀ (pc : Nat) (H : Heap) (locs : List Loc) (ls : Array Slot), (r = none → decode cc pc = .ok (.return_, 1)) → (∀ v, r = some v → decode cc pc = .ok (.ireturn, 1) ∧ (∃ x, v = .inl x) ∧ (rt = some .boolean → ∀ x, v = .inl x → isB x = true)) → va_P D vwCl (cW ad C sh g) H → va_S A s.heap H locs → W p l e R s m args below meth c H locs cells slots Q (F0 m pc ls (r.toList.map (cv ad)))
def SS (p : Program) (l : Launch) (e : Env) (R : Room) (s : State) (m : MethodId) (args : Array Value) (below : List Frame) (meth : Method) (c : Code) (cells slots : Nat) (Q : State → Prop) (D : va_G) (C : CI3) (A : Nat → Prop) (ad : Nat → Nat) (sh : Shp) (nL : Nat) (cc : ByteArray) (rt : Option FieldType) (pc : Nat) (f : Stq) : Prop :=
  ∀ (go : Ct) (L : Lc) (st : List AV) (g : Sg) (o : Ou), f go L st g = some o → (∀ r g', o = .inl (r, g') → OKr p l e R s m args below meth c cells slots Q D C A ad sh nL cc rt r g') → (∀ pc' L' st' g', go pc' L' st' g' = some o → AW p l e R s m args below meth c cells slots Q D C A ad sh nL pc' L' st' g') → AW p l e R s m args below meth c cells slots Q D C A ad sh nL pc L st g
section STEPS
variable {p : Program} {l : Launch} {e : Env} {R : Room} {s : State} {m : MethodId} {args : Array Value} {below : List Frame} {meth : Method} {c : Code} {cells slots : Nat} {Q : State → Prop} {D : va_G} {C : CI3} {A : Nat → Prop} {ad : Nat → Nat} {sh : Shp} {E : Ex} {cc : ByteArray} {nL : Nat} {own : String} {rt : Option FieldType}
theorem s_iconst (X : Cx p R s m args c cc nL own D C A ad sh E) {pc : Nat} {n : Int} {v : Int32} (hd : decode cc pc = .ok (.iconst n, 1)) (hv : Int32.ofInt n = v) : SS p l e R s m args below meth c cells slots Q D C A ad sh nL cc rt pc (o_ic (pc + 1) v) := by
  intro go L st g o h ok k H locs ls hP hS hL
  exact lv_iconst X.1 X.2.1 hd hv (k _ _ _ _ h H locs ls hP hS hL)
theorem s_bipush (X : Cx p R s m args c cc nL own D C A ad sh E) {pc : Nat} {n : Int} {v : Int32} (hd : decode cc pc = .ok (.bipush n, 2)) (hv : (Int8.ofInt n).toInt32 = v) : SS p l e R s m args below meth c cells slots Q D C A ad sh nL cc rt pc (o_ic (pc + 2) v) := by
  intro go L st g o h ok k H locs ls hP hS hL
  exact lv_bipush X.1 X.2.1 hd hv (k _ _ _ _ h H locs ls hP hS hL)
theorem s_sipush (X : Cx p R s m args c cc nL own D C A ad sh E) {pc : Nat} {n : Int} {v : Int32} (hd : decode cc pc = .ok (.sipush n, 3)) (hv : (Int16.ofInt n).toInt32 = v) : SS p l e R s m args below meth c cells slots Q D C A ad sh nL cc rt pc (o_ic (pc + 3) v) := by
  intro go L st g o h ok k H locs ls hP hS hL
  exact lv_sipush X.1 X.2.1 hd hv (k _ _ _ _ h H locs ls hP hS hL)
theorem s_ldc (X : Cx p R s m args c cc nL own D C A ad sh E) {pc i : Nat} {v : Int32} (hd : decode cc pc = .ok (.ldc i, 2)) (hl : Cond.constant own i v ∈ TB) : SS p l e R s m args below meth c cells slots Q D C A ad sh nL cc rt pc (o_ic (pc + 2) v) := by
  intro go L st g o h ok k H locs ls hP hS hL
  exact lv_ldc X.1 X.2.1 X.2.2.2.1 (X.2.2.2.2.1 _ hl) hd (k _ _ _ _ h H locs ls hP hS hL)
theorem s_ldcw (X : Cx p R s m args c cc nL own D C A ad sh E) {pc i : Nat} {v : Int32} (hd : decode cc pc = .ok (.ldc_w i, 3)) (hl : Cond.constant own i v ∈ TB) : SS p l e R s m args below meth c cells slots Q D C A ad sh nL cc rt pc (o_ic (pc + 3) v) := by
  intro go L st g o h ok k H locs ls hP hS hL
  exact lv_ldcw X.1 X.2.1 X.2.2.2.1 (X.2.2.2.2.1 _ hl) hd (k _ _ _ _ h H locs ls hP hS hL)
theorem s_iload_n (X : Cx p R s m args c cc nL own D C A ad sh E) {pc : Nat} {i : Fin 4} {j : Nat} (hd : decode cc pc = .ok (.iload_n i, 1)) (hi : (i : Nat) = j) : SS p l e R s m args below meth c cells slots Q D C A ad sh nL cc rt pc (o_il (pc + 1) j) := by
  intro go L st g o h ok k H locs ls hP hS hL
  unfold o_il at h
  split at h
  · rename_i x hx
    exact lv_iload_n X.1 X.2.1 hd hi (hL.2.2 j _ hx) (k _ _ _ _ h H locs ls hP hS hL)
  · cases h
theorem s_iload (X : Cx p R s m args c cc nL own D C A ad sh E) {pc : Nat} {j : Nat} (hd : decode cc pc = .ok (.iload j, 2)) : SS p l e R s m args below meth c cells slots Q D C A ad sh nL cc rt pc (o_il (pc + 2) j) := by
  intro go L st g o h ok k H locs ls hP hS hL
  unfold o_il at h
  split at h
  · rename_i x hx
    exact lv_iload X.1 X.2.1 hd (hL.2.2 j _ hx) (k _ _ _ _ h H locs ls hP hS hL)
  · cases h
theorem s_aload_n (X : Cx p R s m args c cc nL own D C A ad sh E) {pc : Nat} {i : Fin 4} {j : Nat} (hd : decode cc pc = .ok (.aload_n i, 1)) (hi : (i : Nat) = j) : SS p l e R s m args below meth c cells slots Q D C A ad sh nL cc rt pc (o_al (pc + 1) j) := by
  intro go L st g o h ok k H locs ls hP hS hL
  unfold o_al at h
  split at h
  · rename_i x hx
    exact lv_aload_n X.1 X.2.1 hd hi (hL.2.2 j _ hx) (k _ _ _ _ h H locs ls hP hS hL)
  · cases h
theorem s_aload (X : Cx p R s m args c cc nL own D C A ad sh E) {pc : Nat} {j : Nat} (hd : decode cc pc = .ok (.aload j, 2)) : SS p l e R s m args below meth c cells slots Q D C A ad sh nL cc rt pc (o_al (pc + 2) j) := by
  intro go L st g o h ok k H locs ls hP hS hL
  unfold o_al at h
  split at h
  · rename_i x hx
    exact lv_aload X.1 X.2.1 hd (hL.2.2 j _ hx) (k _ _ _ _ h H locs ls hP hS hL)
  · cases h
theorem s_istore_n (X : Cx p R s m args c cc nL own D C A ad sh E) {pc : Nat} {i : Fin 4} {j : Nat} (hd : decode cc pc = .ok (.istore_n i, 1)) (hi : (i : Nat) = j) (hn : j < nL) : SS p l e R s m args below meth c cells slots Q D C A ad sh nL cc rt pc (o_is (pc + 1) j) := by
  intro go L st g o h ok k H locs ls hP hS hL
  unfold o_is at h
  split at h
  · rename_i x r
    exact lv_istore_n X.1 X.2.1 hd hi hL.has hn rfl (fun ls' hl' => k _ _ _ _ h H locs ls' hP hS (hL.stored (v := .inl x) hl'))
  · cases h
theorem s_istore (X : Cx p R s m args c cc nL own D C A ad sh E) {pc : Nat} {j : Nat} (hd : decode cc pc = .ok (.istore j, 2)) (hn : j < nL) : SS p l e R s m args below meth c cells slots Q D C A ad sh nL cc rt pc (o_is (pc + 2) j) := by
  intro go L st g o h ok k H locs ls hP hS hL
  unfold o_is at h
  split at h
  · rename_i x r
    exact lv_istore X.1 X.2.1 hd hL.has hn rfl (fun ls' hl' => k _ _ _ _ h H locs ls' hP hS (hL.stored (v := .inl x) hl'))
  · cases h
theorem s_iinc (X : Cx p R s m args c cc nL own D C A ad sh E) {pc : Nat} {j : Nat} {n : Int} {d : Int32} (hd : decode cc pc = .ok (.iinc j n, 3)) (hv : Int32.ofInt n = d) (hn : j < nL) : SS p l e R s m args below meth c cells slots Q D C A ad sh nL cc rt pc (o_inc (pc + 3) j d) := by
  intro go L st g o h ok k H locs ls hP hS hL
  unfold o_inc at h
  split at h
  · rename_i x hx
    have hm : (j, Value.int x) ∈ lhl ad nL L := List.mem_filterMap.mpr ⟨j, List.mem_range.mpr hn, by simp [hx, cv]⟩
    obtain ⟨q, hq⟩ := List.mem_iff_getElem?.mp hm
    exact lv_iinc X.1 X.2.1 hd hL.has hq (by rw [hv]) hn rfl (fun ls' hl' => k _ _ _ _ h H locs ls' hP hS (hL.stored (v := .inl (x + d)) hl'))
  · cases h
theorem s_iadd (X : Cx p R s m args c cc nL own D C A ad sh E) {pc : Nat} (hd : decode cc pc = .ok (.iadd, 1)) : SS p l e R s m args below meth c cells slots Q D C A ad sh nL cc rt pc (o_b2 (pc + 1) (fun x y => x + y)) := by
  intro go L st g o h ok k H locs ls hP hS hL
  unfold o_b2 at h
  split at h
  · exact lv_iadd X.1 X.2.1 hd (k _ _ _ _ h H locs ls hP hS hL)
  · cases h
theorem s_isub (X : Cx p R s m args c cc nL own D C A ad sh E) {pc : Nat} (hd : decode cc pc = .ok (.isub, 1)) : SS p l e R s m args below meth c cells slots Q D C A ad sh nL cc rt pc (o_b2 (pc + 1) (fun x y => x - y)) := by
  intro go L st g o h ok k H locs ls hP hS hL
  unfold o_b2 at h
  split at h
  · exact lv_isub X.1 X.2.1 hd (k _ _ _ _ h H locs ls hP hS hL)
  · cases h
theorem s_imul (X : Cx p R s m args c cc nL own D C A ad sh E) {pc : Nat} (hd : decode cc pc = .ok (.imul, 1)) : SS p l e R s m args below meth c cells slots Q D C A ad sh nL cc rt pc (o_b2 (pc + 1) (fun x y => x * y)) := by
  intro go L st g o h ok k H locs ls hP hS hL
  unfold o_b2 at h
  split at h
  · exact lv_imul X.1 X.2.1 hd (k _ _ _ _ h H locs ls hP hS hL)
  · cases h
theorem s_iand (X : Cx p R s m args c cc nL own D C A ad sh E) {pc : Nat} (hd : decode cc pc = .ok (.iand, 1)) : SS p l e R s m args below meth c cells slots Q D C A ad sh nL cc rt pc (o_b2 (pc + 1) (fun x y => x &&& y)) := by
  intro go L st g o h ok k H locs ls hP hS hL
  unfold o_b2 at h
  split at h
  · exact lv_iand X.1 X.2.1 hd (k _ _ _ _ h H locs ls hP hS hL)
  · cases h
theorem s_ior (X : Cx p R s m args c cc nL own D C A ad sh E) {pc : Nat} (hd : decode cc pc = .ok (.ior, 1)) : SS p l e R s m args below meth c cells slots Q D C A ad sh nL cc rt pc (o_b2 (pc + 1) (fun x y => x ||| y)) := by
  intro go L st g o h ok k H locs ls hP hS hL
  unfold o_b2 at h
  split at h
  · exact lv_ior X.1 X.2.1 hd (k _ _ _ _ h H locs ls hP hS hL)
  · cases h
theorem s_ixor (X : Cx p R s m args c cc nL own D C A ad sh E) {pc : Nat} (hd : decode cc pc = .ok (.ixor, 1)) : SS p l e R s m args below meth c cells slots Q D C A ad sh nL cc rt pc (o_b2 (pc + 1) (fun x y => x ^^^ y)) := by
  intro go L st g o h ok k H locs ls hP hS hL
  unfold o_b2 at h
  split at h
  · exact lv_ixor X.1 X.2.1 hd (k _ _ _ _ h H locs ls hP hS hL)
  · cases h
theorem s_ishl (X : Cx p R s m args c cc nL own D C A ad sh E) {pc : Nat} (hd : decode cc pc = .ok (.ishl, 1)) : SS p l e R s m args below meth c cells slots Q D C A ad sh nL cc rt pc (o_b2 (pc + 1) (fun x y => x <<< (y &&& 31))) := by
  intro go L st g o h ok k H locs ls hP hS hL
  unfold o_b2 at h
  split at h
  · exact lv_ishl X.1 X.2.1 hd (k _ _ _ _ h H locs ls hP hS hL)
  · cases h
theorem s_ishr (X : Cx p R s m args c cc nL own D C A ad sh E) {pc : Nat} (hd : decode cc pc = .ok (.ishr, 1)) : SS p l e R s m args below meth c cells slots Q D C A ad sh nL cc rt pc (o_b2 (pc + 1) (fun x y => x >>> (y &&& 31))) := by
  intro go L st g o h ok k H locs ls hP hS hL
  unfold o_b2 at h
  split at h
  · exact lv_ishr X.1 X.2.1 hd (k _ _ _ _ h H locs ls hP hS hL)
  · cases h
theorem s_iushr (X : Cx p R s m args c cc nL own D C A ad sh E) {pc : Nat} (hd : decode cc pc = .ok (.iushr, 1)) : SS p l e R s m args below meth c cells slots Q D C A ad sh nL cc rt pc (o_b2 (pc + 1) (fun x y => (x.toUInt32 >>> (y.toUInt32 &&& Int32.toUInt32 31)).toInt32)) := by
  intro go L st g o h ok k H locs ls hP hS hL
  unfold o_b2 at h
  split at h
  · exact lv_iushr X.1 X.2.1 hd rfl (k _ _ _ _ h H locs ls hP hS hL)
  · cases h
theorem s_idiv (X : Cx p R s m args c cc nL own D C A ad sh E) {pc : Nat} (hd : decode cc pc = .ok (.idiv, 1)) : SS p l e R s m args below meth c cells slots Q D C A ad sh nL cc rt pc (o_div (pc + 1)) := by
  intro go L st g o h ok k H locs ls hP hS hL
  unfold o_div at h
  split at h
  · split at h
    · cases h
    · rename_i hne
      exact lv_idiv X.1 X.2.1 hd hne (k _ _ _ _ h H locs ls hP hS hL)
  · cases h
theorem s_irem (X : Cx p R s m args c cc nL own D C A ad sh E) {pc : Nat} (hd : decode cc pc = .ok (.irem, 1)) : SS p l e R s m args below meth c cells slots Q D C A ad sh nL cc rt pc (o_rem (pc + 1)) := by
  intro go L st g o h ok k H locs ls hP hS hL
  unfold o_rem at h
  split at h
  · split at h
    · cases h
    · rename_i hne
      exact lv_irem X.1 X.2.1 hd hne (k _ _ _ _ h H locs ls hP hS hL)
  · cases h
theorem s_dup (X : Cx p R s m args c cc nL own D C A ad sh E) {pc : Nat} (hd : decode cc pc = .ok (.dup, 1)) : SS p l e R s m args below meth c cells slots Q D C A ad sh nL cc rt pc (o_dup (pc + 1)) := by
  intro go L st g o h ok k H locs ls hP hS hL
  unfold o_dup at h
  split at h
  · exact lv_dup X.1 X.2.1 hd (cv_cat ad _) (k _ _ _ _ h H locs ls hP hS hL)
  · cases h
theorem s_dup2 (X : Cx p R s m args c cc nL own D C A ad sh E) {pc : Nat} (hd : decode cc pc = .ok (.dup2, 1)) : SS p l e R s m args below meth c cells slots Q D C A ad sh nL cc rt pc (o_dup2 (pc + 1)) := by
  intro go L st g o h ok k H locs ls hP hS hL
  unfold o_dup2 at h
  split at h
  · exact lv_dup2_11 X.1 X.2.1 hd (cv_cat ad _) (cv_cat ad _) (k _ _ _ _ h H locs ls hP hS hL)
  · cases h
theorem s_eq0 (X : Cx p R s m args c cc nL own D C A ad sh E) {pc t : Nat} {off : Int} (hd : decode cc pc = .ok (.ifCond .eq off, 3)) (ht : (pc : Int) + off = (t : Int)) : SS p l e R s m args below meth c cells slots Q D C A ad sh nL cc rt pc (o_eq0 t (pc + 3)) := by
  intro go L st g o h ok k H locs ls hP hS hL
  unfold o_eq0 at h
  split at h
  · split at h
    · rename_i hc
      exact lv_if_eq X.1 X.2.1 hd ht (fun _ => k _ _ _ _ h H locs ls hP hS hL) (fun q => absurd hc q)
    · rename_i hc
      exact lv_if_eq X.1 X.2.1 hd ht (fun q => absurd q hc) (fun _ => k _ _ _ _ h H locs ls hP hS hL)
  · cases h
theorem s_eq (X : Cx p R s m args c cc nL own D C A ad sh E) {pc t : Nat} {off : Int} (hd : decode cc pc = .ok (.if_icmp .eq off, 3)) (ht : (pc : Int) + off = (t : Int)) : SS p l e R s m args below meth c cells slots Q D C A ad sh nL cc rt pc (o_eq t (pc + 3)) := by
  intro go L st g o h ok k H locs ls hP hS hL
  unfold o_eq at h
  split at h
  · split at h
    · rename_i hc
      exact lv_icmp_eq X.1 X.2.1 hd ht (fun _ => k _ _ _ _ h H locs ls hP hS hL) (fun q => absurd hc q)
    · rename_i hc
      exact lv_icmp_eq X.1 X.2.1 hd ht (fun q => absurd q hc) (fun _ => k _ _ _ _ h H locs ls hP hS hL)
  · cases h
theorem s_ne0 (X : Cx p R s m args c cc nL own D C A ad sh E) {pc t : Nat} {off : Int} (hd : decode cc pc = .ok (.ifCond .ne off, 3)) (ht : (pc : Int) + off = (t : Int)) : SS p l e R s m args below meth c cells slots Q D C A ad sh nL cc rt pc (o_ne0 t (pc + 3)) := by
  intro go L st g o h ok k H locs ls hP hS hL
  unfold o_ne0 at h
  split at h
  · split at h
    · rename_i hc
      exact lv_if_ne X.1 X.2.1 hd ht (fun q => absurd hc q) (fun _ => k _ _ _ _ h H locs ls hP hS hL)
    · rename_i hc
      exact lv_if_ne X.1 X.2.1 hd ht (fun _ => k _ _ _ _ h H locs ls hP hS hL) (fun q => absurd q hc)
  · cases h
theorem s_ne (X : Cx p R s m args c cc nL own D C A ad sh E) {pc t : Nat} {off : Int} (hd : decode cc pc = .ok (.if_icmp .ne off, 3)) (ht : (pc : Int) + off = (t : Int)) : SS p l e R s m args below meth c cells slots Q D C A ad sh nL cc rt pc (o_ne t (pc + 3)) := by
  intro go L st g o h ok k H locs ls hP hS hL
  unfold o_ne at h
  split at h
  · split at h
    · rename_i hc
      exact lv_icmp_ne X.1 X.2.1 hd ht (fun q => absurd hc q) (fun _ => k _ _ _ _ h H locs ls hP hS hL)
    · rename_i hc
      exact lv_icmp_ne X.1 X.2.1 hd ht (fun _ => k _ _ _ _ h H locs ls hP hS hL) (fun q => absurd q hc)
  · cases h
theorem s_lt0 (X : Cx p R s m args c cc nL own D C A ad sh E) {pc t : Nat} {off : Int} (hd : decode cc pc = .ok (.ifCond .lt off, 3)) (ht : (pc : Int) + off = (t : Int)) : SS p l e R s m args below meth c cells slots Q D C A ad sh nL cc rt pc (o_lt0 t (pc + 3)) := by
  intro go L st g o h ok k H locs ls hP hS hL
  unfold o_lt0 at h
  split at h
  · split at h
    · rename_i hc
      exact lv_if_lt X.1 X.2.1 hd ht (fun _ => k _ _ _ _ h H locs ls hP hS hL) (fun q => absurd hc q)
    · rename_i hc
      exact lv_if_lt X.1 X.2.1 hd ht (fun q => absurd q hc) (fun _ => k _ _ _ _ h H locs ls hP hS hL)
  · cases h
theorem s_lt (X : Cx p R s m args c cc nL own D C A ad sh E) {pc t : Nat} {off : Int} (hd : decode cc pc = .ok (.if_icmp .lt off, 3)) (ht : (pc : Int) + off = (t : Int)) : SS p l e R s m args below meth c cells slots Q D C A ad sh nL cc rt pc (o_lt t (pc + 3)) := by
  intro go L st g o h ok k H locs ls hP hS hL
  unfold o_lt at h
  split at h
  · split at h
    · rename_i hc
      exact lv_icmp_lt X.1 X.2.1 hd ht (fun _ => k _ _ _ _ h H locs ls hP hS hL) (fun q => absurd hc q)
    · rename_i hc
      exact lv_icmp_lt X.1 X.2.1 hd ht (fun q => absurd q hc) (fun _ => k _ _ _ _ h H locs ls hP hS hL)
  · cases h
theorem s_ge0 (X : Cx p R s m args c cc nL own D C A ad sh E) {pc t : Nat} {off : Int} (hd : decode cc pc = .ok (.ifCond .ge off, 3)) (ht : (pc : Int) + off = (t : Int)) : SS p l e R s m args below meth c cells slots Q D C A ad sh nL cc rt pc (o_ge0 t (pc + 3)) := by
  intro go L st g o h ok k H locs ls hP hS hL
  unfold o_ge0 at h
  split at h
  · split at h
    · rename_i hc
      exact lv_if_ge X.1 X.2.1 hd ht (fun _ => k _ _ _ _ h H locs ls hP hS hL) (fun q => absurd hc q)
    · rename_i hc
      exact lv_if_ge X.1 X.2.1 hd ht (fun q => absurd q hc) (fun _ => k _ _ _ _ h H locs ls hP hS hL)
  · cases h
theorem s_ge (X : Cx p R s m args c cc nL own D C A ad sh E) {pc t : Nat} {off : Int} (hd : decode cc pc = .ok (.if_icmp .ge off, 3)) (ht : (pc : Int) + off = (t : Int)) : SS p l e R s m args below meth c cells slots Q D C A ad sh nL cc rt pc (o_ge t (pc + 3)) := by
  intro go L st g o h ok k H locs ls hP hS hL
  unfold o_ge at h
  split at h
  · split at h
    · rename_i hc
      exact lv_icmp_ge X.1 X.2.1 hd ht (fun _ => k _ _ _ _ h H locs ls hP hS hL) (fun q => absurd hc q)
    · rename_i hc
      exact lv_icmp_ge X.1 X.2.1 hd ht (fun q => absurd q hc) (fun _ => k _ _ _ _ h H locs ls hP hS hL)
  · cases h
theorem s_gt0 (X : Cx p R s m args c cc nL own D C A ad sh E) {pc t : Nat} {off : Int} (hd : decode cc pc = .ok (.ifCond .gt off, 3)) (ht : (pc : Int) + off = (t : Int)) : SS p l e R s m args below meth c cells slots Q D C A ad sh nL cc rt pc (o_gt0 t (pc + 3)) := by
  intro go L st g o h ok k H locs ls hP hS hL
  unfold o_gt0 at h
  split at h
  · split at h
    · rename_i hc
      exact lv_if_gt X.1 X.2.1 hd ht (fun _ => k _ _ _ _ h H locs ls hP hS hL) (fun q => absurd hc q)
    · rename_i hc
      exact lv_if_gt X.1 X.2.1 hd ht (fun q => absurd q hc) (fun _ => k _ _ _ _ h H locs ls hP hS hL)
  · cases h
theorem s_gt (X : Cx p R s m args c cc nL own D C A ad sh E) {pc t : Nat} {off : Int} (hd : decode cc pc = .ok (.if_icmp .gt off, 3)) (ht : (pc : Int) + off = (t : Int)) : SS p l e R s m args below meth c cells slots Q D C A ad sh nL cc rt pc (o_gt t (pc + 3)) := by
  intro go L st g o h ok k H locs ls hP hS hL
  unfold o_gt at h
  split at h
  · split at h
    · rename_i hc
      exact lv_icmp_gt X.1 X.2.1 hd ht (fun _ => k _ _ _ _ h H locs ls hP hS hL) (fun q => absurd hc q)
    · rename_i hc
      exact lv_icmp_gt X.1 X.2.1 hd ht (fun q => absurd q hc) (fun _ => k _ _ _ _ h H locs ls hP hS hL)
  · cases h
theorem s_le0 (X : Cx p R s m args c cc nL own D C A ad sh E) {pc t : Nat} {off : Int} (hd : decode cc pc = .ok (.ifCond .le off, 3)) (ht : (pc : Int) + off = (t : Int)) : SS p l e R s m args below meth c cells slots Q D C A ad sh nL cc rt pc (o_le0 t (pc + 3)) := by
  intro go L st g o h ok k H locs ls hP hS hL
  unfold o_le0 at h
  split at h
  · split at h
    · rename_i hc
      exact lv_if_le X.1 X.2.1 hd ht (fun _ => k _ _ _ _ h H locs ls hP hS hL) (fun q => absurd hc q)
    · rename_i hc
      exact lv_if_le X.1 X.2.1 hd ht (fun q => absurd q hc) (fun _ => k _ _ _ _ h H locs ls hP hS hL)
  · cases h
theorem s_le (X : Cx p R s m args c cc nL own D C A ad sh E) {pc t : Nat} {off : Int} (hd : decode cc pc = .ok (.if_icmp .le off, 3)) (ht : (pc : Int) + off = (t : Int)) : SS p l e R s m args below meth c cells slots Q D C A ad sh nL cc rt pc (o_le t (pc + 3)) := by
  intro go L st g o h ok k H locs ls hP hS hL
  unfold o_le at h
  split at h
  · split at h
    · rename_i hc
      exact lv_icmp_le X.1 X.2.1 hd ht (fun _ => k _ _ _ _ h H locs ls hP hS hL) (fun q => absurd hc q)
    · rename_i hc
      exact lv_icmp_le X.1 X.2.1 hd ht (fun q => absurd q hc) (fun _ => k _ _ _ _ h H locs ls hP hS hL)
  · cases h
theorem s_goto (X : Cx p R s m args c cc nL own D C A ad sh E) {pc t : Nat} {off : Int} (hd : decode cc pc = .ok (.goto off, 3)) (ht : (pc : Int) + off = (t : Int)) : SS p l e R s m args below meth c cells slots Q D C A ad sh nL cc rt pc (o_goto t) := by
  intro go L st g o h ok k H locs ls hP hS hL
  exact lv_goto X.1 X.2.1 hd ht (k _ _ _ _ h H locs ls hP hS hL)
theorem swG_in {go : Ct} {L : Lc} {r : List AV} {g : Sg} {x : Int32} {d : Nat} {o : Ou} : ∀ (ps : List (Int32 × Nat)), swG go L r g x d ps = some o → (∃ q ∈ ps, x = q.1 ∧ go q.2 L r g = some o) ∨ ((∀ q ∈ ps, ¬ x = q.1) ∧ go d L r g = some o)
  | [], h => Or.inr ⟨fun _ h => absurd h List.not_mem_nil, h⟩
  | q :: t, h => by
    unfold swG at h
    split at h
    · rename_i hc
      exact Or.inl ⟨q, List.mem_cons_self, hc, h⟩
    · rename_i hc
      rcases swG_in t h with ⟨q', h1, h2⟩ | ⟨h1, h2⟩
      · exact Or.inl ⟨q', List.mem_cons_of_mem _ h1, h2⟩
      · exact Or.inr ⟨fun z hz => (List.mem_cons.mp hz).elim (fun e => by rw [e]; exact hc) (h1 z), h2⟩
theorem s_table (X : Cx p R s m args c cc nL own D C A ad sh E) {pc d len : Nat} {df lo hi : Int} {offs : Array Int} {ps : List (Int32 × Nat)} (hd : decode cc pc = .ok (.tableswitch df lo hi offs, len)) (hdf : (pc : Int) + df = (d : Int)) (h1 : ∀ q ∈ ps, ¬ q.1.toInt < lo ∧ ¬ hi < q.1.toInt ∧ (offs[(q.1.toInt - lo).toNat]?).map (fun z => (pc : Int) + z) = some (q.2 : Int)) (h2 : ∀ i : Nat, i < (hi - lo + 1).toNat → ∃ q ∈ ps, q.1.toInt = lo + i) : SS p l e R s m args below meth c cells slots Q D C A ad sh nL cc rt pc (o_sw d ps) := by
  intro go L st g o h ok k H locs ls hP hS hL
  unfold o_sw at h
  split at h
  · rename_i x r
    rcases swG_in ps h with ⟨q, hq, hx, hg⟩ | ⟨hn, hg⟩
    · obtain ⟨a1, a2, a3⟩ := h1 q hq
      cases ho : offs[(q.1.toInt - lo).toNat]? with
      | none => simp [ho] at a3
      | some off =>
        simp [ho] at a3
        subst hx
        exact lv_tableIn X.1 X.2.1 hd a1 a2 ho a3 (k _ _ _ _ hg H locs ls hP hS hL)
    · refine lv_tableOut X.1 X.2.1 hd ?_ hdf (k _ _ _ _ hg H locs ls hP hS hL)
      rcases Int.lt_or_le x.toInt lo with q | q
      · exact Or.inl q
      · rcases Int.lt_or_le hi x.toInt with q' | q'
        · exact Or.inr q'
        · obtain ⟨z, hz, e⟩ := h2 (x.toInt - lo).toNat (by omega)
          exact absurd (Int32.toInt_inj.mp (by rw [e]; omega)) (hn z hz)
  · cases h
theorem s_lookup (X : Cx p R s m args c cc nL own D C A ad sh E) {pc d len : Nat} {df : Int} {prs : Array (Int × Int)} {ps : List (Int32 × Nat)} (hd : decode cc pc = .ok (.lookupswitch df prs, len)) (hs : (prs.toList.zip (prs.toList.drop 1)).all (fun (a, next) => a.1 < next.1) = true) (hdf : (pc : Int) + df = (d : Int)) (h1 : ∀ q ∈ ps, (pc : Int) + Op.lookupswitch.offset prs.toList df q.1.toInt = (q.2 : Int)) (h2 : ∀ x : Int32, (∀ q ∈ ps, ¬ x = q.1) → Op.lookupswitch.offset prs.toList df x.toInt = df) : SS p l e R s m args below meth c cells slots Q D C A ad sh nL cc rt pc (o_sw d ps) := by
  intro go L st g o h ok k H locs ls hP hS hL
  unfold o_sw at h
  split at h
  · rename_i x r
    rcases swG_in ps h with ⟨q, hq, hx, hg⟩ | ⟨hn, hg⟩
    · subst hx
      exact lv_lookup X.1 X.2.1 hd hs rfl (h1 q hq) (k _ _ _ _ hg H locs ls hP hS hL)
    · exact lv_lookup X.1 X.2.1 hd hs (h2 x hn) hdf (k _ _ _ _ hg H locs ls hP hS hL)
  · cases h
theorem s_getI (X : Cx p R s m args c cc nL own D C A ad sh E) {CN : String} {T : u_T} {N ci idx j pc : Nat} (hd : decode cc pc = .ok (.getfield idx, 3)) (hin : ∀ w ∈ u_ws CN T N, w ∈ TB) (hc : vwCl[ci]? = some (CN, T, N)) (hj : j < N) (hl : Cond.fieldLink own idx (T j).1 (T j).2.1 (T j).2.2.1 ∈ TB) (hk : (fk ci)[j]? = some false) : SS p l e R s m args below meth c cells slots Q D C A ad sh nL cc rt pc (o_gI sh (pc + 3) ci j) := by
  intro go L st g o h ok k H locs ls hP hS hL
  obtain ⟨hx, hb, hml, ho, hts, -, hK, -⟩ := X
  unfold o_gI at h
  split at h
  · rename_i q r
    split at h
    · rename_i ci' rs hq
      split at h
      · rename_i e
        subst e
        exact va_get hx hb hts hin ho hK hP q (cW_get hq) hc j hj (hts _ hl) (fun _ h9 => h9) (cf_get hk) hd (k _ _ _ _ h H locs ls hP hS hL)
      · cases h
    · cases h
  · cases h
theorem s_getR (X : Cx p R s m args c cc nL own D C A ad sh E) {CN : String} {T : u_T} {N ci idx j pc : Nat} (hd : decode cc pc = .ok (.getfield idx, 3)) (hin : ∀ w ∈ u_ws CN T N, w ∈ TB) (hc : vwCl[ci]? = some (CN, T, N)) (hj : j < N) (hl : Cond.fieldLink own idx (T j).1 (T j).2.1 (T j).2.2.1 ∈ TB) (hk : (fk ci)[j]? = some true) : SS p l e R s m args below meth c cells slots Q D C A ad sh nL cc rt pc (o_gR sh (pc + 3) ci j) := by
  intro go L st g o h ok k H locs ls hP hS hL
  obtain ⟨hx, hb, hml, ho, hts, -, hK, -⟩ := X
  unfold o_gR at h
  split at h
  · rename_i q r
    split at h
    · rename_i ci' rs hq
      split at h
      · rename_i e
        subst e
        exact va_get hx hb hts hin ho hK hP q (cW_get hq) hc j hj (hts _ hl) (fun _ h9 => h9) (cf_get hk) hd (k _ _ _ _ h H locs ls hP hS hL)
      · cases h
    · cases h
  · cases h
theorem s_putI (X : Cx p R s m args c cc nL own D C A ad sh E) {CN : String} {T : u_T} {N ci idx j pc : Nat} (hd : decode cc pc = .ok (.putfield idx, 3)) (hin : ∀ w ∈ u_ws CN T N, w ∈ TB) (ty0 : Nat → FieldType) (hty : ∀ k, k < N → parseFieldDescriptor (T k).2.2.1 = some (ty0 k)) (hnm : ∀ a, a < N → ∀ b, b < N → a ≠ b → (T a).2.1 ≠ (T b).2.1) (hc : vwCl[ci]? = some (CN, T, N)) (hj : j < N) (hl : Cond.fieldLink own idx (T j).1 (T j).2.1 (T j).2.2.1 ∈ TB) (hk : (fk ci)[j]? = some false) (hfin : (T j).2.2.2 = false) (hdt : parseFieldDescriptor (T j).2.2.1 = some .int) : SS p l e R s m args below meth c cells slots Q D C A ad sh nL cc rt pc (o_pI sh (pc + 3) ci j) := by
  intro go L st g o h ok k H locs ls hP hS hL
  obtain ⟨hx, hb, hml, ho, hts, -, hK, -, hD, -⟩ := X
  unfold o_pI at h
  split at h
  · rename_i v q r
    split at h
    · rename_i ci' rs hq
      split at h
      · rename_i e
        subst e
        refine va_put hx hb hts hin ty0 hty hnm ho hK hP (hD g) hS q (cW_get hq) hc j hj (hts _ hl) (fun _ h9 => h9) hfin (v := .int v) hdt rfl rfl (by rw [cf_len]; exact (List.getElem?_eq_some_iff.mp hk).1) hd (fun H1 locs1 hP1 hD1 hS1 => ?_)
        rw [cf_set hk] at hP1
        have e2 := cW_set (ad := ad) (C := C) (g := g) (f := upd (g q) j v) hq
        change va_P D vwCl ((cW ad C sh g).set q (ad q, cE ad C (upd (g q) j v) (3, ci', rs))) H1 at hP1
        rw [e2] at hP1
        exact k _ _ _ _ h H1 locs1 ls hP1 hS1 hL
      · cases h
    · cases h
  · cases h
theorem isB_cases {v : Int32} (h : isB v = true) : v = 0 ∨ v = 1 := by
  unfold isB at h
  simpa using h
theorem isB_nar {v : Int32} (h : isB v = true) : narrow .boolean (.int v) = .int v ∧ fits .boolean (.int v) = true := by
  rcases isB_cases h with e | e <;> subst e <;> exact ⟨rfl, rfl⟩
theorem s_putZ (X : Cx p R s m args c cc nL own D C A ad sh E) {CN : String} {T : u_T} {N ci idx j pc : Nat} (hd : decode cc pc = .ok (.putfield idx, 3)) (hin : ∀ w ∈ u_ws CN T N, w ∈ TB) (ty0 : Nat → FieldType) (hty : ∀ k, k < N → parseFieldDescriptor (T k).2.2.1 = some (ty0 k)) (hnm : ∀ a, a < N → ∀ b, b < N → a ≠ b → (T a).2.1 ≠ (T b).2.1) (hc : vwCl[ci]? = some (CN, T, N)) (hj : j < N) (hl : Cond.fieldLink own idx (T j).1 (T j).2.1 (T j).2.2.1 ∈ TB) (hk : (fk ci)[j]? = some false) (hfin : (T j).2.2.2 = false) (hdt : parseFieldDescriptor (T j).2.2.1 = some .boolean) : SS p l e R s m args below meth c cells slots Q D C A ad sh nL cc rt pc (o_pZ sh (pc + 3) ci j) := by
  intro go L st g o h ok k H locs ls hP hS hL
  obtain ⟨hx, hb, hml, ho, hts, -, hK, -, hD, -⟩ := X
  unfold o_pZ at h
  split at h
  · rename_i v q r
    split at h
    · rename_i ci' rs hq
      split at h
      · rename_i e
        subst e
        split at h
        · rename_i hB
          refine va_put hx hb hts hin ty0 hty hnm ho hK hP (hD g) hS q (cW_get hq) hc j hj (hts _ hl) (fun _ h9 => h9) hfin (v := .int v) hdt (isB_nar hB).1 (isB_nar hB).2 (by rw [cf_len]; exact (List.getElem?_eq_some_iff.mp hk).1) hd (fun H1 locs1 hP1 hD1 hS1 => ?_)
          rw [cf_set hk] at hP1
          have e2 := cW_set (ad := ad) (C := C) (g := g) (f := upd (g q) j v) hq
          change va_P D vwCl ((cW ad C sh g).set q (ad q, cE ad C (upd (g q) j v) (3, ci', rs))) H1 at hP1
          rw [e2] at hP1
          exact k _ _ _ _ h H1 locs1 ls hP1 hS1 hL
        · cases h
      · cases h
    · cases h
  · cases h
theorem s_gets (X : Cx p R s m args c cc nL own D C A ad sh E) {idx pc : Nat} (hd : decode cc pc = .ok (.getstatic idx, 3)) (hl : Cond.fieldLink own idx RX4 "FIVES" "[I" ∈ TB) : SS p l e R s m args below meth c cells slots Q D C A ad sh nL cc rt pc (o_gs (pc + 3)) := by
  intro go L st g o h ok k H locs ls hP hS hL
  obtain ⟨hx, hb, hml, ho, hts, -, hK, -, hD, hZ, -⟩ := X
  exact va_gets hx hb hZ hS ho (hts _ hl) (fun _ h9 => h9) hd (k _ _ _ _ h H locs ls hP hS hL)
theorem s_getsN (X : Cx p R s m args c cc nL own D C A ad sh E) {idx pc : Nat} (hd : decode cc pc = .ok (.getstatic idx, 3)) (hl : Cond.fieldLinkNest own idx RX4 "FIVES" "[I" RX4 ∈ NW) : SS p l e R s m args below meth c cells slots Q D C A ad sh nL cc rt pc (o_gs (pc + 3)) := by
  intro go L st g o h ok k H locs ls hP hS hL
  obtain ⟨hx, hb, hml, ho, hts, hn, hK, -, hD, hZ, -⟩ := X
  exact va_getsN hx hb hZ hS ho (va_Nw.use rfl (hn _ hl)) (fun _ h9 => h9) hd (k _ _ _ _ h H locs ls hP hS hL)
theorem s_iald (X : Cx p R s m args c cc nL own D C A ad sh E) {pc : Nat} (hd : decode cc pc = .ok (.iaload, 1)) : SS p l e R s m args below meth c cells slots Q D C A ad sh nL cc rt pc (o_ia sh E (pc + 1)) := by
  intro go L st g o h ok k H locs ls hP hS hL
  obtain ⟨hx, hb, hml, ho, hts, -, hK, -, hD, hZ, hT, hU⟩ := X
  unfold o_ia at h
  split at h
  · rename_i i q r
    split at h
    · rename_i n rs hq
      split at h
      · rename_i hi
        exact va_iald hx hb hK hP q 0 (cW_get hq) rfl (inB_in hi) hd (k _ _ _ _ h H locs ls hP hS hL)
      · cases h
    · cases h
    · split at h
      · rename_i e
        subst e
        split at h
        · rename_i hi
          exact va_ti hx hb hT hS (inB_in hi) rfl hd (k _ _ _ _ h H locs ls hP hS hL)
        · cases h
      · split at h
        · rename_i e
          subst e
          split at h
          · rename_i hi
            exact va_ti hx hb hU hS (inB_in hi) rfl hd (k _ _ _ _ h H locs ls hP hS hL)
          · cases h
        · cases h
  · cases h
theorem s_iast (X : Cx p R s m args c cc nL own D C A ad sh E) {pc : Nat} (hd : decode cc pc = .ok (.iastore, 1)) : SS p l e R s m args below meth c cells slots Q D C A ad sh nL cc rt pc (o_is_ sh (pc + 1)) := by
  intro go L st g o h ok k H locs ls hP hS hL
  obtain ⟨hx, hb, hml, ho, hts, -, hK, -, hD, hZ, hT, hU⟩ := X
  unfold o_is_ at h
  split at h
  · rename_i x i q r
    split at h
    · rename_i n rs hq
      split at h
      · rename_i hi
        refine va_iast hx hb hK hP (hD g) hS q 0 (cW_get hq) rfl (inB_in hi) hd (fun H1 locs1 hP1 hD1 hS1 => ?_)
        have e2 := cW_set (ad := ad) (C := C) (g := g) (f := upd (g q) i.toNatClampNeg x) hq
        change va_P D vwCl ((cW ad C sh g).set q (ad q, cE ad C (upd (g q) i.toNatClampNeg x) (0, n, rs))) H1 at hP1
        rw [e2] at hP1
        exact k _ _ _ _ h H1 locs1 ls hP1 hS1 hL
      · cases h
    · cases h
  · cases h
theorem s_zald (X : Cx p R s m args c cc nL own D C A ad sh E) {pc : Nat} (hd : decode cc pc = .ok (.baload, 1)) : SS p l e R s m args below meth c cells slots Q D C A ad sh nL cc rt pc (o_za sh (pc + 1)) := by
  intro go L st g o h ok k H locs ls hP hS hL
  obtain ⟨hx, hb, hml, ho, hts, -, hK, -, hD, hZ, hT, hU⟩ := X
  unfold o_za at h
  split at h
  · rename_i i q r
    split at h
    · rename_i n rs hq
      split at h
      · rename_i hi
        exact va_zald hx hb hK hP q 1 (cW_get hq) rfl (inB_in hi) hd (k _ _ _ _ h H locs ls hP hS hL)
      · cases h
    · cases h
  · cases h
theorem s_zast (X : Cx p R s m args c cc nL own D C A ad sh E) {pc : Nat} (hd : decode cc pc = .ok (.bastore, 1)) : SS p l e R s m args below meth c cells slots Q D C A ad sh nL cc rt pc (o_zs sh (pc + 1)) := by
  intro go L st g o h ok k H locs ls hP hS hL
  obtain ⟨hx, hb, hml, ho, hts, -, hK, -, hD, hZ, hT, hU⟩ := X
  unfold o_zs at h
  split at h
  · rename_i x i q r
    split at h
    · rename_i n rs hq
      split at h
      · rename_i hi
        split at h
        · rename_i hB
          refine va_zast hx hb hK hP (hD g) hS q 1 (cW_get hq) rfl (inB_in hi) hd (fun H1 locs1 hP1 hD1 hS1 => ?_)
          have e1 : vp_nar .boolean x = x := by rcases isB_cases hB with e | e <;> subst e <;> rfl
          rw [e1] at hP1
          have e2 := cW_set (ad := ad) (C := C) (g := g) (f := upd (g q) i.toNatClampNeg x) hq
          change va_P D vwCl ((cW ad C sh g).set q (ad q, cE ad C (upd (g q) i.toNatClampNeg x) (1, n, rs))) H1 at hP1
          rw [e2] at hP1
          exact k _ _ _ _ h H1 locs1 ls hP1 hS1 hL
        · cases h
      · cases h
    · cases h
  · cases h
theorem s_aald (X : Cx p R s m args c cc nL own D C A ad sh E) {pc : Nat} (hd : decode cc pc = .ok (.aaload, 1)) : SS p l e R s m args below meth c cells slots Q D C A ad sh nL cc rt pc (o_ra sh (pc + 1)) := by
  intro go L st g o h ok k H locs ls hP hS hL
  obtain ⟨hx, hb, hml, ho, hts, -, hK, -, hD, hZ, hT, hU⟩ := X
  unfold o_ra at h
  split at h
  · rename_i i q r
    split at h
    · rename_i n rs hq
      split at h
      · rename_i hi
        exact va_aldq hx hb hK hP q 2 (cW_get hq) rfl (inB_in hi) hd (k _ _ _ _ h H locs ls hP hS hL)
      · cases h
    · cases h
  · cases h
theorem s_alen (X : Cx p R s m args c cc nL own D C A ad sh E) {pc : Nat} (hd : decode cc pc = .ok (.arraylength, 1)) : SS p l e R s m args below meth c cells slots Q D C A ad sh nL cc rt pc (o_len sh E (pc + 1)) := by
  intro go L st g o h ok k H locs ls hP hS hL
  obtain ⟨hx, hb, hml, ho, hts, -, hK, -, hD, hZ, hT, hU⟩ := X
  unfold o_len at h
  split at h
  · rename_i q r
    split at h
    · rename_i n rs hq
      exact va_alen hx hb hK hP q 0 (cW_get hq) rfl rfl hd (k _ _ _ _ h H locs ls hP hS hL)
    · cases h
    · split at h
      · rename_i e
        subst e
        exact va_tlen hx hb hU hS rfl hd (k _ _ _ _ h H locs ls hP hS hL)
      · cases h
  · cases h
theorem s_copy (X : Cx p R s m args c cc nL own D C A ad sh E) {pc idx : Nat} (hd : decode cc pc = .ok (.invokestatic idx, 3)) (hl : Cond.methodLink own idx arraycopyName ∈ TB) (h1 : Cond.native arraycopyName ∈ TB) (h2 : Cond.static arraycopyName ∈ TB) (h3 : Cond.initialized "java/lang/System" ∈ TB) (hR : 1 ≤ R.frames ∧ 100 ≤ R.locals) : SS p l e R s m args below meth c cells slots Q D C A ad sh nL cc rt pc (o_copy sh (pc + 3)) := by
  intro go L st g o h ok k H locs ls hP hS hL
  obtain ⟨hx, hb, hml, ho, hts, -, hK, -, hD, hZ, hT, hU⟩ := X
  unfold o_copy at h
  split at h
  · rename_i n dp d sp q
    split at h
    · rename_i n0 r0 n1 r1 hq hdq
      split at h
      · rename_i hc
        obtain ⟨⟨c1, c2, c3⟩, c4, c5⟩ := hc
        refine va_copyi hx hb (by rw [hml, hL.1]) ho (hts _ hl) (hts _ h1) (hts _ h2) (hts _ h3) hK hP (hD g) hS q d 0 0 (cW_get hq) (cW_get hdq) rfl rfl rfl (Int32.not_lt.mpr c1) (Int32.not_lt.mpr c2) (Int32.not_lt.mpr c3) c4 c5 (fun _ _ => rfl) hR.1 (Nat.le_trans (show 0 + (nativeFrameWords "java/lang/System" "arraycopy" 5 + 11) ≤ 100 by decide) hR.2) hd (fun H1 locs1 hP1 hD1 hS1 => ?_)
        have e2 := cW_set (ad := ad) (C := C) (g := g) (f := va_cpy (g q) (g d) sp.toNatClampNeg dp.toNatClampNeg n.toNatClampNeg) hdq
        change va_P D vwCl ((cW ad C sh g).set d (ad d, cE ad C (va_cpy (g q) (g d) sp.toNatClampNeg dp.toNatClampNeg n.toNatClampNeg) (0, n1, r1))) H1 at hP1
        rw [e2] at hP1
        exact k _ _ _ _ h H1 locs1 ls hP1 hS1 hL
      · cases h
    · cases h
  · cases h
theorem s_ret (hr : rt = some .int) {pc : Nat} (hd : decode cc pc = .ok (.ireturn, 1)) : SS p l e R s m args below meth c cells slots Q D C A ad sh nL cc rt pc o_ret := by
  intro go L st g o h ok k H locs ls hP hS hL
  unfold o_ret at h
  split at h
  · rename_i v
    cases h
    exact ok _ _ rfl pc H locs ls (fun q => by cases q) (fun w hw => ⟨hd, ⟨v, by cases hw; rfl⟩, fun q => by rw [hr] at q; cases q⟩) hP hS
  · cases h
theorem s_retZ {pc : Nat} (hd : decode cc pc = .ok (.ireturn, 1)) : SS p l e R s m args below meth c cells slots Q D C A ad sh nL cc rt pc o_retZ := by
  intro go L st g o h ok k H locs ls hP hS hL
  unfold o_retZ at h
  split at h
  · rename_i v
    split at h
    · rename_i hB
      cases h
      exact ok _ _ rfl pc H locs ls (fun q => by cases q) (fun w hw => ⟨hd, ⟨v, by cases hw; rfl⟩, fun _ x hx => by cases hw; cases hx; exact hB⟩) hP hS
    · cases h
  · cases h
theorem s_retV {pc : Nat} (hd : decode cc pc = .ok (.return_, 1)) : SS p l e R s m args below meth c cells slots Q D C A ad sh nL cc rt pc o_retV := by
  intro go L st g o h ok k H locs ls hP hS hL
  unfold o_retV at h
  split at h
  · cases h
    exact ok _ _ rfl pc H locs ls (fun _ => hd) (fun w hw => by cases hw) hP hS
  · cases h
end STEPS
end
section
/-! CALLS, AND A METHOD'S CONTRACT OUT OF ITS RUN -/
def o_callV (sh : Shp) (env : Nat → Mf) (nx j n ci : Nat) : Stq := fun go L st g => match pk (n + 1) [] st with
  | some (as, r) => (match Nat.ble r.length 8 with
    | true => (match as with
      | .inr (some q) :: _ => (match shAt sh q with
        | some (3, ci', _) => if ci' = ci then (match env j as g with
          | some (some v, g') => go nx L (v :: r) g'
          | some (none, g') => go nx L r g'
          | none => none) else none
        | _ => none)
      | _ => none)
    | false => none)
  | none => none
def mws (y : MethodName) (b : ByteArray) (n : Nat) (r : Option FieldType) : List Cond := .code y b n r :: TB
def rmd (d : Nat) : Room := { frames := d, cells := 0, slots := 0, locals := 100 * d }
def PreW (D : va_G) (C : CI3) (ad : Nat → Nat) (sh : Shp) (E : Ex) (g : Sg) (sz : Nat) (U : State) : Prop :=
  U.heap.size = sz ∧ va_P D vwCl (cW ad C sh g) U.heap ∧ va_D (fun _ => True) (cW ad C sh g) ∧ va_K D vwCl (tyl C) U ∧ (∀ w ∈ NW, va_Nw w U) ∧ va_Z RX4 "FIVES" "[I" (.ref (ad 1000000)) (va_A (cW ad C sh g) sz) U U.heap ∧ va_T .int (ad 1000000) 5 (fun j => .int (fiv j)) (va_A (cW ad C sh g) sz) U U.heap ∧ va_T .int (ad 1000001) E.1 (fun j => .int (E.2 j)) (va_A (cW ad C sh g) sz) U U.heap
def QW (D : va_G) (C : CI3) (ad : Nat → Nat) (sh : Shp) (g : Sg) (sz : Nat) (r : Option AV) (g' : Sg) : Array Value → State → Outcome → State → Prop := fun _ st oc t => (oc = .returned (r.map (cv ad)) ∧ va_P D vwCl (cW ad C sh g') t.heap) ∧ va_F (va_A (cW ad C sh g) sz) st t
/-- a method's contract: at depth d, its function is f -/
def CM (l : Launch) (sh : Shp) (E : Ex) (y : MethodName) (b : ByteArray) (n : Nat) (rt : Option FieldType) (d : Nat) (f : Mf) : Prop :=
  ∀ (D : va_G) (C : CI3) (ad : Nat → Nat) (sz : Nat) (as : List AV) (g : Sg) (r : Option AV) (g' : Sg), f as g = some (r, g') → Met l y (mws y b n rt) (rmd d) (va_Pc (as.map (cv ad)) (PreW D C ad sh E g sz)) (QW D C ad sh g sz r g') 0 0 (va_A (cW ad C sh g) sz)
theorem goodTB {ws : List Cond} (h : ∀ w ∈ ws, w ∈ TB) : GoodIn TB ws := fun w hw => ⟨h w hw, good_of_word (List.mem_filter.mp (h w hw)).2⟩
theorem nw_tab : ∀ w ∈ NW, w.onTables = true := by
  intro w hw
  simp only [NW, List.mem_cons, List.not_mem_nil, or_false] at hw
  rcases hw with h | h | h | h | h | h | h | h | h | h | h <;> subst h <;> rfl
theorem nw_warm {s U : State} (hW : s.WarmedH U.vm) : ∀ w ∈ NW, va_Nw w s → va_Nw w U := by
  intro w hw hz
  simp only [NW, List.mem_cons, List.not_mem_nil, or_false] at hw
  rcases hw with h | h | h | h | h | h | h | h | h | h | h <;> subst h <;> first | exact va_Nw.warmM hW hz | exact va_Nw.warmF hW hz
theorem pk_spec : ∀ (n : Nat) (acc st as r : List AV), pk n acc st = some (as, r) → acc.reverse ++ st = as.reverse ++ r ∧ as.length = n + acc.length
  | 0, acc, st, as, r, h => by
    simp [pk] at h
    rw [h.1, h.2]
    simp
  | n + 1, acc, [], as, r, h => by simp [pk] at h
  | n + 1, acc, v :: st, as, r, h => by
    obtain ⟨h1, h2⟩ := pk_spec n (v :: acc) st as r (by simpa [pk] using h)
    exact ⟨by simpa using h1, by rw [h2]; simp; omega⟩
theorem cat_sum (ad : Nat → Nat) : ∀ (r : List AV), ((r.map (cv ad)).map fun v => v.category).sum = r.length
  | [] => rfl
  | a :: t => by
    have := cat_sum ad t
    simp [cv_cat] at this ⊢
    omega
theorem pre_blind {D : va_G} {C : CI3} {ad : Nat → Nat} {sh : Shp} {E : Ex} {g : Sg} {sz : Nat} {av : List Value} : FrameBlind (va_Pc av (PreW D C ad sh E g sz)) := by
  intro a U gf mk q
  obtain ⟨q0, q1, qP, qD, qK, qN, qZ, qT, qU⟩ := q
  exact ⟨q0, q1, qP, qD, va_K.moved (u := U) (U := U.calling gf mk a) (Vm.Alike.refl U.vm) qK, fun w hw => va_Nw.same (u := U) (U := U.calling gf mk a) (nw_tab w hw) rfl (qN w hw), va_Z.moved (u := U) (U := U.calling gf mk a) (Vm.Alike.refl U.vm) qZ, va_T.moved (u := U) (U := U.calling gf mk a) (Vm.Alike.refl U.vm) qT, va_T.moved (u := U) (U := U.calling gf mk a) (Vm.Alike.refl U.vm) qU⟩
section CALLS
variable {p : Program} {l : Launch} {e : Env} {R : Room} {s : State} {m : MethodId} {args : Array Value} {below : List Frame} {meth : Method} {c : Code} {cells slots : Nat} {Q : State → Prop} {D : va_G} {C : CI3} {A : Nat → Prop} {ad : Nat → Nat} {sh : Shp} {E : Ex} {cc : ByteArray} {nL : Nat} {own : String} {rt : Option FieldType}
theorem cx_free (X : Cx p R s m args c cc nL own D C A ad sh E) {H : Heap} {locs : List Loc} (hS : va_S A s.heap H locs) (g : Sg) : ∀ q, va_A (cW ad C sh g) H.size q → A q := by
  obtain ⟨hx, hb, hml, ho, hts, hN, hK, hA, hD, hZ, hT, hU⟩ := X
  intro q h
  rcases h with ⟨k, e, h⟩ | h
  · exact (hD g).2 k _ h
  · exact hA q (Nat.le_trans hS.1 h)
theorem cx_pre (X : Cx p R s m args c cc nL own D C A ad sh E) {H : Heap} {locs : List Loc} (hS : va_S A s.heap H locs) {g : Sg} (hP : va_P D vwCl (cW ad C sh g) H) (av : List Value) : ∀ U : State, U.heap = H → s.WarmedH U.vm → va_Pc av (PreW D C ad sh E g H.size) av.toArray U := by
  have hF := cx_free X hS g
  obtain ⟨hx, hb, hml, ho, hts, hN, hK, hA, hD, hZ, hT, hU⟩ := X
  intro U hU hW
  subst hU
  exact ⟨rfl, rfl, hP, (hD g).weaken (fun _ _ _ _ => trivial), va_K.moved hW.alike hK, fun w hw => nw_warm hW w hw (hN w hw), (va_Z.moved hW.alike (hZ.kept hS.2.1)).narrow hF, (va_T.moved hW.alike (hT.kept hS.2.1)).narrow hF, (va_T.moved hW.alike (va_T.kept ‹va_T .int (ad 1000001) E.1 (fun j => .int (E.2 j)) A s s.heap› hS.2.1)).narrow hF⟩
theorem aw_call (X : Cx p R s m args c cc nL own D C A ad sh E) {pc : Nat} {ls : Array Slot} {st0 : List Value} {rest : List AV} {L : Lc} {g g' : Sg} {r : Option AV} {H : Heap} {locs : List Loc} {a : Array Value} (hS : va_S A s.heap H locs) (hL : LH ad nL ls L)
    (hr : va_Run p l e R s m args below meth c H locs cells slots 0 0 (F0 m pc ls st0) (rest.map (cv ad)) (QW D C ad sh g H.size r g' a) (va_A (cW ad C sh g) H.size)) (k : AW p l e R s m args below meth c cells slots Q D C A ad sh nL (pc + 3) L (r.toList ++ rest) g') : W p l e R s m args below meth c H locs cells slots Q (F0 m pc ls st0) := by
  have hF := cx_free X hS g
  intro T hT XX
  obtain ⟨v, st₀, t, T', L', h0, X', hLL, e1, e2, ⟨⟨hv, hP1⟩, hz, hk⟩, st⟩ := hr T hT XX
  have hv' : v = r.map (cv ad) := by cases hv; rfl
  subst hv'
  rw [h0] at hz hk
  obtain ⟨t2, a1, b1⟩ := k T'.heap (locs ++ L') ls (by rw [e1]; exact hP1) ⟨Nat.le_trans hS.1 (by rw [e1]; exact hz), fun q h1 h2 => by rw [e1, hk q (Nat.lt_of_lt_of_le h1 hS.1) (fun z => h2 (hF q z))]; exact hS.2.1 q h1 h2, fun q hq => by
      rcases List.mem_append.mp hq with h | h
      · exact hS.2.2 q h
      · exact hF _ (hLL q h)⟩ hL T' rfl X'
  refine ⟨t2, st t2 ?_, b1⟩
  cases r <;> exact a1
theorem s_callS (X : Cx p R s m args c cc nL own D C A ad sh E) {env : Nat → Mf} {pc idx j n d nb : Nat} {y : MethodName} {b : ByteArray} {rt' : Option FieldType} (hd : decode cc pc = .ok (.invokestatic idx, 3)) (hM : CM l sh E y b nb rt' d (env j)) (hl : Cond.methodLink own idx y ∈ TB) (hst : Cond.static y ∈ TB) (hin : Cond.initialized y.cls ∈ TB) (hco : Cond.code y b nb rt' ∈ TB) (hy : y.cls ≠ "java/lang/invoke/MethodHandle" ∧ y.cls ≠ "java/lang/invoke/VarHandle" ∧ (parseMethodDescriptor y.desc).map (fun d => d.parameters.length) = some n) (hR : d + 1 ≤ R.frames ∧ 8 + (nb + 11) + 100 * d ≤ R.locals) (hcs : cells ≤ R.cells ∧ slots ≤ R.slots) : SS p l e R s m args below meth c cells slots Q D C A ad sh nL cc rt pc (o_call env (pc + 3) j n) := by
  intro go L st g o h ok k H locs ls hP hS hL
  unfold o_call at h
  split at h
  · rename_i as r hpk
    obtain ⟨h1, h2⟩ := pk_spec n [] st as r hpk
    split at h
    · rename_i hr8
      have hr8' : r.length ≤ 8 := Nat.le_of_ble_eq_true hr8
      have hrun : ∀ (v : Option AV) (g' : Sg), env j as g = some (v, g') → AW p l e R s m args below meth c cells slots Q D C A ad sh nL (pc + 3) L (v.toList ++ r) g' → W p l e R s m args below meth c H locs cells slots Q (F0 m pc ls (st.map (cv ad))) := by
        intro v g' hv kk
        refine aw_call X hS hL (va_runS (As := as.map (cv ad)) (Ts := TB) ⟨X.1, X.2.1, X.2.2.1, X.2.2.2.1, X.2.2.2.2.1⟩ (hM D C ad H.size as g v g' hv) (va_cwS n X.2.2.2.2.1 (goodTB (fun w hw => ?_)) rfl rfl rfl hy hR) ⟨pre_blind, cx_pre X hS hP _⟩ rfl (by simp [h2]) (by rw [X.2.2.1.symm]; exact hL.1.trans X.2.2.1.symm) ?_ (lv_room (by rw [cat_sum]; exact hr8')) hd hcs) kk
        · simp only [va_wsS, mws, List.mem_append, List.mem_cons, List.not_mem_nil, or_false] at hw
          rcases hw with (h | h | h) | h | h
          · rw [h]; exact hl
          · rw [h]; exact hst
          · rw [h]; exact hin
          · rw [h]; exact hco
          · exact h
        · have : st = as.reverse ++ r := by simpa using h1
          rw [this]
          simp
      split at h
      · rename_i v g' hv
        exact hrun (some v) g' hv (k _ _ _ _ h)
      · rename_i g' hv
        exact hrun none g' hv (k _ _ _ _ h)
      · cases h
    · cases h
  · cases h
theorem s_callSN (X : Cx p R s m args c cc nL own D C A ad sh E) {env : Nat → Mf} {pc idx j n d nb : Nat} {y : MethodName} {b : ByteArray} {rt' : Option FieldType} (hd : decode cc pc = .ok (.invokestatic idx, 3)) (hM : CM l sh E y b nb rt' d (env j)) (hl : Cond.methodLinkNest own idx y RX4 ∈ NW) (hst : Cond.static y ∈ TB) (hin : Cond.initialized y.cls ∈ TB) (hco : Cond.code y b nb rt' ∈ TB) (hy : y.cls ≠ "java/lang/invoke/MethodHandle" ∧ y.cls ≠ "java/lang/invoke/VarHandle" ∧ (parseMethodDescriptor y.desc).map (fun d => d.parameters.length) = some n) (hR : d + 1 ≤ R.frames ∧ 8 + (nb + 11) + 100 * d ≤ R.locals) (hcs : cells ≤ R.cells ∧ slots ≤ R.slots) : SS p l e R s m args below meth c cells slots Q D C A ad sh nL cc rt pc (o_call env (pc + 3) j n) := by
  intro go L st g o h ok k H locs ls hP hS hL
  unfold o_call at h
  split at h
  · rename_i as r hpk
    obtain ⟨h1, h2⟩ := pk_spec n [] st as r hpk
    split at h
    · rename_i hr8
      have hr8' : r.length ≤ 8 := Nat.le_of_ble_eq_true hr8
      have hrun : ∀ (v : Option AV) (g' : Sg), env j as g = some (v, g') → AW p l e R s m args below meth c cells slots Q D C A ad sh nL (pc + 3) L (v.toList ++ r) g' → W p l e R s m args below meth c H locs cells slots Q (F0 m pc ls (st.map (cv ad))) := by
        intro v g' hv kk
        refine aw_call X hS hL (va_runSN (As := as.map (cv ad)) (Ts := TB) ⟨X.1, X.2.1, X.2.2.1, X.2.2.2.1, X.2.2.2.2.1⟩ (hM D C ad H.size as g v g' hv) ⟨va_cnB n X.2.2.2.2.1 (goodTB (fun w hw => ?_)) rfl rfl rfl (X.2.2.2.2.2.1 _ hl) (X.2.2.2.2.1 _ hin) hy hR, X.2.2.2.2.1 _ hst, trivial⟩ ⟨pre_blind, cx_pre X hS hP _⟩ rfl (by simp [h2]) (by rw [X.2.2.1.symm]; exact hL.1.trans X.2.2.1.symm) ?_ (lv_room (by rw [cat_sum]; exact hr8')) hd hcs) kk
        · simp only [mws, List.mem_cons] at hw
          rcases hw with h | h
          · rw [h]; exact hco
          · exact h
        · have : st = as.reverse ++ r := by simpa using h1
          rw [this]
          simp
      split at h
      · rename_i v g' hv
        exact hrun (some v) g' hv (k _ _ _ _ h)
      · rename_i g' hv
        exact hrun none g' hv (k _ _ _ _ h)
      · cases h
    · cases h
  · cases h
theorem s_callV (X : Cx p R s m args c cc nL own D C A ad sh E) {env : Nat → Mf} {CN : String} {T : u_T} {N ci pc idx j n d nb : Nat} {y : MethodName} {b : ByteArray} {rt' : Option FieldType} (hd : decode cc pc = .ok (.invokevirtual idx, 3)) (hM : CM l sh E y b nb rt' d (env j)) (hc : vwCl[ci]? = some (CN, T, N)) (hl : Cond.methodLink own idx y ∈ TB) (hst : Cond.instanceMethod y ∈ TB) (hse : Cond.selects CN y y ∈ TB) (hin : Cond.initialized CN ∈ TB) (hco : Cond.code y b nb rt' ∈ TB) (hy : y.cls = CN ∧ y.cls ≠ "java/lang/invoke/MethodHandle" ∧ y.cls ≠ "java/lang/invoke/VarHandle" ∧ (parseMethodDescriptor y.desc).map (fun d => d.parameters.length) = some n) (hR : d + 1 ≤ R.frames ∧ 8 + (nb + 11) + 100 * d ≤ R.locals) (hcs : cells ≤ R.cells ∧ slots ≤ R.slots) : SS p l e R s m args below meth c cells slots Q D C A ad sh nL cc rt pc (o_callV sh env (pc + 3) j n ci) := by
  intro go L st g o h ok k H locs ls hP hS hL
  unfold o_callV at h
  split at h
  · rename_i as r hpk
    obtain ⟨h1, h2⟩ := pk_spec (n + 1) [] st as r hpk
    split at h
    · rename_i hr8
      have hr8' : r.length ≤ 8 := Nat.le_of_ble_eq_true hr8
      split at h
      · rename_i q as'
        split at h
        · rename_i ci' rs hq
          split at h
          · rename_i e
            subst e
            have hrun : ∀ (v : Option AV) (g' : Sg), env j (.inr (some q) :: as') g = some (v, g') → AW p l e R s m args below meth c cells slots Q D C A ad sh nL (pc + 3) L (v.toList ++ r) g' → W p l e R s m args below meth c H locs cells slots Q (F0 m pc ls (st.map (cv ad))) := by
              intro v g' hv kk
              refine aw_call X hS hL (va_runV (C := CN) (b := ad q) (As := as'.map (cv ad)) (Ts := TB) ⟨X.1, X.2.1, X.2.2.1, X.2.2.2.1, X.2.2.2.2.1⟩ (hM D C ad H.size _ g v g' hv) (cwV n X.2.2.2.2.1 (goodTB (fun w hw => ?_)) rfl rfl rfl hy hR) ⟨pre_blind, va_recv X.2.2.2.2.2.2.1 hP hc (cW_get hq), cx_pre X hS hP _⟩ rfl (by simp at h2; simp [h2]) (by rw [X.2.2.1.symm]; exact hL.1.trans X.2.2.1.symm) ?_ (lv_room (by rw [cat_sum]; exact hr8')) hd hcs) kk
              · simp only [wsV, mws, List.mem_append, List.mem_cons, List.not_mem_nil, or_false] at hw
                rcases hw with (h | h | h | h) | h | h
                · rw [h]; exact hl
                · rw [h]; exact hst
                · rw [h]; exact hse
                · rw [h]; exact hin
                · rw [h]; exact hco
                · exact h
              · have : st = as'.reverse ++ .inr (some q) :: r := by simpa using h1
                rw [this]
                simp [cv, va_rf]
            split at h
            · rename_i v g' hv
              exact hrun (some v) g' hv (k _ _ _ _ h)
            · rename_i g' hv
              exact hrun none g' hv (k _ _ _ _ h)
            · cases h
          · cases h
        · cases h
      · cases h
    · cases h
  · cases h
theorem ft_mem : ∀ (T : List (Nat × Stq)) (pc : Nat) (f : Stq), ft T pc = some f → (pc, f) ∈ T
  | [], pc, f, h => by simp [ft] at h
  | a :: t, pc, f, h => by
    unfold ft at h
    split at h
    · rename_i hb
      cases h
      have := Nat.eq_of_beq_eq_true hb
      rw [← this]
      exact List.mem_cons_self
    · exact List.mem_cons_of_mem _ (ft_mem t pc f h)
theorem seg_ok {T : List (Nat × Stq)} {K : List (Nat × Nat)} (hT : ∀ q ∈ T, SS p l e R s m args below meth c cells slots Q D C A ad sh nL cc rt q.1 q.2) : ∀ (n : Nat) (pc : Nat) (L : Lc) (st : List AV) (g : Sg) (o : Ou), seg T K n pc L st g = some o → (∀ r g', o = .inl (r, g') → OKr p l e R s m args below meth c cells slots Q D C A ad sh nL cc rt r g') → (∀ pc' L' st' g', o = .inr (pc', L', st', g') → AW p l e R s m args below meth c cells slots Q D C A ad sh nL pc' L' st' g') → AW p l e R s m args below meth c cells slots Q D C A ad sh nL pc L st g
  | 0, pc, L, st, g, o, h, _, _ => by simp [seg] at h
  | n + 1, pc, L, st, g, o, h, ok, k => by
    unfold seg at h
    split at h
    · cases h
    · rename_i f hf
      refine hT (pc, f) (ft_mem T pc f hf) _ L st g o h ok (fun pc' L' st' g' hg => ?_)
      split at hg
      · rename_i q hq
        cases hg
        exact fun H locs ls hP hS hL => k _ _ _ _ rfl H locs ls hP hS (hL.tk q)
      · exact seg_ok hT n pc' L' st' g' o hg ok k
theorem rn_ok {T : List (Nat × Stq)} {K : List (Nat × Nat)} (hT : ∀ q ∈ T, SS p l e R s m args below meth c cells slots Q D C A ad sh nL cc rt q.1 q.2) {r : Option AV} {g' : Sg} (ok : OKr p l e R s m args below meth c cells slots Q D C A ad sh nL cc rt r g') : ∀ (n : Nat) (pc : Nat) (L : Lc) (st : List AV) (g : Sg), rn T K n pc L st g = some (r, g') → AW p l e R s m args below meth c cells slots Q D C A ad sh nL pc L st g
  | 0, pc, L, st, g, h => by simp [rn] at h
  | n + 1, pc, L, st, g, h => by
    unfold rn at h
    split at h
    · rename_i o hs
      cases h
      exact seg_ok hT 2000 pc L st g _ hs (fun r' g'' q => by cases q; exact ok) (fun _ _ _ _ q => by cases q)
    · rename_i pc' L' st' g'' hs
      exact seg_ok hT 2000 pc L st g _ hs (fun _ _ q => by cases q) (fun _ _ _ _ q => by cases q; exact rn_ok hT ok n pc' L' st' g'' h)
    · cases h
end CALLS
theorem lg_len (ad : Nat → Nat) : ∀ (as : List AV), (lg_sl (as.map (cv ad))).length = as.length
  | [] => rfl
  | a :: t => by
    have := lg_len ad t
    simp only [lg_sl, List.map_cons, List.flatMap_cons, cv_cat] at this ⊢
    simp at this ⊢
    omega
theorem args_in (ad : Nat → Nat) : ∀ (as : List AV) (k i : Nat) (v : AV), nth (as.map some) i = some v → (k + i, cv ad v) ∈ lv_args k (as.map (cv ad))
  | [], k, i, v, h => by simp [nth] at h
  | a :: t, k, 0, v, h => by
    simp [nth] at h
    subst h
    simp [lv_args]
  | a :: t, k, i + 1, v, h => by
    have h' := args_in ad t (k + 1) i v (by simpa [nth] using h)
    simp only [List.map_cons, lv_args, cv_cat]
    refine List.mem_cons_of_mem _ ?_
    simpa [Nat.add_assoc, Nat.add_comm 1 i] using h'
/-- a method's contract out of its run -/
theorem cm_of {l : Launch} {sh : Shp} {E : Ex} {y : MethodName} {b : ByteArray} {nb d : Nat} {own : String} {rt : Option FieldType} {f : Mf} {T : List (Nat × Stq)} {K : List (Nat × Nat)} (hy : plainName y.cls = true) (ho : own = y.cls) (hrt : rt = none ∨ rt = some .int ∨ rt = some .boolean)
    (hT : ∀ (p : Program) (e : Env) (s : State) (m : MethodId) (args : Array Value) (below : List Frame) (meth : Method) (c : Code) (Q : State → Prop) (D : va_G) (C : CI3) (A : Nat → Prop) (ad : Nat → Nat), Cx p (rmd d) s m args c b nb own D C A ad sh E → ∀ q ∈ T, SS p l e (rmd d) s m args below meth c 0 0 Q D C A ad sh nb b rt q.1 q.2)
    (hf : ∀ (as : List AV) (g : Sg) (r : Option AV) (g' : Sg), f as g = some (r, g') → as.length ≤ nb ∧ (r = none ↔ rt = none) ∧ Rn T K 0 (as.map some) [] g (r, g')) : CM l sh E y b nb rt d f := by
  intro D C ad sz as g r g' hfr
  obtain ⟨hlen, hrr, n, hn⟩ := hf as g r g' hfr
  refine Met.ofW (cc := b) (maxL := nb) (ret := rt) hy rfl ?_
  intro p e s m args below meth c s₁ B hml hv
  obtain ⟨rfl, hsz, hP, hD0, hK, hN, hZ, hT1, hT2⟩ := hv
  subst hsz
  have hts : ∀ w ∈ TB, w.before (as.map (cv ad)).toArray s = true := fun w hw => atoms_spec (ws := mws y b nb rt) B.pre w (List.mem_cons_of_mem _ hw)
  have hown : s.vm.findClass own = some m.cls := by rw [ho]; exact findClass_of_methodNamed B.named
  have X : Cx p (rmd d) s m (as.map (cv ad)).toArray c b nb own D C (va_A (cW ad C sh g) s.heap.size) ad sh E := ⟨B.exec, B.bytes, hml, hown, hts, hN, hK, fun q h => Or.inr h, fun g2 => cW_D (g := g) hD0.self, hZ, hT1, hT2⟩
  have hl := lv_entry (as.map (cv ad)) (n := nb) (by rw [lg_len]; exact hlen)
  rw [lg_entry_eq]
  generalize (lg_sl (as.map (cv ad)) ++ List.replicate (nb - (lg_sl (as.map (cv ad))).length) Slot.unset).toArray = ls at hl ⊢
  have hL : LH ad nb ls (as.map some) := ⟨hl.1, hl.2.1, fun i v hv => hl.2.2 (i, cv ad v) (by simpa using args_in ad as 0 i v hv)⟩
  refine rn_ok (rt := rt) (hT p e s m _ below meth c _ D C _ ad X) ?_ n 0 _ [] g hn s.heap [] ls hP va_S.rf hL
  intro pc H locs ls' h1 h2 hP1 hS1
  have hret := B.returns
  have hlocks := B.notSynchronized
  cases r with
  | none =>
    have e1 : rt = none := hrr.mp rfl
    subst e1
    exact W.vret B.exec B.bytes hret (fun t ht hW => ⟨⟨rfl, by rw [ht]; exact hP1⟩, hS1.F ht⟩) hS1.2.2 (h1 rfl)
  | some v =>
    obtain ⟨hdg, ⟨x, rfl⟩, hz⟩ := h2 v rfl
    rcases hrt with e1 | e1 | e1
    · exact absurd (hrr.mpr e1) (fun q => by cases q)
    · subst e1
      exact W.iret (v := x) B.exec B.bytes hret (fun t ht hW => ⟨⟨rfl, by rw [ht]; exact hP1⟩, hS1.F ht⟩) hS1.2.2 hdg
    · subst e1
      exact W.zret (v := x) B.exec B.bytes hret (isB_nar (hz rfl x rfl)).1 (fun t ht hW => ⟨⟨rfl, by rw [ht]; exact hP1⟩, hS1.F ht⟩) hS1.2.2 hdg
end
