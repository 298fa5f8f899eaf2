section
-- ===== PART A: goes FIRST, ahead of the names: the tables' words, and 'selects' of the private methods out of them =====
/-- a private method of a class that the tables say can be made, by its rows of tables_1 -/
def lw_okq (q : MethodName × Nat) : Prop := (q.1.cls ≠ "java/lang/invoke/MethodHandle" ∧ q.1.cls ≠ "java/lang/invoke/VarHandle") ∧ Cond.instantiable q.1.cls q.2 ∈ tables_1 ∧ Cond.privateMethod q.1 ∈ tables_1 ∧ Cond.instanceMethod q.1 ∈ tables_1
theorem lw_p0 : lw_okq (⟨"StitchLetFall", "drop", "(II)I"⟩, 9) := ⟨⟨by decide +kernel, by decide +kernel⟩, List.mem_of_getElem? (i := 46) (by decide +kernel), List.mem_of_getElem? (i := 44) (by decide +kernel), List.mem_of_getElem? (i := 45) (by decide +kernel)⟩
theorem lw_p1 : lw_okq (⟨"StitchLetFall", "law", "()LStitchLetFall$Text;"⟩, 9) := ⟨⟨by decide +kernel, by decide +kernel⟩, List.mem_of_getElem? (i := 46) (by decide +kernel), List.mem_of_getElem? (i := 49) (by decide +kernel), List.mem_of_getElem? (i := 50) (by decide +kernel)⟩
theorem lw_p2 : lw_okq (⟨"StitchLetFall$Fall", "runFrom", "(LStitchLetFall$Piece;LStitchLetFall$Text;JJI)I"⟩, 3) := ⟨⟨by decide +kernel, by decide +kernel⟩, List.mem_of_getElem? (i := 55) (by decide +kernel), List.mem_of_getElem? (i := 53) (by decide +kernel), List.mem_of_getElem? (i := 54) (by decide +kernel)⟩
theorem lw_p3 : lw_okq (⟨"StitchLetFall$Piece", "over", "(I)J"⟩, 5) := ⟨⟨by decide +kernel, by decide +kernel⟩, List.mem_of_getElem? (i := 60) (by decide +kernel), List.mem_of_getElem? (i := 58) (by decide +kernel), List.mem_of_getElem? (i := 59) (by decide +kernel)⟩
theorem lw_p4 : lw_okq (⟨"StitchLetFall$Piece", "keeps", "(I)Z"⟩, 5) := ⟨⟨by decide +kernel, by decide +kernel⟩, List.mem_of_getElem? (i := 60) (by decide +kernel), List.mem_of_getElem? (i := 71) (by decide +kernel), List.mem_of_getElem? (i := 72) (by decide +kernel)⟩
theorem lw_p5 : lw_okq (⟨"StitchLetFall$Fall", "restOf", "(LStitchLetFall$Piece;LStitchLetFall$Text;IJ)I"⟩, 3) := ⟨⟨by decide +kernel, by decide +kernel⟩, List.mem_of_getElem? (i := 55) (by decide +kernel), List.mem_of_getElem? (i := 76) (by decide +kernel), List.mem_of_getElem? (i := 77) (by decide +kernel)⟩
theorem lw_p6 : lw_okq (⟨"StitchLetFall$Text", "says", "(ILStitchLetFall$Piece;II)I"⟩, 5) := ⟨⟨by decide +kernel, by decide +kernel⟩, List.mem_of_getElem? (i := 85) (by decide +kernel), List.mem_of_getElem? (i := 83) (by decide +kernel), List.mem_of_getElem? (i := 84) (by decide +kernel)⟩
theorem lw_p7 : lw_okq (⟨"StitchLetFall$Text", "take", "(ILStitchLetFall$Piece;II)V"⟩, 5) := ⟨⟨by decide +kernel, by decide +kernel⟩, List.mem_of_getElem? (i := 85) (by decide +kernel), List.mem_of_getElem? (i := 91) (by decide +kernel), List.mem_of_getElem? (i := 92) (by decide +kernel)⟩
theorem lw_p8 : lw_okq (⟨"StitchLetFall$Text", "push", "(I)V"⟩, 5) := ⟨⟨by decide +kernel, by decide +kernel⟩, List.mem_of_getElem? (i := 85) (by decide +kernel), List.mem_of_getElem? (i := 95) (by decide +kernel), List.mem_of_getElem? (i := 96) (by decide +kernel)⟩
theorem lw_p9 : lw_okq (⟨"StitchLetFall$Text", "pop", "()I"⟩, 5) := ⟨⟨by decide +kernel, by decide +kernel⟩, List.mem_of_getElem? (i := 85) (by decide +kernel), List.mem_of_getElem? (i := 103) (by decide +kernel), List.mem_of_getElem? (i := 104) (by decide +kernel)⟩
theorem lw_p10 : lw_okq (⟨"StitchLetFall", "lowestRow", "()I"⟩, 9) := ⟨⟨by decide +kernel, by decide +kernel⟩, List.mem_of_getElem? (i := 46) (by decide +kernel), List.mem_of_getElem? (i := 127) (by decide +kernel), List.mem_of_getElem? (i := 128) (by decide +kernel)⟩
theorem lw_p11 : lw_okq (⟨"StitchLetFall", "together", "(I)I"⟩, 9) := ⟨⟨by decide +kernel, by decide +kernel⟩, List.mem_of_getElem? (i := 46) (by decide +kernel), List.mem_of_getElem? (i := 138) (by decide +kernel), List.mem_of_getElem? (i := 139) (by decide +kernel)⟩
theorem lw_p12 : lw_okq (⟨"StitchLetFall", "dropPinned", "(IIJ)I"⟩, 9) := ⟨⟨by decide +kernel, by decide +kernel⟩, List.mem_of_getElem? (i := 46) (by decide +kernel), List.mem_of_getElem? (i := 160) (by decide +kernel), List.mem_of_getElem? (i := 161) (by decide +kernel)⟩
theorem lw_p13 : lw_okq (⟨"StitchLetFall$Tape", "add", "(I)V"⟩, 7) := ⟨⟨by decide +kernel, by decide +kernel⟩, List.mem_of_getElem? (i := 209) (by decide +kernel), List.mem_of_getElem? (i := 344) (by decide +kernel), List.mem_of_getElem? (i := 345) (by decide +kernel)⟩
theorem lw_p14 : lw_okq (⟨"StitchLetFall", "readTape", "()I"⟩, 9) := ⟨⟨by decide +kernel, by decide +kernel⟩, List.mem_of_getElem? (i := 46) (by decide +kernel), List.mem_of_getElem? (i := 348) (by decide +kernel), List.mem_of_getElem? (i := 349) (by decide +kernel)⟩
theorem lw_p15 : lw_okq (⟨"StitchLetFall$Tape", "readInto", "(LStitchLetFall$Text;)I"⟩, 7) := ⟨⟨by decide +kernel, by decide +kernel⟩, List.mem_of_getElem? (i := 209) (by decide +kernel), List.mem_of_getElem? (i := 352) (by decide +kernel), List.mem_of_getElem? (i := 353) (by decide +kernel)⟩
def lw_privs_1 : List (MethodName × Nat) := [(⟨"StitchLetFall", "drop", "(II)I"⟩, 9), (⟨"StitchLetFall", "law", "()LStitchLetFall$Text;"⟩, 9), (⟨"StitchLetFall$Fall", "runFrom", "(LStitchLetFall$Piece;LStitchLetFall$Text;JJI)I"⟩, 3), (⟨"StitchLetFall$Piece", "over", "(I)J"⟩, 5), (⟨"StitchLetFall$Piece", "keeps", "(I)Z"⟩, 5), (⟨"StitchLetFall$Fall", "restOf", "(LStitchLetFall$Piece;LStitchLetFall$Text;IJ)I"⟩, 3), (⟨"StitchLetFall$Text", "says", "(ILStitchLetFall$Piece;II)I"⟩, 5), (⟨"StitchLetFall$Text", "take", "(ILStitchLetFall$Piece;II)V"⟩, 5), (⟨"StitchLetFall$Text", "push", "(I)V"⟩, 5), (⟨"StitchLetFall$Text", "pop", "()I"⟩, 5), (⟨"StitchLetFall", "lowestRow", "()I"⟩, 9), (⟨"StitchLetFall", "together", "(I)I"⟩, 9), (⟨"StitchLetFall", "dropPinned", "(IIJ)I"⟩, 9), (⟨"StitchLetFall$Tape", "add", "(I)V"⟩, 7), (⟨"StitchLetFall", "readTape", "()I"⟩, 9), (⟨"StitchLetFall$Tape", "readInto", "(LStitchLetFall$Text;)I"⟩, 7)]
theorem lw_r1 : ∀ q ∈ lw_privs_1, lw_okq q := List.forall_mem_cons.mpr ⟨lw_p0, List.forall_mem_cons.mpr ⟨lw_p1, List.forall_mem_cons.mpr ⟨lw_p2, List.forall_mem_cons.mpr ⟨lw_p3, List.forall_mem_cons.mpr ⟨lw_p4, List.forall_mem_cons.mpr ⟨lw_p5, List.forall_mem_cons.mpr ⟨lw_p6, List.forall_mem_cons.mpr ⟨lw_p7, List.forall_mem_cons.mpr ⟨lw_p8, List.forall_mem_cons.mpr ⟨lw_p9, List.forall_mem_cons.mpr ⟨lw_p10, List.forall_mem_cons.mpr ⟨lw_p11, List.forall_mem_cons.mpr ⟨lw_p12, List.forall_mem_cons.mpr ⟨lw_p13, List.forall_mem_cons.mpr ⟨lw_p14, List.forall_mem_cons.mpr ⟨lw_p15, fun _ h => absurd h List.not_mem_nil⟩⟩⟩⟩⟩⟩⟩⟩⟩⟩⟩⟩⟩⟩⟩⟩
theorem lw_p16 : lw_okq (⟨"StitchLetFall$Text", "clear", "()V"⟩, 5) := ⟨⟨by decide +kernel, by decide +kernel⟩, List.mem_of_getElem? (i := 85) (by decide +kernel), List.mem_of_getElem? (i := 356) (by decide +kernel), List.mem_of_getElem? (i := 357) (by decide +kernel)⟩
theorem lw_p17 : lw_okq (⟨"StitchLetFall$Tape", "advance", "()V"⟩, 7) := ⟨⟨by decide +kernel, by decide +kernel⟩, List.mem_of_getElem? (i := 209) (by decide +kernel), List.mem_of_getElem? (i := 360) (by decide +kernel), List.mem_of_getElem? (i := 361) (by decide +kernel)⟩
theorem lw_p18 : lw_okq (⟨"StitchLetFall$Tape", "wordToken", "(I)I"⟩, 7) := ⟨⟨by decide +kernel, by decide +kernel⟩, List.mem_of_getElem? (i := 209) (by decide +kernel), List.mem_of_getElem? (i := 368) (by decide +kernel), List.mem_of_getElem? (i := 369) (by decide +kernel)⟩
theorem lw_p19 : lw_okq (⟨"StitchLetFall$Tape", "standsAt", "(II)Z"⟩, 7) := ⟨⟨by decide +kernel, by decide +kernel⟩, List.mem_of_getElem? (i := 209) (by decide +kernel), List.mem_of_getElem? (i := 375) (by decide +kernel), List.mem_of_getElem? (i := 376) (by decide +kernel)⟩
theorem lw_p20 : lw_okq (⟨"StitchLetFall$Tape", "chain", "(II)Z"⟩, 7) := ⟨⟨by decide +kernel, by decide +kernel⟩, List.mem_of_getElem? (i := 209) (by decide +kernel), List.mem_of_getElem? (i := 385) (by decide +kernel), List.mem_of_getElem? (i := 386) (by decide +kernel)⟩
theorem lw_p21 : lw_okq (⟨"StitchLetFall$Tape", "one", "(I)Z"⟩, 7) := ⟨⟨by decide +kernel, by decide +kernel⟩, List.mem_of_getElem? (i := 209) (by decide +kernel), List.mem_of_getElem? (i := 389) (by decide +kernel), List.mem_of_getElem? (i := 390) (by decide +kernel)⟩
theorem lw_p22 : lw_okq (⟨"StitchLetFall$Text", "add", "(I)V"⟩, 5) := ⟨⟨by decide +kernel, by decide +kernel⟩, List.mem_of_getElem? (i := 85) (by decide +kernel), List.mem_of_getElem? (i := 393) (by decide +kernel), List.mem_of_getElem? (i := 394) (by decide +kernel)⟩
theorem lw_p23 : lw_okq (⟨"StitchLetFall$Tape", "opened", "(I)Z"⟩, 7) := ⟨⟨by decide +kernel, by decide +kernel⟩, List.mem_of_getElem? (i := 209) (by decide +kernel), List.mem_of_getElem? (i := 397) (by decide +kernel), List.mem_of_getElem? (i := 398) (by decide +kernel)⟩
theorem lw_p24 : lw_okq (⟨"StitchLetFall$Tape", "negation", "(I)Z"⟩, 7) := ⟨⟨by decide +kernel, by decide +kernel⟩, List.mem_of_getElem? (i := 209) (by decide +kernel), List.mem_of_getElem? (i := 401) (by decide +kernel), List.mem_of_getElem? (i := 402) (by decide +kernel)⟩
theorem lw_p25 : lw_okq (⟨"StitchLetFall$Text", "endPart", "(I)V"⟩, 5) := ⟨⟨by decide +kernel, by decide +kernel⟩, List.mem_of_getElem? (i := 85) (by decide +kernel), List.mem_of_getElem? (i := 408) (by decide +kernel), List.mem_of_getElem? (i := 409) (by decide +kernel)⟩
theorem lw_p26 : lw_okq (⟨"StitchLetFall$Piece", "become", "(III)V"⟩, 5) := ⟨⟨by decide +kernel, by decide +kernel⟩, List.mem_of_getElem? (i := 60) (by decide +kernel), List.mem_of_getElem? (i := 453) (by decide +kernel), List.mem_of_getElem? (i := 454) (by decide +kernel)⟩
def lw_privs_2 : List (MethodName × Nat) := [(⟨"StitchLetFall$Text", "clear", "()V"⟩, 5), (⟨"StitchLetFall$Tape", "advance", "()V"⟩, 7), (⟨"StitchLetFall$Tape", "wordToken", "(I)I"⟩, 7), (⟨"StitchLetFall$Tape", "standsAt", "(II)Z"⟩, 7), (⟨"StitchLetFall$Tape", "chain", "(II)Z"⟩, 7), (⟨"StitchLetFall$Tape", "one", "(I)Z"⟩, 7), (⟨"StitchLetFall$Text", "add", "(I)V"⟩, 5), (⟨"StitchLetFall$Tape", "opened", "(I)Z"⟩, 7), (⟨"StitchLetFall$Tape", "negation", "(I)Z"⟩, 7), (⟨"StitchLetFall$Text", "endPart", "(I)V"⟩, 5), (⟨"StitchLetFall$Piece", "become", "(III)V"⟩, 5)]
theorem lw_r2 : ∀ q ∈ lw_privs_2, lw_okq q := List.forall_mem_cons.mpr ⟨lw_p16, List.forall_mem_cons.mpr ⟨lw_p17, List.forall_mem_cons.mpr ⟨lw_p18, List.forall_mem_cons.mpr ⟨lw_p19, List.forall_mem_cons.mpr ⟨lw_p20, List.forall_mem_cons.mpr ⟨lw_p21, List.forall_mem_cons.mpr ⟨lw_p22, List.forall_mem_cons.mpr ⟨lw_p23, List.forall_mem_cons.mpr ⟨lw_p24, List.forall_mem_cons.mpr ⟨lw_p25, List.forall_mem_cons.mpr ⟨lw_p26, fun _ h => absurd h List.not_mem_nil⟩⟩⟩⟩⟩⟩⟩⟩⟩⟩⟩
def lw_privs : List (MethodName × Nat) := lw_privs_1 ++ (lw_privs_2)
def lw_tbl : List Cond := k2_sels lw_privs ++ tables_1
theorem lw_privs_ok : ∀ q ∈ lw_privs, lw_okq q := by
  show ∀ q ∈ lw_privs_1 ++ (lw_privs_2), lw_okq q
  exact List.forall_mem_append.mpr ⟨lw_r1, lw_r2⟩
end
section
def RX0 : String := "StitchLetFall$Fall"
def TX0 : u_T := fun k => match k with
  | 0 => ("StitchLetFall$Fall", "rests", "[I", true)
  | 1 => ("StitchLetFall$Fall", "gone", "J", false)
  | _ => ("StitchLetFall$Fall", "stops", "J", false)
def tyX0 : Nat → FieldType := fun k => match k with
  | 0 => .array .int
  | 1 => .long
  | _ => .long
abbrev wsX00 : List Cond := u_ws RX0 TX0 3
theorem nmX0 : ∀ a, a < 3 → ∀ b, b < 3 → a ≠ b → (TX0 a).2.1 ≠ (TX0 b).2.1 := by decide +kernel
theorem tyX0_ok : ∀ k, k < 3 → parseFieldDescriptor (TX0 k).2.2.1 = some (tyX0 k) := by decide +kernel
abbrev cX0_init : ByteArray := prog_2_method_1_code
def yX0_init : MethodName := ⟨RX0, "<init>", "()V"⟩
abbrev cX0_runFrom : ByteArray := prog_2_method_2_code
def yX0_runFrom : MethodName := ⟨RX0, "runFrom", "(LStitchLetFall$Piece;LStitchLetFall$Text;JJI)I"⟩
abbrev cX0_restOf : ByteArray := prog_2_method_3_code
def yX0_restOf : MethodName := ⟨RX0, "restOf", "(LStitchLetFall$Piece;LStitchLetFall$Text;IJ)I"⟩
def RX1 : String := "StitchLetFall$Piece"
def TX1 : u_T := fun k => match k with
  | 0 => ("StitchLetFall$Piece", "kinds", "[I", true)
  | 1 => ("StitchLetFall$Piece", "mores", "[I", true)
  | 2 => ("StitchLetFall$Piece", "pins", "J", false)
  | 3 => ("StitchLetFall$Piece", "mends", "J", false)
  | _ => ("StitchLetFall$Piece", "law", "I", false)
def tyX1 : Nat → FieldType := fun k => match k with
  | 0 => .array .int
  | 1 => .array .int
  | 2 => .long
  | 3 => .long
  | _ => .int
abbrev wsX10 : List Cond := u_ws RX1 TX1 5
theorem nmX1 : ∀ a, a < 5 → ∀ b, b < 5 → a ≠ b → (TX1 a).2.1 ≠ (TX1 b).2.1 := by decide +kernel
theorem tyX1_ok : ∀ k, k < 5 → parseFieldDescriptor (TX1 k).2.2.1 = some (tyX1 k) := by decide +kernel
abbrev cX1_init : ByteArray := prog_3_method_1_code
def yX1_init : MethodName := ⟨RX1, "<init>", "()V"⟩
abbrev cX1_become : ByteArray := prog_3_method_2_code
def yX1_become : MethodName := ⟨RX1, "become", "(III)V"⟩
abbrev cX1_keeps : ByteArray := prog_3_method_4_code
def yX1_keeps : MethodName := ⟨RX1, "keeps", "(I)Z"⟩
abbrev cX1_over : ByteArray := prog_3_method_7_code
def yX1_over : MethodName := ⟨RX1, "over", "(I)J"⟩
def RX2 : String := "StitchLetFall$Sheet"
def TX2 : u_T := fun k => match k with
  | 0 => ("StitchLetFall$Sheet", "numbers", "[I", true)
  | 1 => ("StitchLetFall$Sheet", "sort", "I", false)
  | _ => ("StitchLetFall$Sheet", "size", "I", false)
def tyX2 : Nat → FieldType := fun k => match k with
  | 0 => .array .int
  | 1 => .int
  | _ => .int
abbrev wsX20 : List Cond := u_ws RX2 TX2 3
theorem nmX2 : ∀ a, a < 3 → ∀ b, b < 3 → a ≠ b → (TX2 a).2.1 ≠ (TX2 b).2.1 := by decide +kernel
theorem tyX2_ok : ∀ k, k < 3 → parseFieldDescriptor (TX2 k).2.2.1 = some (tyX2 k) := by decide +kernel
abbrev cX2_init : ByteArray := prog_4_method_1_code
def yX2_init : MethodName := ⟨RX2, "<init>", "()V"⟩
def RX3 : String := "StitchLetFall$Tape"
def TX3 : u_T := fun k => match k with
  | 0 => ("StitchLetFall$Tape", "bytes", "[I", true)
  | 1 => ("StitchLetFall$Tape", "size", "I", false)
  | 2 => ("StitchLetFall$Tape", "behind", "I", false)
  | 3 => ("StitchLetFall$Tape", "start", "I", false)
  | 4 => ("StitchLetFall$Tape", "token", "I", false)
  | 5 => ("StitchLetFall$Tape", "value", "I", false)
  | _ => ("StitchLetFall$Tape", "into", "LStitchLetFall$Text;", false)
def tyX3 : Nat → FieldType := fun k => match k with
  | 0 => .array .int
  | 1 => .int
  | 2 => .int
  | 3 => .int
  | 4 => .int
  | 5 => .int
  | _ => .object "StitchLetFall$Text"
abbrev wsX30 : List Cond := u_ws RX3 TX3 7
theorem nmX3 : ∀ a, a < 7 → ∀ b, b < 7 → a ≠ b → (TX3 a).2.1 ≠ (TX3 b).2.1 := by decide +kernel
theorem tyX3_ok : ∀ k, k < 7 → parseFieldDescriptor (TX3 k).2.2.1 = some (tyX3 k) := by decide +kernel
abbrev cX3_init : ByteArray := prog_5_method_1_code
def yX3_init : MethodName := ⟨RX3, "<init>", "()V"⟩
abbrev cX3_add : ByteArray := prog_5_method_2_code
def yX3_add : MethodName := ⟨RX3, "add", "(I)V"⟩
abbrev cX3_readInto : ByteArray := prog_5_method_3_code
def yX3_readInto : MethodName := ⟨RX3, "readInto", "(LStitchLetFall$Text;)I"⟩
abbrev cX3_chain : ByteArray := prog_5_method_4_code
def yX3_chain : MethodName := ⟨RX3, "chain", "(II)Z"⟩
abbrev cX3_joins : ByteArray := prog_5_method_5_code
def yX3_joins : MethodName := ⟨RX3, "joins", "(II)Z"⟩
abbrev cX3_negation : ByteArray := prog_5_method_6_code
def yX3_negation : MethodName := ⟨RX3, "negation", "(I)Z"⟩
abbrev cX3_one : ByteArray := prog_5_method_7_code
def yX3_one : MethodName := ⟨RX3, "one", "(I)Z"⟩
abbrev cX3_opened : ByteArray := prog_5_method_8_code
def yX3_opened : MethodName := ⟨RX3, "opened", "(I)Z"⟩
abbrev cX3_advance : ByteArray := prog_5_method_9_code
def yX3_advance : MethodName := ⟨RX3, "advance", "()V"⟩
abbrev cX3_isLetter : ByteArray := prog_5_method_10_code
def yX3_isLetter : MethodName := ⟨RX3, "isLetter", "(I)Z"⟩
abbrev cX3_isDigit : ByteArray := prog_5_method_11_code
def yX3_isDigit : MethodName := ⟨RX3, "isDigit", "(I)Z"⟩
abbrev cX3_isSign : ByteArray := prog_5_method_12_code
def yX3_isSign : MethodName := ⟨RX3, "isSign", "(I)Z"⟩
abbrev cX3_wordToken : ByteArray := prog_5_method_13_code
def yX3_wordToken : MethodName := ⟨RX3, "wordToken", "(I)I"⟩
abbrev cX3_standsAt : ByteArray := prog_5_method_14_code
def yX3_standsAt : MethodName := ⟨RX3, "standsAt", "(II)Z"⟩
def RX4 : String := "StitchLetFall$Text"
def TX4 : u_T := fun k => match k with
  | 0 => ("StitchLetFall$Text", "steps", "[I", true)
  | 1 => ("StitchLetFall$Text", "size", "I", false)
  | 2 => ("StitchLetFall$Text", "ends", "[I", true)
  | 3 => ("StitchLetFall$Text", "stack", "[I", true)
  | _ => ("StitchLetFall$Text", "top", "I", false)
def tyX4 : Nat → FieldType := fun k => match k with
  | 0 => .array .int
  | 1 => .int
  | 2 => .array .int
  | 3 => .array .int
  | _ => .int
abbrev wsX40 : List Cond := u_ws RX4 TX4 5
theorem nmX4 : ∀ a, a < 5 → ∀ b, b < 5 → a ≠ b → (TX4 a).2.1 ≠ (TX4 b).2.1 := by decide +kernel
theorem tyX4_ok : ∀ k, k < 5 → parseFieldDescriptor (TX4 k).2.2.1 = some (tyX4 k) := by decide +kernel
abbrev cX4_init : ByteArray := prog_6_method_1_code
def yX4_init : MethodName := ⟨RX4, "<init>", "()V"⟩
abbrev cX4_clear : ByteArray := prog_6_method_2_code
def yX4_clear : MethodName := ⟨RX4, "clear", "()V"⟩
abbrev cX4_add : ByteArray := prog_6_method_3_code
def yX4_add : MethodName := ⟨RX4, "add", "(I)V"⟩
abbrev cX4_endPart : ByteArray := prog_6_method_4_code
def yX4_endPart : MethodName := ⟨RX4, "endPart", "(I)V"⟩
abbrev cX4_says : ByteArray := prog_6_method_5_code
def yX4_says : MethodName := ⟨RX4, "says", "(ILStitchLetFall$Piece;II)I"⟩
abbrev cX4_take : ByteArray := prog_6_method_6_code
def yX4_take : MethodName := ⟨RX4, "take", "(ILStitchLetFall$Piece;II)V"⟩
abbrev cX4_joined : ByteArray := prog_6_method_7_code
def yX4_joined : MethodName := ⟨RX4, "joined", "(III)I"⟩
abbrev cX4_push : ByteArray := prog_6_method_8_code
def yX4_push : MethodName := ⟨RX4, "push", "(I)V"⟩
abbrev cX4_pop : ByteArray := prog_6_method_9_code
def yX4_pop : MethodName := ⟨RX4, "pop", "()I"⟩
def RX5 : String := "StitchLetFall"
def TX5 : u_T := fun k => match k with
  | 0 => ("StitchLetFall", "piece", "LStitchLetFall$Piece;", true)
  | 1 => ("StitchLetFall", "kept", "LStitchLetFall$Piece;", true)
  | 2 => ("StitchLetFall", "isKept", "Z", false)
  | 3 => ("StitchLetFall", "tape", "LStitchLetFall$Tape;", true)
  | 4 => ("StitchLetFall", "texts", "[LStitchLetFall$Text;", true)
  | 5 => ("StitchLetFall", "textCount", "I", false)
  | 6 => ("StitchLetFall", "fall", "LStitchLetFall$Fall;", true)
  | 7 => ("StitchLetFall", "sheets", "[LStitchLetFall$Sheet;", true)
  | _ => ("StitchLetFall", "goneAlone", "[J", true)
def tyX5 : Nat → FieldType := fun k => match k with
  | 0 => .object "StitchLetFall$Piece"
  | 1 => .object "StitchLetFall$Piece"
  | 2 => .boolean
  | 3 => .object "StitchLetFall$Tape"
  | 4 => .array (.object "StitchLetFall$Text")
  | 5 => .int
  | 6 => .object "StitchLetFall$Fall"
  | 7 => .array (.object "StitchLetFall$Sheet")
  | _ => .array .long
abbrev wsX50 : List Cond := u_ws RX5 TX5 9
theorem nmX5 : ∀ a, a < 9 → ∀ b, b < 9 → a ≠ b → (TX5 a).2.1 ≠ (TX5 b).2.1 := by decide +kernel
theorem tyX5_ok : ∀ k, k < 9 → parseFieldDescriptor (TX5 k).2.2.1 = some (tyX5 k) := by decide +kernel
abbrev cX5_init : ByteArray := prog_1_method_1_code
def yX5_init : MethodName := ⟨RX5, "<init>", "()V"⟩
abbrev cX5_feed : ByteArray := prog_1_method_3_code
def yX5_feed : MethodName := ⟨RX5, "feed", "(IIIIII)I"⟩
abbrev cX5_text : ByteArray := prog_1_method_4_code
def yX5_text : MethodName := ⟨RX5, "text", "()I"⟩
abbrev cX5_force : ByteArray := prog_1_method_5_code
def yX5_force : MethodName := ⟨RX5, "force", "(I)I"⟩
abbrev cX5_knit : ByteArray := prog_1_method_7_code
def yX5_knit : MethodName := ⟨RX5, "knit", "(III)I"⟩
abbrev cX5_pin : ByteArray := prog_1_method_10_code
def yX5_pin : MethodName := ⟨RX5, "pin", "(II)I"⟩
abbrev cX5_run : ByteArray := prog_1_method_14_code
def yX5_run : MethodName := ⟨RX5, "run", "(III)I"⟩
abbrev cX5_goes : ByteArray := prog_1_method_15_code
def yX5_goes : MethodName := ⟨RX5, "goes", "(III)J"⟩
abbrev cX5_left : ByteArray := prog_1_method_16_code
def yX5_left : MethodName := ⟨RX5, "left", "(III)I"⟩
abbrev cX5_column : ByteArray := prog_1_method_18_code
def yX5_column : MethodName := ⟨RX5, "column", "(III)I"⟩
abbrev cX5_pinned : ByteArray := prog_1_method_26_code
def yX5_pinned : MethodName := ⟨RX5, "pinned", "(IIII)I"⟩
abbrev cX5_mending : ByteArray := prog_1_method_27_code
def yX5_mending : MethodName := ⟨RX5, "mending", "(III)I"⟩
abbrev cX5_goesThroughOwn : ByteArray := prog_1_method_46_code
def yX5_goesThroughOwn : MethodName := ⟨RX5, "goesThroughOwn", "(I)Z"⟩
abbrev cX5_goesThroughNext : ByteArray := prog_1_method_47_code
def yX5_goesThroughNext : MethodName := ⟨RX5, "goesThroughNext", "(I)Z"⟩
abbrev cX5_faceOf : ByteArray := prog_1_method_48_code
def yX5_faceOf : MethodName := ⟨RX5, "faceOf", "(I)I"⟩
abbrev cX5_rubOf : ByteArray := prog_1_method_49_code
def yX5_rubOf : MethodName := ⟨RX5, "rubOf", "(III)I"⟩
abbrev cX5_within : ByteArray := prog_1_method_51_code
def yX5_within : MethodName := ⟨RX5, "within", "(III)Z"⟩
abbrev cX5_isLoop : ByteArray := prog_1_method_52_code
def yX5_isLoop : MethodName := ⟨RX5, "isLoop", "(I)Z"⟩
abbrev cX5_isPull : ByteArray := prog_1_method_54_code
def yX5_isPull : MethodName := ⟨RX5, "isPull", "(I)Z"⟩
abbrev cX5_isByte : ByteArray := prog_1_method_55_code
def yX5_isByte : MethodName := ⟨RX5, "isByte", "(I)Z"⟩
abbrev cX5_isKnit : ByteArray := prog_1_method_57_code
def yX5_isKnit : MethodName := ⟨RX5, "isKnit", "(II)Z"⟩
abbrev cX5_bit : ByteArray := prog_1_method_58_code
def yX5_bit : MethodName := ⟨RX5, "bit", "(I)J"⟩
abbrev cX5_hasBit : ByteArray := prog_1_method_59_code
def yX5_hasBit : MethodName := ⟨RX5, "hasBit", "(JI)Z"⟩
abbrev cX5_bounded : ByteArray := prog_1_method_60_code
def yX5_bounded : MethodName := ⟨RX5, "bounded", "(II)I"⟩
abbrev cX5_law : ByteArray := prog_1_method_62_code
def yX5_law : MethodName := ⟨RX5, "law", "()LStitchLetFall$Text;"⟩
abbrev cX5_readTape : ByteArray := prog_1_method_63_code
def yX5_readTape : MethodName := ⟨RX5, "readTape", "()I"⟩
abbrev cX5_drop : ByteArray := prog_1_method_64_code
def yX5_drop : MethodName := ⟨RX5, "drop", "(II)I"⟩
abbrev cX5_dropPinned : ByteArray := prog_1_method_65_code
def yX5_dropPinned : MethodName := ⟨RX5, "dropPinned", "(IIJ)I"⟩
abbrev cX5_lowestRow : ByteArray := prog_1_method_67_code
def yX5_lowestRow : MethodName := ⟨RX5, "lowestRow", "()I"⟩
abbrev cX5_together : ByteArray := prog_1_method_68_code
def yX5_together : MethodName := ⟨RX5, "together", "(I)I"⟩
def RJ5 : String := "java/lang/AbstractStringBuilder"
def TJ5 : u_T := fun k => match k with
  | _ => ("", "", "", false)
def tyJ5 : Nat → FieldType := fun k => match k with
  | _ => .int
abbrev wsJ50 : List Cond := u_ws RJ5 TJ5 0
theorem nmJ5 : ∀ a, a < 0 → ∀ b, b < 0 → a ≠ b → (TJ5 a).2.1 ≠ (TJ5 b).2.1 := by decide +kernel
theorem tyJ5_ok : ∀ k, k < 0 → parseFieldDescriptor (TJ5 k).2.2.1 = some (tyJ5 k) := by decide +kernel
abbrev cJ5_init_d00df : ByteArray := prog_9_method_2_code
def yJ5_init_d00df : MethodName := ⟨RJ5, "<init>", "(I)V"⟩
abbrev cJ5_length_8abf5 : ByteArray := prog_9_method_6_code
def yJ5_length_8abf5 : MethodName := ⟨RJ5, "length", "()I"⟩
abbrev cJ5_ensureCapacityInternal_d00df : ByteArray := prog_9_method_9_code
def yJ5_ensureCapacityInternal_d00df : MethodName := ⟨RJ5, "ensureCapacityInternal", "(I)V"⟩
abbrev cJ5_newCapacity_0f7a4 : ByteArray := prog_9_method_10_code
def yJ5_newCapacity_0f7a4 : MethodName := ⟨RJ5, "newCapacity", "(I)I"⟩
abbrev cJ5_inflate_da8c8 : ByteArray := prog_9_method_11_code
def yJ5_inflate_da8c8 : MethodName := ⟨RJ5, "inflate", "()V"⟩
abbrev cJ5_append_cf1ce : ByteArray := prog_9_method_22_code
def yJ5_append_cf1ce : MethodName := ⟨RJ5, "append", "(Ljava/lang/String;)Ljava/lang/AbstractStringBuilder;"⟩
abbrev cJ5_appendNull_278bc : ByteArray := prog_9_method_26_code
def yJ5_appendNull_278bc : MethodName := ⟨RJ5, "appendNull", "()Ljava/lang/AbstractStringBuilder;"⟩
abbrev cJ5_append_c97b9 : ByteArray := prog_9_method_32_code
def yJ5_append_c97b9 : MethodName := ⟨RJ5, "append", "(I)Ljava/lang/AbstractStringBuilder;"⟩
abbrev cJ5_getValue_6d5f1 : ByteArray := prog_9_method_64_code
def yJ5_getValue_6d5f1 : MethodName := ⟨RJ5, "getValue", "()[B"⟩
abbrev cJ5_isLatin1_aae02 : ByteArray := prog_9_method_68_code
def yJ5_isLatin1_aae02 : MethodName := ⟨RJ5, "isLatin1", "()Z"⟩
abbrev cJ5_inflateIfNeededFor_a7421 : ByteArray := prog_9_method_71_code
def yJ5_inflateIfNeededFor_a7421 : MethodName := ⟨RJ5, "inflateIfNeededFor", "(Ljava/lang/String;)V"⟩
abbrev cJ5_putStringAt_47b60 : ByteArray := prog_9_method_73_code
def yJ5_putStringAt_47b60 : MethodName := ⟨RJ5, "putStringAt", "(ILjava/lang/String;)V"⟩
def RJ6 : String := "java/lang/Integer"
def TJ6 : u_T := fun k => match k with
  | _ => ("", "", "", false)
def tyJ6 : Nat → FieldType := fun k => match k with
  | _ => .int
abbrev wsJ60 : List Cond := u_ws RJ6 TJ6 0
theorem nmJ6 : ∀ a, a < 0 → ∀ b, b < 0 → a ≠ b → (TJ6 a).2.1 ≠ (TJ6 b).2.1 := by decide +kernel
theorem tyJ6_ok : ∀ k, k < 0 → parseFieldDescriptor (TJ6 k).2.2.1 = some (tyJ6 k) := by decide +kernel
abbrev cJ6_getChars_ba4f3 : ByteArray := prog_11_method_12_code
def yJ6_getChars_ba4f3 : MethodName := ⟨RJ6, "getChars", "(II[B)I"⟩
abbrev cJ6_stringSize_0f7a4 : ByteArray := prog_11_method_13_code
def yJ6_stringSize_0f7a4 : MethodName := ⟨RJ6, "stringSize", "(I)I"⟩
abbrev cJ6_numberOfTrailingZeros_0f7a4 : ByteArray := prog_11_method_48_code
def yJ6_numberOfTrailingZeros_0f7a4 : MethodName := ⟨RJ6, "numberOfTrailingZeros", "(I)I"⟩
def RJ13 : String := "java/lang/Long"
def TJ13 : u_T := fun k => match k with
  | _ => ("", "", "", false)
def tyJ13 : Nat → FieldType := fun k => match k with
  | _ => .int
abbrev wsJ130 : List Cond := u_ws RJ13 TJ13 0
theorem nmJ13 : ∀ a, a < 0 → ∀ b, b < 0 → a ≠ b → (TJ13 a).2.1 ≠ (TJ13 b).2.1 := by decide +kernel
theorem tyJ13_ok : ∀ k, k < 0 → parseFieldDescriptor (TJ13 k).2.2.1 = some (tyJ13 k) := by decide +kernel
abbrev cJ13_numberOfTrailingZeros_95d88 : ByteArray := prog_12_method_49_code
def yJ13_numberOfTrailingZeros_95d88 : MethodName := ⟨RJ13, "numberOfTrailingZeros", "(J)I"⟩
abbrev cJ13_bitCount_95d88 : ByteArray := prog_12_method_50_code
def yJ13_bitCount_95d88 : MethodName := ⟨RJ13, "bitCount", "(J)I"⟩
def RJ9 : String := "java/lang/Math"
def TJ9 : u_T := fun k => match k with
  | _ => ("", "", "", false)
def tyJ9 : Nat → FieldType := fun k => match k with
  | _ => .int
abbrev wsJ90 : List Cond := u_ws RJ9 TJ9 0
theorem nmJ9 : ∀ a, a < 0 → ∀ b, b < 0 → a ≠ b → (TJ9 a).2.1 ≠ (TJ9 b).2.1 := by decide +kernel
theorem tyJ9_ok : ∀ k, k < 0 → parseFieldDescriptor (TJ9 k).2.2.1 = some (tyJ9 k) := by decide +kernel
abbrev cJ9_max_7cf53 : ByteArray := prog_13_method_65_code
def yJ9_max_7cf53 : MethodName := ⟨RJ9, "max", "(II)I"⟩
abbrev cJ9_max_f86c9 : ByteArray := prog_13_method_66_code
def yJ9_max_f86c9 : MethodName := ⟨RJ9, "max", "(JJ)J"⟩
abbrev cJ9_min_7cf53 : ByteArray := prog_13_method_69_code
def yJ9_min_7cf53 : MethodName := ⟨RJ9, "min", "(II)I"⟩
def RJ0 : String := "java/lang/String"
def TJ0 : u_T := fun k => match k with
  | 0 => ("java/lang/String", "value", "[B", true)
  | 1 => ("java/lang/String", "coder", "B", true)
  | 2 => ("java/lang/String", "hash", "I", false)
  | _ => ("java/lang/String", "hashIsZero", "Z", false)
def tyJ0 : Nat → FieldType := fun k => match k with
  | 0 => .array .byte
  | 1 => .byte
  | 2 => .int
  | _ => .boolean
abbrev wsJ00 : List Cond := u_ws RJ0 TJ0 4
theorem nmJ0 : ∀ a, a < 4 → ∀ b, b < 4 → a ≠ b → (TJ0 a).2.1 ≠ (TJ0 b).2.1 := by decide +kernel
theorem tyJ0_ok : ∀ k, k < 4 → parseFieldDescriptor (TJ0 k).2.2.1 = some (tyJ0 k) := by decide +kernel
abbrev cJ0_init_81219 : ByteArray := prog_14_method_53_code
def yJ0_init_81219 : MethodName := ⟨RJ0, "<init>", "(Ljava/lang/StringBuilder;)V"⟩
abbrev cJ0_length_8abf5 : ByteArray := prog_14_method_54_code
def yJ0_length_8abf5 : MethodName := ⟨RJ0, "length", "()I"⟩
abbrev cJ0_charAt_5068e : ByteArray := prog_14_method_56_code
def yJ0_charAt_5068e : MethodName := ⟨RJ0, "charAt", "(I)C"⟩
abbrev cJ0_getBytes_840e7 : ByteArray := prog_14_method_147_code
def yJ0_getBytes_840e7 : MethodName := ⟨RJ0, "getBytes", "([BIB)V"⟩
abbrev cJ0_init_db425 : ByteArray := prog_14_method_150_code
def yJ0_init_db425 : MethodName := ⟨RJ0, "<init>", "(Ljava/lang/AbstractStringBuilder;Ljava/lang/Void;)V"⟩
abbrev cJ0_coder_7d493 : ByteArray := prog_14_method_152_code
def yJ0_coder_7d493 : MethodName := ⟨RJ0, "coder", "()B"⟩
abbrev cJ0_isLatin1_aae02 : ByteArray := prog_14_method_154_code
def yJ0_isLatin1_aae02 : MethodName := ⟨RJ0, "isLatin1", "()Z"⟩
abbrev cJ0_checkIndex_df160 : ByteArray := prog_14_method_155_code
def yJ0_checkIndex_df160 : MethodName := ⟨RJ0, "checkIndex", "(II)V"⟩
abbrev cJ0_checkBoundsOffCount_cabcc : ByteArray := prog_14_method_157_code
def yJ0_checkBoundsOffCount_cabcc : MethodName := ⟨RJ0, "checkBoundsOffCount", "(III)I"⟩
abbrev cJ0_checkBoundsBeginEnd_23922 : ByteArray := prog_14_method_158_code
def yJ0_checkBoundsBeginEnd_23922 : MethodName := ⟨RJ0, "checkBoundsBeginEnd", "(III)V"⟩
def RJ4 : String := "java/lang/StringBuilder"
def TJ4 : u_T := fun k => match k with
  | 0 => ("java/lang/AbstractStringBuilder", "value", "[B", false)
  | 1 => ("java/lang/AbstractStringBuilder", "coder", "B", false)
  | 2 => ("java/lang/AbstractStringBuilder", "maybeLatin1", "Z", false)
  | _ => ("java/lang/AbstractStringBuilder", "count", "I", false)
def tyJ4 : Nat → FieldType := fun k => match k with
  | 0 => .array .byte
  | 1 => .byte
  | 2 => .boolean
  | _ => .int
abbrev wsJ40 : List Cond := u_ws RJ4 TJ4 4
theorem nmJ4 : ∀ a, a < 4 → ∀ b, b < 4 → a ≠ b → (TJ4 a).2.1 ≠ (TJ4 b).2.1 := by decide +kernel
theorem tyJ4_ok : ∀ k, k < 4 → parseFieldDescriptor (TJ4 k).2.2.1 = some (tyJ4 k) := by decide +kernel
abbrev cJ4_init_da8c8 : ByteArray := prog_15_method_1_code
def yJ4_init_da8c8 : MethodName := ⟨RJ4, "<init>", "()V"⟩
abbrev cJ4_append_15ec4 : ByteArray := prog_15_method_7_code
def yJ4_append_15ec4 : MethodName := ⟨RJ4, "append", "(Ljava/lang/String;)Ljava/lang/StringBuilder;"⟩
abbrev cJ4_append_bf812 : ByteArray := prog_15_method_15_code
def yJ4_append_bf812 : MethodName := ⟨RJ4, "append", "(I)Ljava/lang/StringBuilder;"⟩
abbrev cJ4_toString_0e30d : ByteArray := prog_15_method_42_code
def yJ4_toString_0e30d : MethodName := ⟨RJ4, "toString", "()Ljava/lang/String;"⟩
abbrev cJ4_length_8abf5 : ByteArray := prog_15_method_93_code
def yJ4_length_8abf5 : MethodName := ⟨RJ4, "length", "()I"⟩
def RJ1 : String := "java/lang/StringLatin1"
def TJ1 : u_T := fun k => match k with
  | _ => ("", "", "", false)
def tyJ1 : Nat → FieldType := fun k => match k with
  | _ => .int
abbrev wsJ10 : List Cond := u_ws RJ1 TJ1 0
theorem nmJ1 : ∀ a, a < 0 → ∀ b, b < 0 → a ≠ b → (TJ1 a).2.1 ≠ (TJ1 b).2.1 := by decide +kernel
theorem tyJ1_ok : ∀ k, k < 0 → parseFieldDescriptor (TJ1 k).2.2.1 = some (tyJ1 k) := by decide +kernel
abbrev cJ1_charAt_3b067 : ByteArray := prog_16_method_2_code
def yJ1_charAt_3b067 : MethodName := ⟨RJ1, "charAt", "([BI)C"⟩
abbrev cJ1_inflate_0e8fd : ByteArray := prog_16_method_50_code
def yJ1_inflate_0e8fd : MethodName := ⟨RJ1, "inflate", "([BI[BII)V"⟩
def RJ2 : String := "java/lang/StringUTF16"
def TJ2 : u_T := fun k => match k with
  | _ => ("", "", "", false)
def tyJ2 : Nat → FieldType := fun k => match k with
  | _ => .int
abbrev wsJ20 : List Cond := u_ws RJ2 TJ2 0
theorem nmJ2 : ∀ a, a < 0 → ∀ b, b < 0 → a ≠ b → (TJ2 a).2.1 ≠ (TJ2 b).2.1 := by decide +kernel
theorem tyJ2_ok : ∀ k, k < 0 → parseFieldDescriptor (TJ2 k).2.2.1 = some (tyJ2 k) := by decide +kernel
abbrev cJ2_newBytesFor_77867 : ByteArray := prog_17_method_2_code
def yJ2_newBytesFor_77867 : MethodName := ⟨RJ2, "newBytesFor", "(I)[B"⟩
abbrev cJ2_newBytesLength_0f7a4 : ByteArray := prog_17_method_3_code
def yJ2_newBytesLength_0f7a4 : MethodName := ⟨RJ2, "newBytesLength", "(I)I"⟩
abbrev cJ2_putChar_b72d1 : ByteArray := prog_17_method_4_code
def yJ2_putChar_b72d1 : MethodName := ⟨RJ2, "putChar", "([BII)V"⟩
abbrev cJ2_getChar_3b067 : ByteArray := prog_17_method_5_code
def yJ2_getChar_3b067 : MethodName := ⟨RJ2, "getChar", "([BI)C"⟩
abbrev cJ2_length_9d52b : ByteArray := prog_17_method_6_code
def yJ2_length_9d52b : MethodName := ⟨RJ2, "length", "([B)I"⟩
abbrev cJ2_coderFromArrayLen_85cad : ByteArray := prog_17_method_15_code
def yJ2_coderFromArrayLen_85cad : MethodName := ⟨RJ2, "coderFromArrayLen", "([BI)B"⟩
abbrev cJ2_compress_39247 : ByteArray := prog_17_method_17_code
def yJ2_compress_39247 : MethodName := ⟨RJ2, "compress", "([BII)[B"⟩
abbrev cJ2_compress_5af95 : ByteArray := prog_17_method_22_code
def yJ2_compress_5af95 : MethodName := ⟨RJ2, "compress", "([BI[BII)I"⟩
abbrev cJ2_getChars_46870 : ByteArray := prog_17_method_77_code
def yJ2_getChars_46870 : MethodName := ⟨RJ2, "getChars", "(III[B)I"⟩
abbrev cJ2_putCharsAt_cd4e5 : ByteArray := prog_17_method_81_code
def yJ2_putCharsAt_cd4e5 : MethodName := ⟨RJ2, "putCharsAt", "([BICCCC)I"⟩
abbrev cJ2_charAt_3b067 : ByteArray := prog_17_method_83_code
def yJ2_charAt_3b067 : MethodName := ⟨RJ2, "charAt", "([BI)C"⟩
abbrev cJ2_inflate_0e8fd : ByteArray := prog_17_method_86_code
def yJ2_inflate_0e8fd : MethodName := ⟨RJ2, "inflate", "([BI[BII)V"⟩
abbrev cJ2_getChars_ba4f3 : ByteArray := prog_17_method_89_code
def yJ2_getChars_ba4f3 : MethodName := ⟨RJ2, "getChars", "(II[B)I"⟩
abbrev cJ2_checkIndex_2214a : ByteArray := prog_17_method_91_code
def yJ2_checkIndex_2214a : MethodName := ⟨RJ2, "checkIndex", "(I[B)V"⟩
abbrev cJ2_checkBoundsBeginEnd_d044e : ByteArray := prog_17_method_93_code
def yJ2_checkBoundsBeginEnd_d044e : MethodName := ⟨RJ2, "checkBoundsBeginEnd", "(II[B)V"⟩
abbrev cJ2_checkBoundsOffCount_d044e : ByteArray := prog_17_method_94_code
def yJ2_checkBoundsOffCount_d044e : MethodName := ⟨RJ2, "checkBoundsOffCount", "(II[B)V"⟩
def RJ10 : String := "java/lang/System"
def TJ10 : u_T := fun k => match k with
  | _ => ("", "", "", false)
def tyJ10 : Nat → FieldType := fun k => match k with
  | _ => .int
abbrev wsJ100 : List Cond := u_ws RJ10 TJ10 0
theorem nmJ10 : ∀ a, a < 0 → ∀ b, b < 0 → a ≠ b → (TJ10 a).2.1 ≠ (TJ10 b).2.1 := by decide +kernel
theorem tyJ10_ok : ∀ k, k < 0 → parseFieldDescriptor (TJ10 k).2.2.1 = some (tyJ10 k) := by decide +kernel
def RJ7 : String := "java/util/Arrays"
def TJ7 : u_T := fun k => match k with
  | _ => ("", "", "", false)
def tyJ7 : Nat → FieldType := fun k => match k with
  | _ => .int
abbrev wsJ70 : List Cond := u_ws RJ7 TJ7 0
theorem nmJ7 : ∀ a, a < 0 → ∀ b, b < 0 → a ≠ b → (TJ7 a).2.1 ≠ (TJ7 b).2.1 := by decide +kernel
theorem tyJ7_ok : ∀ k, k < 0 → parseFieldDescriptor (TJ7 k).2.2.1 = some (tyJ7 k) := by decide +kernel
abbrev cJ7_copyOf_9075b : ByteArray := prog_19_method_121_code
def yJ7_copyOf_9075b : MethodName := ⟨RJ7, "copyOf", "([BI)[B"⟩
abbrev cJ7_checkLength_df160 : ByteArray := prog_19_method_131_code
def yJ7_checkLength_df160 : MethodName := ⟨RJ7, "checkLength", "(II)V"⟩
abbrev cJ7_copyOfRange_39247 : ByteArray := prog_19_method_132_code
def yJ7_copyOfRange_39247 : MethodName := ⟨RJ7, "copyOfRange", "([BII)[B"⟩
abbrev cJ7_copyOfRangeByte_39247 : ByteArray := prog_19_method_133_code
def yJ7_copyOfRangeByte_39247 : MethodName := ⟨RJ7, "copyOfRangeByte", "([BII)[B"⟩
def RJ8 : String := "jdk/internal/util/ArraysSupport"
def TJ8 : u_T := fun k => match k with
  | _ => ("", "", "", false)
def tyJ8 : Nat → FieldType := fun k => match k with
  | _ => .int
abbrev wsJ80 : List Cond := u_ws RJ8 TJ8 0
theorem nmJ8 : ∀ a, a < 0 → ∀ b, b < 0 → a ≠ b → (TJ8 a).2.1 ≠ (TJ8 b).2.1 := by decide +kernel
theorem tyJ8_ok : ∀ k, k < 0 → parseFieldDescriptor (TJ8 k).2.2.1 = some (tyJ8 k) := by decide +kernel
abbrev cJ8_newLength_cabcc : ByteArray := prog_20_method_27_code
def yJ8_newLength_cabcc : MethodName := ⟨RJ8, "newLength", "(III)I"⟩
abbrev cJ8_hugeLength_7cf53 : ByteArray := prog_20_method_28_code
def yJ8_hugeLength_7cf53 : MethodName := ⟨RJ8, "hugeLength", "(II)I"⟩
def RJ3 : String := "jdk/internal/util/Preconditions"
def TJ3 : u_T := fun k => match k with
  | _ => ("", "", "", false)
def tyJ3 : Nat → FieldType := fun k => match k with
  | _ => .int
abbrev wsJ30 : List Cond := u_ws RJ3 TJ3 0
theorem nmJ3 : ∀ a, a < 0 → ∀ b, b < 0 → a ≠ b → (TJ3 a).2.1 ≠ (TJ3 b).2.1 := by decide +kernel
theorem tyJ3_ok : ∀ k, k < 0 → parseFieldDescriptor (TJ3 k).2.2.1 = some (tyJ3 k) := by decide +kernel
abbrev cJ3_checkIndex_8e157 : ByteArray := prog_21_method_11_code
def yJ3_checkIndex_8e157 : MethodName := ⟨RJ3, "checkIndex", "(IILjava/util/function/BiFunction;)I"⟩
abbrev cJ3_checkFromToIndex_8c36e : ByteArray := prog_21_method_12_code
def yJ3_checkFromToIndex_8c36e : MethodName := ⟨RJ3, "checkFromToIndex", "(IIILjava/util/function/BiFunction;)I"⟩
abbrev cJ3_checkFromIndexSize_8c36e : ByteArray := prog_21_method_13_code
def yJ3_checkFromIndexSize_8c36e : MethodName := ⟨RJ3, "checkFromIndexSize", "(IIILjava/util/function/BiFunction;)I"⟩
def RL : String := "StitchLetFallLaw"
abbrev cL_at : ByteArray := method_2_code
def yL_at : MethodName := ⟨RL, "at", "([II)I"⟩
abbrev cL_text : ByteArray := method_3_code
def yL_text : MethodName := ⟨RL, "text", "(LStitchLetFall;Ljava/lang/String;)V"⟩
abbrev cL_build : ByteArray := method_4_code
def yL_build : MethodName := ⟨RL, "build", "([I)LStitchLetFall;"⟩
abbrev cL_plain : ByteArray := method_5_code
def yL_plain : MethodName := ⟨RL, "plain", "([I)Z"⟩
abbrev cL_kind : ByteArray := method_6_code
def yL_kind : MethodName := ⟨RL, "kind", "([II)I"⟩
abbrev cL_more : ByteArray := method_7_code
def yL_more : MethodName := ⟨RL, "more", "([II)I"⟩
abbrev cL_pinned : ByteArray := method_8_code
def yL_pinned : MethodName := ⟨RL, "pinned", "([II)Z"⟩
abbrev cL_face : ByteArray := method_9_code
def yL_face : MethodName := ⟨RL, "face", "([II)I"⟩
abbrev cL_keeps : ByteArray := method_10_code
def yL_keeps : MethodName := ⟨RL, "keeps", "([II)Z"⟩
abbrev cL_through : ByteArray := method_11_code
def yL_through : MethodName := ⟨RL, "through", "([II)I"⟩
abbrev cL_held : ByteArray := method_12_code
def yL_held : MethodName := ⟨RL, "held", "(II)I"⟩
abbrev cL_asks : ByteArray := method_13_code
def yL_asks : MethodName := ⟨RL, "asks", "([IIIII)I"⟩
abbrev cL_rubs : ByteArray := method_14_code
def yL_rubs : MethodName := ⟨RL, "rubs", "([III)I"⟩
abbrev cL_run : ByteArray := method_15_code
def yL_run : MethodName := ⟨RL, "run", "([I[JJIJ)V"⟩
abbrev cL_come : ByteArray := method_16_code
def yL_come : MethodName := ⟨RL, "come", "([I[JI)J"⟩
abbrev cL_law : ByteArray := code
def yL_law : MethodName := ⟨RL, "law", "([I)Z"⟩
abbrev vwCl : List vw_C := [(RX0, TX0, 3), (RX1, TX1, 5), (RX2, TX2, 3), (RX3, TX3, 7), (RX4, TX4, 5), (RX5, TX5, 9), (RJ0, TJ0, 4), (RJ4, TJ4, 4)]
end
section
theorem dX0_init_0 : decode cX0_init 0 = .ok (.aload_n 0, 1) := by decide +kernel
theorem dX0_init_1 : decode cX0_init 1 = .ok (.invokespecial 3, 3) := by decide +kernel
theorem dX0_init_4 : decode cX0_init 4 = .ok (.aload_n 0, 1) := by decide +kernel
theorem dX0_init_5 : decode cX0_init 5 = .ok (.bipush 48, 2) := by decide +kernel
theorem dX0_init_7 : decode cX0_init 7 = .ok (.newarray .int, 2) := by decide +kernel
theorem dX0_init_9 : decode cX0_init 9 = .ok (.putfield 9, 3) := by decide +kernel
theorem dX0_init_12 : decode cX0_init 12 = .ok (.return_, 1) := by decide +kernel
theorem dX0_runFrom_0 : decode cX0_runFrom 0 = .ok (.aload_n 0, 1) := by decide +kernel
theorem dX0_runFrom_1 : decode cX0_runFrom 1 = .ok (.lconst 0, 1) := by decide +kernel
theorem dX0_runFrom_2 : decode cX0_runFrom 2 = .ok (.putfield 15, 3) := by decide +kernel
theorem dX0_runFrom_5 : decode cX0_runFrom 5 = .ok (.aload_n 0, 1) := by decide +kernel
theorem dX0_runFrom_6 : decode cX0_runFrom 6 = .ok (.lconst 0, 1) := by decide +kernel
theorem dX0_runFrom_7 : decode cX0_runFrom 7 = .ok (.putfield 19, 3) := by decide +kernel
theorem dX0_runFrom_10 : decode cX0_runFrom 10 = .ok (.bipush 47, 2) := by decide +kernel
theorem dX0_runFrom_12 : decode cX0_runFrom 12 = .ok (.istore 8, 2) := by decide +kernel
theorem dX0_runFrom_14 : decode cX0_runFrom 14 = .ok (.iload 8, 2) := by decide +kernel
theorem dX0_runFrom_16 : decode cX0_runFrom 16 = .ok (.ifCond .lt 162, 3) := by decide +kernel
theorem dX0_runFrom_19 : decode cX0_runFrom 19 = .ok (.aload_n 0, 1) := by decide +kernel
theorem dX0_runFrom_20 : decode cX0_runFrom 20 = .ok (.getfield 15, 3) := by decide +kernel
theorem dX0_runFrom_23 : decode cX0_runFrom 23 = .ok (.lconst 0, 1) := by decide +kernel
theorem dX0_runFrom_24 : decode cX0_runFrom 24 = .ok (.lcmp, 1) := by decide +kernel
theorem dX0_runFrom_25 : decode cX0_runFrom 25 = .ok (.ifCond .ne 7, 3) := by decide +kernel
theorem dX0_runFrom_28 : decode cX0_runFrom 28 = .ok (.lconst 0, 1) := by decide +kernel
theorem dX0_runFrom_29 : decode cX0_runFrom 29 = .ok (.goto 9, 3) := by decide +kernel
theorem dX0_runFrom_32 : decode cX0_runFrom 32 = .ok (.aload_n 1, 1) := by decide +kernel
theorem dX0_runFrom_33 : decode cX0_runFrom 33 = .ok (.iload 8, 2) := by decide +kernel
theorem dX0_runFrom_35 : decode cX0_runFrom 35 = .ok (.invokevirtual 22, 3) := by decide +kernel
theorem dX0_runFrom_38 : decode cX0_runFrom 38 = .ok (.lstore 9, 2) := by decide +kernel
theorem dX0_runFrom_40 : decode cX0_runFrom 40 = .ok (.lload 9, 2) := by decide +kernel
theorem dX0_runFrom_42 : decode cX0_runFrom 42 = .ok (.lconst 0, 1) := by decide +kernel
theorem dX0_runFrom_43 : decode cX0_runFrom 43 = .ok (.lcmp, 1) := by decide +kernel
theorem dX0_runFrom_44 : decode cX0_runFrom 44 = .ok (.ifCond .eq 20, 3) := by decide +kernel
theorem dX0_runFrom_47 : decode cX0_runFrom 47 = .ok (.lload 9, 2) := by decide +kernel
theorem dX0_runFrom_49 : decode cX0_runFrom 49 = .ok (.aload_n 0, 1) := by decide +kernel
theorem dX0_runFrom_50 : decode cX0_runFrom 50 = .ok (.getfield 15, 3) := by decide +kernel
theorem dX0_runFrom_53 : decode cX0_runFrom 53 = .ok (.land, 1) := by decide +kernel
theorem dX0_runFrom_54 : decode cX0_runFrom 54 = .ok (.lload 9, 2) := by decide +kernel
theorem dX0_runFrom_56 : decode cX0_runFrom 56 = .ok (.lcmp, 1) := by decide +kernel
theorem dX0_runFrom_57 : decode cX0_runFrom 57 = .ok (.ifCond .ne 7, 3) := by decide +kernel
theorem dX0_runFrom_60 : decode cX0_runFrom 60 = .ok (.iconst 1, 1) := by decide +kernel
theorem dX0_runFrom_61 : decode cX0_runFrom 61 = .ok (.goto 4, 3) := by decide +kernel
theorem dX0_runFrom_64 : decode cX0_runFrom 64 = .ok (.iconst 0, 1) := by decide +kernel
theorem dX0_runFrom_65 : decode cX0_runFrom 65 = .ok (.istore 11, 2) := by decide +kernel
theorem dX0_runFrom_67 : decode cX0_runFrom 67 = .ok (.iconst (-1), 1) := by decide +kernel
theorem dX0_runFrom_68 : decode cX0_runFrom 68 = .ok (.istore 12, 2) := by decide +kernel
theorem dX0_runFrom_70 : decode cX0_runFrom 70 = .ok (.lload 5, 2) := by decide +kernel
theorem dX0_runFrom_72 : decode cX0_runFrom 72 = .ok (.iload 8, 2) := by decide +kernel
theorem dX0_runFrom_74 : decode cX0_runFrom 74 = .ok (.invokestatic 28, 3) := by decide +kernel
theorem dX0_runFrom_77 : decode cX0_runFrom 77 = .ok (.ifCond .ne 45, 3) := by decide +kernel
theorem dX0_runFrom_80 : decode cX0_runFrom 80 = .ok (.aload_n 1, 1) := by decide +kernel
theorem dX0_runFrom_81 : decode cX0_runFrom 81 = .ok (.iload 8, 2) := by decide +kernel
theorem dX0_runFrom_83 : decode cX0_runFrom 83 = .ok (.invokevirtual 32, 3) := by decide +kernel
theorem dX0_runFrom_86 : decode cX0_runFrom 86 = .ok (.ifCond .ne 36, 3) := by decide +kernel
theorem dX0_runFrom_89 : decode cX0_runFrom 89 = .ok (.lload_n 3, 1) := by decide +kernel
theorem dX0_runFrom_90 : decode cX0_runFrom 90 = .ok (.iload 8, 2) := by decide +kernel
theorem dX0_runFrom_92 : decode cX0_runFrom 92 = .ok (.invokestatic 28, 3) := by decide +kernel
theorem dX0_runFrom_95 : decode cX0_runFrom 95 = .ok (.ifCond .eq 10, 3) := by decide +kernel
theorem dX0_runFrom_98 : decode cX0_runFrom 98 = .ok (.iload 7, 2) := by decide +kernel
theorem dX0_runFrom_100 : decode cX0_runFrom 100 = .ok (.istore 12, 2) := by decide +kernel
theorem dX0_runFrom_102 : decode cX0_runFrom 102 = .ok (.goto 20, 3) := by decide +kernel
theorem dX0_runFrom_105 : decode cX0_runFrom 105 = .ok (.iload 11, 2) := by decide +kernel
theorem dX0_runFrom_107 : decode cX0_runFrom 107 = .ok (.ifCond .eq 15, 3) := by decide +kernel
theorem dX0_runFrom_110 : decode cX0_runFrom 110 = .ok (.aload_n 0, 1) := by decide +kernel
theorem dX0_runFrom_111 : decode cX0_runFrom 111 = .ok (.aload_n 1, 1) := by decide +kernel
theorem dX0_runFrom_112 : decode cX0_runFrom 112 = .ok (.aload_n 2, 1) := by decide +kernel
theorem dX0_runFrom_113 : decode cX0_runFrom 113 = .ok (.iload 8, 2) := by decide +kernel
theorem dX0_runFrom_115 : decode cX0_runFrom 115 = .ok (.lload 9, 2) := by decide +kernel
theorem dX0_runFrom_117 : decode cX0_runFrom 117 = .ok (.invokevirtual 36, 3) := by decide +kernel
theorem dX0_runFrom_120 : decode cX0_runFrom 120 = .ok (.istore 12, 2) := by decide +kernel
theorem dX0_runFrom_122 : decode cX0_runFrom 122 = .ok (.aload_n 0, 1) := by decide +kernel
theorem dX0_runFrom_123 : decode cX0_runFrom 123 = .ok (.getfield 9, 3) := by decide +kernel
theorem dX0_runFrom_126 : decode cX0_runFrom 126 = .ok (.iload 8, 2) := by decide +kernel
theorem dX0_runFrom_128 : decode cX0_runFrom 128 = .ok (.iload 12, 2) := by decide +kernel
theorem dX0_runFrom_130 : decode cX0_runFrom 130 = .ok (.iastore, 1) := by decide +kernel
theorem dX0_runFrom_131 : decode cX0_runFrom 131 = .ok (.iload 12, 2) := by decide +kernel
theorem dX0_runFrom_133 : decode cX0_runFrom 133 = .ok (.ifCond .lt 20, 3) := by decide +kernel
theorem dX0_runFrom_136 : decode cX0_runFrom 136 = .ok (.aload_n 0, 1) := by decide +kernel
theorem dX0_runFrom_137 : decode cX0_runFrom 137 = .ok (.dup, 1) := by decide +kernel
theorem dX0_runFrom_138 : decode cX0_runFrom 138 = .ok (.getfield 15, 3) := by decide +kernel
theorem dX0_runFrom_141 : decode cX0_runFrom 141 = .ok (.iload 8, 2) := by decide +kernel
theorem dX0_runFrom_143 : decode cX0_runFrom 143 = .ok (.invokestatic 40, 3) := by decide +kernel
theorem dX0_runFrom_146 : decode cX0_runFrom 146 = .ok (.lor, 1) := by decide +kernel
theorem dX0_runFrom_147 : decode cX0_runFrom 147 = .ok (.putfield 15, 3) := by decide +kernel
theorem dX0_runFrom_150 : decode cX0_runFrom 150 = .ok (.goto 22, 3) := by decide +kernel
theorem dX0_runFrom_153 : decode cX0_runFrom 153 = .ok (.iload 11, 2) := by decide +kernel
theorem dX0_runFrom_155 : decode cX0_runFrom 155 = .ok (.ifCond .eq 17, 3) := by decide +kernel
theorem dX0_runFrom_158 : decode cX0_runFrom 158 = .ok (.aload_n 0, 1) := by decide +kernel
theorem dX0_runFrom_159 : decode cX0_runFrom 159 = .ok (.dup, 1) := by decide +kernel
theorem dX0_runFrom_160 : decode cX0_runFrom 160 = .ok (.getfield 19, 3) := by decide +kernel
theorem dX0_runFrom_163 : decode cX0_runFrom 163 = .ok (.iload 8, 2) := by decide +kernel
theorem dX0_runFrom_165 : decode cX0_runFrom 165 = .ok (.invokestatic 40, 3) := by decide +kernel
theorem dX0_runFrom_168 : decode cX0_runFrom 168 = .ok (.lor, 1) := by decide +kernel
theorem dX0_runFrom_169 : decode cX0_runFrom 169 = .ok (.putfield 19, 3) := by decide +kernel
theorem dX0_runFrom_172 : decode cX0_runFrom 172 = .ok (.iinc 8 (-1), 3) := by decide +kernel
theorem dX0_runFrom_175 : decode cX0_runFrom 175 = .ok (.goto (-161), 3) := by decide +kernel
theorem dX0_runFrom_178 : decode cX0_runFrom 178 = .ok (.aload_n 0, 1) := by decide +kernel
theorem dX0_runFrom_179 : decode cX0_runFrom 179 = .ok (.getfield 15, 3) := by decide +kernel
theorem dX0_runFrom_182 : decode cX0_runFrom 182 = .ok (.invokestatic 43, 3) := by decide +kernel
theorem dX0_runFrom_185 : decode cX0_runFrom 185 = .ok (.ireturn, 1) := by decide +kernel
theorem dX0_restOf_0 : decode cX0_restOf 0 = .ok (.iconst 0, 1) := by decide +kernel
theorem dX0_restOf_1 : decode cX0_restOf 1 = .ok (.istore 6, 2) := by decide +kernel
theorem dX0_restOf_3 : decode cX0_restOf 3 = .ok (.iload_n 3, 1) := by decide +kernel
theorem dX0_restOf_4 : decode cX0_restOf 4 = .ok (.bipush 6, 2) := by decide +kernel
theorem dX0_restOf_6 : decode cX0_restOf 6 = .ok (.iadd, 1) := by decide +kernel
theorem dX0_restOf_7 : decode cX0_restOf 7 = .ok (.iconst 1, 1) := by decide +kernel
theorem dX0_restOf_8 : decode cX0_restOf 8 = .ok (.isub, 1) := by decide +kernel
theorem dX0_restOf_9 : decode cX0_restOf 9 = .ok (.istore 7, 2) := by decide +kernel
theorem dX0_restOf_11 : decode cX0_restOf 11 = .ok (.iload 7, 2) := by decide +kernel
theorem dX0_restOf_13 : decode cX0_restOf 13 = .ok (.bipush 48, 2) := by decide +kernel
theorem dX0_restOf_15 : decode cX0_restOf 15 = .ok (.if_icmp .ge 44, 3) := by decide +kernel
theorem dX0_restOf_18 : decode cX0_restOf 18 = .ok (.iload 7, 2) := by decide +kernel
theorem dX0_restOf_20 : decode cX0_restOf 20 = .ok (.iload_n 3, 1) := by decide +kernel
theorem dX0_restOf_21 : decode cX0_restOf 21 = .ok (.bipush 6, 2) := by decide +kernel
theorem dX0_restOf_23 : decode cX0_restOf 23 = .ok (.iadd, 1) := by decide +kernel
theorem dX0_restOf_24 : decode cX0_restOf 24 = .ok (.iconst 1, 1) := by decide +kernel
theorem dX0_restOf_25 : decode cX0_restOf 25 = .ok (.iadd, 1) := by decide +kernel
theorem dX0_restOf_26 : decode cX0_restOf 26 = .ok (.if_icmp .gt 33, 3) := by decide +kernel
theorem dX0_restOf_29 : decode cX0_restOf 29 = .ok (.lload 4, 2) := by decide +kernel
theorem dX0_restOf_31 : decode cX0_restOf 31 = .ok (.iload 7, 2) := by decide +kernel
theorem dX0_restOf_33 : decode cX0_restOf 33 = .ok (.invokestatic 28, 3) := by decide +kernel
theorem dX0_restOf_36 : decode cX0_restOf 36 = .ok (.ifCond .eq 17, 3) := by decide +kernel
theorem dX0_restOf_39 : decode cX0_restOf 39 = .ok (.iload 6, 2) := by decide +kernel
theorem dX0_restOf_41 : decode cX0_restOf 41 = .ok (.aload_n 0, 1) := by decide +kernel
theorem dX0_restOf_42 : decode cX0_restOf 42 = .ok (.getfield 9, 3) := by decide +kernel
theorem dX0_restOf_45 : decode cX0_restOf 45 = .ok (.iload 7, 2) := by decide +kernel
theorem dX0_restOf_47 : decode cX0_restOf 47 = .ok (.iaload, 1) := by decide +kernel
theorem dX0_restOf_48 : decode cX0_restOf 48 = .ok (.invokestatic 49, 3) := by decide +kernel
theorem dX0_restOf_51 : decode cX0_restOf 51 = .ok (.istore 6, 2) := by decide +kernel
theorem dX0_restOf_53 : decode cX0_restOf 53 = .ok (.iinc 7 1, 3) := by decide +kernel
theorem dX0_restOf_56 : decode cX0_restOf 56 = .ok (.goto (-45), 3) := by decide +kernel
theorem dX0_restOf_59 : decode cX0_restOf 59 = .ok (.aload_n 2, 1) := by decide +kernel
theorem dX0_restOf_60 : decode cX0_restOf 60 = .ok (.iconst 0, 1) := by decide +kernel
theorem dX0_restOf_61 : decode cX0_restOf 61 = .ok (.aload_n 1, 1) := by decide +kernel
theorem dX0_restOf_62 : decode cX0_restOf 62 = .ok (.iload_n 3, 1) := by decide +kernel
theorem dX0_restOf_63 : decode cX0_restOf 63 = .ok (.iload 6, 2) := by decide +kernel
theorem dX0_restOf_65 : decode cX0_restOf 65 = .ok (.invokevirtual 55, 3) := by decide +kernel
theorem dX0_restOf_68 : decode cX0_restOf 68 = .ok (.istore 7, 2) := by decide +kernel
theorem dX0_restOf_70 : decode cX0_restOf 70 = .ok (.aload_n 1, 1) := by decide +kernel
theorem dX0_restOf_71 : decode cX0_restOf 71 = .ok (.getfield 61, 3) := by decide +kernel
theorem dX0_restOf_74 : decode cX0_restOf 74 = .ok (.iload_n 3, 1) := by decide +kernel
theorem dX0_restOf_75 : decode cX0_restOf 75 = .ok (.iaload, 1) := by decide +kernel
theorem dX0_restOf_76 : decode cX0_restOf 76 = .ok (.iload 7, 2) := by decide +kernel
theorem dX0_restOf_78 : decode cX0_restOf 78 = .ok (.aload_n 1, 1) := by decide +kernel
theorem dX0_restOf_79 : decode cX0_restOf 79 = .ok (.getfield 64, 3) := by decide +kernel
theorem dX0_restOf_82 : decode cX0_restOf 82 = .ok (.iload_n 3, 1) := by decide +kernel
theorem dX0_restOf_83 : decode cX0_restOf 83 = .ok (.iaload, 1) := by decide +kernel
theorem dX0_restOf_84 : decode cX0_restOf 84 = .ok (.invokestatic 67, 3) := by decide +kernel
theorem dX0_restOf_87 : decode cX0_restOf 87 = .ok (.sipush 999, 3) := by decide +kernel
theorem dX0_restOf_90 : decode cX0_restOf 90 = .ok (.invokestatic 71, 3) := by decide +kernel
theorem dX0_restOf_93 : decode cX0_restOf 93 = .ok (.istore 8, 2) := by decide +kernel
theorem dX0_restOf_95 : decode cX0_restOf 95 = .ok (.iload 6, 2) := by decide +kernel
theorem dX0_restOf_97 : decode cX0_restOf 97 = .ok (.iload 8, 2) := by decide +kernel
theorem dX0_restOf_99 : decode cX0_restOf 99 = .ok (.if_icmp .le 11, 3) := by decide +kernel
theorem dX0_restOf_102 : decode cX0_restOf 102 = .ok (.iload 6, 2) := by decide +kernel
theorem dX0_restOf_104 : decode cX0_restOf 104 = .ok (.iload 8, 2) := by decide +kernel
theorem dX0_restOf_106 : decode cX0_restOf 106 = .ok (.isub, 1) := by decide +kernel
theorem dX0_restOf_107 : decode cX0_restOf 107 = .ok (.goto 4, 3) := by decide +kernel
theorem dX0_restOf_110 : decode cX0_restOf 110 = .ok (.iconst (-1), 1) := by decide +kernel
theorem dX0_restOf_111 : decode cX0_restOf 111 = .ok (.ireturn, 1) := by decide +kernel
theorem dX1_init_0 : decode cX1_init 0 = .ok (.aload_n 0, 1) := by decide +kernel
theorem dX1_init_1 : decode cX1_init 1 = .ok (.invokespecial 3, 3) := by decide +kernel
theorem dX1_init_4 : decode cX1_init 4 = .ok (.aload_n 0, 1) := by decide +kernel
theorem dX1_init_5 : decode cX1_init 5 = .ok (.bipush 48, 2) := by decide +kernel
theorem dX1_init_7 : decode cX1_init 7 = .ok (.newarray .int, 2) := by decide +kernel
theorem dX1_init_9 : decode cX1_init 9 = .ok (.putfield 9, 3) := by decide +kernel
theorem dX1_init_12 : decode cX1_init 12 = .ok (.aload_n 0, 1) := by decide +kernel
theorem dX1_init_13 : decode cX1_init 13 = .ok (.bipush 48, 2) := by decide +kernel
theorem dX1_init_15 : decode cX1_init 15 = .ok (.newarray .int, 2) := by decide +kernel
theorem dX1_init_17 : decode cX1_init 17 = .ok (.putfield 15, 3) := by decide +kernel
theorem dX1_init_20 : decode cX1_init 20 = .ok (.return_, 1) := by decide +kernel
theorem dX1_become_0 : decode cX1_become 0 = .ok (.aload_n 0, 1) := by decide +kernel
theorem dX1_become_1 : decode cX1_become 1 = .ok (.getfield 9, 3) := by decide +kernel
theorem dX1_become_4 : decode cX1_become 4 = .ok (.iload_n 1, 1) := by decide +kernel
theorem dX1_become_5 : decode cX1_become 5 = .ok (.iload_n 2, 1) := by decide +kernel
theorem dX1_become_6 : decode cX1_become 6 = .ok (.iastore, 1) := by decide +kernel
theorem dX1_become_7 : decode cX1_become 7 = .ok (.aload_n 0, 1) := by decide +kernel
theorem dX1_become_8 : decode cX1_become 8 = .ok (.getfield 15, 3) := by decide +kernel
theorem dX1_become_11 : decode cX1_become 11 = .ok (.iload_n 1, 1) := by decide +kernel
theorem dX1_become_12 : decode cX1_become 12 = .ok (.iload_n 3, 1) := by decide +kernel
theorem dX1_become_13 : decode cX1_become 13 = .ok (.iastore, 1) := by decide +kernel
theorem dX1_become_14 : decode cX1_become 14 = .ok (.return_, 1) := by decide +kernel
theorem dX1_keeps_0 : decode cX1_keeps 0 = .ok (.aload_n 0, 1) := by decide +kernel
theorem dX1_keeps_1 : decode cX1_keeps 1 = .ok (.getfield 9, 3) := by decide +kernel
theorem dX1_keeps_4 : decode cX1_keeps 4 = .ok (.iload_n 1, 1) := by decide +kernel
theorem dX1_keeps_5 : decode cX1_keeps 5 = .ok (.iaload, 1) := by decide +kernel
theorem dX1_keeps_6 : decode cX1_keeps 6 = .ok (.iconst 5, 1) := by decide +kernel
theorem dX1_keeps_7 : decode cX1_keeps 7 = .ok (.if_icmp .eq 14, 3) := by decide +kernel
theorem dX1_keeps_10 : decode cX1_keeps 10 = .ok (.aload_n 0, 1) := by decide +kernel
theorem dX1_keeps_11 : decode cX1_keeps 11 = .ok (.getfield 24, 3) := by decide +kernel
theorem dX1_keeps_14 : decode cX1_keeps 14 = .ok (.iload_n 1, 1) := by decide +kernel
theorem dX1_keeps_15 : decode cX1_keeps 15 = .ok (.invokestatic 35, 3) := by decide +kernel
theorem dX1_keeps_18 : decode cX1_keeps 18 = .ok (.ifCond .eq 7, 3) := by decide +kernel
theorem dX1_keeps_21 : decode cX1_keeps 21 = .ok (.iconst 1, 1) := by decide +kernel
theorem dX1_keeps_22 : decode cX1_keeps 22 = .ok (.goto 4, 3) := by decide +kernel
theorem dX1_keeps_25 : decode cX1_keeps 25 = .ok (.iconst 0, 1) := by decide +kernel
theorem dX1_keeps_26 : decode cX1_keeps 26 = .ok (.ireturn, 1) := by decide +kernel
theorem dX1_over_0 : decode cX1_over 0 = .ok (.iload_n 1, 1) := by decide +kernel
theorem dX1_over_1 : decode cX1_over 1 = .ok (.bipush 6, 2) := by decide +kernel
theorem dX1_over_3 : decode cX1_over 3 = .ok (.iadd, 1) := by decide +kernel
theorem dX1_over_4 : decode cX1_over 4 = .ok (.istore_n 2, 1) := by decide +kernel
theorem dX1_over_5 : decode cX1_over 5 = .ok (.iload_n 2, 1) := by decide +kernel
theorem dX1_over_6 : decode cX1_over 6 = .ok (.bipush 48, 2) := by decide +kernel
theorem dX1_over_8 : decode cX1_over 8 = .ok (.if_icmp .lt 5, 3) := by decide +kernel
theorem dX1_over_11 : decode cX1_over 11 = .ok (.lconst 0, 1) := by decide +kernel
theorem dX1_over_12 : decode cX1_over 12 = .ok (.lreturn, 1) := by decide +kernel
theorem dX1_over_13 : decode cX1_over 13 = .ok (.iload_n 2, 1) := by decide +kernel
theorem dX1_over_14 : decode cX1_over 14 = .ok (.iconst 1, 1) := by decide +kernel
theorem dX1_over_15 : decode cX1_over 15 = .ok (.ixor, 1) := by decide +kernel
theorem dX1_over_16 : decode cX1_over 16 = .ok (.istore_n 3, 1) := by decide +kernel
theorem dX1_over_17 : decode cX1_over 17 = .ok (.aload_n 0, 1) := by decide +kernel
theorem dX1_over_18 : decode cX1_over 18 = .ok (.getfield 9, 3) := by decide +kernel
theorem dX1_over_21 : decode cX1_over 21 = .ok (.iload_n 2, 1) := by decide +kernel
theorem dX1_over_22 : decode cX1_over 22 = .ok (.iaload, 1) := by decide +kernel
theorem dX1_over_23 : decode cX1_over 23 = .ok (.invokestatic 39, 3) := by decide +kernel
theorem dX1_over_26 : decode cX1_over 26 = .ok (.ifCond .eq 10, 3) := by decide +kernel
theorem dX1_over_29 : decode cX1_over 29 = .ok (.iload_n 2, 1) := by decide +kernel
theorem dX1_over_30 : decode cX1_over 30 = .ok (.invokestatic 50, 3) := by decide +kernel
theorem dX1_over_33 : decode cX1_over 33 = .ok (.goto 4, 3) := by decide +kernel
theorem dX1_over_36 : decode cX1_over 36 = .ok (.lconst 0, 1) := by decide +kernel
theorem dX1_over_37 : decode cX1_over 37 = .ok (.lstore 4, 2) := by decide +kernel
theorem dX1_over_39 : decode cX1_over 39 = .ok (.aload_n 0, 1) := by decide +kernel
theorem dX1_over_40 : decode cX1_over 40 = .ok (.getfield 9, 3) := by decide +kernel
theorem dX1_over_43 : decode cX1_over 43 = .ok (.iload_n 3, 1) := by decide +kernel
theorem dX1_over_44 : decode cX1_over 44 = .ok (.iaload, 1) := by decide +kernel
theorem dX1_over_45 : decode cX1_over 45 = .ok (.invokestatic 43, 3) := by decide +kernel
theorem dX1_over_48 : decode cX1_over 48 = .ok (.ifCond .eq 13, 3) := by decide +kernel
theorem dX1_over_51 : decode cX1_over 51 = .ok (.lload 4, 2) := by decide +kernel
theorem dX1_over_53 : decode cX1_over 53 = .ok (.iload_n 3, 1) := by decide +kernel
theorem dX1_over_54 : decode cX1_over 54 = .ok (.invokestatic 50, 3) := by decide +kernel
theorem dX1_over_57 : decode cX1_over 57 = .ok (.lor, 1) := by decide +kernel
theorem dX1_over_58 : decode cX1_over 58 = .ok (.goto 5, 3) := by decide +kernel
theorem dX1_over_61 : decode cX1_over 61 = .ok (.lload 4, 2) := by decide +kernel
theorem dX1_over_63 : decode cX1_over 63 = .ok (.lreturn, 1) := by decide +kernel
theorem dX2_init_0 : decode cX2_init 0 = .ok (.aload_n 0, 1) := by decide +kernel
theorem dX2_init_1 : decode cX2_init 1 = .ok (.invokespecial 3, 3) := by decide +kernel
theorem dX2_init_4 : decode cX2_init 4 = .ok (.aload_n 0, 1) := by decide +kernel
theorem dX2_init_5 : decode cX2_init 5 = .ok (.bipush 48, 2) := by decide +kernel
theorem dX2_init_7 : decode cX2_init 7 = .ok (.newarray .int, 2) := by decide +kernel
theorem dX2_init_9 : decode cX2_init 9 = .ok (.putfield 9, 3) := by decide +kernel
theorem dX2_init_12 : decode cX2_init 12 = .ok (.aload_n 0, 1) := by decide +kernel
theorem dX2_init_13 : decode cX2_init 13 = .ok (.iconst (-1), 1) := by decide +kernel
theorem dX2_init_14 : decode cX2_init 14 = .ok (.putfield 15, 3) := by decide +kernel
theorem dX2_init_17 : decode cX2_init 17 = .ok (.return_, 1) := by decide +kernel
theorem dX3_init_0 : decode cX3_init 0 = .ok (.aload_n 0, 1) := by decide +kernel
theorem dX3_init_1 : decode cX3_init 1 = .ok (.invokespecial 3, 3) := by decide +kernel
theorem dX3_init_4 : decode cX3_init 4 = .ok (.aload_n 0, 1) := by decide +kernel
theorem dX3_init_5 : decode cX3_init 5 = .ok (.sipush 160, 3) := by decide +kernel
theorem dX3_init_8 : decode cX3_init 8 = .ok (.newarray .int, 2) := by decide +kernel
theorem dX3_init_10 : decode cX3_init 10 = .ok (.putfield 9, 3) := by decide +kernel
theorem dX3_init_13 : decode cX3_init 13 = .ok (.return_, 1) := by decide +kernel
theorem dX3_add_0 : decode cX3_add 0 = .ok (.aload_n 0, 1) := by decide +kernel
theorem dX3_add_1 : decode cX3_add 1 = .ok (.getfield 15, 3) := by decide +kernel
theorem dX3_add_4 : decode cX3_add 4 = .ok (.sipush 160, 3) := by decide +kernel
theorem dX3_add_7 : decode cX3_add 7 = .ok (.if_icmp .ge 20, 3) := by decide +kernel
theorem dX3_add_10 : decode cX3_add 10 = .ok (.aload_n 0, 1) := by decide +kernel
theorem dX3_add_11 : decode cX3_add 11 = .ok (.getfield 9, 3) := by decide +kernel
theorem dX3_add_14 : decode cX3_add 14 = .ok (.aload_n 0, 1) := by decide +kernel
theorem dX3_add_15 : decode cX3_add 15 = .ok (.dup, 1) := by decide +kernel
theorem dX3_add_16 : decode cX3_add 16 = .ok (.getfield 15, 3) := by decide +kernel
theorem dX3_add_19 : decode cX3_add 19 = .ok (.dup_x1, 1) := by decide +kernel
theorem dX3_add_20 : decode cX3_add 20 = .ok (.iconst 1, 1) := by decide +kernel
theorem dX3_add_21 : decode cX3_add 21 = .ok (.iadd, 1) := by decide +kernel
theorem dX3_add_22 : decode cX3_add 22 = .ok (.putfield 15, 3) := by decide +kernel
theorem dX3_add_25 : decode cX3_add 25 = .ok (.iload_n 1, 1) := by decide +kernel
theorem dX3_add_26 : decode cX3_add 26 = .ok (.iastore, 1) := by decide +kernel
theorem dX3_add_27 : decode cX3_add 27 = .ok (.return_, 1) := by decide +kernel
theorem dX3_readInto_0 : decode cX3_readInto 0 = .ok (.aload_n 0, 1) := by decide +kernel
theorem dX3_readInto_1 : decode cX3_readInto 1 = .ok (.aload_n 1, 1) := by decide +kernel
theorem dX3_readInto_2 : decode cX3_readInto 2 = .ok (.putfield 19, 3) := by decide +kernel
theorem dX3_readInto_5 : decode cX3_readInto 5 = .ok (.aload_n 0, 1) := by decide +kernel
theorem dX3_readInto_6 : decode cX3_readInto 6 = .ok (.getfield 19, 3) := by decide +kernel
theorem dX3_readInto_9 : decode cX3_readInto 9 = .ok (.invokevirtual 23, 3) := by decide +kernel
theorem dX3_readInto_12 : decode cX3_readInto 12 = .ok (.aload_n 0, 1) := by decide +kernel
theorem dX3_readInto_13 : decode cX3_readInto 13 = .ok (.iconst 0, 1) := by decide +kernel
theorem dX3_readInto_14 : decode cX3_readInto 14 = .ok (.putfield 28, 3) := by decide +kernel
theorem dX3_readInto_17 : decode cX3_readInto 17 = .ok (.aload_n 0, 1) := by decide +kernel
theorem dX3_readInto_18 : decode cX3_readInto 18 = .ok (.invokevirtual 31, 3) := by decide +kernel
theorem dX3_readInto_21 : decode cX3_readInto 21 = .ok (.iconst 0, 1) := by decide +kernel
theorem dX3_readInto_22 : decode cX3_readInto 22 = .ok (.istore_n 2, 1) := by decide +kernel
theorem dX3_readInto_23 : decode cX3_readInto 23 = .ok (.iload_n 2, 1) := by decide +kernel
theorem dX3_readInto_24 : decode cX3_readInto 24 = .ok (.iconst 3, 1) := by decide +kernel
theorem dX3_readInto_25 : decode cX3_readInto 25 = .ok (.if_icmp .ge 65, 3) := by decide +kernel
theorem dX3_readInto_28 : decode cX3_readInto 28 = .ok (.aload_n 0, 1) := by decide +kernel
theorem dX3_readInto_29 : decode cX3_readInto 29 = .ok (.getfield 34, 3) := by decide +kernel
theorem dX3_readInto_32 : decode cX3_readInto 32 = .ok (.sipush 300, 3) := by decide +kernel
theorem dX3_readInto_35 : decode cX3_readInto 35 = .ok (.iload_n 2, 1) := by decide +kernel
theorem dX3_readInto_36 : decode cX3_readInto 36 = .ok (.iadd, 1) := by decide +kernel
theorem dX3_readInto_37 : decode cX3_readInto 37 = .ok (.if_icmp .eq 8, 3) := by decide +kernel
theorem dX3_readInto_40 : decode cX3_readInto 40 = .ok (.aload_n 0, 1) := by decide +kernel
theorem dX3_readInto_41 : decode cX3_readInto 41 = .ok (.getfield 37, 3) := by decide +kernel
theorem dX3_readInto_44 : decode cX3_readInto 44 = .ok (.ireturn, 1) := by decide +kernel
theorem dX3_readInto_45 : decode cX3_readInto 45 = .ok (.aload_n 0, 1) := by decide +kernel
theorem dX3_readInto_46 : decode cX3_readInto 46 = .ok (.invokevirtual 31, 3) := by decide +kernel
theorem dX3_readInto_49 : decode cX3_readInto 49 = .ok (.aload_n 0, 1) := by decide +kernel
theorem dX3_readInto_50 : decode cX3_readInto 50 = .ok (.iconst 0, 1) := by decide +kernel
theorem dX3_readInto_51 : decode cX3_readInto 51 = .ok (.iconst 0, 1) := by decide +kernel
theorem dX3_readInto_52 : decode cX3_readInto 52 = .ok (.invokevirtual 40, 3) := by decide +kernel
theorem dX3_readInto_55 : decode cX3_readInto 55 = .ok (.ifCond .eq 12, 3) := by decide +kernel
theorem dX3_readInto_58 : decode cX3_readInto 58 = .ok (.aload_n 0, 1) := by decide +kernel
theorem dX3_readInto_59 : decode cX3_readInto 59 = .ok (.getfield 34, 3) := by decide +kernel
theorem dX3_readInto_62 : decode cX3_readInto 62 = .ok (.bipush 59, 2) := by decide +kernel
theorem dX3_readInto_64 : decode cX3_readInto 64 = .ok (.if_icmp .eq 8, 3) := by decide +kernel
theorem dX3_readInto_67 : decode cX3_readInto 67 = .ok (.aload_n 0, 1) := by decide +kernel
theorem dX3_readInto_68 : decode cX3_readInto 68 = .ok (.getfield 37, 3) := by decide +kernel
theorem dX3_readInto_71 : decode cX3_readInto 71 = .ok (.ireturn, 1) := by decide +kernel
theorem dX3_readInto_72 : decode cX3_readInto 72 = .ok (.aload_n 0, 1) := by decide +kernel
theorem dX3_readInto_73 : decode cX3_readInto 73 = .ok (.getfield 19, 3) := by decide +kernel
theorem dX3_readInto_76 : decode cX3_readInto 76 = .ok (.iload_n 2, 1) := by decide +kernel
theorem dX3_readInto_77 : decode cX3_readInto 77 = .ok (.invokevirtual 44, 3) := by decide +kernel
theorem dX3_readInto_80 : decode cX3_readInto 80 = .ok (.aload_n 0, 1) := by decide +kernel
theorem dX3_readInto_81 : decode cX3_readInto 81 = .ok (.invokevirtual 31, 3) := by decide +kernel
theorem dX3_readInto_84 : decode cX3_readInto 84 = .ok (.iinc 2 1, 3) := by decide +kernel
theorem dX3_readInto_87 : decode cX3_readInto 87 = .ok (.goto (-64), 3) := by decide +kernel
theorem dX3_readInto_90 : decode cX3_readInto 90 = .ok (.aload_n 0, 1) := by decide +kernel
theorem dX3_readInto_91 : decode cX3_readInto 91 = .ok (.getfield 34, 3) := by decide +kernel
theorem dX3_readInto_94 : decode cX3_readInto 94 = .ok (.ifCond .ne 7, 3) := by decide +kernel
theorem dX3_readInto_97 : decode cX3_readInto 97 = .ok (.iconst (-1), 1) := by decide +kernel
theorem dX3_readInto_98 : decode cX3_readInto 98 = .ok (.goto 7, 3) := by decide +kernel
theorem dX3_readInto_101 : decode cX3_readInto 101 = .ok (.aload_n 0, 1) := by decide +kernel
theorem dX3_readInto_102 : decode cX3_readInto 102 = .ok (.getfield 37, 3) := by decide +kernel
theorem dX3_readInto_105 : decode cX3_readInto 105 = .ok (.ireturn, 1) := by decide +kernel
theorem dX3_chain_0 : decode cX3_chain 0 = .ok (.iload_n 1, 1) := by decide +kernel
theorem dX3_chain_1 : decode cX3_chain 1 = .ok (.iconst 5, 1) := by decide +kernel
theorem dX3_chain_2 : decode cX3_chain 2 = .ok (.if_icmp .lt 9, 3) := by decide +kernel
theorem dX3_chain_5 : decode cX3_chain 5 = .ok (.aload_n 0, 1) := by decide +kernel
theorem dX3_chain_6 : decode cX3_chain 6 = .ok (.iload_n 2, 1) := by decide +kernel
theorem dX3_chain_7 : decode cX3_chain 7 = .ok (.invokevirtual 48, 3) := by decide +kernel
theorem dX3_chain_10 : decode cX3_chain 10 = .ok (.ireturn, 1) := by decide +kernel
theorem dX3_chain_11 : decode cX3_chain 11 = .ok (.iload_n 1, 1) := by decide +kernel
theorem dX3_chain_12 : decode cX3_chain 12 = .ok (.iconst 2, 1) := by decide +kernel
theorem dX3_chain_13 : decode cX3_chain 13 = .ok (.if_icmp .ne 19, 3) := by decide +kernel
theorem dX3_chain_16 : decode cX3_chain 16 = .ok (.aload_n 0, 1) := by decide +kernel
theorem dX3_chain_17 : decode cX3_chain 17 = .ok (.getfield 34, 3) := by decide +kernel
theorem dX3_chain_20 : decode cX3_chain 20 = .ok (.sipush 305, 3) := by decide +kernel
theorem dX3_chain_23 : decode cX3_chain 23 = .ok (.if_icmp .ne 9, 3) := by decide +kernel
theorem dX3_chain_26 : decode cX3_chain 26 = .ok (.aload_n 0, 1) := by decide +kernel
theorem dX3_chain_27 : decode cX3_chain 27 = .ok (.iload_n 2, 1) := by decide +kernel
theorem dX3_chain_28 : decode cX3_chain 28 = .ok (.invokevirtual 52, 3) := by decide +kernel
theorem dX3_chain_31 : decode cX3_chain 31 = .ok (.ireturn, 1) := by decide +kernel
theorem dX3_chain_32 : decode cX3_chain 32 = .ok (.aload_n 0, 1) := by decide +kernel
theorem dX3_chain_33 : decode cX3_chain 33 = .ok (.iload_n 1, 1) := by decide +kernel
theorem dX3_chain_34 : decode cX3_chain 34 = .ok (.iconst 1, 1) := by decide +kernel
theorem dX3_chain_35 : decode cX3_chain 35 = .ok (.iadd, 1) := by decide +kernel
theorem dX3_chain_36 : decode cX3_chain 36 = .ok (.iload_n 2, 1) := by decide +kernel
theorem dX3_chain_37 : decode cX3_chain 37 = .ok (.invokevirtual 40, 3) := by decide +kernel
theorem dX3_chain_40 : decode cX3_chain 40 = .ok (.ifCond .ne 5, 3) := by decide +kernel
theorem dX3_chain_43 : decode cX3_chain 43 = .ok (.iconst 0, 1) := by decide +kernel
theorem dX3_chain_44 : decode cX3_chain 44 = .ok (.ireturn, 1) := by decide +kernel
theorem dX3_chain_45 : decode cX3_chain 45 = .ok (.iload_n 1, 1) := by decide +kernel
theorem dX3_chain_46 : decode cX3_chain 46 = .ok (.iconst 2, 1) := by decide +kernel
theorem dX3_chain_47 : decode cX3_chain 47 = .ok (.if_icmp .ne 7, 3) := by decide +kernel
theorem dX3_chain_50 : decode cX3_chain 50 = .ok (.iconst 1, 1) := by decide +kernel
theorem dX3_chain_51 : decode cX3_chain 51 = .ok (.goto 6, 3) := by decide +kernel
theorem dX3_chain_54 : decode cX3_chain 54 = .ok (.sipush 160, 3) := by decide +kernel
theorem dX3_chain_57 : decode cX3_chain 57 = .ok (.istore_n 3, 1) := by decide +kernel
theorem dX3_chain_58 : decode cX3_chain 58 = .ok (.iconst 0, 1) := by decide +kernel
theorem dX3_chain_59 : decode cX3_chain 59 = .ok (.istore 4, 2) := by decide +kernel
theorem dX3_chain_61 : decode cX3_chain 61 = .ok (.iload 4, 2) := by decide +kernel
theorem dX3_chain_63 : decode cX3_chain 63 = .ok (.iload_n 3, 1) := by decide +kernel
theorem dX3_chain_64 : decode cX3_chain 64 = .ok (.if_icmp .ge 53, 3) := by decide +kernel
theorem dX3_chain_67 : decode cX3_chain 67 = .ok (.iload_n 1, 1) := by decide +kernel
theorem dX3_chain_68 : decode cX3_chain 68 = .ok (.aload_n 0, 1) := by decide +kernel
theorem dX3_chain_69 : decode cX3_chain 69 = .ok (.getfield 34, 3) := by decide +kernel
theorem dX3_chain_72 : decode cX3_chain 72 = .ok (.invokestatic 55, 3) := by decide +kernel
theorem dX3_chain_75 : decode cX3_chain 75 = .ok (.ifCond .eq 42, 3) := by decide +kernel
theorem dX3_chain_78 : decode cX3_chain 78 = .ok (.aload_n 0, 1) := by decide +kernel
theorem dX3_chain_79 : decode cX3_chain 79 = .ok (.getfield 34, 3) := by decide +kernel
theorem dX3_chain_82 : decode cX3_chain 82 = .ok (.istore 5, 2) := by decide +kernel
theorem dX3_chain_84 : decode cX3_chain 84 = .ok (.aload_n 0, 1) := by decide +kernel
theorem dX3_chain_85 : decode cX3_chain 85 = .ok (.invokevirtual 31, 3) := by decide +kernel
theorem dX3_chain_88 : decode cX3_chain 88 = .ok (.aload_n 0, 1) := by decide +kernel
theorem dX3_chain_89 : decode cX3_chain 89 = .ok (.iload_n 1, 1) := by decide +kernel
theorem dX3_chain_90 : decode cX3_chain 90 = .ok (.iconst 1, 1) := by decide +kernel
theorem dX3_chain_91 : decode cX3_chain 91 = .ok (.iadd, 1) := by decide +kernel
theorem dX3_chain_92 : decode cX3_chain 92 = .ok (.iload_n 2, 1) := by decide +kernel
theorem dX3_chain_93 : decode cX3_chain 93 = .ok (.invokevirtual 40, 3) := by decide +kernel
theorem dX3_chain_96 : decode cX3_chain 96 = .ok (.ifCond .ne 5, 3) := by decide +kernel
theorem dX3_chain_99 : decode cX3_chain 99 = .ok (.iconst 0, 1) := by decide +kernel
theorem dX3_chain_100 : decode cX3_chain 100 = .ok (.ireturn, 1) := by decide +kernel
theorem dX3_chain_101 : decode cX3_chain 101 = .ok (.aload_n 0, 1) := by decide +kernel
theorem dX3_chain_102 : decode cX3_chain 102 = .ok (.getfield 19, 3) := by decide +kernel
theorem dX3_chain_105 : decode cX3_chain 105 = .ok (.iload 5, 2) := by decide +kernel
theorem dX3_chain_107 : decode cX3_chain 107 = .ok (.ineg, 1) := by decide +kernel
theorem dX3_chain_108 : decode cX3_chain 108 = .ok (.invokevirtual 58, 3) := by decide +kernel
theorem dX3_chain_111 : decode cX3_chain 111 = .ok (.iinc 4 1, 3) := by decide +kernel
theorem dX3_chain_114 : decode cX3_chain 114 = .ok (.goto (-53), 3) := by decide +kernel
theorem dX3_chain_117 : decode cX3_chain 117 = .ok (.iconst 1, 1) := by decide +kernel
theorem dX3_chain_118 : decode cX3_chain 118 = .ok (.ireturn, 1) := by decide +kernel
theorem dX3_joins_0 : decode cX3_joins 0 = .ok (.iload_n 0, 1) := by decide +kernel
theorem dX3_joins_1 : decode cX3_joins 1 = .ok (.tableswitch 93 0 3 #[31, 44, 57, 75], 31) := by decide +kernel
theorem dX3_joins_32 : decode cX3_joins 32 = .ok (.iload_n 1, 1) := by decide +kernel
theorem dX3_joins_33 : decode cX3_joins 33 = .ok (.sipush 303, 3) := by decide +kernel
theorem dX3_joins_36 : decode cX3_joins 36 = .ok (.if_icmp .ne 7, 3) := by decide +kernel
theorem dX3_joins_39 : decode cX3_joins 39 = .ok (.iconst 1, 1) := by decide +kernel
theorem dX3_joins_40 : decode cX3_joins 40 = .ok (.goto 4, 3) := by decide +kernel
theorem dX3_joins_43 : decode cX3_joins 43 = .ok (.iconst 0, 1) := by decide +kernel
theorem dX3_joins_44 : decode cX3_joins 44 = .ok (.ireturn, 1) := by decide +kernel
theorem dX3_joins_45 : decode cX3_joins 45 = .ok (.iload_n 1, 1) := by decide +kernel
theorem dX3_joins_46 : decode cX3_joins 46 = .ok (.sipush 304, 3) := by decide +kernel
theorem dX3_joins_49 : decode cX3_joins 49 = .ok (.if_icmp .ne 7, 3) := by decide +kernel
theorem dX3_joins_52 : decode cX3_joins 52 = .ok (.iconst 1, 1) := by decide +kernel
theorem dX3_joins_53 : decode cX3_joins 53 = .ok (.goto 4, 3) := by decide +kernel
theorem dX3_joins_56 : decode cX3_joins 56 = .ok (.iconst 0, 1) := by decide +kernel
theorem dX3_joins_57 : decode cX3_joins 57 = .ok (.ireturn, 1) := by decide +kernel
theorem dX3_joins_58 : decode cX3_joins 58 = .ok (.iload_n 1, 1) := by decide +kernel
theorem dX3_joins_59 : decode cX3_joins 59 = .ok (.bipush 60, 2) := by decide +kernel
theorem dX3_joins_61 : decode cX3_joins 61 = .ok (.if_icmp .eq 9, 3) := by decide +kernel
theorem dX3_joins_64 : decode cX3_joins 64 = .ok (.iload_n 1, 1) := by decide +kernel
theorem dX3_joins_65 : decode cX3_joins 65 = .ok (.bipush 61, 2) := by decide +kernel
theorem dX3_joins_67 : decode cX3_joins 67 = .ok (.if_icmp .ne 7, 3) := by decide +kernel
theorem dX3_joins_70 : decode cX3_joins 70 = .ok (.iconst 1, 1) := by decide +kernel
theorem dX3_joins_71 : decode cX3_joins 71 = .ok (.goto 4, 3) := by decide +kernel
theorem dX3_joins_74 : decode cX3_joins 74 = .ok (.iconst 0, 1) := by decide +kernel
theorem dX3_joins_75 : decode cX3_joins 75 = .ok (.ireturn, 1) := by decide +kernel
theorem dX3_joins_76 : decode cX3_joins 76 = .ok (.iload_n 1, 1) := by decide +kernel
theorem dX3_joins_77 : decode cX3_joins 77 = .ok (.bipush 43, 2) := by decide +kernel
theorem dX3_joins_79 : decode cX3_joins 79 = .ok (.if_icmp .eq 9, 3) := by decide +kernel
theorem dX3_joins_82 : decode cX3_joins 82 = .ok (.iload_n 1, 1) := by decide +kernel
theorem dX3_joins_83 : decode cX3_joins 83 = .ok (.bipush 45, 2) := by decide +kernel
theorem dX3_joins_85 : decode cX3_joins 85 = .ok (.if_icmp .ne 7, 3) := by decide +kernel
theorem dX3_joins_88 : decode cX3_joins 88 = .ok (.iconst 1, 1) := by decide +kernel
theorem dX3_joins_89 : decode cX3_joins 89 = .ok (.goto 4, 3) := by decide +kernel
theorem dX3_joins_92 : decode cX3_joins 92 = .ok (.iconst 0, 1) := by decide +kernel
theorem dX3_joins_93 : decode cX3_joins 93 = .ok (.ireturn, 1) := by decide +kernel
theorem dX3_joins_94 : decode cX3_joins 94 = .ok (.iload_n 1, 1) := by decide +kernel
theorem dX3_joins_95 : decode cX3_joins 95 = .ok (.bipush 42, 2) := by decide +kernel
theorem dX3_joins_97 : decode cX3_joins 97 = .ok (.if_icmp .ne 7, 3) := by decide +kernel
theorem dX3_joins_100 : decode cX3_joins 100 = .ok (.iconst 1, 1) := by decide +kernel
theorem dX3_joins_101 : decode cX3_joins 101 = .ok (.goto 4, 3) := by decide +kernel
theorem dX3_joins_104 : decode cX3_joins 104 = .ok (.iconst 0, 1) := by decide +kernel
theorem dX3_joins_105 : decode cX3_joins 105 = .ok (.ireturn, 1) := by decide +kernel
theorem dX3_negation_0 : decode cX3_negation 0 = .ok (.iload_n 1, 1) := by decide +kernel
theorem dX3_negation_1 : decode cX3_negation 1 = .ok (.iconst 5, 1) := by decide +kernel
theorem dX3_negation_2 : decode cX3_negation 2 = .ok (.if_icmp .lt 5, 3) := by decide +kernel
theorem dX3_negation_5 : decode cX3_negation 5 = .ok (.iconst 0, 1) := by decide +kernel
theorem dX3_negation_6 : decode cX3_negation 6 = .ok (.ireturn, 1) := by decide +kernel
theorem dX3_negation_7 : decode cX3_negation 7 = .ok (.aload_n 0, 1) := by decide +kernel
theorem dX3_negation_8 : decode cX3_negation 8 = .ok (.invokevirtual 31, 3) := by decide +kernel
theorem dX3_negation_11 : decode cX3_negation 11 = .ok (.aload_n 0, 1) := by decide +kernel
theorem dX3_negation_12 : decode cX3_negation 12 = .ok (.iconst 2, 1) := by decide +kernel
theorem dX3_negation_13 : decode cX3_negation 13 = .ok (.iload_n 1, 1) := by decide +kernel
theorem dX3_negation_14 : decode cX3_negation 14 = .ok (.iconst 1, 1) := by decide +kernel
theorem dX3_negation_15 : decode cX3_negation 15 = .ok (.iadd, 1) := by decide +kernel
theorem dX3_negation_16 : decode cX3_negation 16 = .ok (.invokevirtual 40, 3) := by decide +kernel
theorem dX3_negation_19 : decode cX3_negation 19 = .ok (.ifCond .ne 5, 3) := by decide +kernel
theorem dX3_negation_22 : decode cX3_negation 22 = .ok (.iconst 0, 1) := by decide +kernel
theorem dX3_negation_23 : decode cX3_negation 23 = .ok (.ireturn, 1) := by decide +kernel
theorem dX3_negation_24 : decode cX3_negation 24 = .ok (.aload_n 0, 1) := by decide +kernel
theorem dX3_negation_25 : decode cX3_negation 25 = .ok (.getfield 19, 3) := by decide +kernel
theorem dX3_negation_28 : decode cX3_negation 28 = .ok (.sipush (-305), 3) := by decide +kernel
theorem dX3_negation_31 : decode cX3_negation 31 = .ok (.invokevirtual 58, 3) := by decide +kernel
theorem dX3_negation_34 : decode cX3_negation 34 = .ok (.iconst 1, 1) := by decide +kernel
theorem dX3_negation_35 : decode cX3_negation 35 = .ok (.ireturn, 1) := by decide +kernel
theorem dX3_one_0 : decode cX3_one 0 = .ok (.aload_n 0, 1) := by decide +kernel
theorem dX3_one_1 : decode cX3_one 1 = .ok (.getfield 34, 3) := by decide +kernel
theorem dX3_one_4 : decode cX3_one 4 = .ok (.iconst 2, 1) := by decide +kernel
theorem dX3_one_5 : decode cX3_one 5 = .ok (.if_icmp .ne 17, 3) := by decide +kernel
theorem dX3_one_8 : decode cX3_one 8 = .ok (.aload_n 0, 1) := by decide +kernel
theorem dX3_one_9 : decode cX3_one 9 = .ok (.getfield 19, 3) := by decide +kernel
theorem dX3_one_12 : decode cX3_one 12 = .ok (.aload_n 0, 1) := by decide +kernel
theorem dX3_one_13 : decode cX3_one 13 = .ok (.getfield 61, 3) := by decide +kernel
theorem dX3_one_16 : decode cX3_one 16 = .ok (.invokevirtual 58, 3) := by decide +kernel
theorem dX3_one_19 : decode cX3_one 19 = .ok (.goto 73, 3) := by decide +kernel
theorem dX3_one_22 : decode cX3_one 22 = .ok (.aload_n 0, 1) := by decide +kernel
theorem dX3_one_23 : decode cX3_one 23 = .ok (.getfield 34, 3) := by decide +kernel
theorem dX3_one_26 : decode cX3_one 26 = .ok (.sipush 306, 3) := by decide +kernel
theorem dX3_one_29 : decode cX3_one 29 = .ok (.sipush 311, 3) := by decide +kernel
theorem dX3_one_32 : decode cX3_one 32 = .ok (.invokestatic 64, 3) := by decide +kernel
theorem dX3_one_35 : decode cX3_one 35 = .ok (.ifCond .eq 18, 3) := by decide +kernel
theorem dX3_one_38 : decode cX3_one 38 = .ok (.aload_n 0, 1) := by decide +kernel
theorem dX3_one_39 : decode cX3_one 39 = .ok (.getfield 19, 3) := by decide +kernel
theorem dX3_one_42 : decode cX3_one 42 = .ok (.aload_n 0, 1) := by decide +kernel
theorem dX3_one_43 : decode cX3_one 43 = .ok (.getfield 34, 3) := by decide +kernel
theorem dX3_one_46 : decode cX3_one 46 = .ok (.ineg, 1) := by decide +kernel
theorem dX3_one_47 : decode cX3_one 47 = .ok (.invokevirtual 58, 3) := by decide +kernel
theorem dX3_one_50 : decode cX3_one 50 = .ok (.goto 42, 3) := by decide +kernel
theorem dX3_one_53 : decode cX3_one 53 = .ok (.aload_n 0, 1) := by decide +kernel
theorem dX3_one_54 : decode cX3_one 54 = .ok (.getfield 34, 3) := by decide +kernel
theorem dX3_one_57 : decode cX3_one 57 = .ok (.bipush 45, 2) := by decide +kernel
theorem dX3_one_59 : decode cX3_one 59 = .ok (.if_icmp .eq 12, 3) := by decide +kernel
theorem dX3_one_62 : decode cX3_one 62 = .ok (.aload_n 0, 1) := by decide +kernel
theorem dX3_one_63 : decode cX3_one 63 = .ok (.getfield 34, 3) := by decide +kernel
theorem dX3_one_66 : decode cX3_one 66 = .ok (.bipush 40, 2) := by decide +kernel
theorem dX3_one_68 : decode cX3_one 68 = .ok (.if_icmp .ne 22, 3) := by decide +kernel
theorem dX3_one_71 : decode cX3_one 71 = .ok (.iload_n 1, 1) := by decide +kernel
theorem dX3_one_72 : decode cX3_one 72 = .ok (.iconst 5, 1) := by decide +kernel
theorem dX3_one_73 : decode cX3_one 73 = .ok (.if_icmp .ge 17, 3) := by decide +kernel
theorem dX3_one_76 : decode cX3_one 76 = .ok (.aload_n 0, 1) := by decide +kernel
theorem dX3_one_77 : decode cX3_one 77 = .ok (.iload_n 1, 1) := by decide +kernel
theorem dX3_one_78 : decode cX3_one 78 = .ok (.iconst 1, 1) := by decide +kernel
theorem dX3_one_79 : decode cX3_one 79 = .ok (.iadd, 1) := by decide +kernel
theorem dX3_one_80 : decode cX3_one 80 = .ok (.invokevirtual 68, 3) := by decide +kernel
theorem dX3_one_83 : decode cX3_one 83 = .ok (.ifCond .eq 7, 3) := by decide +kernel
theorem dX3_one_86 : decode cX3_one 86 = .ok (.iconst 1, 1) := by decide +kernel
theorem dX3_one_87 : decode cX3_one 87 = .ok (.goto 4, 3) := by decide +kernel
theorem dX3_one_90 : decode cX3_one 90 = .ok (.iconst 0, 1) := by decide +kernel
theorem dX3_one_91 : decode cX3_one 91 = .ok (.ireturn, 1) := by decide +kernel
theorem dX3_one_92 : decode cX3_one 92 = .ok (.aload_n 0, 1) := by decide +kernel
theorem dX3_one_93 : decode cX3_one 93 = .ok (.invokevirtual 31, 3) := by decide +kernel
theorem dX3_one_96 : decode cX3_one 96 = .ok (.iconst 1, 1) := by decide +kernel
theorem dX3_one_97 : decode cX3_one 97 = .ok (.ireturn, 1) := by decide +kernel
theorem dX3_opened_0 : decode cX3_opened 0 = .ok (.aload_n 0, 1) := by decide +kernel
theorem dX3_opened_1 : decode cX3_opened 1 = .ok (.getfield 34, 3) := by decide +kernel
theorem dX3_opened_4 : decode cX3_opened 4 = .ok (.bipush 45, 2) := by decide +kernel
theorem dX3_opened_6 : decode cX3_opened 6 = .ok (.if_icmp .ne 7, 3) := by decide +kernel
theorem dX3_opened_9 : decode cX3_opened 9 = .ok (.iconst 1, 1) := by decide +kernel
theorem dX3_opened_10 : decode cX3_opened 10 = .ok (.goto 4, 3) := by decide +kernel
theorem dX3_opened_13 : decode cX3_opened 13 = .ok (.iconst 0, 1) := by decide +kernel
theorem dX3_opened_14 : decode cX3_opened 14 = .ok (.istore_n 2, 1) := by decide +kernel
theorem dX3_opened_15 : decode cX3_opened 15 = .ok (.aload_n 0, 1) := by decide +kernel
theorem dX3_opened_16 : decode cX3_opened 16 = .ok (.invokevirtual 31, 3) := by decide +kernel
theorem dX3_opened_19 : decode cX3_opened 19 = .ok (.iload_n 2, 1) := by decide +kernel
theorem dX3_opened_20 : decode cX3_opened 20 = .ok (.ifCond .eq 24, 3) := by decide +kernel
theorem dX3_opened_23 : decode cX3_opened 23 = .ok (.aload_n 0, 1) := by decide +kernel
theorem dX3_opened_24 : decode cX3_opened 24 = .ok (.iload_n 1, 1) := by decide +kernel
theorem dX3_opened_25 : decode cX3_opened 25 = .ok (.invokevirtual 48, 3) := by decide +kernel
theorem dX3_opened_28 : decode cX3_opened 28 = .ok (.ifCond .ne 5, 3) := by decide +kernel
theorem dX3_opened_31 : decode cX3_opened 31 = .ok (.iconst 0, 1) := by decide +kernel
theorem dX3_opened_32 : decode cX3_opened 32 = .ok (.ireturn, 1) := by decide +kernel
theorem dX3_opened_33 : decode cX3_opened 33 = .ok (.aload_n 0, 1) := by decide +kernel
theorem dX3_opened_34 : decode cX3_opened 34 = .ok (.getfield 19, 3) := by decide +kernel
theorem dX3_opened_37 : decode cX3_opened 37 = .ok (.bipush (-3), 2) := by decide +kernel
theorem dX3_opened_39 : decode cX3_opened 39 = .ok (.invokevirtual 58, 3) := by decide +kernel
theorem dX3_opened_42 : decode cX3_opened 42 = .ok (.iconst 1, 1) := by decide +kernel
theorem dX3_opened_43 : decode cX3_opened 43 = .ok (.ireturn, 1) := by decide +kernel
theorem dX3_opened_44 : decode cX3_opened 44 = .ok (.aload_n 0, 1) := by decide +kernel
theorem dX3_opened_45 : decode cX3_opened 45 = .ok (.iconst 0, 1) := by decide +kernel
theorem dX3_opened_46 : decode cX3_opened 46 = .ok (.iload_n 1, 1) := by decide +kernel
theorem dX3_opened_47 : decode cX3_opened 47 = .ok (.invokevirtual 40, 3) := by decide +kernel
theorem dX3_opened_50 : decode cX3_opened 50 = .ok (.ifCond .eq 12, 3) := by decide +kernel
theorem dX3_opened_53 : decode cX3_opened 53 = .ok (.aload_n 0, 1) := by decide +kernel
theorem dX3_opened_54 : decode cX3_opened 54 = .ok (.getfield 34, 3) := by decide +kernel
theorem dX3_opened_57 : decode cX3_opened 57 = .ok (.bipush 41, 2) := by decide +kernel
theorem dX3_opened_59 : decode cX3_opened 59 = .ok (.if_icmp .eq 5, 3) := by decide +kernel
theorem dX3_opened_62 : decode cX3_opened 62 = .ok (.iconst 0, 1) := by decide +kernel
theorem dX3_opened_63 : decode cX3_opened 63 = .ok (.ireturn, 1) := by decide +kernel
theorem dX3_opened_64 : decode cX3_opened 64 = .ok (.aload_n 0, 1) := by decide +kernel
theorem dX3_opened_65 : decode cX3_opened 65 = .ok (.invokevirtual 31, 3) := by decide +kernel
theorem dX3_opened_68 : decode cX3_opened 68 = .ok (.iconst 1, 1) := by decide +kernel
theorem dX3_opened_69 : decode cX3_opened 69 = .ok (.ireturn, 1) := by decide +kernel
theorem dX3_advance_0 : decode cX3_advance 0 = .ok (.aload_n 0, 1) := by decide +kernel
theorem dX3_advance_1 : decode cX3_advance 1 = .ok (.getfield 28, 3) := by decide +kernel
theorem dX3_advance_4 : decode cX3_advance 4 = .ok (.istore_n 1, 1) := by decide +kernel
theorem dX3_advance_5 : decode cX3_advance 5 = .ok (.iload_n 1, 1) := by decide +kernel
theorem dX3_advance_6 : decode cX3_advance 6 = .ok (.aload_n 0, 1) := by decide +kernel
theorem dX3_advance_7 : decode cX3_advance 7 = .ok (.getfield 15, 3) := by decide +kernel
theorem dX3_advance_10 : decode cX3_advance 10 = .ok (.if_icmp .ge 31, 3) := by decide +kernel
theorem dX3_advance_13 : decode cX3_advance 13 = .ok (.aload_n 0, 1) := by decide +kernel
theorem dX3_advance_14 : decode cX3_advance 14 = .ok (.getfield 9, 3) := by decide +kernel
theorem dX3_advance_17 : decode cX3_advance 17 = .ok (.iload_n 1, 1) := by decide +kernel
theorem dX3_advance_18 : decode cX3_advance 18 = .ok (.iaload, 1) := by decide +kernel
theorem dX3_advance_19 : decode cX3_advance 19 = .ok (.bipush 32, 2) := by decide +kernel
theorem dX3_advance_21 : decode cX3_advance 21 = .ok (.if_icmp .eq 14, 3) := by decide +kernel
theorem dX3_advance_24 : decode cX3_advance 24 = .ok (.aload_n 0, 1) := by decide +kernel
theorem dX3_advance_25 : decode cX3_advance 25 = .ok (.getfield 9, 3) := by decide +kernel
theorem dX3_advance_28 : decode cX3_advance 28 = .ok (.iload_n 1, 1) := by decide +kernel
theorem dX3_advance_29 : decode cX3_advance 29 = .ok (.iaload, 1) := by decide +kernel
theorem dX3_advance_30 : decode cX3_advance 30 = .ok (.bipush 10, 2) := by decide +kernel
theorem dX3_advance_32 : decode cX3_advance 32 = .ok (.if_icmp .ne 9, 3) := by decide +kernel
theorem dX3_advance_35 : decode cX3_advance 35 = .ok (.iinc 1 1, 3) := by decide +kernel
theorem dX3_advance_38 : decode cX3_advance 38 = .ok (.goto (-33), 3) := by decide +kernel
theorem dX3_advance_41 : decode cX3_advance 41 = .ok (.aload_n 0, 1) := by decide +kernel
theorem dX3_advance_42 : decode cX3_advance 42 = .ok (.iload_n 1, 1) := by decide +kernel
theorem dX3_advance_43 : decode cX3_advance 43 = .ok (.putfield 37, 3) := by decide +kernel
theorem dX3_advance_46 : decode cX3_advance 46 = .ok (.iload_n 1, 1) := by decide +kernel
theorem dX3_advance_47 : decode cX3_advance 47 = .ok (.aload_n 0, 1) := by decide +kernel
theorem dX3_advance_48 : decode cX3_advance 48 = .ok (.getfield 15, 3) := by decide +kernel
theorem dX3_advance_51 : decode cX3_advance 51 = .ok (.if_icmp .lt 11, 3) := by decide +kernel
theorem dX3_advance_54 : decode cX3_advance 54 = .ok (.aload_n 0, 1) := by decide +kernel
theorem dX3_advance_55 : decode cX3_advance 55 = .ok (.iconst 0, 1) := by decide +kernel
theorem dX3_advance_56 : decode cX3_advance 56 = .ok (.putfield 34, 3) := by decide +kernel
theorem dX3_advance_59 : decode cX3_advance 59 = .ok (.goto 168, 3) := by decide +kernel
theorem dX3_advance_62 : decode cX3_advance 62 = .ok (.aload_n 0, 1) := by decide +kernel
theorem dX3_advance_63 : decode cX3_advance 63 = .ok (.getfield 9, 3) := by decide +kernel
theorem dX3_advance_66 : decode cX3_advance 66 = .ok (.iload_n 1, 1) := by decide +kernel
theorem dX3_advance_67 : decode cX3_advance 67 = .ok (.iaload, 1) := by decide +kernel
theorem dX3_advance_68 : decode cX3_advance 68 = .ok (.invokestatic 71, 3) := by decide +kernel
theorem dX3_advance_71 : decode cX3_advance 71 = .ok (.ifCond .eq 41, 3) := by decide +kernel
theorem dX3_advance_74 : decode cX3_advance 74 = .ok (.iload_n 1, 1) := by decide +kernel
theorem dX3_advance_75 : decode cX3_advance 75 = .ok (.aload_n 0, 1) := by decide +kernel
theorem dX3_advance_76 : decode cX3_advance 76 = .ok (.getfield 15, 3) := by decide +kernel
theorem dX3_advance_79 : decode cX3_advance 79 = .ok (.if_icmp .ge 21, 3) := by decide +kernel
theorem dX3_advance_82 : decode cX3_advance 82 = .ok (.aload_n 0, 1) := by decide +kernel
theorem dX3_advance_83 : decode cX3_advance 83 = .ok (.getfield 9, 3) := by decide +kernel
theorem dX3_advance_86 : decode cX3_advance 86 = .ok (.iload_n 1, 1) := by decide +kernel
theorem dX3_advance_87 : decode cX3_advance 87 = .ok (.iaload, 1) := by decide +kernel
theorem dX3_advance_88 : decode cX3_advance 88 = .ok (.invokestatic 71, 3) := by decide +kernel
theorem dX3_advance_91 : decode cX3_advance 91 = .ok (.ifCond .eq 9, 3) := by decide +kernel
theorem dX3_advance_94 : decode cX3_advance 94 = .ok (.iinc 1 1, 3) := by decide +kernel
theorem dX3_advance_97 : decode cX3_advance 97 = .ok (.goto (-23), 3) := by decide +kernel
theorem dX3_advance_100 : decode cX3_advance 100 = .ok (.aload_n 0, 1) := by decide +kernel
theorem dX3_advance_101 : decode cX3_advance 101 = .ok (.aload_n 0, 1) := by decide +kernel
theorem dX3_advance_102 : decode cX3_advance 102 = .ok (.iload_n 1, 1) := by decide +kernel
theorem dX3_advance_103 : decode cX3_advance 103 = .ok (.invokevirtual 74, 3) := by decide +kernel
theorem dX3_advance_106 : decode cX3_advance 106 = .ok (.putfield 34, 3) := by decide +kernel
theorem dX3_advance_109 : decode cX3_advance 109 = .ok (.goto 118, 3) := by decide +kernel
theorem dX3_advance_112 : decode cX3_advance 112 = .ok (.aload_n 0, 1) := by decide +kernel
theorem dX3_advance_113 : decode cX3_advance 113 = .ok (.getfield 9, 3) := by decide +kernel
theorem dX3_advance_116 : decode cX3_advance 116 = .ok (.iload_n 1, 1) := by decide +kernel
theorem dX3_advance_117 : decode cX3_advance 117 = .ok (.iaload, 1) := by decide +kernel
theorem dX3_advance_118 : decode cX3_advance 118 = .ok (.invokestatic 78, 3) := by decide +kernel
theorem dX3_advance_121 : decode cX3_advance 121 = .ok (.ifCond .eq 77, 3) := by decide +kernel
theorem dX3_advance_124 : decode cX3_advance 124 = .ok (.aload_n 0, 1) := by decide +kernel
theorem dX3_advance_125 : decode cX3_advance 125 = .ok (.iconst 0, 1) := by decide +kernel
theorem dX3_advance_126 : decode cX3_advance 126 = .ok (.putfield 61, 3) := by decide +kernel
theorem dX3_advance_129 : decode cX3_advance 129 = .ok (.iload_n 1, 1) := by decide +kernel
theorem dX3_advance_130 : decode cX3_advance 130 = .ok (.aload_n 0, 1) := by decide +kernel
theorem dX3_advance_131 : decode cX3_advance 131 = .ok (.getfield 15, 3) := by decide +kernel
theorem dX3_advance_134 : decode cX3_advance 134 = .ok (.if_icmp .ge 42, 3) := by decide +kernel
theorem dX3_advance_137 : decode cX3_advance 137 = .ok (.aload_n 0, 1) := by decide +kernel
theorem dX3_advance_138 : decode cX3_advance 138 = .ok (.getfield 9, 3) := by decide +kernel
theorem dX3_advance_141 : decode cX3_advance 141 = .ok (.iload_n 1, 1) := by decide +kernel
theorem dX3_advance_142 : decode cX3_advance 142 = .ok (.iaload, 1) := by decide +kernel
theorem dX3_advance_143 : decode cX3_advance 143 = .ok (.invokestatic 78, 3) := by decide +kernel
theorem dX3_advance_146 : decode cX3_advance 146 = .ok (.ifCond .eq 30, 3) := by decide +kernel
theorem dX3_advance_149 : decode cX3_advance 149 = .ok (.aload_n 0, 1) := by decide +kernel
theorem dX3_advance_150 : decode cX3_advance 150 = .ok (.aload_n 0, 1) := by decide +kernel
theorem dX3_advance_151 : decode cX3_advance 151 = .ok (.getfield 61, 3) := by decide +kernel
theorem dX3_advance_154 : decode cX3_advance 154 = .ok (.bipush 10, 2) := by decide +kernel
theorem dX3_advance_156 : decode cX3_advance 156 = .ok (.imul, 1) := by decide +kernel
theorem dX3_advance_157 : decode cX3_advance 157 = .ok (.aload_n 0, 1) := by decide +kernel
theorem dX3_advance_158 : decode cX3_advance 158 = .ok (.getfield 9, 3) := by decide +kernel
theorem dX3_advance_161 : decode cX3_advance 161 = .ok (.iload_n 1, 1) := by decide +kernel
theorem dX3_advance_162 : decode cX3_advance 162 = .ok (.iaload, 1) := by decide +kernel
theorem dX3_advance_163 : decode cX3_advance 163 = .ok (.iadd, 1) := by decide +kernel
theorem dX3_advance_164 : decode cX3_advance 164 = .ok (.bipush 48, 2) := by decide +kernel
theorem dX3_advance_166 : decode cX3_advance 166 = .ok (.isub, 1) := by decide +kernel
theorem dX3_advance_167 : decode cX3_advance 167 = .ok (.putfield 61, 3) := by decide +kernel
theorem dX3_advance_170 : decode cX3_advance 170 = .ok (.iinc 1 1, 3) := by decide +kernel
theorem dX3_advance_173 : decode cX3_advance 173 = .ok (.goto (-44), 3) := by decide +kernel
theorem dX3_advance_176 : decode cX3_advance 176 = .ok (.aload_n 0, 1) := by decide +kernel
theorem dX3_advance_177 : decode cX3_advance 177 = .ok (.iload_n 1, 1) := by decide +kernel
theorem dX3_advance_178 : decode cX3_advance 178 = .ok (.aload_n 0, 1) := by decide +kernel
theorem dX3_advance_179 : decode cX3_advance 179 = .ok (.getfield 37, 3) := by decide +kernel
theorem dX3_advance_182 : decode cX3_advance 182 = .ok (.isub, 1) := by decide +kernel
theorem dX3_advance_183 : decode cX3_advance 183 = .ok (.iconst 4, 1) := by decide +kernel
theorem dX3_advance_184 : decode cX3_advance 184 = .ok (.if_icmp .le 7, 3) := by decide +kernel
theorem dX3_advance_187 : decode cX3_advance 187 = .ok (.iconst 1, 1) := by decide +kernel
theorem dX3_advance_188 : decode cX3_advance 188 = .ok (.goto 4, 3) := by decide +kernel
theorem dX3_advance_191 : decode cX3_advance 191 = .ok (.iconst 2, 1) := by decide +kernel
theorem dX3_advance_192 : decode cX3_advance 192 = .ok (.putfield 34, 3) := by decide +kernel
theorem dX3_advance_195 : decode cX3_advance 195 = .ok (.goto 32, 3) := by decide +kernel
theorem dX3_advance_198 : decode cX3_advance 198 = .ok (.aload_n 0, 1) := by decide +kernel
theorem dX3_advance_199 : decode cX3_advance 199 = .ok (.aload_n 0, 1) := by decide +kernel
theorem dX3_advance_200 : decode cX3_advance 200 = .ok (.getfield 9, 3) := by decide +kernel
theorem dX3_advance_203 : decode cX3_advance 203 = .ok (.iload_n 1, 1) := by decide +kernel
theorem dX3_advance_204 : decode cX3_advance 204 = .ok (.iaload, 1) := by decide +kernel
theorem dX3_advance_205 : decode cX3_advance 205 = .ok (.invokestatic 81, 3) := by decide +kernel
theorem dX3_advance_208 : decode cX3_advance 208 = .ok (.ifCond .eq 12, 3) := by decide +kernel
theorem dX3_advance_211 : decode cX3_advance 211 = .ok (.aload_n 0, 1) := by decide +kernel
theorem dX3_advance_212 : decode cX3_advance 212 = .ok (.getfield 9, 3) := by decide +kernel
theorem dX3_advance_215 : decode cX3_advance 215 = .ok (.iload_n 1, 1) := by decide +kernel
theorem dX3_advance_216 : decode cX3_advance 216 = .ok (.iaload, 1) := by decide +kernel
theorem dX3_advance_217 : decode cX3_advance 217 = .ok (.goto 4, 3) := by decide +kernel
theorem dX3_advance_220 : decode cX3_advance 220 = .ok (.iconst 1, 1) := by decide +kernel
theorem dX3_advance_221 : decode cX3_advance 221 = .ok (.putfield 34, 3) := by decide +kernel
theorem dX3_advance_224 : decode cX3_advance 224 = .ok (.iinc 1 1, 3) := by decide +kernel
theorem dX3_advance_227 : decode cX3_advance 227 = .ok (.aload_n 0, 1) := by decide +kernel
theorem dX3_advance_228 : decode cX3_advance 228 = .ok (.iload_n 1, 1) := by decide +kernel
theorem dX3_advance_229 : decode cX3_advance 229 = .ok (.putfield 28, 3) := by decide +kernel
theorem dX3_advance_232 : decode cX3_advance 232 = .ok (.return_, 1) := by decide +kernel
theorem dX3_isLetter_0 : decode cX3_isLetter 0 = .ok (.iload_n 0, 1) := by decide +kernel
theorem dX3_isLetter_1 : decode cX3_isLetter 1 = .ok (.bipush 97, 2) := by decide +kernel
theorem dX3_isLetter_3 : decode cX3_isLetter 3 = .ok (.bipush 122, 2) := by decide +kernel
theorem dX3_isLetter_5 : decode cX3_isLetter 5 = .ok (.invokestatic 64, 3) := by decide +kernel
theorem dX3_isLetter_8 : decode cX3_isLetter 8 = .ok (.ireturn, 1) := by decide +kernel
theorem dX3_isDigit_0 : decode cX3_isDigit 0 = .ok (.iload_n 0, 1) := by decide +kernel
theorem dX3_isDigit_1 : decode cX3_isDigit 1 = .ok (.bipush 48, 2) := by decide +kernel
theorem dX3_isDigit_3 : decode cX3_isDigit 3 = .ok (.bipush 57, 2) := by decide +kernel
theorem dX3_isDigit_5 : decode cX3_isDigit 5 = .ok (.invokestatic 64, 3) := by decide +kernel
theorem dX3_isDigit_8 : decode cX3_isDigit 8 = .ok (.ireturn, 1) := by decide +kernel
theorem dX3_isSign_0 : decode cX3_isSign 0 = .ok (.iload_n 0, 1) := by decide +kernel
theorem dX3_isSign_1 : decode cX3_isSign 1 = .ok (.bipush 40, 2) := by decide +kernel
theorem dX3_isSign_3 : decode cX3_isSign 3 = .ok (.bipush 43, 2) := by decide +kernel
theorem dX3_isSign_5 : decode cX3_isSign 5 = .ok (.invokestatic 64, 3) := by decide +kernel
theorem dX3_isSign_8 : decode cX3_isSign 8 = .ok (.ifCond .ne 20, 3) := by decide +kernel
theorem dX3_isSign_11 : decode cX3_isSign 11 = .ok (.iload_n 0, 1) := by decide +kernel
theorem dX3_isSign_12 : decode cX3_isSign 12 = .ok (.bipush 59, 2) := by decide +kernel
theorem dX3_isSign_14 : decode cX3_isSign 14 = .ok (.bipush 61, 2) := by decide +kernel
theorem dX3_isSign_16 : decode cX3_isSign 16 = .ok (.invokestatic 64, 3) := by decide +kernel
theorem dX3_isSign_19 : decode cX3_isSign 19 = .ok (.ifCond .ne 9, 3) := by decide +kernel
theorem dX3_isSign_22 : decode cX3_isSign 22 = .ok (.iload_n 0, 1) := by decide +kernel
theorem dX3_isSign_23 : decode cX3_isSign 23 = .ok (.bipush 45, 2) := by decide +kernel
theorem dX3_isSign_25 : decode cX3_isSign 25 = .ok (.if_icmp .ne 7, 3) := by decide +kernel
theorem dX3_isSign_28 : decode cX3_isSign 28 = .ok (.iconst 1, 1) := by decide +kernel
theorem dX3_isSign_29 : decode cX3_isSign 29 = .ok (.goto 4, 3) := by decide +kernel
theorem dX3_isSign_32 : decode cX3_isSign 32 = .ok (.iconst 0, 1) := by decide +kernel
theorem dX3_isSign_33 : decode cX3_isSign 33 = .ok (.ireturn, 1) := by decide +kernel
theorem dX3_wordToken_0 : decode cX3_wordToken 0 = .ok (.sipush 300, 3) := by decide +kernel
theorem dX3_wordToken_3 : decode cX3_wordToken 3 = .ok (.istore_n 2, 1) := by decide +kernel
theorem dX3_wordToken_4 : decode cX3_wordToken 4 = .ok (.iconst 0, 1) := by decide +kernel
theorem dX3_wordToken_5 : decode cX3_wordToken 5 = .ok (.istore_n 3, 1) := by decide +kernel
theorem dX3_wordToken_6 : decode cX3_wordToken 6 = .ok (.iload_n 3, 1) := by decide +kernel
theorem dX3_wordToken_7 : decode cX3_wordToken 7 = .ok (.ldc 84, 2) := by decide +kernel
theorem dX3_wordToken_9 : decode cX3_wordToken 9 = .ok (.invokevirtual 86, 3) := by decide +kernel
theorem dX3_wordToken_12 : decode cX3_wordToken 12 = .ok (.if_icmp .ge 36, 3) := by decide +kernel
theorem dX3_wordToken_15 : decode cX3_wordToken 15 = .ok (.ldc 84, 2) := by decide +kernel
theorem dX3_wordToken_17 : decode cX3_wordToken 17 = .ok (.iload_n 3, 1) := by decide +kernel
theorem dX3_wordToken_18 : decode cX3_wordToken 18 = .ok (.invokevirtual 92, 3) := by decide +kernel
theorem dX3_wordToken_21 : decode cX3_wordToken 21 = .ok (.bipush 32, 2) := by decide +kernel
theorem dX3_wordToken_23 : decode cX3_wordToken 23 = .ok (.if_icmp .ne 19, 3) := by decide +kernel
theorem dX3_wordToken_26 : decode cX3_wordToken 26 = .ok (.aload_n 0, 1) := by decide +kernel
theorem dX3_wordToken_27 : decode cX3_wordToken 27 = .ok (.iload_n 3, 1) := by decide +kernel
theorem dX3_wordToken_28 : decode cX3_wordToken 28 = .ok (.iconst 1, 1) := by decide +kernel
theorem dX3_wordToken_29 : decode cX3_wordToken 29 = .ok (.iadd, 1) := by decide +kernel
theorem dX3_wordToken_30 : decode cX3_wordToken 30 = .ok (.iload_n 1, 1) := by decide +kernel
theorem dX3_wordToken_31 : decode cX3_wordToken 31 = .ok (.invokevirtual 96, 3) := by decide +kernel
theorem dX3_wordToken_34 : decode cX3_wordToken 34 = .ok (.ifCond .eq 5, 3) := by decide +kernel
theorem dX3_wordToken_37 : decode cX3_wordToken 37 = .ok (.iload_n 2, 1) := by decide +kernel
theorem dX3_wordToken_38 : decode cX3_wordToken 38 = .ok (.ireturn, 1) := by decide +kernel
theorem dX3_wordToken_39 : decode cX3_wordToken 39 = .ok (.iinc 2 1, 3) := by decide +kernel
theorem dX3_wordToken_42 : decode cX3_wordToken 42 = .ok (.iinc 3 1, 3) := by decide +kernel
theorem dX3_wordToken_45 : decode cX3_wordToken 45 = .ok (.goto (-39), 3) := by decide +kernel
theorem dX3_wordToken_48 : decode cX3_wordToken 48 = .ok (.iconst 1, 1) := by decide +kernel
theorem dX3_wordToken_49 : decode cX3_wordToken 49 = .ok (.ireturn, 1) := by decide +kernel
theorem dX3_standsAt_0 : decode cX3_standsAt 0 = .ok (.iload_n 2, 1) := by decide +kernel
theorem dX3_standsAt_1 : decode cX3_standsAt 1 = .ok (.aload_n 0, 1) := by decide +kernel
theorem dX3_standsAt_2 : decode cX3_standsAt 2 = .ok (.getfield 37, 3) := by decide +kernel
theorem dX3_standsAt_5 : decode cX3_standsAt 5 = .ok (.isub, 1) := by decide +kernel
theorem dX3_standsAt_6 : decode cX3_standsAt 6 = .ok (.istore_n 3, 1) := by decide +kernel
theorem dX3_standsAt_7 : decode cX3_standsAt 7 = .ok (.iload_n 1, 1) := by decide +kernel
theorem dX3_standsAt_8 : decode cX3_standsAt 8 = .ok (.iload_n 3, 1) := by decide +kernel
theorem dX3_standsAt_9 : decode cX3_standsAt 9 = .ok (.iadd, 1) := by decide +kernel
theorem dX3_standsAt_10 : decode cX3_standsAt 10 = .ok (.ldc 84, 2) := by decide +kernel
theorem dX3_standsAt_12 : decode cX3_standsAt 12 = .ok (.invokevirtual 86, 3) := by decide +kernel
theorem dX3_standsAt_15 : decode cX3_standsAt 15 = .ok (.if_icmp .ge 16, 3) := by decide +kernel
theorem dX3_standsAt_18 : decode cX3_standsAt 18 = .ok (.ldc 84, 2) := by decide +kernel
theorem dX3_standsAt_20 : decode cX3_standsAt 20 = .ok (.iload_n 1, 1) := by decide +kernel
theorem dX3_standsAt_21 : decode cX3_standsAt 21 = .ok (.iload_n 3, 1) := by decide +kernel
theorem dX3_standsAt_22 : decode cX3_standsAt 22 = .ok (.iadd, 1) := by decide +kernel
theorem dX3_standsAt_23 : decode cX3_standsAt 23 = .ok (.invokevirtual 92, 3) := by decide +kernel
theorem dX3_standsAt_26 : decode cX3_standsAt 26 = .ok (.bipush 32, 2) := by decide +kernel
theorem dX3_standsAt_28 : decode cX3_standsAt 28 = .ok (.if_icmp .eq 5, 3) := by decide +kernel
theorem dX3_standsAt_31 : decode cX3_standsAt 31 = .ok (.iconst 0, 1) := by decide +kernel
theorem dX3_standsAt_32 : decode cX3_standsAt 32 = .ok (.ireturn, 1) := by decide +kernel
theorem dX3_standsAt_33 : decode cX3_standsAt 33 = .ok (.iconst 0, 1) := by decide +kernel
theorem dX3_standsAt_34 : decode cX3_standsAt 34 = .ok (.istore 4, 2) := by decide +kernel
theorem dX3_standsAt_36 : decode cX3_standsAt 36 = .ok (.iload 4, 2) := by decide +kernel
theorem dX3_standsAt_38 : decode cX3_standsAt 38 = .ok (.iload_n 3, 1) := by decide +kernel
theorem dX3_standsAt_39 : decode cX3_standsAt 39 = .ok (.if_icmp .ge 35, 3) := by decide +kernel
theorem dX3_standsAt_42 : decode cX3_standsAt 42 = .ok (.ldc 84, 2) := by decide +kernel
theorem dX3_standsAt_44 : decode cX3_standsAt 44 = .ok (.iload_n 1, 1) := by decide +kernel
theorem dX3_standsAt_45 : decode cX3_standsAt 45 = .ok (.iload 4, 2) := by decide +kernel
theorem dX3_standsAt_47 : decode cX3_standsAt 47 = .ok (.iadd, 1) := by decide +kernel
theorem dX3_standsAt_48 : decode cX3_standsAt 48 = .ok (.invokevirtual 92, 3) := by decide +kernel
theorem dX3_standsAt_51 : decode cX3_standsAt 51 = .ok (.aload_n 0, 1) := by decide +kernel
theorem dX3_standsAt_52 : decode cX3_standsAt 52 = .ok (.getfield 9, 3) := by decide +kernel
theorem dX3_standsAt_55 : decode cX3_standsAt 55 = .ok (.aload_n 0, 1) := by decide +kernel
theorem dX3_standsAt_56 : decode cX3_standsAt 56 = .ok (.getfield 37, 3) := by decide +kernel
theorem dX3_standsAt_59 : decode cX3_standsAt 59 = .ok (.iload 4, 2) := by decide +kernel
theorem dX3_standsAt_61 : decode cX3_standsAt 61 = .ok (.iadd, 1) := by decide +kernel
theorem dX3_standsAt_62 : decode cX3_standsAt 62 = .ok (.iaload, 1) := by decide +kernel
theorem dX3_standsAt_63 : decode cX3_standsAt 63 = .ok (.if_icmp .eq 5, 3) := by decide +kernel
theorem dX3_standsAt_66 : decode cX3_standsAt 66 = .ok (.iconst 0, 1) := by decide +kernel
theorem dX3_standsAt_67 : decode cX3_standsAt 67 = .ok (.ireturn, 1) := by decide +kernel
theorem dX3_standsAt_68 : decode cX3_standsAt 68 = .ok (.iinc 4 1, 3) := by decide +kernel
theorem dX3_standsAt_71 : decode cX3_standsAt 71 = .ok (.goto (-35), 3) := by decide +kernel
theorem dX3_standsAt_74 : decode cX3_standsAt 74 = .ok (.iconst 1, 1) := by decide +kernel
theorem dX3_standsAt_75 : decode cX3_standsAt 75 = .ok (.ireturn, 1) := by decide +kernel
theorem dX4_init_0 : decode cX4_init 0 = .ok (.aload_n 0, 1) := by decide +kernel
theorem dX4_init_1 : decode cX4_init 1 = .ok (.invokespecial 3, 3) := by decide +kernel
theorem dX4_init_4 : decode cX4_init 4 = .ok (.aload_n 0, 1) := by decide +kernel
theorem dX4_init_5 : decode cX4_init 5 = .ok (.sipush 160, 3) := by decide +kernel
theorem dX4_init_8 : decode cX4_init 8 = .ok (.newarray .int, 2) := by decide +kernel
theorem dX4_init_10 : decode cX4_init 10 = .ok (.putfield 9, 3) := by decide +kernel
theorem dX4_init_13 : decode cX4_init 13 = .ok (.aload_n 0, 1) := by decide +kernel
theorem dX4_init_14 : decode cX4_init 14 = .ok (.iconst 3, 1) := by decide +kernel
theorem dX4_init_15 : decode cX4_init 15 = .ok (.newarray .int, 2) := by decide +kernel
theorem dX4_init_17 : decode cX4_init 17 = .ok (.putfield 15, 3) := by decide +kernel
theorem dX4_init_20 : decode cX4_init 20 = .ok (.aload_n 0, 1) := by decide +kernel
theorem dX4_init_21 : decode cX4_init 21 = .ok (.bipush 40, 2) := by decide +kernel
theorem dX4_init_23 : decode cX4_init 23 = .ok (.newarray .int, 2) := by decide +kernel
theorem dX4_init_25 : decode cX4_init 25 = .ok (.putfield 18, 3) := by decide +kernel
theorem dX4_init_28 : decode cX4_init 28 = .ok (.return_, 1) := by decide +kernel
theorem dX4_clear_0 : decode cX4_clear 0 = .ok (.aload_n 0, 1) := by decide +kernel
theorem dX4_clear_1 : decode cX4_clear 1 = .ok (.iconst 0, 1) := by decide +kernel
theorem dX4_clear_2 : decode cX4_clear 2 = .ok (.putfield 21, 3) := by decide +kernel
theorem dX4_clear_5 : decode cX4_clear 5 = .ok (.return_, 1) := by decide +kernel
theorem dX4_add_0 : decode cX4_add 0 = .ok (.aload_n 0, 1) := by decide +kernel
theorem dX4_add_1 : decode cX4_add 1 = .ok (.getfield 21, 3) := by decide +kernel
theorem dX4_add_4 : decode cX4_add 4 = .ok (.sipush 160, 3) := by decide +kernel
theorem dX4_add_7 : decode cX4_add 7 = .ok (.if_icmp .ge 20, 3) := by decide +kernel
theorem dX4_add_10 : decode cX4_add 10 = .ok (.aload_n 0, 1) := by decide +kernel
theorem dX4_add_11 : decode cX4_add 11 = .ok (.getfield 9, 3) := by decide +kernel
theorem dX4_add_14 : decode cX4_add 14 = .ok (.aload_n 0, 1) := by decide +kernel
theorem dX4_add_15 : decode cX4_add 15 = .ok (.dup, 1) := by decide +kernel
theorem dX4_add_16 : decode cX4_add 16 = .ok (.getfield 21, 3) := by decide +kernel
theorem dX4_add_19 : decode cX4_add 19 = .ok (.dup_x1, 1) := by decide +kernel
theorem dX4_add_20 : decode cX4_add 20 = .ok (.iconst 1, 1) := by decide +kernel
theorem dX4_add_21 : decode cX4_add 21 = .ok (.iadd, 1) := by decide +kernel
theorem dX4_add_22 : decode cX4_add 22 = .ok (.putfield 21, 3) := by decide +kernel
theorem dX4_add_25 : decode cX4_add 25 = .ok (.iload_n 1, 1) := by decide +kernel
theorem dX4_add_26 : decode cX4_add 26 = .ok (.iastore, 1) := by decide +kernel
theorem dX4_add_27 : decode cX4_add 27 = .ok (.return_, 1) := by decide +kernel
theorem dX4_endPart_0 : decode cX4_endPart 0 = .ok (.aload_n 0, 1) := by decide +kernel
theorem dX4_endPart_1 : decode cX4_endPart 1 = .ok (.getfield 15, 3) := by decide +kernel
theorem dX4_endPart_4 : decode cX4_endPart 4 = .ok (.iload_n 1, 1) := by decide +kernel
theorem dX4_endPart_5 : decode cX4_endPart 5 = .ok (.aload_n 0, 1) := by decide +kernel
theorem dX4_endPart_6 : decode cX4_endPart 6 = .ok (.getfield 21, 3) := by decide +kernel
theorem dX4_endPart_9 : decode cX4_endPart 9 = .ok (.iastore, 1) := by decide +kernel
theorem dX4_endPart_10 : decode cX4_endPart 10 = .ok (.return_, 1) := by decide +kernel
theorem dX4_says_0 : decode cX4_says 0 = .ok (.aload_n 0, 1) := by decide +kernel
theorem dX4_says_1 : decode cX4_says 1 = .ok (.iconst 0, 1) := by decide +kernel
theorem dX4_says_2 : decode cX4_says 2 = .ok (.putfield 25, 3) := by decide +kernel
theorem dX4_says_5 : decode cX4_says 5 = .ok (.iload_n 1, 1) := by decide +kernel
theorem dX4_says_6 : decode cX4_says 6 = .ok (.ifCond .le 14, 3) := by decide +kernel
theorem dX4_says_9 : decode cX4_says 9 = .ok (.aload_n 0, 1) := by decide +kernel
theorem dX4_says_10 : decode cX4_says 10 = .ok (.getfield 15, 3) := by decide +kernel
theorem dX4_says_13 : decode cX4_says 13 = .ok (.iload_n 1, 1) := by decide +kernel
theorem dX4_says_14 : decode cX4_says 14 = .ok (.iconst 1, 1) := by decide +kernel
theorem dX4_says_15 : decode cX4_says 15 = .ok (.isub, 1) := by decide +kernel
theorem dX4_says_16 : decode cX4_says 16 = .ok (.iaload, 1) := by decide +kernel
theorem dX4_says_17 : decode cX4_says 17 = .ok (.goto 4, 3) := by decide +kernel
theorem dX4_says_20 : decode cX4_says 20 = .ok (.iconst 0, 1) := by decide +kernel
theorem dX4_says_21 : decode cX4_says 21 = .ok (.istore 5, 2) := by decide +kernel
theorem dX4_says_23 : decode cX4_says 23 = .ok (.aload_n 0, 1) := by decide +kernel
theorem dX4_says_24 : decode cX4_says 24 = .ok (.getfield 15, 3) := by decide +kernel
theorem dX4_says_27 : decode cX4_says 27 = .ok (.iload_n 1, 1) := by decide +kernel
theorem dX4_says_28 : decode cX4_says 28 = .ok (.iaload, 1) := by decide +kernel
theorem dX4_says_29 : decode cX4_says 29 = .ok (.sipush 160, 3) := by decide +kernel
theorem dX4_says_32 : decode cX4_says 32 = .ok (.invokestatic 28, 3) := by decide +kernel
theorem dX4_says_35 : decode cX4_says 35 = .ok (.istore 6, 2) := by decide +kernel
theorem dX4_says_37 : decode cX4_says 37 = .ok (.iload 5, 2) := by decide +kernel
theorem dX4_says_39 : decode cX4_says 39 = .ok (.istore 7, 2) := by decide +kernel
theorem dX4_says_41 : decode cX4_says 41 = .ok (.iload 7, 2) := by decide +kernel
theorem dX4_says_43 : decode cX4_says 43 = .ok (.iload 6, 2) := by decide +kernel
theorem dX4_says_45 : decode cX4_says 45 = .ok (.if_icmp .ge 24, 3) := by decide +kernel
theorem dX4_says_48 : decode cX4_says 48 = .ok (.aload_n 0, 1) := by decide +kernel
theorem dX4_says_49 : decode cX4_says 49 = .ok (.aload_n 0, 1) := by decide +kernel
theorem dX4_says_50 : decode cX4_says 50 = .ok (.getfield 9, 3) := by decide +kernel
theorem dX4_says_53 : decode cX4_says 53 = .ok (.iload 7, 2) := by decide +kernel
theorem dX4_says_55 : decode cX4_says 55 = .ok (.iaload, 1) := by decide +kernel
theorem dX4_says_56 : decode cX4_says 56 = .ok (.aload_n 2, 1) := by decide +kernel
theorem dX4_says_57 : decode cX4_says 57 = .ok (.iload_n 3, 1) := by decide +kernel
theorem dX4_says_58 : decode cX4_says 58 = .ok (.iload 4, 2) := by decide +kernel
theorem dX4_says_60 : decode cX4_says 60 = .ok (.invokevirtual 34, 3) := by decide +kernel
theorem dX4_says_63 : decode cX4_says 63 = .ok (.iinc 7 1, 3) := by decide +kernel
theorem dX4_says_66 : decode cX4_says 66 = .ok (.goto (-25), 3) := by decide +kernel
theorem dX4_says_69 : decode cX4_says 69 = .ok (.aload_n 0, 1) := by decide +kernel
theorem dX4_says_70 : decode cX4_says 70 = .ok (.invokevirtual 38, 3) := by decide +kernel
theorem dX4_says_73 : decode cX4_says 73 = .ok (.bipush 99, 2) := by decide +kernel
theorem dX4_says_75 : decode cX4_says 75 = .ok (.invokestatic 42, 3) := by decide +kernel
theorem dX4_says_78 : decode cX4_says 78 = .ok (.ireturn, 1) := by decide +kernel
theorem dX4_take_0 : decode cX4_take 0 = .ok (.iload_n 1, 1) := by decide +kernel
theorem dX4_take_1 : decode cX4_take 1 = .ok (.ineg, 1) := by decide +kernel
theorem dX4_take_2 : decode cX4_take 2 = .ok (.lookupswitch 188 #[(3, 176), (305, 157), (306, 74), (307, 85), (308, 96), (309, 109), (310, 118), (311, 134)], 74) := by decide +kernel
theorem dX4_take_76 : decode cX4_take 76 = .ok (.aload_n 0, 1) := by decide +kernel
theorem dX4_take_77 : decode cX4_take 77 = .ok (.iload_n 3, 1) := by decide +kernel
theorem dX4_take_78 : decode cX4_take 78 = .ok (.bipush 6, 2) := by decide +kernel
theorem dX4_take_80 : decode cX4_take 80 = .ok (.idiv, 1) := by decide +kernel
theorem dX4_take_81 : decode cX4_take 81 = .ok (.invokevirtual 45, 3) := by decide +kernel
theorem dX4_take_84 : decode cX4_take 84 = .ok (.goto 139, 3) := by decide +kernel
theorem dX4_take_87 : decode cX4_take 87 = .ok (.aload_n 0, 1) := by decide +kernel
theorem dX4_take_88 : decode cX4_take 88 = .ok (.iload_n 3, 1) := by decide +kernel
theorem dX4_take_89 : decode cX4_take 89 = .ok (.bipush 6, 2) := by decide +kernel
theorem dX4_take_91 : decode cX4_take 91 = .ok (.irem, 1) := by decide +kernel
theorem dX4_take_92 : decode cX4_take 92 = .ok (.invokevirtual 45, 3) := by decide +kernel
theorem dX4_take_95 : decode cX4_take 95 = .ok (.goto 128, 3) := by decide +kernel
theorem dX4_take_98 : decode cX4_take 98 = .ok (.aload_n 0, 1) := by decide +kernel
theorem dX4_take_99 : decode cX4_take 99 = .ok (.aload_n 2, 1) := by decide +kernel
theorem dX4_take_100 : decode cX4_take 100 = .ok (.getfield 49, 3) := by decide +kernel
theorem dX4_take_103 : decode cX4_take 103 = .ok (.iload_n 3, 1) := by decide +kernel
theorem dX4_take_104 : decode cX4_take 104 = .ok (.iaload, 1) := by decide +kernel
theorem dX4_take_105 : decode cX4_take 105 = .ok (.invokevirtual 45, 3) := by decide +kernel
theorem dX4_take_108 : decode cX4_take 108 = .ok (.goto 115, 3) := by decide +kernel
theorem dX4_take_111 : decode cX4_take 111 = .ok (.aload_n 0, 1) := by decide +kernel
theorem dX4_take_112 : decode cX4_take 112 = .ok (.iload 4, 2) := by decide +kernel
theorem dX4_take_114 : decode cX4_take 114 = .ok (.invokevirtual 45, 3) := by decide +kernel
theorem dX4_take_117 : decode cX4_take 117 = .ok (.goto 106, 3) := by decide +kernel
theorem dX4_take_120 : decode cX4_take 120 = .ok (.aload_n 0, 1) := by decide +kernel
theorem dX4_take_121 : decode cX4_take 121 = .ok (.aload_n 2, 1) := by decide +kernel
theorem dX4_take_122 : decode cX4_take 122 = .ok (.getfield 54, 3) := by decide +kernel
theorem dX4_take_125 : decode cX4_take 125 = .ok (.iload_n 3, 1) := by decide +kernel
theorem dX4_take_126 : decode cX4_take 126 = .ok (.iaload, 1) := by decide +kernel
theorem dX4_take_127 : decode cX4_take 127 = .ok (.invokestatic 57, 3) := by decide +kernel
theorem dX4_take_130 : decode cX4_take 130 = .ok (.invokevirtual 45, 3) := by decide +kernel
theorem dX4_take_133 : decode cX4_take 133 = .ok (.goto 90, 3) := by decide +kernel
theorem dX4_take_136 : decode cX4_take 136 = .ok (.aload_n 0, 1) := by decide +kernel
theorem dX4_take_137 : decode cX4_take 137 = .ok (.aload_n 2, 1) := by decide +kernel
theorem dX4_take_138 : decode cX4_take 138 = .ok (.getfield 61, 3) := by decide +kernel
theorem dX4_take_141 : decode cX4_take 141 = .ok (.iload_n 3, 1) := by decide +kernel
theorem dX4_take_142 : decode cX4_take 142 = .ok (.invokestatic 65, 3) := by decide +kernel
theorem dX4_take_145 : decode cX4_take 145 = .ok (.ifCond .eq 7, 3) := by decide +kernel
theorem dX4_take_148 : decode cX4_take 148 = .ok (.iconst 1, 1) := by decide +kernel
theorem dX4_take_149 : decode cX4_take 149 = .ok (.goto 4, 3) := by decide +kernel
theorem dX4_take_152 : decode cX4_take 152 = .ok (.iconst 0, 1) := by decide +kernel
theorem dX4_take_153 : decode cX4_take 153 = .ok (.invokevirtual 45, 3) := by decide +kernel
theorem dX4_take_156 : decode cX4_take 156 = .ok (.goto 67, 3) := by decide +kernel
theorem dX4_take_159 : decode cX4_take 159 = .ok (.aload_n 0, 1) := by decide +kernel
theorem dX4_take_160 : decode cX4_take 160 = .ok (.aload_n 0, 1) := by decide +kernel
theorem dX4_take_161 : decode cX4_take 161 = .ok (.invokevirtual 38, 3) := by decide +kernel
theorem dX4_take_164 : decode cX4_take 164 = .ok (.ifCond .ne 7, 3) := by decide +kernel
theorem dX4_take_167 : decode cX4_take 167 = .ok (.iconst 1, 1) := by decide +kernel
theorem dX4_take_168 : decode cX4_take 168 = .ok (.goto 4, 3) := by decide +kernel
theorem dX4_take_171 : decode cX4_take 171 = .ok (.iconst 0, 1) := by decide +kernel
theorem dX4_take_172 : decode cX4_take 172 = .ok (.invokevirtual 45, 3) := by decide +kernel
theorem dX4_take_175 : decode cX4_take 175 = .ok (.goto 48, 3) := by decide +kernel
theorem dX4_take_178 : decode cX4_take 178 = .ok (.aload_n 0, 1) := by decide +kernel
theorem dX4_take_179 : decode cX4_take 179 = .ok (.aload_n 0, 1) := by decide +kernel
theorem dX4_take_180 : decode cX4_take 180 = .ok (.invokevirtual 38, 3) := by decide +kernel
theorem dX4_take_183 : decode cX4_take 183 = .ok (.ineg, 1) := by decide +kernel
theorem dX4_take_184 : decode cX4_take 184 = .ok (.invokevirtual 45, 3) := by decide +kernel
theorem dX4_take_187 : decode cX4_take 187 = .ok (.goto 36, 3) := by decide +kernel
theorem dX4_take_190 : decode cX4_take 190 = .ok (.iload_n 1, 1) := by decide +kernel
theorem dX4_take_191 : decode cX4_take 191 = .ok (.ifCond .lt 11, 3) := by decide +kernel
theorem dX4_take_194 : decode cX4_take 194 = .ok (.aload_n 0, 1) := by decide +kernel
theorem dX4_take_195 : decode cX4_take 195 = .ok (.iload_n 1, 1) := by decide +kernel
theorem dX4_take_196 : decode cX4_take 196 = .ok (.invokevirtual 45, 3) := by decide +kernel
theorem dX4_take_199 : decode cX4_take 199 = .ok (.goto 24, 3) := by decide +kernel
theorem dX4_take_202 : decode cX4_take 202 = .ok (.aload_n 0, 1) := by decide +kernel
theorem dX4_take_203 : decode cX4_take 203 = .ok (.invokevirtual 38, 3) := by decide +kernel
theorem dX4_take_206 : decode cX4_take 206 = .ok (.istore 5, 2) := by decide +kernel
theorem dX4_take_208 : decode cX4_take 208 = .ok (.aload_n 0, 1) := by decide +kernel
theorem dX4_take_209 : decode cX4_take 209 = .ok (.iload_n 1, 1) := by decide +kernel
theorem dX4_take_210 : decode cX4_take 210 = .ok (.ineg, 1) := by decide +kernel
theorem dX4_take_211 : decode cX4_take 211 = .ok (.aload_n 0, 1) := by decide +kernel
theorem dX4_take_212 : decode cX4_take 212 = .ok (.invokevirtual 38, 3) := by decide +kernel
theorem dX4_take_215 : decode cX4_take 215 = .ok (.iload 5, 2) := by decide +kernel
theorem dX4_take_217 : decode cX4_take 217 = .ok (.invokestatic 69, 3) := by decide +kernel
theorem dX4_take_220 : decode cX4_take 220 = .ok (.invokevirtual 45, 3) := by decide +kernel
theorem dX4_take_223 : decode cX4_take 223 = .ok (.return_, 1) := by decide +kernel
theorem dX4_joined_0 : decode cX4_joined 0 = .ok (.iload_n 0, 1) := by decide +kernel
theorem dX4_joined_1 : decode cX4_joined 1 = .ok (.lookupswitch 107 #[(42, 67), (43, 59), (45, 63), (60, 71), (61, 82), (304, 93)], 59) := by decide +kernel
theorem dX4_joined_60 : decode cX4_joined 60 = .ok (.iload_n 1, 1) := by decide +kernel
theorem dX4_joined_61 : decode cX4_joined 61 = .ok (.iload_n 2, 1) := by decide +kernel
theorem dX4_joined_62 : decode cX4_joined 62 = .ok (.iadd, 1) := by decide +kernel
theorem dX4_joined_63 : decode cX4_joined 63 = .ok (.ireturn, 1) := by decide +kernel
theorem dX4_joined_64 : decode cX4_joined 64 = .ok (.iload_n 1, 1) := by decide +kernel
theorem dX4_joined_65 : decode cX4_joined 65 = .ok (.iload_n 2, 1) := by decide +kernel
theorem dX4_joined_66 : decode cX4_joined 66 = .ok (.isub, 1) := by decide +kernel
theorem dX4_joined_67 : decode cX4_joined 67 = .ok (.ireturn, 1) := by decide +kernel
theorem dX4_joined_68 : decode cX4_joined 68 = .ok (.iload_n 1, 1) := by decide +kernel
theorem dX4_joined_69 : decode cX4_joined 69 = .ok (.iload_n 2, 1) := by decide +kernel
theorem dX4_joined_70 : decode cX4_joined 70 = .ok (.imul, 1) := by decide +kernel
theorem dX4_joined_71 : decode cX4_joined 71 = .ok (.ireturn, 1) := by decide +kernel
theorem dX4_joined_72 : decode cX4_joined 72 = .ok (.iload_n 1, 1) := by decide +kernel
theorem dX4_joined_73 : decode cX4_joined 73 = .ok (.iload_n 2, 1) := by decide +kernel
theorem dX4_joined_74 : decode cX4_joined 74 = .ok (.if_icmp .ge 7, 3) := by decide +kernel
theorem dX4_joined_77 : decode cX4_joined 77 = .ok (.iconst 1, 1) := by decide +kernel
theorem dX4_joined_78 : decode cX4_joined 78 = .ok (.goto 4, 3) := by decide +kernel
theorem dX4_joined_81 : decode cX4_joined 81 = .ok (.iconst 0, 1) := by decide +kernel
theorem dX4_joined_82 : decode cX4_joined 82 = .ok (.ireturn, 1) := by decide +kernel
theorem dX4_joined_83 : decode cX4_joined 83 = .ok (.iload_n 1, 1) := by decide +kernel
theorem dX4_joined_84 : decode cX4_joined 84 = .ok (.iload_n 2, 1) := by decide +kernel
theorem dX4_joined_85 : decode cX4_joined 85 = .ok (.if_icmp .ne 7, 3) := by decide +kernel
theorem dX4_joined_88 : decode cX4_joined 88 = .ok (.iconst 1, 1) := by decide +kernel
theorem dX4_joined_89 : decode cX4_joined 89 = .ok (.goto 4, 3) := by decide +kernel
theorem dX4_joined_92 : decode cX4_joined 92 = .ok (.iconst 0, 1) := by decide +kernel
theorem dX4_joined_93 : decode cX4_joined 93 = .ok (.ireturn, 1) := by decide +kernel
theorem dX4_joined_94 : decode cX4_joined 94 = .ok (.iload_n 1, 1) := by decide +kernel
theorem dX4_joined_95 : decode cX4_joined 95 = .ok (.ifCond .eq 11, 3) := by decide +kernel
theorem dX4_joined_98 : decode cX4_joined 98 = .ok (.iload_n 2, 1) := by decide +kernel
theorem dX4_joined_99 : decode cX4_joined 99 = .ok (.ifCond .eq 7, 3) := by decide +kernel
theorem dX4_joined_102 : decode cX4_joined 102 = .ok (.iconst 1, 1) := by decide +kernel
theorem dX4_joined_103 : decode cX4_joined 103 = .ok (.goto 4, 3) := by decide +kernel
theorem dX4_joined_106 : decode cX4_joined 106 = .ok (.iconst 0, 1) := by decide +kernel
theorem dX4_joined_107 : decode cX4_joined 107 = .ok (.ireturn, 1) := by decide +kernel
theorem dX4_joined_108 : decode cX4_joined 108 = .ok (.iload_n 1, 1) := by decide +kernel
theorem dX4_joined_109 : decode cX4_joined 109 = .ok (.ifCond .ne 7, 3) := by decide +kernel
theorem dX4_joined_112 : decode cX4_joined 112 = .ok (.iload_n 2, 1) := by decide +kernel
theorem dX4_joined_113 : decode cX4_joined 113 = .ok (.ifCond .eq 7, 3) := by decide +kernel
theorem dX4_joined_116 : decode cX4_joined 116 = .ok (.iconst 1, 1) := by decide +kernel
theorem dX4_joined_117 : decode cX4_joined 117 = .ok (.goto 4, 3) := by decide +kernel
theorem dX4_joined_120 : decode cX4_joined 120 = .ok (.iconst 0, 1) := by decide +kernel
theorem dX4_joined_121 : decode cX4_joined 121 = .ok (.ireturn, 1) := by decide +kernel
theorem dX4_push_0 : decode cX4_push 0 = .ok (.aload_n 0, 1) := by decide +kernel
theorem dX4_push_1 : decode cX4_push 1 = .ok (.getfield 25, 3) := by decide +kernel
theorem dX4_push_4 : decode cX4_push 4 = .ok (.bipush 40, 2) := by decide +kernel
theorem dX4_push_6 : decode cX4_push 6 = .ok (.if_icmp .ge 20, 3) := by decide +kernel
theorem dX4_push_9 : decode cX4_push 9 = .ok (.aload_n 0, 1) := by decide +kernel
theorem dX4_push_10 : decode cX4_push 10 = .ok (.getfield 18, 3) := by decide +kernel
theorem dX4_push_13 : decode cX4_push 13 = .ok (.aload_n 0, 1) := by decide +kernel
theorem dX4_push_14 : decode cX4_push 14 = .ok (.dup, 1) := by decide +kernel
theorem dX4_push_15 : decode cX4_push 15 = .ok (.getfield 25, 3) := by decide +kernel
theorem dX4_push_18 : decode cX4_push 18 = .ok (.dup_x1, 1) := by decide +kernel
theorem dX4_push_19 : decode cX4_push 19 = .ok (.iconst 1, 1) := by decide +kernel
theorem dX4_push_20 : decode cX4_push 20 = .ok (.iadd, 1) := by decide +kernel
theorem dX4_push_21 : decode cX4_push 21 = .ok (.putfield 25, 3) := by decide +kernel
theorem dX4_push_24 : decode cX4_push 24 = .ok (.iload_n 1, 1) := by decide +kernel
theorem dX4_push_25 : decode cX4_push 25 = .ok (.iastore, 1) := by decide +kernel
theorem dX4_push_26 : decode cX4_push 26 = .ok (.return_, 1) := by decide +kernel
theorem dX4_pop_0 : decode cX4_pop 0 = .ok (.aload_n 0, 1) := by decide +kernel
theorem dX4_pop_1 : decode cX4_pop 1 = .ok (.getfield 25, 3) := by decide +kernel
theorem dX4_pop_4 : decode cX4_pop 4 = .ok (.ifCond .le 22, 3) := by decide +kernel
theorem dX4_pop_7 : decode cX4_pop 7 = .ok (.aload_n 0, 1) := by decide +kernel
theorem dX4_pop_8 : decode cX4_pop 8 = .ok (.getfield 18, 3) := by decide +kernel
theorem dX4_pop_11 : decode cX4_pop 11 = .ok (.aload_n 0, 1) := by decide +kernel
theorem dX4_pop_12 : decode cX4_pop 12 = .ok (.dup, 1) := by decide +kernel
theorem dX4_pop_13 : decode cX4_pop 13 = .ok (.getfield 25, 3) := by decide +kernel
theorem dX4_pop_16 : decode cX4_pop 16 = .ok (.iconst 1, 1) := by decide +kernel
theorem dX4_pop_17 : decode cX4_pop 17 = .ok (.isub, 1) := by decide +kernel
theorem dX4_pop_18 : decode cX4_pop 18 = .ok (.dup_x1, 1) := by decide +kernel
theorem dX4_pop_19 : decode cX4_pop 19 = .ok (.putfield 25, 3) := by decide +kernel
theorem dX4_pop_22 : decode cX4_pop 22 = .ok (.iaload, 1) := by decide +kernel
theorem dX4_pop_23 : decode cX4_pop 23 = .ok (.goto 4, 3) := by decide +kernel
theorem dX4_pop_26 : decode cX4_pop 26 = .ok (.iconst 0, 1) := by decide +kernel
theorem dX4_pop_27 : decode cX4_pop 27 = .ok (.ireturn, 1) := by decide +kernel
theorem dX5_init_0 : decode cX5_init 0 = .ok (.aload_n 0, 1) := by decide +kernel
theorem dX5_init_1 : decode cX5_init 1 = .ok (.invokespecial 1, 3) := by decide +kernel
theorem dX5_init_4 : decode cX5_init 4 = .ok (.aload_n 0, 1) := by decide +kernel
theorem dX5_init_5 : decode cX5_init 5 = .ok (.new 7, 3) := by decide +kernel
theorem dX5_init_8 : decode cX5_init 8 = .ok (.dup, 1) := by decide +kernel
theorem dX5_init_9 : decode cX5_init 9 = .ok (.invokespecial 9, 3) := by decide +kernel
theorem dX5_init_12 : decode cX5_init 12 = .ok (.putfield 10, 3) := by decide +kernel
theorem dX5_init_15 : decode cX5_init 15 = .ok (.aload_n 0, 1) := by decide +kernel
theorem dX5_init_16 : decode cX5_init 16 = .ok (.new 7, 3) := by decide +kernel
theorem dX5_init_19 : decode cX5_init 19 = .ok (.dup, 1) := by decide +kernel
theorem dX5_init_20 : decode cX5_init 20 = .ok (.invokespecial 9, 3) := by decide +kernel
theorem dX5_init_23 : decode cX5_init 23 = .ok (.putfield 16, 3) := by decide +kernel
theorem dX5_init_26 : decode cX5_init 26 = .ok (.aload_n 0, 1) := by decide +kernel
theorem dX5_init_27 : decode cX5_init 27 = .ok (.new 19, 3) := by decide +kernel
theorem dX5_init_30 : decode cX5_init 30 = .ok (.dup, 1) := by decide +kernel
theorem dX5_init_31 : decode cX5_init 31 = .ok (.invokespecial 21, 3) := by decide +kernel
theorem dX5_init_34 : decode cX5_init 34 = .ok (.putfield 22, 3) := by decide +kernel
theorem dX5_init_37 : decode cX5_init 37 = .ok (.aload_n 0, 1) := by decide +kernel
theorem dX5_init_38 : decode cX5_init 38 = .ok (.bipush 6, 2) := by decide +kernel
theorem dX5_init_40 : decode cX5_init 40 = .ok (.anewarray 26, 3) := by decide +kernel
theorem dX5_init_43 : decode cX5_init 43 = .ok (.putfield 28, 3) := by decide +kernel
theorem dX5_init_46 : decode cX5_init 46 = .ok (.aload_n 0, 1) := by decide +kernel
theorem dX5_init_47 : decode cX5_init 47 = .ok (.new 32, 3) := by decide +kernel
theorem dX5_init_50 : decode cX5_init 50 = .ok (.dup, 1) := by decide +kernel
theorem dX5_init_51 : decode cX5_init 51 = .ok (.invokespecial 34, 3) := by decide +kernel
theorem dX5_init_54 : decode cX5_init 54 = .ok (.putfield 35, 3) := by decide +kernel
theorem dX5_init_57 : decode cX5_init 57 = .ok (.aload_n 0, 1) := by decide +kernel
theorem dX5_init_58 : decode cX5_init 58 = .ok (.iconst 4, 1) := by decide +kernel
theorem dX5_init_59 : decode cX5_init 59 = .ok (.anewarray 39, 3) := by decide +kernel
theorem dX5_init_62 : decode cX5_init 62 = .ok (.putfield 41, 3) := by decide +kernel
theorem dX5_init_65 : decode cX5_init 65 = .ok (.aload_n 0, 1) := by decide +kernel
theorem dX5_init_66 : decode cX5_init 66 = .ok (.bipush 48, 2) := by decide +kernel
theorem dX5_init_68 : decode cX5_init 68 = .ok (.newarray .long, 2) := by decide +kernel
theorem dX5_init_70 : decode cX5_init 70 = .ok (.putfield 45, 3) := by decide +kernel
theorem dX5_init_73 : decode cX5_init 73 = .ok (.iconst 0, 1) := by decide +kernel
theorem dX5_init_74 : decode cX5_init 74 = .ok (.istore_n 1, 1) := by decide +kernel
theorem dX5_init_75 : decode cX5_init 75 = .ok (.iload_n 1, 1) := by decide +kernel
theorem dX5_init_76 : decode cX5_init 76 = .ok (.bipush 6, 2) := by decide +kernel
theorem dX5_init_78 : decode cX5_init 78 = .ok (.if_icmp .ge 22, 3) := by decide +kernel
theorem dX5_init_81 : decode cX5_init 81 = .ok (.aload_n 0, 1) := by decide +kernel
theorem dX5_init_82 : decode cX5_init 82 = .ok (.getfield 28, 3) := by decide +kernel
theorem dX5_init_85 : decode cX5_init 85 = .ok (.iload_n 1, 1) := by decide +kernel
theorem dX5_init_86 : decode cX5_init 86 = .ok (.new 26, 3) := by decide +kernel
theorem dX5_init_89 : decode cX5_init 89 = .ok (.dup, 1) := by decide +kernel
theorem dX5_init_90 : decode cX5_init 90 = .ok (.invokespecial 49, 3) := by decide +kernel
theorem dX5_init_93 : decode cX5_init 93 = .ok (.aastore, 1) := by decide +kernel
theorem dX5_init_94 : decode cX5_init 94 = .ok (.iinc 1 1, 3) := by decide +kernel
theorem dX5_init_97 : decode cX5_init 97 = .ok (.goto (-22), 3) := by decide +kernel
theorem dX5_init_100 : decode cX5_init 100 = .ok (.iconst 0, 1) := by decide +kernel
theorem dX5_init_101 : decode cX5_init 101 = .ok (.istore_n 1, 1) := by decide +kernel
theorem dX5_init_102 : decode cX5_init 102 = .ok (.iload_n 1, 1) := by decide +kernel
theorem dX5_init_103 : decode cX5_init 103 = .ok (.iconst 4, 1) := by decide +kernel
theorem dX5_init_104 : decode cX5_init 104 = .ok (.if_icmp .ge 22, 3) := by decide +kernel
theorem dX5_init_107 : decode cX5_init 107 = .ok (.aload_n 0, 1) := by decide +kernel
theorem dX5_init_108 : decode cX5_init 108 = .ok (.getfield 41, 3) := by decide +kernel
theorem dX5_init_111 : decode cX5_init 111 = .ok (.iload_n 1, 1) := by decide +kernel
theorem dX5_init_112 : decode cX5_init 112 = .ok (.new 39, 3) := by decide +kernel
theorem dX5_init_115 : decode cX5_init 115 = .ok (.dup, 1) := by decide +kernel
theorem dX5_init_116 : decode cX5_init 116 = .ok (.invokespecial 50, 3) := by decide +kernel
theorem dX5_init_119 : decode cX5_init 119 = .ok (.aastore, 1) := by decide +kernel
theorem dX5_init_120 : decode cX5_init 120 = .ok (.iinc 1 1, 3) := by decide +kernel
theorem dX5_init_123 : decode cX5_init 123 = .ok (.goto (-21), 3) := by decide +kernel
theorem dX5_init_126 : decode cX5_init 126 = .ok (.iconst 0, 1) := by decide +kernel
theorem dX5_init_127 : decode cX5_init 127 = .ok (.istore_n 1, 1) := by decide +kernel
theorem dX5_init_128 : decode cX5_init 128 = .ok (.iload_n 1, 1) := by decide +kernel
theorem dX5_init_129 : decode cX5_init 129 = .ok (.ldc 51, 2) := by decide +kernel
theorem dX5_init_131 : decode cX5_init 131 = .ok (.invokevirtual 53, 3) := by decide +kernel
theorem dX5_init_134 : decode cX5_init 134 = .ok (.if_icmp .ge 22, 3) := by decide +kernel
theorem dX5_init_137 : decode cX5_init 137 = .ok (.aload_n 0, 1) := by decide +kernel
theorem dX5_init_138 : decode cX5_init 138 = .ok (.getfield 22, 3) := by decide +kernel
theorem dX5_init_141 : decode cX5_init 141 = .ok (.ldc 51, 2) := by decide +kernel
theorem dX5_init_143 : decode cX5_init 143 = .ok (.iload_n 1, 1) := by decide +kernel
theorem dX5_init_144 : decode cX5_init 144 = .ok (.invokevirtual 59, 3) := by decide +kernel
theorem dX5_init_147 : decode cX5_init 147 = .ok (.invokevirtual 63, 3) := by decide +kernel
theorem dX5_init_150 : decode cX5_init 150 = .ok (.iinc 1 1, 3) := by decide +kernel
theorem dX5_init_153 : decode cX5_init 153 = .ok (.goto (-25), 3) := by decide +kernel
theorem dX5_init_156 : decode cX5_init 156 = .ok (.aload_n 0, 1) := by decide +kernel
theorem dX5_init_157 : decode cX5_init 157 = .ok (.invokevirtual 67, 3) := by decide +kernel
theorem dX5_init_160 : decode cX5_init 160 = .ok (.pop, 1) := by decide +kernel
theorem dX5_init_161 : decode cX5_init 161 = .ok (.return_, 1) := by decide +kernel
theorem dX5_feed_0 : decode cX5_feed 0 = .ok (.iload_n 2, 1) := by decide +kernel
theorem dX5_feed_1 : decode cX5_feed 1 = .ok (.invokestatic 93, 3) := by decide +kernel
theorem dX5_feed_4 : decode cX5_feed 4 = .ok (.ifCond .eq 38, 3) := by decide +kernel
theorem dX5_feed_7 : decode cX5_feed 7 = .ok (.iload_n 3, 1) := by decide +kernel
theorem dX5_feed_8 : decode cX5_feed 8 = .ok (.invokestatic 93, 3) := by decide +kernel
theorem dX5_feed_11 : decode cX5_feed 11 = .ok (.ifCond .eq 31, 3) := by decide +kernel
theorem dX5_feed_14 : decode cX5_feed 14 = .ok (.iload 4, 2) := by decide +kernel
theorem dX5_feed_16 : decode cX5_feed 16 = .ok (.invokestatic 93, 3) := by decide +kernel
theorem dX5_feed_19 : decode cX5_feed 19 = .ok (.ifCond .eq 23, 3) := by decide +kernel
theorem dX5_feed_22 : decode cX5_feed 22 = .ok (.iload 5, 2) := by decide +kernel
theorem dX5_feed_24 : decode cX5_feed 24 = .ok (.invokestatic 93, 3) := by decide +kernel
theorem dX5_feed_27 : decode cX5_feed 27 = .ok (.ifCond .eq 15, 3) := by decide +kernel
theorem dX5_feed_30 : decode cX5_feed 30 = .ok (.iload 6, 2) := by decide +kernel
theorem dX5_feed_32 : decode cX5_feed 32 = .ok (.invokestatic 93, 3) := by decide +kernel
theorem dX5_feed_35 : decode cX5_feed 35 = .ok (.ifCond .eq 7, 3) := by decide +kernel
theorem dX5_feed_38 : decode cX5_feed 38 = .ok (.iconst 1, 1) := by decide +kernel
theorem dX5_feed_39 : decode cX5_feed 39 = .ok (.goto 4, 3) := by decide +kernel
theorem dX5_feed_42 : decode cX5_feed 42 = .ok (.iconst 0, 1) := by decide +kernel
theorem dX5_feed_43 : decode cX5_feed 43 = .ok (.istore 7, 2) := by decide +kernel
theorem dX5_feed_45 : decode cX5_feed 45 = .ok (.iload_n 1, 1) := by decide +kernel
theorem dX5_feed_46 : decode cX5_feed 46 = .ok (.iconst 1, 1) := by decide +kernel
theorem dX5_feed_47 : decode cX5_feed 47 = .ok (.iconst 5, 1) := by decide +kernel
theorem dX5_feed_48 : decode cX5_feed 48 = .ok (.invokestatic 97, 3) := by decide +kernel
theorem dX5_feed_51 : decode cX5_feed 51 = .ok (.ifCond .eq 8, 3) := by decide +kernel
theorem dX5_feed_54 : decode cX5_feed 54 = .ok (.iload 7, 2) := by decide +kernel
theorem dX5_feed_56 : decode cX5_feed 56 = .ok (.ifCond .ne 6, 3) := by decide +kernel
theorem dX5_feed_59 : decode cX5_feed 59 = .ok (.bipush (-2), 2) := by decide +kernel
theorem dX5_feed_61 : decode cX5_feed 61 = .ok (.ireturn, 1) := by decide +kernel
theorem dX5_feed_62 : decode cX5_feed 62 = .ok (.aload_n 0, 1) := by decide +kernel
theorem dX5_feed_63 : decode cX5_feed 63 = .ok (.getfield 22, 3) := by decide +kernel
theorem dX5_feed_66 : decode cX5_feed 66 = .ok (.getfield 90, 3) := by decide +kernel
theorem dX5_feed_69 : decode cX5_feed 69 = .ok (.iload_n 1, 1) := by decide +kernel
theorem dX5_feed_70 : decode cX5_feed 70 = .ok (.iadd, 1) := by decide +kernel
theorem dX5_feed_71 : decode cX5_feed 71 = .ok (.sipush 160, 3) := by decide +kernel
theorem dX5_feed_74 : decode cX5_feed 74 = .ok (.if_icmp .le 6, 3) := by decide +kernel
theorem dX5_feed_77 : decode cX5_feed 77 = .ok (.bipush (-4), 2) := by decide +kernel
theorem dX5_feed_79 : decode cX5_feed 79 = .ok (.ireturn, 1) := by decide +kernel
theorem dX5_feed_80 : decode cX5_feed 80 = .ok (.aload_n 0, 1) := by decide +kernel
theorem dX5_feed_81 : decode cX5_feed 81 = .ok (.getfield 22, 3) := by decide +kernel
theorem dX5_feed_84 : decode cX5_feed 84 = .ok (.iload_n 2, 1) := by decide +kernel
theorem dX5_feed_85 : decode cX5_feed 85 = .ok (.invokevirtual 63, 3) := by decide +kernel
theorem dX5_feed_88 : decode cX5_feed 88 = .ok (.iload_n 1, 1) := by decide +kernel
theorem dX5_feed_89 : decode cX5_feed 89 = .ok (.iconst 1, 1) := by decide +kernel
theorem dX5_feed_90 : decode cX5_feed 90 = .ok (.if_icmp .le 11, 3) := by decide +kernel
theorem dX5_feed_93 : decode cX5_feed 93 = .ok (.aload_n 0, 1) := by decide +kernel
theorem dX5_feed_94 : decode cX5_feed 94 = .ok (.getfield 22, 3) := by decide +kernel
theorem dX5_feed_97 : decode cX5_feed 97 = .ok (.iload_n 3, 1) := by decide +kernel
theorem dX5_feed_98 : decode cX5_feed 98 = .ok (.invokevirtual 63, 3) := by decide +kernel
theorem dX5_feed_101 : decode cX5_feed 101 = .ok (.iload_n 1, 1) := by decide +kernel
theorem dX5_feed_102 : decode cX5_feed 102 = .ok (.iconst 2, 1) := by decide +kernel
theorem dX5_feed_103 : decode cX5_feed 103 = .ok (.if_icmp .le 12, 3) := by decide +kernel
theorem dX5_feed_106 : decode cX5_feed 106 = .ok (.aload_n 0, 1) := by decide +kernel
theorem dX5_feed_107 : decode cX5_feed 107 = .ok (.getfield 22, 3) := by decide +kernel
theorem dX5_feed_110 : decode cX5_feed 110 = .ok (.iload 4, 2) := by decide +kernel
theorem dX5_feed_112 : decode cX5_feed 112 = .ok (.invokevirtual 63, 3) := by decide +kernel
theorem dX5_feed_115 : decode cX5_feed 115 = .ok (.iload_n 1, 1) := by decide +kernel
theorem dX5_feed_116 : decode cX5_feed 116 = .ok (.iconst 3, 1) := by decide +kernel
theorem dX5_feed_117 : decode cX5_feed 117 = .ok (.if_icmp .le 12, 3) := by decide +kernel
theorem dX5_feed_120 : decode cX5_feed 120 = .ok (.aload_n 0, 1) := by decide +kernel
theorem dX5_feed_121 : decode cX5_feed 121 = .ok (.getfield 22, 3) := by decide +kernel
theorem dX5_feed_124 : decode cX5_feed 124 = .ok (.iload 5, 2) := by decide +kernel
theorem dX5_feed_126 : decode cX5_feed 126 = .ok (.invokevirtual 63, 3) := by decide +kernel
theorem dX5_feed_129 : decode cX5_feed 129 = .ok (.iload_n 1, 1) := by decide +kernel
theorem dX5_feed_130 : decode cX5_feed 130 = .ok (.iconst 4, 1) := by decide +kernel
theorem dX5_feed_131 : decode cX5_feed 131 = .ok (.if_icmp .le 12, 3) := by decide +kernel
theorem dX5_feed_134 : decode cX5_feed 134 = .ok (.aload_n 0, 1) := by decide +kernel
theorem dX5_feed_135 : decode cX5_feed 135 = .ok (.getfield 22, 3) := by decide +kernel
theorem dX5_feed_138 : decode cX5_feed 138 = .ok (.iload 6, 2) := by decide +kernel
theorem dX5_feed_140 : decode cX5_feed 140 = .ok (.invokevirtual 63, 3) := by decide +kernel
theorem dX5_feed_143 : decode cX5_feed 143 = .ok (.aload_n 0, 1) := by decide +kernel
theorem dX5_feed_144 : decode cX5_feed 144 = .ok (.getfield 22, 3) := by decide +kernel
theorem dX5_feed_147 : decode cX5_feed 147 = .ok (.getfield 90, 3) := by decide +kernel
theorem dX5_feed_150 : decode cX5_feed 150 = .ok (.ireturn, 1) := by decide +kernel
theorem dX5_text_0 : decode cX5_text 0 = .ok (.aload_n 0, 1) := by decide +kernel
theorem dX5_text_1 : decode cX5_text 1 = .ok (.invokevirtual 67, 3) := by decide +kernel
theorem dX5_text_4 : decode cX5_text 4 = .ok (.ireturn, 1) := by decide +kernel
theorem dX5_force_0 : decode cX5_force 0 = .ok (.iload_n 1, 1) := by decide +kernel
theorem dX5_force_1 : decode cX5_force 1 = .ok (.iconst 0, 1) := by decide +kernel
theorem dX5_force_2 : decode cX5_force 2 = .ok (.aload_n 0, 1) := by decide +kernel
theorem dX5_force_3 : decode cX5_force 3 = .ok (.getfield 83, 3) := by decide +kernel
theorem dX5_force_6 : decode cX5_force 6 = .ok (.iconst 1, 1) := by decide +kernel
theorem dX5_force_7 : decode cX5_force 7 = .ok (.isub, 1) := by decide +kernel
theorem dX5_force_8 : decode cX5_force 8 = .ok (.invokestatic 97, 3) := by decide +kernel
theorem dX5_force_11 : decode cX5_force 11 = .ok (.ifCond .ne 6, 3) := by decide +kernel
theorem dX5_force_14 : decode cX5_force 14 = .ok (.bipush (-2), 2) := by decide +kernel
theorem dX5_force_16 : decode cX5_force 16 = .ok (.ireturn, 1) := by decide +kernel
theorem dX5_force_17 : decode cX5_force 17 = .ok (.aload_n 0, 1) := by decide +kernel
theorem dX5_force_18 : decode cX5_force 18 = .ok (.getfield 10, 3) := by decide +kernel
theorem dX5_force_21 : decode cX5_force 21 = .ok (.getfield 87, 3) := by decide +kernel
theorem dX5_force_24 : decode cX5_force 24 = .ok (.istore_n 2, 1) := by decide +kernel
theorem dX5_force_25 : decode cX5_force 25 = .ok (.aload_n 0, 1) := by decide +kernel
theorem dX5_force_26 : decode cX5_force 26 = .ok (.getfield 10, 3) := by decide +kernel
theorem dX5_force_29 : decode cX5_force 29 = .ok (.iload_n 1, 1) := by decide +kernel
theorem dX5_force_30 : decode cX5_force 30 = .ok (.putfield 87, 3) := by decide +kernel
theorem dX5_force_33 : decode cX5_force 33 = .ok (.iload_n 2, 1) := by decide +kernel
theorem dX5_force_34 : decode cX5_force 34 = .ok (.ireturn, 1) := by decide +kernel
theorem dX5_knit_0 : decode cX5_knit 0 = .ok (.iload_n 1, 1) := by decide +kernel
theorem dX5_knit_1 : decode cX5_knit 1 = .ok (.invokestatic 101, 3) := by decide +kernel
theorem dX5_knit_4 : decode cX5_knit 4 = .ok (.ifCond .ne 6, 3) := by decide +kernel
theorem dX5_knit_7 : decode cX5_knit 7 = .ok (.bipush (-5), 2) := by decide +kernel
theorem dX5_knit_9 : decode cX5_knit 9 = .ok (.ireturn, 1) := by decide +kernel
theorem dX5_knit_10 : decode cX5_knit 10 = .ok (.iload_n 2, 1) := by decide +kernel
theorem dX5_knit_11 : decode cX5_knit 11 = .ok (.iload_n 3, 1) := by decide +kernel
theorem dX5_knit_12 : decode cX5_knit 12 = .ok (.invokestatic 114, 3) := by decide +kernel
theorem dX5_knit_15 : decode cX5_knit 15 = .ok (.ifCond .ne 6, 3) := by decide +kernel
theorem dX5_knit_18 : decode cX5_knit 18 = .ok (.bipush (-7), 2) := by decide +kernel
theorem dX5_knit_20 : decode cX5_knit 20 = .ok (.ireturn, 1) := by decide +kernel
theorem dX5_knit_21 : decode cX5_knit 21 = .ok (.aload_n 0, 1) := by decide +kernel
theorem dX5_knit_22 : decode cX5_knit 22 = .ok (.getfield 10, 3) := by decide +kernel
theorem dX5_knit_25 : decode cX5_knit 25 = .ok (.getfield 118, 3) := by decide +kernel
theorem dX5_knit_28 : decode cX5_knit 28 = .ok (.iload_n 1, 1) := by decide +kernel
theorem dX5_knit_29 : decode cX5_knit 29 = .ok (.iaload, 1) := by decide +kernel
theorem dX5_knit_30 : decode cX5_knit 30 = .ok (.istore 4, 2) := by decide +kernel
theorem dX5_knit_32 : decode cX5_knit 32 = .ok (.aload_n 0, 1) := by decide +kernel
theorem dX5_knit_33 : decode cX5_knit 33 = .ok (.getfield 10, 3) := by decide +kernel
theorem dX5_knit_36 : decode cX5_knit 36 = .ok (.iload_n 1, 1) := by decide +kernel
theorem dX5_knit_37 : decode cX5_knit 37 = .ok (.iload_n 2, 1) := by decide +kernel
theorem dX5_knit_38 : decode cX5_knit 38 = .ok (.iload_n 3, 1) := by decide +kernel
theorem dX5_knit_39 : decode cX5_knit 39 = .ok (.invokevirtual 122, 3) := by decide +kernel
theorem dX5_knit_42 : decode cX5_knit 42 = .ok (.iload 4, 2) := by decide +kernel
theorem dX5_knit_44 : decode cX5_knit 44 = .ok (.ireturn, 1) := by decide +kernel
theorem dX5_pin_0 : decode cX5_pin 0 = .ok (.iload_n 1, 1) := by decide +kernel
theorem dX5_pin_1 : decode cX5_pin 1 = .ok (.invokestatic 101, 3) := by decide +kernel
theorem dX5_pin_4 : decode cX5_pin 4 = .ok (.ifCond .ne 6, 3) := by decide +kernel
theorem dX5_pin_7 : decode cX5_pin 7 = .ok (.bipush (-5), 2) := by decide +kernel
theorem dX5_pin_9 : decode cX5_pin 9 = .ok (.ireturn, 1) := by decide +kernel
theorem dX5_pin_10 : decode cX5_pin 10 = .ok (.iload_n 2, 1) := by decide +kernel
theorem dX5_pin_11 : decode cX5_pin 11 = .ok (.iconst 0, 1) := by decide +kernel
theorem dX5_pin_12 : decode cX5_pin 12 = .ok (.iconst 1, 1) := by decide +kernel
theorem dX5_pin_13 : decode cX5_pin 13 = .ok (.invokestatic 97, 3) := by decide +kernel
theorem dX5_pin_16 : decode cX5_pin 16 = .ok (.ifCond .ne 6, 3) := by decide +kernel
theorem dX5_pin_19 : decode cX5_pin 19 = .ok (.bipush (-7), 2) := by decide +kernel
theorem dX5_pin_21 : decode cX5_pin 21 = .ok (.ireturn, 1) := by decide +kernel
theorem dX5_pin_22 : decode cX5_pin 22 = .ok (.aload_n 0, 1) := by decide +kernel
theorem dX5_pin_23 : decode cX5_pin 23 = .ok (.getfield 10, 3) := by decide +kernel
theorem dX5_pin_26 : decode cX5_pin 26 = .ok (.getfield 70, 3) := by decide +kernel
theorem dX5_pin_29 : decode cX5_pin 29 = .ok (.iload_n 1, 1) := by decide +kernel
theorem dX5_pin_30 : decode cX5_pin 30 = .ok (.invokestatic 139, 3) := by decide +kernel
theorem dX5_pin_33 : decode cX5_pin 33 = .ok (.ifCond .eq 7, 3) := by decide +kernel
theorem dX5_pin_36 : decode cX5_pin 36 = .ok (.iconst 1, 1) := by decide +kernel
theorem dX5_pin_37 : decode cX5_pin 37 = .ok (.goto 4, 3) := by decide +kernel
theorem dX5_pin_40 : decode cX5_pin 40 = .ok (.iconst 0, 1) := by decide +kernel
theorem dX5_pin_41 : decode cX5_pin 41 = .ok (.istore_n 3, 1) := by decide +kernel
theorem dX5_pin_42 : decode cX5_pin 42 = .ok (.aload_n 0, 1) := by decide +kernel
theorem dX5_pin_43 : decode cX5_pin 43 = .ok (.getfield 10, 3) := by decide +kernel
theorem dX5_pin_46 : decode cX5_pin 46 = .ok (.iload_n 2, 1) := by decide +kernel
theorem dX5_pin_47 : decode cX5_pin 47 = .ok (.iconst 1, 1) := by decide +kernel
theorem dX5_pin_48 : decode cX5_pin 48 = .ok (.if_icmp .ne 18, 3) := by decide +kernel
theorem dX5_pin_51 : decode cX5_pin 51 = .ok (.aload_n 0, 1) := by decide +kernel
theorem dX5_pin_52 : decode cX5_pin 52 = .ok (.getfield 10, 3) := by decide +kernel
theorem dX5_pin_55 : decode cX5_pin 55 = .ok (.getfield 70, 3) := by decide +kernel
theorem dX5_pin_58 : decode cX5_pin 58 = .ok (.iload_n 1, 1) := by decide +kernel
theorem dX5_pin_59 : decode cX5_pin 59 = .ok (.invokestatic 143, 3) := by decide +kernel
theorem dX5_pin_62 : decode cX5_pin 62 = .ok (.lor, 1) := by decide +kernel
theorem dX5_pin_63 : decode cX5_pin 63 = .ok (.goto 19, 3) := by decide +kernel
theorem dX5_pin_66 : decode cX5_pin 66 = .ok (.aload_n 0, 1) := by decide +kernel
theorem dX5_pin_67 : decode cX5_pin 67 = .ok (.getfield 10, 3) := by decide +kernel
theorem dX5_pin_70 : decode cX5_pin 70 = .ok (.getfield 70, 3) := by decide +kernel
theorem dX5_pin_73 : decode cX5_pin 73 = .ok (.iload_n 1, 1) := by decide +kernel
theorem dX5_pin_74 : decode cX5_pin 74 = .ok (.invokestatic 143, 3) := by decide +kernel
theorem dX5_pin_77 : decode cX5_pin 77 = .ok (.ldc2_w 147, 3) := by decide +kernel
theorem dX5_pin_80 : decode cX5_pin 80 = .ok (.lxor, 1) := by decide +kernel
theorem dX5_pin_81 : decode cX5_pin 81 = .ok (.land, 1) := by decide +kernel
theorem dX5_pin_82 : decode cX5_pin 82 = .ok (.putfield 70, 3) := by decide +kernel
theorem dX5_pin_85 : decode cX5_pin 85 = .ok (.iload_n 3, 1) := by decide +kernel
theorem dX5_pin_86 : decode cX5_pin 86 = .ok (.ireturn, 1) := by decide +kernel
theorem dX5_run_0 : decode cX5_run 0 = .ok (.iload_n 1, 1) := by decide +kernel
theorem dX5_run_1 : decode cX5_run 1 = .ok (.invokestatic 101, 3) := by decide +kernel
theorem dX5_run_4 : decode cX5_run 4 = .ok (.ifCond .ne 6, 3) := by decide +kernel
theorem dX5_run_7 : decode cX5_run 7 = .ok (.bipush (-5), 2) := by decide +kernel
theorem dX5_run_9 : decode cX5_run 9 = .ok (.ireturn, 1) := by decide +kernel
theorem dX5_run_10 : decode cX5_run 10 = .ok (.iload_n 2, 1) := by decide +kernel
theorem dX5_run_11 : decode cX5_run 11 = .ok (.invokestatic 104, 3) := by decide +kernel
theorem dX5_run_14 : decode cX5_run 14 = .ok (.ifCond .eq 12, 3) := by decide +kernel
theorem dX5_run_17 : decode cX5_run 17 = .ok (.iload_n 3, 1) := by decide +kernel
theorem dX5_run_18 : decode cX5_run 18 = .ok (.iconst 0, 1) := by decide +kernel
theorem dX5_run_19 : decode cX5_run 19 = .ok (.iconst 3, 1) := by decide +kernel
theorem dX5_run_20 : decode cX5_run 20 = .ok (.invokestatic 97, 3) := by decide +kernel
theorem dX5_run_23 : decode cX5_run 23 = .ok (.ifCond .ne 6, 3) := by decide +kernel
theorem dX5_run_26 : decode cX5_run 26 = .ok (.bipush (-7), 2) := by decide +kernel
theorem dX5_run_28 : decode cX5_run 28 = .ok (.ireturn, 1) := by decide +kernel
theorem dX5_run_29 : decode cX5_run 29 = .ok (.aload_n 0, 1) := by decide +kernel
theorem dX5_run_30 : decode cX5_run 30 = .ok (.iload_n 1, 1) := by decide +kernel
theorem dX5_run_31 : decode cX5_run 31 = .ok (.iload_n 2, 1) := by decide +kernel
theorem dX5_run_32 : decode cX5_run 32 = .ok (.invokevirtual 163, 3) := by decide +kernel
theorem dX5_run_35 : decode cX5_run 35 = .ok (.pop, 1) := by decide +kernel
theorem dX5_run_36 : decode cX5_run 36 = .ok (.iload_n 3, 1) := by decide +kernel
theorem dX5_run_37 : decode cX5_run 37 = .ok (.tableswitch 49 0 2 #[27, 38, 43], 27) := by decide +kernel
theorem dX5_run_64 : decode cX5_run 64 = .ok (.aload_n 0, 1) := by decide +kernel
theorem dX5_run_65 : decode cX5_run 65 = .ok (.getfield 35, 3) := by decide +kernel
theorem dX5_run_68 : decode cX5_run 68 = .ok (.getfield 167, 3) := by decide +kernel
theorem dX5_run_71 : decode cX5_run 71 = .ok (.invokestatic 74, 3) := by decide +kernel
theorem dX5_run_74 : decode cX5_run 74 = .ok (.ireturn, 1) := by decide +kernel
theorem dX5_run_75 : decode cX5_run 75 = .ok (.aload_n 0, 1) := by decide +kernel
theorem dX5_run_76 : decode cX5_run 76 = .ok (.invokevirtual 170, 3) := by decide +kernel
theorem dX5_run_79 : decode cX5_run 79 = .ok (.ireturn, 1) := by decide +kernel
theorem dX5_run_80 : decode cX5_run 80 = .ok (.aload_n 0, 1) := by decide +kernel
theorem dX5_run_81 : decode cX5_run 81 = .ok (.iconst 1, 1) := by decide +kernel
theorem dX5_run_82 : decode cX5_run 82 = .ok (.invokevirtual 173, 3) := by decide +kernel
theorem dX5_run_85 : decode cX5_run 85 = .ok (.ireturn, 1) := by decide +kernel
theorem dX5_run_86 : decode cX5_run 86 = .ok (.aload_n 0, 1) := by decide +kernel
theorem dX5_run_87 : decode cX5_run 87 = .ok (.iconst 2, 1) := by decide +kernel
theorem dX5_run_88 : decode cX5_run 88 = .ok (.invokevirtual 173, 3) := by decide +kernel
theorem dX5_run_91 : decode cX5_run 91 = .ok (.ireturn, 1) := by decide +kernel
theorem dX5_goes_0 : decode cX5_goes 0 = .ok (.iload_n 1, 1) := by decide +kernel
theorem dX5_goes_1 : decode cX5_goes 1 = .ok (.invokestatic 101, 3) := by decide +kernel
theorem dX5_goes_4 : decode cX5_goes 4 = .ok (.ifCond .eq 19, 3) := by decide +kernel
theorem dX5_goes_7 : decode cX5_goes 7 = .ok (.iload_n 2, 1) := by decide +kernel
theorem dX5_goes_8 : decode cX5_goes 8 = .ok (.invokestatic 104, 3) := by decide +kernel
theorem dX5_goes_11 : decode cX5_goes 11 = .ok (.ifCond .eq 12, 3) := by decide +kernel
theorem dX5_goes_14 : decode cX5_goes 14 = .ok (.iload_n 3, 1) := by decide +kernel
theorem dX5_goes_15 : decode cX5_goes 15 = .ok (.iconst 0, 1) := by decide +kernel
theorem dX5_goes_16 : decode cX5_goes 16 = .ok (.iconst 1, 1) := by decide +kernel
theorem dX5_goes_17 : decode cX5_goes 17 = .ok (.invokestatic 97, 3) := by decide +kernel
theorem dX5_goes_20 : decode cX5_goes 20 = .ok (.ifCond .ne 7, 3) := by decide +kernel
theorem dX5_goes_23 : decode cX5_goes 23 = .ok (.ldc2_w 149, 3) := by decide +kernel
theorem dX5_goes_26 : decode cX5_goes 26 = .ok (.lreturn, 1) := by decide +kernel
theorem dX5_goes_27 : decode cX5_goes 27 = .ok (.aload_n 0, 1) := by decide +kernel
theorem dX5_goes_28 : decode cX5_goes 28 = .ok (.iload_n 1, 1) := by decide +kernel
theorem dX5_goes_29 : decode cX5_goes 29 = .ok (.iload_n 2, 1) := by decide +kernel
theorem dX5_goes_30 : decode cX5_goes 30 = .ok (.invokevirtual 163, 3) := by decide +kernel
theorem dX5_goes_33 : decode cX5_goes 33 = .ok (.pop, 1) := by decide +kernel
theorem dX5_goes_34 : decode cX5_goes 34 = .ok (.iload_n 3, 1) := by decide +kernel
theorem dX5_goes_35 : decode cX5_goes 35 = .ok (.ifCond .ne 13, 3) := by decide +kernel
theorem dX5_goes_38 : decode cX5_goes 38 = .ok (.aload_n 0, 1) := by decide +kernel
theorem dX5_goes_39 : decode cX5_goes 39 = .ok (.getfield 35, 3) := by decide +kernel
theorem dX5_goes_42 : decode cX5_goes 42 = .ok (.getfield 167, 3) := by decide +kernel
theorem dX5_goes_45 : decode cX5_goes 45 = .ok (.goto 10, 3) := by decide +kernel
theorem dX5_goes_48 : decode cX5_goes 48 = .ok (.aload_n 0, 1) := by decide +kernel
theorem dX5_goes_49 : decode cX5_goes 49 = .ok (.getfield 35, 3) := by decide +kernel
theorem dX5_goes_52 : decode cX5_goes 52 = .ok (.getfield 176, 3) := by decide +kernel
theorem dX5_goes_55 : decode cX5_goes 55 = .ok (.lreturn, 1) := by decide +kernel
theorem dX5_left_0 : decode cX5_left 0 = .ok (.iload_n 1, 1) := by decide +kernel
theorem dX5_left_1 : decode cX5_left 1 = .ok (.invokestatic 101, 3) := by decide +kernel
theorem dX5_left_4 : decode cX5_left 4 = .ok (.ifCond .eq 10, 3) := by decide +kernel
theorem dX5_left_7 : decode cX5_left 7 = .ok (.iload_n 3, 1) := by decide +kernel
theorem dX5_left_8 : decode cX5_left 8 = .ok (.invokestatic 101, 3) := by decide +kernel
theorem dX5_left_11 : decode cX5_left 11 = .ok (.ifCond .ne 6, 3) := by decide +kernel
theorem dX5_left_14 : decode cX5_left 14 = .ok (.bipush (-5), 2) := by decide +kernel
theorem dX5_left_16 : decode cX5_left 16 = .ok (.ireturn, 1) := by decide +kernel
theorem dX5_left_17 : decode cX5_left 17 = .ok (.iload_n 2, 1) := by decide +kernel
theorem dX5_left_18 : decode cX5_left 18 = .ok (.invokestatic 104, 3) := by decide +kernel
theorem dX5_left_21 : decode cX5_left 21 = .ok (.ifCond .ne 6, 3) := by decide +kernel
theorem dX5_left_24 : decode cX5_left 24 = .ok (.bipush (-7), 2) := by decide +kernel
theorem dX5_left_26 : decode cX5_left 26 = .ok (.ireturn, 1) := by decide +kernel
theorem dX5_left_27 : decode cX5_left 27 = .ok (.aload_n 0, 1) := by decide +kernel
theorem dX5_left_28 : decode cX5_left 28 = .ok (.iload_n 1, 1) := by decide +kernel
theorem dX5_left_29 : decode cX5_left 29 = .ok (.iload_n 2, 1) := by decide +kernel
theorem dX5_left_30 : decode cX5_left 30 = .ok (.invokevirtual 163, 3) := by decide +kernel
theorem dX5_left_33 : decode cX5_left 33 = .ok (.pop, 1) := by decide +kernel
theorem dX5_left_34 : decode cX5_left 34 = .ok (.aload_n 0, 1) := by decide +kernel
theorem dX5_left_35 : decode cX5_left 35 = .ok (.getfield 35, 3) := by decide +kernel
theorem dX5_left_38 : decode cX5_left 38 = .ok (.getfield 167, 3) := by decide +kernel
theorem dX5_left_41 : decode cX5_left 41 = .ok (.iload_n 3, 1) := by decide +kernel
theorem dX5_left_42 : decode cX5_left 42 = .ok (.invokestatic 139, 3) := by decide +kernel
theorem dX5_left_45 : decode cX5_left 45 = .ok (.ifCond .eq 15, 3) := by decide +kernel
theorem dX5_left_48 : decode cX5_left 48 = .ok (.aload_n 0, 1) := by decide +kernel
theorem dX5_left_49 : decode cX5_left 49 = .ok (.getfield 35, 3) := by decide +kernel
theorem dX5_left_52 : decode cX5_left 52 = .ok (.getfield 179, 3) := by decide +kernel
theorem dX5_left_55 : decode cX5_left 55 = .ok (.iload_n 3, 1) := by decide +kernel
theorem dX5_left_56 : decode cX5_left 56 = .ok (.iaload, 1) := by decide +kernel
theorem dX5_left_57 : decode cX5_left 57 = .ok (.goto 4, 3) := by decide +kernel
theorem dX5_left_60 : decode cX5_left 60 = .ok (.iconst (-1), 1) := by decide +kernel
theorem dX5_left_61 : decode cX5_left 61 = .ok (.ireturn, 1) := by decide +kernel
theorem dX5_column_0 : decode cX5_column 0 = .ok (.iload_n 1, 1) := by decide +kernel
theorem dX5_column_1 : decode cX5_column 1 = .ok (.iconst 0, 1) := by decide +kernel
theorem dX5_column_2 : decode cX5_column 2 = .ok (.iconst 5, 1) := by decide +kernel
theorem dX5_column_3 : decode cX5_column 3 = .ok (.invokestatic 97, 3) := by decide +kernel
theorem dX5_column_6 : decode cX5_column 6 = .ok (.ifCond .ne 6, 3) := by decide +kernel
theorem dX5_column_9 : decode cX5_column 9 = .ok (.bipush (-5), 2) := by decide +kernel
theorem dX5_column_11 : decode cX5_column 11 = .ok (.ireturn, 1) := by decide +kernel
theorem dX5_column_12 : decode cX5_column 12 = .ok (.iload_n 2, 1) := by decide +kernel
theorem dX5_column_13 : decode cX5_column 13 = .ok (.invokestatic 104, 3) := by decide +kernel
theorem dX5_column_16 : decode cX5_column 16 = .ok (.ifCond .eq 12, 3) := by decide +kernel
theorem dX5_column_19 : decode cX5_column 19 = .ok (.iload_n 3, 1) := by decide +kernel
theorem dX5_column_20 : decode cX5_column 20 = .ok (.iconst 0, 1) := by decide +kernel
theorem dX5_column_21 : decode cX5_column 21 = .ok (.iconst 1, 1) := by decide +kernel
theorem dX5_column_22 : decode cX5_column 22 = .ok (.invokestatic 97, 3) := by decide +kernel
theorem dX5_column_25 : decode cX5_column 25 = .ok (.ifCond .ne 6, 3) := by decide +kernel
theorem dX5_column_28 : decode cX5_column 28 = .ok (.bipush (-7), 2) := by decide +kernel
theorem dX5_column_30 : decode cX5_column 30 = .ok (.ireturn, 1) := by decide +kernel
theorem dX5_column_31 : decode cX5_column 31 = .ok (.lconst 0, 1) := by decide +kernel
theorem dX5_column_32 : decode cX5_column 32 = .ok (.lstore 4, 2) := by decide +kernel
theorem dX5_column_34 : decode cX5_column 34 = .ok (.iconst 0, 1) := by decide +kernel
theorem dX5_column_35 : decode cX5_column 35 = .ok (.istore 6, 2) := by decide +kernel
theorem dX5_column_37 : decode cX5_column 37 = .ok (.iload 6, 2) := by decide +kernel
theorem dX5_column_39 : decode cX5_column 39 = .ok (.bipush 8, 2) := by decide +kernel
theorem dX5_column_41 : decode cX5_column 41 = .ok (.if_icmp .ge 24, 3) := by decide +kernel
theorem dX5_column_44 : decode cX5_column 44 = .ok (.lload 4, 2) := by decide +kernel
theorem dX5_column_46 : decode cX5_column 46 = .ok (.iload 6, 2) := by decide +kernel
theorem dX5_column_48 : decode cX5_column 48 = .ok (.bipush 6, 2) := by decide +kernel
theorem dX5_column_50 : decode cX5_column 50 = .ok (.imul, 1) := by decide +kernel
theorem dX5_column_51 : decode cX5_column 51 = .ok (.iload_n 1, 1) := by decide +kernel
theorem dX5_column_52 : decode cX5_column 52 = .ok (.iadd, 1) := by decide +kernel
theorem dX5_column_53 : decode cX5_column 53 = .ok (.invokestatic 143, 3) := by decide +kernel
theorem dX5_column_56 : decode cX5_column 56 = .ok (.lor, 1) := by decide +kernel
theorem dX5_column_57 : decode cX5_column 57 = .ok (.lstore 4, 2) := by decide +kernel
theorem dX5_column_59 : decode cX5_column 59 = .ok (.iinc 6 1, 3) := by decide +kernel
theorem dX5_column_62 : decode cX5_column 62 = .ok (.goto (-25), 3) := by decide +kernel
theorem dX5_column_65 : decode cX5_column 65 = .ok (.aload_n 0, 1) := by decide +kernel
theorem dX5_column_66 : decode cX5_column 66 = .ok (.getfield 35, 3) := by decide +kernel
theorem dX5_column_69 : decode cX5_column 69 = .ok (.aload_n 0, 1) := by decide +kernel
theorem dX5_column_70 : decode cX5_column 70 = .ok (.getfield 10, 3) := by decide +kernel
theorem dX5_column_73 : decode cX5_column 73 = .ok (.aload_n 0, 1) := by decide +kernel
theorem dX5_column_74 : decode cX5_column 74 = .ok (.invokevirtual 107, 3) := by decide +kernel
theorem dX5_column_77 : decode cX5_column 77 = .ok (.lload 4, 2) := by decide +kernel
theorem dX5_column_79 : decode cX5_column 79 = .ok (.lconst 0, 1) := by decide +kernel
theorem dX5_column_80 : decode cX5_column 80 = .ok (.iload_n 2, 1) := by decide +kernel
theorem dX5_column_81 : decode cX5_column 81 = .ok (.invokevirtual 182, 3) := by decide +kernel
theorem dX5_column_84 : decode cX5_column 84 = .ok (.pop, 1) := by decide +kernel
theorem dX5_column_85 : decode cX5_column 85 = .ok (.iload_n 3, 1) := by decide +kernel
theorem dX5_column_86 : decode cX5_column 86 = .ok (.ifCond .ne 13, 3) := by decide +kernel
theorem dX5_column_89 : decode cX5_column 89 = .ok (.aload_n 0, 1) := by decide +kernel
theorem dX5_column_90 : decode cX5_column 90 = .ok (.getfield 35, 3) := by decide +kernel
theorem dX5_column_93 : decode cX5_column 93 = .ok (.getfield 167, 3) := by decide +kernel
theorem dX5_column_96 : decode cX5_column 96 = .ok (.goto 17, 3) := by decide +kernel
theorem dX5_column_99 : decode cX5_column 99 = .ok (.aload_n 0, 1) := by decide +kernel
theorem dX5_column_100 : decode cX5_column 100 = .ok (.getfield 35, 3) := by decide +kernel
theorem dX5_column_103 : decode cX5_column 103 = .ok (.getfield 167, 3) := by decide +kernel
theorem dX5_column_106 : decode cX5_column 106 = .ok (.lload 4, 2) := by decide +kernel
theorem dX5_column_108 : decode cX5_column 108 = .ok (.ldc2_w 147, 3) := by decide +kernel
theorem dX5_column_111 : decode cX5_column 111 = .ok (.lxor, 1) := by decide +kernel
theorem dX5_column_112 : decode cX5_column 112 = .ok (.land, 1) := by decide +kernel
theorem dX5_column_113 : decode cX5_column 113 = .ok (.invokestatic 74, 3) := by decide +kernel
theorem dX5_column_116 : decode cX5_column 116 = .ok (.ireturn, 1) := by decide +kernel
theorem dX5_pinned_0 : decode cX5_pinned 0 = .ok (.iload_n 1, 1) := by decide +kernel
theorem dX5_pinned_1 : decode cX5_pinned 1 = .ok (.invokestatic 101, 3) := by decide +kernel
theorem dX5_pinned_4 : decode cX5_pinned 4 = .ok (.ifCond .ne 6, 3) := by decide +kernel
theorem dX5_pinned_7 : decode cX5_pinned 7 = .ok (.bipush (-5), 2) := by decide +kernel
theorem dX5_pinned_9 : decode cX5_pinned 9 = .ok (.ireturn, 1) := by decide +kernel
theorem dX5_pinned_10 : decode cX5_pinned 10 = .ok (.iload_n 2, 1) := by decide +kernel
theorem dX5_pinned_11 : decode cX5_pinned 11 = .ok (.invokestatic 104, 3) := by decide +kernel
theorem dX5_pinned_14 : decode cX5_pinned 14 = .ok (.ifCond .eq 23, 3) := by decide +kernel
theorem dX5_pinned_17 : decode cX5_pinned 17 = .ok (.iload_n 3, 1) := by decide +kernel
theorem dX5_pinned_18 : decode cX5_pinned 18 = .ok (.iconst 0, 1) := by decide +kernel
theorem dX5_pinned_19 : decode cX5_pinned 19 = .ok (.bipush 48, 2) := by decide +kernel
theorem dX5_pinned_21 : decode cX5_pinned 21 = .ok (.invokestatic 97, 3) := by decide +kernel
theorem dX5_pinned_24 : decode cX5_pinned 24 = .ok (.ifCond .eq 13, 3) := by decide +kernel
theorem dX5_pinned_27 : decode cX5_pinned 27 = .ok (.iload 4, 2) := by decide +kernel
theorem dX5_pinned_29 : decode cX5_pinned 29 = .ok (.iconst 0, 1) := by decide +kernel
theorem dX5_pinned_30 : decode cX5_pinned 30 = .ok (.iconst 2, 1) := by decide +kernel
theorem dX5_pinned_31 : decode cX5_pinned 31 = .ok (.invokestatic 97, 3) := by decide +kernel
theorem dX5_pinned_34 : decode cX5_pinned 34 = .ok (.ifCond .ne 6, 3) := by decide +kernel
theorem dX5_pinned_37 : decode cX5_pinned 37 = .ok (.bipush (-7), 2) := by decide +kernel
theorem dX5_pinned_39 : decode cX5_pinned 39 = .ok (.ireturn, 1) := by decide +kernel
theorem dX5_pinned_40 : decode cX5_pinned 40 = .ok (.aload_n 0, 1) := by decide +kernel
theorem dX5_pinned_41 : decode cX5_pinned 41 = .ok (.iload_n 1, 1) := by decide +kernel
theorem dX5_pinned_42 : decode cX5_pinned 42 = .ok (.iload_n 2, 1) := by decide +kernel
theorem dX5_pinned_43 : decode cX5_pinned 43 = .ok (.lconst 0, 1) := by decide +kernel
theorem dX5_pinned_44 : decode cX5_pinned 44 = .ok (.invokevirtual 209, 3) := by decide +kernel
theorem dX5_pinned_47 : decode cX5_pinned 47 = .ok (.iload_n 3, 1) := by decide +kernel
theorem dX5_pinned_48 : decode cX5_pinned 48 = .ok (.if_icmp .gt 14, 3) := by decide +kernel
theorem dX5_pinned_51 : decode cX5_pinned 51 = .ok (.iload 4, 2) := by decide +kernel
theorem dX5_pinned_53 : decode cX5_pinned 53 = .ok (.ifCond .ne 7, 3) := by decide +kernel
theorem dX5_pinned_56 : decode cX5_pinned 56 = .ok (.iconst 0, 1) := by decide +kernel
theorem dX5_pinned_57 : decode cX5_pinned 57 = .ok (.goto 4, 3) := by decide +kernel
theorem dX5_pinned_60 : decode cX5_pinned 60 = .ok (.iconst (-1), 1) := by decide +kernel
theorem dX5_pinned_61 : decode cX5_pinned 61 = .ok (.ireturn, 1) := by decide +kernel
theorem dX5_pinned_62 : decode cX5_pinned 62 = .ok (.aload_n 0, 1) := by decide +kernel
theorem dX5_pinned_63 : decode cX5_pinned 63 = .ok (.getfield 35, 3) := by decide +kernel
theorem dX5_pinned_66 : decode cX5_pinned 66 = .ok (.getfield 167, 3) := by decide +kernel
theorem dX5_pinned_69 : decode cX5_pinned 69 = .ok (.iload_n 1, 1) := by decide +kernel
theorem dX5_pinned_70 : decode cX5_pinned 70 = .ok (.invokestatic 143, 3) := by decide +kernel
theorem dX5_pinned_73 : decode cX5_pinned 73 = .ok (.ldc2_w 147, 3) := by decide +kernel
theorem dX5_pinned_76 : decode cX5_pinned 76 = .ok (.lxor, 1) := by decide +kernel
theorem dX5_pinned_77 : decode cX5_pinned 77 = .ok (.land, 1) := by decide +kernel
theorem dX5_pinned_78 : decode cX5_pinned 78 = .ok (.lstore 5, 2) := by decide +kernel
theorem dX5_pinned_80 : decode cX5_pinned 80 = .ok (.iconst 0, 1) := by decide +kernel
theorem dX5_pinned_81 : decode cX5_pinned 81 = .ok (.istore 7, 2) := by decide +kernel
theorem dX5_pinned_83 : decode cX5_pinned 83 = .ok (.iload 7, 2) := by decide +kernel
theorem dX5_pinned_85 : decode cX5_pinned 85 = .ok (.bipush 48, 2) := by decide +kernel
theorem dX5_pinned_87 : decode cX5_pinned 87 = .ok (.if_icmp .ge 56, 3) := by decide +kernel
theorem dX5_pinned_90 : decode cX5_pinned 90 = .ok (.lload 5, 2) := by decide +kernel
theorem dX5_pinned_92 : decode cX5_pinned 92 = .ok (.iload 7, 2) := by decide +kernel
theorem dX5_pinned_94 : decode cX5_pinned 94 = .ok (.invokestatic 139, 3) := by decide +kernel
theorem dX5_pinned_97 : decode cX5_pinned 97 = .ok (.ifCond .eq 40, 3) := by decide +kernel
theorem dX5_pinned_100 : decode cX5_pinned 100 = .ok (.aload_n 0, 1) := by decide +kernel
theorem dX5_pinned_101 : decode cX5_pinned 101 = .ok (.iload_n 1, 1) := by decide +kernel
theorem dX5_pinned_102 : decode cX5_pinned 102 = .ok (.iload_n 2, 1) := by decide +kernel
theorem dX5_pinned_103 : decode cX5_pinned 103 = .ok (.iload 7, 2) := by decide +kernel
theorem dX5_pinned_105 : decode cX5_pinned 105 = .ok (.invokestatic 143, 3) := by decide +kernel
theorem dX5_pinned_108 : decode cX5_pinned 108 = .ok (.invokevirtual 209, 3) := by decide +kernel
theorem dX5_pinned_111 : decode cX5_pinned 111 = .ok (.iload_n 3, 1) := by decide +kernel
theorem dX5_pinned_112 : decode cX5_pinned 112 = .ok (.if_icmp .gt 25, 3) := by decide +kernel
theorem dX5_pinned_115 : decode cX5_pinned 115 = .ok (.iload 4, 2) := by decide +kernel
theorem dX5_pinned_117 : decode cX5_pinned 117 = .ok (.ifCond .ne 7, 3) := by decide +kernel
theorem dX5_pinned_120 : decode cX5_pinned 120 = .ok (.iconst 1, 1) := by decide +kernel
theorem dX5_pinned_121 : decode cX5_pinned 121 = .ok (.goto 15, 3) := by decide +kernel
theorem dX5_pinned_124 : decode cX5_pinned 124 = .ok (.iload 4, 2) := by decide +kernel
theorem dX5_pinned_126 : decode cX5_pinned 126 = .ok (.iconst 1, 1) := by decide +kernel
theorem dX5_pinned_127 : decode cX5_pinned 127 = .ok (.if_icmp .ne 8, 3) := by decide +kernel
theorem dX5_pinned_130 : decode cX5_pinned 130 = .ok (.iload 7, 2) := by decide +kernel
theorem dX5_pinned_132 : decode cX5_pinned 132 = .ok (.goto 4, 3) := by decide +kernel
theorem dX5_pinned_135 : decode cX5_pinned 135 = .ok (.iconst (-1), 1) := by decide +kernel
theorem dX5_pinned_136 : decode cX5_pinned 136 = .ok (.ireturn, 1) := by decide +kernel
theorem dX5_pinned_137 : decode cX5_pinned 137 = .ok (.iinc 7 1, 3) := by decide +kernel
theorem dX5_pinned_140 : decode cX5_pinned 140 = .ok (.goto (-57), 3) := by decide +kernel
theorem dX5_pinned_143 : decode cX5_pinned 143 = .ok (.iconst 0, 1) := by decide +kernel
theorem dX5_pinned_144 : decode cX5_pinned 144 = .ok (.istore 7, 2) := by decide +kernel
theorem dX5_pinned_146 : decode cX5_pinned 146 = .ok (.iload 7, 2) := by decide +kernel
theorem dX5_pinned_148 : decode cX5_pinned 148 = .ok (.bipush 48, 2) := by decide +kernel
theorem dX5_pinned_150 : decode cX5_pinned 150 = .ok (.if_icmp .ge 92, 3) := by decide +kernel
theorem dX5_pinned_153 : decode cX5_pinned 153 = .ok (.iload 7, 2) := by decide +kernel
theorem dX5_pinned_155 : decode cX5_pinned 155 = .ok (.iconst 1, 1) := by decide +kernel
theorem dX5_pinned_156 : decode cX5_pinned 156 = .ok (.iadd, 1) := by decide +kernel
theorem dX5_pinned_157 : decode cX5_pinned 157 = .ok (.istore 8, 2) := by decide +kernel
theorem dX5_pinned_159 : decode cX5_pinned 159 = .ok (.iload 8, 2) := by decide +kernel
theorem dX5_pinned_161 : decode cX5_pinned 161 = .ok (.bipush 48, 2) := by decide +kernel
theorem dX5_pinned_163 : decode cX5_pinned 163 = .ok (.if_icmp .ge 73, 3) := by decide +kernel
theorem dX5_pinned_166 : decode cX5_pinned 166 = .ok (.lload 5, 2) := by decide +kernel
theorem dX5_pinned_168 : decode cX5_pinned 168 = .ok (.iload 7, 2) := by decide +kernel
theorem dX5_pinned_170 : decode cX5_pinned 170 = .ok (.invokestatic 139, 3) := by decide +kernel
theorem dX5_pinned_173 : decode cX5_pinned 173 = .ok (.ifCond .eq 57, 3) := by decide +kernel
theorem dX5_pinned_176 : decode cX5_pinned 176 = .ok (.lload 5, 2) := by decide +kernel
theorem dX5_pinned_178 : decode cX5_pinned 178 = .ok (.iload 8, 2) := by decide +kernel
theorem dX5_pinned_180 : decode cX5_pinned 180 = .ok (.invokestatic 139, 3) := by decide +kernel
theorem dX5_pinned_183 : decode cX5_pinned 183 = .ok (.ifCond .eq 47, 3) := by decide +kernel
theorem dX5_pinned_186 : decode cX5_pinned 186 = .ok (.aload_n 0, 1) := by decide +kernel
theorem dX5_pinned_187 : decode cX5_pinned 187 = .ok (.iload_n 1, 1) := by decide +kernel
theorem dX5_pinned_188 : decode cX5_pinned 188 = .ok (.iload_n 2, 1) := by decide +kernel
theorem dX5_pinned_189 : decode cX5_pinned 189 = .ok (.iload 7, 2) := by decide +kernel
theorem dX5_pinned_191 : decode cX5_pinned 191 = .ok (.invokestatic 143, 3) := by decide +kernel
theorem dX5_pinned_194 : decode cX5_pinned 194 = .ok (.iload 8, 2) := by decide +kernel
theorem dX5_pinned_196 : decode cX5_pinned 196 = .ok (.invokestatic 143, 3) := by decide +kernel
theorem dX5_pinned_199 : decode cX5_pinned 199 = .ok (.lor, 1) := by decide +kernel
theorem dX5_pinned_200 : decode cX5_pinned 200 = .ok (.invokevirtual 209, 3) := by decide +kernel
theorem dX5_pinned_203 : decode cX5_pinned 203 = .ok (.iload_n 3, 1) := by decide +kernel
theorem dX5_pinned_204 : decode cX5_pinned 204 = .ok (.if_icmp .gt 26, 3) := by decide +kernel
theorem dX5_pinned_207 : decode cX5_pinned 207 = .ok (.iload 4, 2) := by decide +kernel
theorem dX5_pinned_209 : decode cX5_pinned 209 = .ok (.ifCond .ne 7, 3) := by decide +kernel
theorem dX5_pinned_212 : decode cX5_pinned 212 = .ok (.iconst 2, 1) := by decide +kernel
theorem dX5_pinned_213 : decode cX5_pinned 213 = .ok (.goto 16, 3) := by decide +kernel
theorem dX5_pinned_216 : decode cX5_pinned 216 = .ok (.iload 4, 2) := by decide +kernel
theorem dX5_pinned_218 : decode cX5_pinned 218 = .ok (.iconst 1, 1) := by decide +kernel
theorem dX5_pinned_219 : decode cX5_pinned 219 = .ok (.if_icmp .ne 8, 3) := by decide +kernel
theorem dX5_pinned_222 : decode cX5_pinned 222 = .ok (.iload 7, 2) := by decide +kernel
theorem dX5_pinned_224 : decode cX5_pinned 224 = .ok (.goto 5, 3) := by decide +kernel
theorem dX5_pinned_227 : decode cX5_pinned 227 = .ok (.iload 8, 2) := by decide +kernel
theorem dX5_pinned_229 : decode cX5_pinned 229 = .ok (.ireturn, 1) := by decide +kernel
theorem dX5_pinned_230 : decode cX5_pinned 230 = .ok (.iinc 8 1, 3) := by decide +kernel
theorem dX5_pinned_233 : decode cX5_pinned 233 = .ok (.goto (-74), 3) := by decide +kernel
theorem dX5_pinned_236 : decode cX5_pinned 236 = .ok (.iinc 7 1, 3) := by decide +kernel
theorem dX5_pinned_239 : decode cX5_pinned 239 = .ok (.goto (-93), 3) := by decide +kernel
theorem dX5_pinned_242 : decode cX5_pinned 242 = .ok (.iconst (-1), 1) := by decide +kernel
theorem dX5_pinned_243 : decode cX5_pinned 243 = .ok (.ireturn, 1) := by decide +kernel
theorem dX5_mending_0 : decode cX5_mending 0 = .ok (.iload_n 1, 1) := by decide +kernel
theorem dX5_mending_1 : decode cX5_mending 1 = .ok (.invokestatic 101, 3) := by decide +kernel
theorem dX5_mending_4 : decode cX5_mending 4 = .ok (.ifCond .ne 6, 3) := by decide +kernel
theorem dX5_mending_7 : decode cX5_mending 7 = .ok (.bipush (-5), 2) := by decide +kernel
theorem dX5_mending_9 : decode cX5_mending 9 = .ok (.ireturn, 1) := by decide +kernel
theorem dX5_mending_10 : decode cX5_mending 10 = .ok (.iload_n 2, 1) := by decide +kernel
theorem dX5_mending_11 : decode cX5_mending 11 = .ok (.invokestatic 104, 3) := by decide +kernel
theorem dX5_mending_14 : decode cX5_mending 14 = .ok (.ifCond .eq 12, 3) := by decide +kernel
theorem dX5_mending_17 : decode cX5_mending 17 = .ok (.iload_n 3, 1) := by decide +kernel
theorem dX5_mending_18 : decode cX5_mending 18 = .ok (.iconst 0, 1) := by decide +kernel
theorem dX5_mending_19 : decode cX5_mending 19 = .ok (.iconst 1, 1) := by decide +kernel
theorem dX5_mending_20 : decode cX5_mending 20 = .ok (.invokestatic 97, 3) := by decide +kernel
theorem dX5_mending_23 : decode cX5_mending 23 = .ok (.ifCond .ne 6, 3) := by decide +kernel
theorem dX5_mending_26 : decode cX5_mending 26 = .ok (.bipush (-7), 2) := by decide +kernel
theorem dX5_mending_28 : decode cX5_mending 28 = .ok (.ireturn, 1) := by decide +kernel
theorem dX5_mending_29 : decode cX5_mending 29 = .ok (.aload_n 0, 1) := by decide +kernel
theorem dX5_mending_30 : decode cX5_mending 30 = .ok (.iload_n 1, 1) := by decide +kernel
theorem dX5_mending_31 : decode cX5_mending 31 = .ok (.iload_n 2, 1) := by decide +kernel
theorem dX5_mending_32 : decode cX5_mending 32 = .ok (.invokevirtual 163, 3) := by decide +kernel
theorem dX5_mending_35 : decode cX5_mending 35 = .ok (.pop, 1) := by decide +kernel
theorem dX5_mending_36 : decode cX5_mending 36 = .ok (.aload_n 0, 1) := by decide +kernel
theorem dX5_mending_37 : decode cX5_mending 37 = .ok (.getfield 35, 3) := by decide +kernel
theorem dX5_mending_40 : decode cX5_mending 40 = .ok (.getfield 167, 3) := by decide +kernel
theorem dX5_mending_43 : decode cX5_mending 43 = .ok (.lconst 0, 1) := by decide +kernel
theorem dX5_mending_44 : decode cX5_mending 44 = .ok (.lcmp, 1) := by decide +kernel
theorem dX5_mending_45 : decode cX5_mending 45 = .ok (.ifCond .ne 13, 3) := by decide +kernel
theorem dX5_mending_48 : decode cX5_mending 48 = .ok (.iload_n 3, 1) := by decide +kernel
theorem dX5_mending_49 : decode cX5_mending 49 = .ok (.ifCond .ne 7, 3) := by decide +kernel
theorem dX5_mending_52 : decode cX5_mending 52 = .ok (.iconst (-1), 1) := by decide +kernel
theorem dX5_mending_53 : decode cX5_mending 53 = .ok (.goto 4, 3) := by decide +kernel
theorem dX5_mending_56 : decode cX5_mending 56 = .ok (.iconst 0, 1) := by decide +kernel
theorem dX5_mending_57 : decode cX5_mending 57 = .ok (.ireturn, 1) := by decide +kernel
theorem dX5_mending_58 : decode cX5_mending 58 = .ok (.iconst 0, 1) := by decide +kernel
theorem dX5_mending_59 : decode cX5_mending 59 = .ok (.istore 4, 2) := by decide +kernel
theorem dX5_mending_61 : decode cX5_mending 61 = .ok (.aload_n 0, 1) := by decide +kernel
theorem dX5_mending_62 : decode cX5_mending 62 = .ok (.iconst 1, 1) := by decide +kernel
theorem dX5_mending_63 : decode cX5_mending 63 = .ok (.invokevirtual 173, 3) := by decide +kernel
theorem dX5_mending_66 : decode cX5_mending 66 = .ok (.istore 5, 2) := by decide +kernel
theorem dX5_mending_68 : decode cX5_mending 68 = .ok (.bipush 24, 2) := by decide +kernel
theorem dX5_mending_70 : decode cX5_mending 70 = .ok (.bipush 8, 2) := by decide +kernel
theorem dX5_mending_72 : decode cX5_mending 72 = .ok (.aload_n 0, 1) := by decide +kernel
theorem dX5_mending_73 : decode cX5_mending 73 = .ok (.invokevirtual 170, 3) := by decide +kernel
theorem dX5_mending_76 : decode cX5_mending 76 = .ok (.isub, 1) := by decide +kernel
theorem dX5_mending_77 : decode cX5_mending 77 = .ok (.imul, 1) := by decide +kernel
theorem dX5_mending_78 : decode cX5_mending 78 = .ok (.istore 6, 2) := by decide +kernel
theorem dX5_mending_80 : decode cX5_mending 80 = .ok (.iload 6, 2) := by decide +kernel
theorem dX5_mending_82 : decode cX5_mending 82 = .ok (.iload 5, 2) := by decide +kernel
theorem dX5_mending_84 : decode cX5_mending 84 = .ok (.if_icmp .ge 10, 3) := by decide +kernel
theorem dX5_mending_87 : decode cX5_mending 87 = .ok (.iconst 1, 1) := by decide +kernel
theorem dX5_mending_88 : decode cX5_mending 88 = .ok (.istore 4, 2) := by decide +kernel
theorem dX5_mending_90 : decode cX5_mending 90 = .ok (.iload 6, 2) := by decide +kernel
theorem dX5_mending_92 : decode cX5_mending 92 = .ok (.istore 5, 2) := by decide +kernel
theorem dX5_mending_94 : decode cX5_mending 94 = .ok (.bipush 50, 2) := by decide +kernel
theorem dX5_mending_96 : decode cX5_mending 96 = .ok (.aload_n 0, 1) := by decide +kernel
theorem dX5_mending_97 : decode cX5_mending 97 = .ok (.getfield 35, 3) := by decide +kernel
theorem dX5_mending_100 : decode cX5_mending 100 = .ok (.getfield 167, 3) := by decide +kernel
theorem dX5_mending_103 : decode cX5_mending 103 = .ok (.invokestatic 74, 3) := by decide +kernel
theorem dX5_mending_106 : decode cX5_mending 106 = .ok (.iadd, 1) := by decide +kernel
theorem dX5_mending_107 : decode cX5_mending 107 = .ok (.istore 7, 2) := by decide +kernel
theorem dX5_mending_109 : decode cX5_mending 109 = .ok (.iload 7, 2) := by decide +kernel
theorem dX5_mending_111 : decode cX5_mending 111 = .ok (.iload 5, 2) := by decide +kernel
theorem dX5_mending_113 : decode cX5_mending 113 = .ok (.if_icmp .ge 10, 3) := by decide +kernel
theorem dX5_mending_116 : decode cX5_mending 116 = .ok (.iconst 2, 1) := by decide +kernel
theorem dX5_mending_117 : decode cX5_mending 117 = .ok (.istore 4, 2) := by decide +kernel
theorem dX5_mending_119 : decode cX5_mending 119 = .ok (.iload 7, 2) := by decide +kernel
theorem dX5_mending_121 : decode cX5_mending 121 = .ok (.istore 5, 2) := by decide +kernel
theorem dX5_mending_123 : decode cX5_mending 123 = .ok (.iload_n 3, 1) := by decide +kernel
theorem dX5_mending_124 : decode cX5_mending 124 = .ok (.ifCond .ne 8, 3) := by decide +kernel
theorem dX5_mending_127 : decode cX5_mending 127 = .ok (.iload 4, 2) := by decide +kernel
theorem dX5_mending_129 : decode cX5_mending 129 = .ok (.goto 5, 3) := by decide +kernel
theorem dX5_mending_132 : decode cX5_mending 132 = .ok (.iload 5, 2) := by decide +kernel
theorem dX5_mending_134 : decode cX5_mending 134 = .ok (.ireturn, 1) := by decide +kernel
theorem dX5_goesThroughOwn_0 : decode cX5_goesThroughOwn 0 = .ok (.iload_n 0, 1) := by decide +kernel
theorem dX5_goesThroughOwn_1 : decode cX5_goesThroughOwn 1 = .ok (.iconst 2, 1) := by decide +kernel
theorem dX5_goesThroughOwn_2 : decode cX5_goesThroughOwn 2 = .ok (.if_icmp .eq 12, 3) := by decide +kernel
theorem dX5_goesThroughOwn_5 : decode cX5_goesThroughOwn 5 = .ok (.iload_n 0, 1) := by decide +kernel
theorem dX5_goesThroughOwn_6 : decode cX5_goesThroughOwn 6 = .ok (.iconst 4, 1) := by decide +kernel
theorem dX5_goesThroughOwn_7 : decode cX5_goesThroughOwn 7 = .ok (.if_icmp .eq 7, 3) := by decide +kernel
theorem dX5_goesThroughOwn_10 : decode cX5_goesThroughOwn 10 = .ok (.iconst 1, 1) := by decide +kernel
theorem dX5_goesThroughOwn_11 : decode cX5_goesThroughOwn 11 = .ok (.goto 4, 3) := by decide +kernel
theorem dX5_goesThroughOwn_14 : decode cX5_goesThroughOwn 14 = .ok (.iconst 0, 1) := by decide +kernel
theorem dX5_goesThroughOwn_15 : decode cX5_goesThroughOwn 15 = .ok (.ireturn, 1) := by decide +kernel
theorem dX5_goesThroughNext_0 : decode cX5_goesThroughNext 0 = .ok (.iload_n 0, 1) := by decide +kernel
theorem dX5_goesThroughNext_1 : decode cX5_goesThroughNext 1 = .ok (.iconst 2, 1) := by decide +kernel
theorem dX5_goesThroughNext_2 : decode cX5_goesThroughNext 2 = .ok (.if_icmp .eq 8, 3) := by decide +kernel
theorem dX5_goesThroughNext_5 : decode cX5_goesThroughNext 5 = .ok (.iload_n 0, 1) := by decide +kernel
theorem dX5_goesThroughNext_6 : decode cX5_goesThroughNext 6 = .ok (.iconst 3, 1) := by decide +kernel
theorem dX5_goesThroughNext_7 : decode cX5_goesThroughNext 7 = .ok (.if_icmp .ne 7, 3) := by decide +kernel
theorem dX5_goesThroughNext_10 : decode cX5_goesThroughNext 10 = .ok (.iconst 1, 1) := by decide +kernel
theorem dX5_goesThroughNext_11 : decode cX5_goesThroughNext 11 = .ok (.goto 4, 3) := by decide +kernel
theorem dX5_goesThroughNext_14 : decode cX5_goesThroughNext 14 = .ok (.iconst 0, 1) := by decide +kernel
theorem dX5_goesThroughNext_15 : decode cX5_goesThroughNext 15 = .ok (.ireturn, 1) := by decide +kernel
theorem dX5_faceOf_0 : decode cX5_faceOf 0 = .ok (.iload_n 0, 1) := by decide +kernel
theorem dX5_faceOf_1 : decode cX5_faceOf 1 = .ok (.iconst 1, 1) := by decide +kernel
theorem dX5_faceOf_2 : decode cX5_faceOf 2 = .ok (.if_icmp .ne 7, 3) := by decide +kernel
theorem dX5_faceOf_5 : decode cX5_faceOf 5 = .ok (.iconst 1, 1) := by decide +kernel
theorem dX5_faceOf_6 : decode cX5_faceOf 6 = .ok (.goto 4, 3) := by decide +kernel
theorem dX5_faceOf_9 : decode cX5_faceOf 9 = .ok (.iconst 0, 1) := by decide +kernel
theorem dX5_faceOf_10 : decode cX5_faceOf 10 = .ok (.ireturn, 1) := by decide +kernel
theorem dX5_rubOf_0 : decode cX5_rubOf 0 = .ok (.iload_n 0, 1) := by decide +kernel
theorem dX5_rubOf_1 : decode cX5_rubOf 1 = .ok (.tableswitch 43 1 5 #[35, 43, 39, 43, 35], 35) := by decide +kernel
theorem dX5_rubOf_36 : decode cX5_rubOf 36 = .ok (.iload_n 1, 1) := by decide +kernel
theorem dX5_rubOf_37 : decode cX5_rubOf 37 = .ok (.iload_n 2, 1) := by decide +kernel
theorem dX5_rubOf_38 : decode cX5_rubOf 38 = .ok (.iadd, 1) := by decide +kernel
theorem dX5_rubOf_39 : decode cX5_rubOf 39 = .ok (.ireturn, 1) := by decide +kernel
theorem dX5_rubOf_40 : decode cX5_rubOf 40 = .ok (.iconst 2, 1) := by decide +kernel
theorem dX5_rubOf_41 : decode cX5_rubOf 41 = .ok (.iload_n 1, 1) := by decide +kernel
theorem dX5_rubOf_42 : decode cX5_rubOf 42 = .ok (.imul, 1) := by decide +kernel
theorem dX5_rubOf_43 : decode cX5_rubOf 43 = .ok (.ireturn, 1) := by decide +kernel
theorem dX5_rubOf_44 : decode cX5_rubOf 44 = .ok (.iload_n 1, 1) := by decide +kernel
theorem dX5_rubOf_45 : decode cX5_rubOf 45 = .ok (.ireturn, 1) := by decide +kernel
theorem dX5_within_0 : decode cX5_within 0 = .ok (.iload_n 0, 1) := by decide +kernel
theorem dX5_within_1 : decode cX5_within 1 = .ok (.iload_n 1, 1) := by decide +kernel
theorem dX5_within_2 : decode cX5_within 2 = .ok (.if_icmp .lt 12, 3) := by decide +kernel
theorem dX5_within_5 : decode cX5_within 5 = .ok (.iload_n 0, 1) := by decide +kernel
theorem dX5_within_6 : decode cX5_within 6 = .ok (.iload_n 2, 1) := by decide +kernel
theorem dX5_within_7 : decode cX5_within 7 = .ok (.if_icmp .gt 7, 3) := by decide +kernel
theorem dX5_within_10 : decode cX5_within 10 = .ok (.iconst 1, 1) := by decide +kernel
theorem dX5_within_11 : decode cX5_within 11 = .ok (.goto 4, 3) := by decide +kernel
theorem dX5_within_14 : decode cX5_within 14 = .ok (.iconst 0, 1) := by decide +kernel
theorem dX5_within_15 : decode cX5_within 15 = .ok (.ireturn, 1) := by decide +kernel
theorem dX5_isLoop_0 : decode cX5_isLoop 0 = .ok (.iload_n 0, 1) := by decide +kernel
theorem dX5_isLoop_1 : decode cX5_isLoop 1 = .ok (.iconst 0, 1) := by decide +kernel
theorem dX5_isLoop_2 : decode cX5_isLoop 2 = .ok (.bipush 47, 2) := by decide +kernel
theorem dX5_isLoop_4 : decode cX5_isLoop 4 = .ok (.invokestatic 97, 3) := by decide +kernel
theorem dX5_isLoop_7 : decode cX5_isLoop 7 = .ok (.ireturn, 1) := by decide +kernel
theorem dX5_isPull_0 : decode cX5_isPull 0 = .ok (.iload_n 0, 1) := by decide +kernel
theorem dX5_isPull_1 : decode cX5_isPull 1 = .ok (.iconst 0, 1) := by decide +kernel
theorem dX5_isPull_2 : decode cX5_isPull 2 = .ok (.bipush 99, 2) := by decide +kernel
theorem dX5_isPull_4 : decode cX5_isPull 4 = .ok (.invokestatic 97, 3) := by decide +kernel
theorem dX5_isPull_7 : decode cX5_isPull 7 = .ok (.ireturn, 1) := by decide +kernel
theorem dX5_isByte_0 : decode cX5_isByte 0 = .ok (.iload_n 0, 1) := by decide +kernel
theorem dX5_isByte_1 : decode cX5_isByte 1 = .ok (.iconst 0, 1) := by decide +kernel
theorem dX5_isByte_2 : decode cX5_isByte 2 = .ok (.sipush 255, 3) := by decide +kernel
theorem dX5_isByte_5 : decode cX5_isByte 5 = .ok (.invokestatic 97, 3) := by decide +kernel
theorem dX5_isByte_8 : decode cX5_isByte 8 = .ok (.ireturn, 1) := by decide +kernel
theorem dX5_isKnit_0 : decode cX5_isKnit 0 = .ok (.iload_n 0, 1) := by decide +kernel
theorem dX5_isKnit_1 : decode cX5_isKnit 1 = .ok (.iconst 0, 1) := by decide +kernel
theorem dX5_isKnit_2 : decode cX5_isKnit 2 = .ok (.iconst 5, 1) := by decide +kernel
theorem dX5_isKnit_3 : decode cX5_isKnit 3 = .ok (.invokestatic 97, 3) := by decide +kernel
theorem dX5_isKnit_6 : decode cX5_isKnit 6 = .ok (.ifCond .eq 17, 3) := by decide +kernel
theorem dX5_isKnit_9 : decode cX5_isKnit 9 = .ok (.iload_n 1, 1) := by decide +kernel
theorem dX5_isKnit_10 : decode cX5_isKnit 10 = .ok (.iconst 0, 1) := by decide +kernel
theorem dX5_isKnit_11 : decode cX5_isKnit 11 = .ok (.bipush 9, 2) := by decide +kernel
theorem dX5_isKnit_13 : decode cX5_isKnit 13 = .ok (.invokestatic 97, 3) := by decide +kernel
theorem dX5_isKnit_16 : decode cX5_isKnit 16 = .ok (.ifCond .eq 7, 3) := by decide +kernel
theorem dX5_isKnit_19 : decode cX5_isKnit 19 = .ok (.iconst 1, 1) := by decide +kernel
theorem dX5_isKnit_20 : decode cX5_isKnit 20 = .ok (.goto 4, 3) := by decide +kernel
theorem dX5_isKnit_23 : decode cX5_isKnit 23 = .ok (.iconst 0, 1) := by decide +kernel
theorem dX5_isKnit_24 : decode cX5_isKnit 24 = .ok (.ireturn, 1) := by decide +kernel
theorem dX5_bit_0 : decode cX5_bit 0 = .ok (.lconst 1, 1) := by decide +kernel
theorem dX5_bit_1 : decode cX5_bit 1 = .ok (.iload_n 0, 1) := by decide +kernel
theorem dX5_bit_2 : decode cX5_bit 2 = .ok (.lshl, 1) := by decide +kernel
theorem dX5_bit_3 : decode cX5_bit 3 = .ok (.lreturn, 1) := by decide +kernel
theorem dX5_hasBit_0 : decode cX5_hasBit 0 = .ok (.lload_n 0, 1) := by decide +kernel
theorem dX5_hasBit_1 : decode cX5_hasBit 1 = .ok (.iload_n 2, 1) := by decide +kernel
theorem dX5_hasBit_2 : decode cX5_hasBit 2 = .ok (.lshr, 1) := by decide +kernel
theorem dX5_hasBit_3 : decode cX5_hasBit 3 = .ok (.lconst 1, 1) := by decide +kernel
theorem dX5_hasBit_4 : decode cX5_hasBit 4 = .ok (.land, 1) := by decide +kernel
theorem dX5_hasBit_5 : decode cX5_hasBit 5 = .ok (.lconst 0, 1) := by decide +kernel
theorem dX5_hasBit_6 : decode cX5_hasBit 6 = .ok (.lcmp, 1) := by decide +kernel
theorem dX5_hasBit_7 : decode cX5_hasBit 7 = .ok (.ifCond .eq 7, 3) := by decide +kernel
theorem dX5_hasBit_10 : decode cX5_hasBit 10 = .ok (.iconst 1, 1) := by decide +kernel
theorem dX5_hasBit_11 : decode cX5_hasBit 11 = .ok (.goto 4, 3) := by decide +kernel
theorem dX5_hasBit_14 : decode cX5_hasBit 14 = .ok (.iconst 0, 1) := by decide +kernel
theorem dX5_hasBit_15 : decode cX5_hasBit 15 = .ok (.ireturn, 1) := by decide +kernel
theorem dX5_bounded_0 : decode cX5_bounded 0 = .ok (.iconst 0, 1) := by decide +kernel
theorem dX5_bounded_1 : decode cX5_bounded 1 = .ok (.iload_n 1, 1) := by decide +kernel
theorem dX5_bounded_2 : decode cX5_bounded 2 = .ok (.iload_n 0, 1) := by decide +kernel
theorem dX5_bounded_3 : decode cX5_bounded 3 = .ok (.invokestatic 272, 3) := by decide +kernel
theorem dX5_bounded_6 : decode cX5_bounded 6 = .ok (.invokestatic 277, 3) := by decide +kernel
theorem dX5_bounded_9 : decode cX5_bounded 9 = .ok (.ireturn, 1) := by decide +kernel
theorem dX5_law_0 : decode cX5_law 0 = .ok (.aload_n 0, 1) := by decide +kernel
theorem dX5_law_1 : decode cX5_law 1 = .ok (.getfield 28, 3) := by decide +kernel
theorem dX5_law_4 : decode cX5_law 4 = .ok (.aload_n 0, 1) := by decide +kernel
theorem dX5_law_5 : decode cX5_law 5 = .ok (.getfield 10, 3) := by decide +kernel
theorem dX5_law_8 : decode cX5_law 8 = .ok (.getfield 87, 3) := by decide +kernel
theorem dX5_law_11 : decode cX5_law 11 = .ok (.aaload, 1) := by decide +kernel
theorem dX5_law_12 : decode cX5_law 12 = .ok (.areturn, 1) := by decide +kernel
theorem dX5_readTape_0 : decode cX5_readTape 0 = .ok (.aload_n 0, 1) := by decide +kernel
theorem dX5_readTape_1 : decode cX5_readTape 1 = .ok (.getfield 83, 3) := by decide +kernel
theorem dX5_readTape_4 : decode cX5_readTape 4 = .ok (.bipush 6, 2) := by decide +kernel
theorem dX5_readTape_6 : decode cX5_readTape 6 = .ok (.if_icmp .lt 6, 3) := by decide +kernel
theorem dX5_readTape_9 : decode cX5_readTape 9 = .ok (.bipush (-4), 2) := by decide +kernel
theorem dX5_readTape_11 : decode cX5_readTape 11 = .ok (.ireturn, 1) := by decide +kernel
theorem dX5_readTape_12 : decode cX5_readTape 12 = .ok (.aload_n 0, 1) := by decide +kernel
theorem dX5_readTape_13 : decode cX5_readTape 13 = .ok (.getfield 22, 3) := by decide +kernel
theorem dX5_readTape_16 : decode cX5_readTape 16 = .ok (.aload_n 0, 1) := by decide +kernel
theorem dX5_readTape_17 : decode cX5_readTape 17 = .ok (.getfield 28, 3) := by decide +kernel
theorem dX5_readTape_20 : decode cX5_readTape 20 = .ok (.aload_n 0, 1) := by decide +kernel
theorem dX5_readTape_21 : decode cX5_readTape 21 = .ok (.getfield 83, 3) := by decide +kernel
theorem dX5_readTape_24 : decode cX5_readTape 24 = .ok (.aaload, 1) := by decide +kernel
theorem dX5_readTape_25 : decode cX5_readTape 25 = .ok (.invokevirtual 280, 3) := by decide +kernel
theorem dX5_readTape_28 : decode cX5_readTape 28 = .ok (.istore_n 1, 1) := by decide +kernel
theorem dX5_readTape_29 : decode cX5_readTape 29 = .ok (.aload_n 0, 1) := by decide +kernel
theorem dX5_readTape_30 : decode cX5_readTape 30 = .ok (.getfield 22, 3) := by decide +kernel
theorem dX5_readTape_33 : decode cX5_readTape 33 = .ok (.iconst 0, 1) := by decide +kernel
theorem dX5_readTape_34 : decode cX5_readTape 34 = .ok (.putfield 90, 3) := by decide +kernel
theorem dX5_readTape_37 : decode cX5_readTape 37 = .ok (.iload_n 1, 1) := by decide +kernel
theorem dX5_readTape_38 : decode cX5_readTape 38 = .ok (.ifCond .lt 8, 3) := by decide +kernel
theorem dX5_readTape_41 : decode cX5_readTape 41 = .ok (.bipush (-100), 2) := by decide +kernel
theorem dX5_readTape_43 : decode cX5_readTape 43 = .ok (.iload_n 1, 1) := by decide +kernel
theorem dX5_readTape_44 : decode cX5_readTape 44 = .ok (.isub, 1) := by decide +kernel
theorem dX5_readTape_45 : decode cX5_readTape 45 = .ok (.ireturn, 1) := by decide +kernel
theorem dX5_readTape_46 : decode cX5_readTape 46 = .ok (.aload_n 0, 1) := by decide +kernel
theorem dX5_readTape_47 : decode cX5_readTape 47 = .ok (.dup, 1) := by decide +kernel
theorem dX5_readTape_48 : decode cX5_readTape 48 = .ok (.getfield 83, 3) := by decide +kernel
theorem dX5_readTape_51 : decode cX5_readTape 51 = .ok (.dup_x1, 1) := by decide +kernel
theorem dX5_readTape_52 : decode cX5_readTape 52 = .ok (.iconst 1, 1) := by decide +kernel
theorem dX5_readTape_53 : decode cX5_readTape 53 = .ok (.iadd, 1) := by decide +kernel
theorem dX5_readTape_54 : decode cX5_readTape 54 = .ok (.putfield 83, 3) := by decide +kernel
theorem dX5_readTape_57 : decode cX5_readTape 57 = .ok (.ireturn, 1) := by decide +kernel
theorem dX5_drop_0 : decode cX5_drop 0 = .ok (.aload_n 0, 1) := by decide +kernel
theorem dX5_drop_1 : decode cX5_drop 1 = .ok (.getfield 35, 3) := by decide +kernel
theorem dX5_drop_4 : decode cX5_drop 4 = .ok (.aload_n 0, 1) := by decide +kernel
theorem dX5_drop_5 : decode cX5_drop 5 = .ok (.getfield 10, 3) := by decide +kernel
theorem dX5_drop_8 : decode cX5_drop 8 = .ok (.aload_n 0, 1) := by decide +kernel
theorem dX5_drop_9 : decode cX5_drop 9 = .ok (.invokevirtual 107, 3) := by decide +kernel
theorem dX5_drop_12 : decode cX5_drop 12 = .ok (.iload_n 1, 1) := by decide +kernel
theorem dX5_drop_13 : decode cX5_drop 13 = .ok (.invokestatic 143, 3) := by decide +kernel
theorem dX5_drop_16 : decode cX5_drop 16 = .ok (.lconst 0, 1) := by decide +kernel
theorem dX5_drop_17 : decode cX5_drop 17 = .ok (.iload_n 2, 1) := by decide +kernel
theorem dX5_drop_18 : decode cX5_drop 18 = .ok (.invokevirtual 182, 3) := by decide +kernel
theorem dX5_drop_21 : decode cX5_drop 21 = .ok (.ireturn, 1) := by decide +kernel
theorem dX5_dropPinned_0 : decode cX5_dropPinned 0 = .ok (.aload_n 0, 1) := by decide +kernel
theorem dX5_dropPinned_1 : decode cX5_dropPinned 1 = .ok (.getfield 35, 3) := by decide +kernel
theorem dX5_dropPinned_4 : decode cX5_dropPinned 4 = .ok (.aload_n 0, 1) := by decide +kernel
theorem dX5_dropPinned_5 : decode cX5_dropPinned 5 = .ok (.getfield 10, 3) := by decide +kernel
theorem dX5_dropPinned_8 : decode cX5_dropPinned 8 = .ok (.aload_n 0, 1) := by decide +kernel
theorem dX5_dropPinned_9 : decode cX5_dropPinned 9 = .ok (.invokevirtual 107, 3) := by decide +kernel
theorem dX5_dropPinned_12 : decode cX5_dropPinned 12 = .ok (.iload_n 1, 1) := by decide +kernel
theorem dX5_dropPinned_13 : decode cX5_dropPinned 13 = .ok (.invokestatic 143, 3) := by decide +kernel
theorem dX5_dropPinned_16 : decode cX5_dropPinned 16 = .ok (.lload_n 3, 1) := by decide +kernel
theorem dX5_dropPinned_17 : decode cX5_dropPinned 17 = .ok (.iload_n 2, 1) := by decide +kernel
theorem dX5_dropPinned_18 : decode cX5_dropPinned 18 = .ok (.invokevirtual 182, 3) := by decide +kernel
theorem dX5_dropPinned_21 : decode cX5_dropPinned 21 = .ok (.ireturn, 1) := by decide +kernel
theorem dX5_lowestRow_0 : decode cX5_lowestRow 0 = .ok (.aload_n 0, 1) := by decide +kernel
theorem dX5_lowestRow_1 : decode cX5_lowestRow 1 = .ok (.getfield 35, 3) := by decide +kernel
theorem dX5_lowestRow_4 : decode cX5_lowestRow 4 = .ok (.getfield 167, 3) := by decide +kernel
theorem dX5_lowestRow_7 : decode cX5_lowestRow 7 = .ok (.lconst 0, 1) := by decide +kernel
theorem dX5_lowestRow_8 : decode cX5_lowestRow 8 = .ok (.lcmp, 1) := by decide +kernel
theorem dX5_lowestRow_9 : decode cX5_lowestRow 9 = .ok (.ifCond .ne 7, 3) := by decide +kernel
theorem dX5_lowestRow_12 : decode cX5_lowestRow 12 = .ok (.iconst (-1), 1) := by decide +kernel
theorem dX5_lowestRow_13 : decode cX5_lowestRow 13 = .ok (.goto 16, 3) := by decide +kernel
theorem dX5_lowestRow_16 : decode cX5_lowestRow 16 = .ok (.aload_n 0, 1) := by decide +kernel
theorem dX5_lowestRow_17 : decode cX5_lowestRow 17 = .ok (.getfield 35, 3) := by decide +kernel
theorem dX5_lowestRow_20 : decode cX5_lowestRow 20 = .ok (.getfield 167, 3) := by decide +kernel
theorem dX5_lowestRow_23 : decode cX5_lowestRow 23 = .ok (.invokestatic 284, 3) := by decide +kernel
theorem dX5_lowestRow_26 : decode cX5_lowestRow 26 = .ok (.bipush 6, 2) := by decide +kernel
theorem dX5_lowestRow_28 : decode cX5_lowestRow 28 = .ok (.idiv, 1) := by decide +kernel
theorem dX5_lowestRow_29 : decode cX5_lowestRow 29 = .ok (.ireturn, 1) := by decide +kernel
theorem dX5_together_0 : decode cX5_together 0 = .ok (.iconst 0, 1) := by decide +kernel
theorem dX5_together_1 : decode cX5_together 1 = .ok (.istore_n 2, 1) := by decide +kernel
theorem dX5_together_2 : decode cX5_together 2 = .ok (.iconst 0, 1) := by decide +kernel
theorem dX5_together_3 : decode cX5_together 3 = .ok (.istore_n 3, 1) := by decide +kernel
theorem dX5_together_4 : decode cX5_together 4 = .ok (.iload_n 3, 1) := by decide +kernel
theorem dX5_together_5 : decode cX5_together 5 = .ok (.bipush 48, 2) := by decide +kernel
theorem dX5_together_7 : decode cX5_together 7 = .ok (.if_icmp .ge 48, 3) := by decide +kernel
theorem dX5_together_10 : decode cX5_together 10 = .ok (.aload_n 0, 1) := by decide +kernel
theorem dX5_together_11 : decode cX5_together 11 = .ok (.getfield 35, 3) := by decide +kernel
theorem dX5_together_14 : decode cX5_together 14 = .ok (.getfield 167, 3) := by decide +kernel
theorem dX5_together_17 : decode cX5_together 17 = .ok (.iload_n 3, 1) := by decide +kernel
theorem dX5_together_18 : decode cX5_together 18 = .ok (.invokestatic 139, 3) := by decide +kernel
theorem dX5_together_21 : decode cX5_together 21 = .ok (.ifCond .eq 28, 3) := by decide +kernel
theorem dX5_together_24 : decode cX5_together 24 = .ok (.iload_n 2, 1) := by decide +kernel
theorem dX5_together_25 : decode cX5_together 25 = .ok (.aload_n 0, 1) := by decide +kernel
theorem dX5_together_26 : decode cX5_together 26 = .ok (.invokevirtual 107, 3) := by decide +kernel
theorem dX5_together_29 : decode cX5_together 29 = .ok (.iload_n 1, 1) := by decide +kernel
theorem dX5_together_30 : decode cX5_together 30 = .ok (.aload_n 0, 1) := by decide +kernel
theorem dX5_together_31 : decode cX5_together 31 = .ok (.getfield 10, 3) := by decide +kernel
theorem dX5_together_34 : decode cX5_together 34 = .ok (.iload_n 3, 1) := by decide +kernel
theorem dX5_together_35 : decode cX5_together 35 = .ok (.aload_n 0, 1) := by decide +kernel
theorem dX5_together_36 : decode cX5_together 36 = .ok (.getfield 35, 3) := by decide +kernel
theorem dX5_together_39 : decode cX5_together 39 = .ok (.getfield 179, 3) := by decide +kernel
theorem dX5_together_42 : decode cX5_together 42 = .ok (.iload_n 3, 1) := by decide +kernel
theorem dX5_together_43 : decode cX5_together 43 = .ok (.iaload, 1) := by decide +kernel
theorem dX5_together_44 : decode cX5_together 44 = .ok (.invokevirtual 110, 3) := by decide +kernel
theorem dX5_together_47 : decode cX5_together 47 = .ok (.iadd, 1) := by decide +kernel
theorem dX5_together_48 : decode cX5_together 48 = .ok (.istore_n 2, 1) := by decide +kernel
theorem dX5_together_49 : decode cX5_together 49 = .ok (.iinc 3 1, 3) := by decide +kernel
theorem dX5_together_52 : decode cX5_together 52 = .ok (.goto (-48), 3) := by decide +kernel
theorem dX5_together_55 : decode cX5_together 55 = .ok (.iload_n 2, 1) := by decide +kernel
theorem dX5_together_56 : decode cX5_together 56 = .ok (.ireturn, 1) := by decide +kernel
end
section
theorem dJ5_init_d00df_0 : decode cJ5_init_d00df 0 = .ok (.aload_n 0, 1) := by decide +kernel
theorem dJ5_init_d00df_1 : decode cJ5_init_d00df 1 = .ok (.invokespecial 3, 3) := by decide +kernel
theorem dJ5_init_d00df_4 : decode cJ5_init_d00df 4 = .ok (.getstatic 18, 3) := by decide +kernel
theorem dJ5_init_d00df_7 : decode cJ5_init_d00df 7 = .ok (.ifCond .eq 18, 3) := by decide +kernel
theorem dJ5_init_d00df_10 : decode cJ5_init_d00df 10 = .ok (.aload_n 0, 1) := by decide +kernel
theorem dJ5_init_d00df_11 : decode cJ5_init_d00df 11 = .ok (.iload_n 1, 1) := by decide +kernel
theorem dJ5_init_d00df_12 : decode cJ5_init_d00df 12 = .ok (.newarray .byte, 2) := by decide +kernel
theorem dJ5_init_d00df_14 : decode cJ5_init_d00df 14 = .ok (.putfield 15, 3) := by decide +kernel
theorem dJ5_init_d00df_17 : decode cJ5_init_d00df 17 = .ok (.aload_n 0, 1) := by decide +kernel
theorem dJ5_init_d00df_18 : decode cJ5_init_d00df 18 = .ok (.iconst 0, 1) := by decide +kernel
theorem dJ5_init_d00df_19 : decode cJ5_init_d00df 19 = .ok (.putfield 22, 3) := by decide +kernel
theorem dJ5_init_d00df_22 : decode cJ5_init_d00df 22 = .ok (.goto 16, 3) := by decide +kernel
theorem dJ5_init_d00df_25 : decode cJ5_init_d00df 25 = .ok (.aload_n 0, 1) := by decide +kernel
theorem dJ5_init_d00df_26 : decode cJ5_init_d00df 26 = .ok (.iload_n 1, 1) := by decide +kernel
theorem dJ5_init_d00df_27 : decode cJ5_init_d00df 27 = .ok (.invokestatic 26, 3) := by decide +kernel
theorem dJ5_init_d00df_30 : decode cJ5_init_d00df 30 = .ok (.putfield 15, 3) := by decide +kernel
theorem dJ5_init_d00df_33 : decode cJ5_init_d00df 33 = .ok (.aload_n 0, 1) := by decide +kernel
theorem dJ5_init_d00df_34 : decode cJ5_init_d00df 34 = .ok (.iconst 1, 1) := by decide +kernel
theorem dJ5_init_d00df_35 : decode cJ5_init_d00df 35 = .ok (.putfield 22, 3) := by decide +kernel
theorem dJ5_init_d00df_38 : decode cJ5_init_d00df 38 = .ok (.return_, 1) := by decide +kernel
theorem dJ5_length_8abf5_0 : decode cJ5_length_8abf5 0 = .ok (.aload_n 0, 1) := by decide +kernel
theorem dJ5_length_8abf5_1 : decode cJ5_length_8abf5 1 = .ok (.getfield 79, 3) := by decide +kernel
theorem dJ5_length_8abf5_4 : decode cJ5_length_8abf5 4 = .ok (.ireturn, 1) := by decide +kernel
theorem dJ5_ensureCapacityInternal_d00df_0 : decode cJ5_ensureCapacityInternal_d00df 0 = .ok (.aload_n 0, 1) := by decide +kernel
theorem dJ5_ensureCapacityInternal_d00df_1 : decode cJ5_ensureCapacityInternal_d00df 1 = .ok (.getfield 15, 3) := by decide +kernel
theorem dJ5_ensureCapacityInternal_d00df_4 : decode cJ5_ensureCapacityInternal_d00df 4 = .ok (.arraylength, 1) := by decide +kernel
theorem dJ5_ensureCapacityInternal_d00df_5 : decode cJ5_ensureCapacityInternal_d00df 5 = .ok (.aload_n 0, 1) := by decide +kernel
theorem dJ5_ensureCapacityInternal_d00df_6 : decode cJ5_ensureCapacityInternal_d00df 6 = .ok (.getfield 22, 3) := by decide +kernel
theorem dJ5_ensureCapacityInternal_d00df_9 : decode cJ5_ensureCapacityInternal_d00df 9 = .ok (.ishr, 1) := by decide +kernel
theorem dJ5_ensureCapacityInternal_d00df_10 : decode cJ5_ensureCapacityInternal_d00df 10 = .ok (.istore_n 2, 1) := by decide +kernel
theorem dJ5_ensureCapacityInternal_d00df_11 : decode cJ5_ensureCapacityInternal_d00df 11 = .ok (.iload_n 1, 1) := by decide +kernel
theorem dJ5_ensureCapacityInternal_d00df_12 : decode cJ5_ensureCapacityInternal_d00df 12 = .ok (.iload_n 2, 1) := by decide +kernel
theorem dJ5_ensureCapacityInternal_d00df_13 : decode cJ5_ensureCapacityInternal_d00df 13 = .ok (.isub, 1) := by decide +kernel
theorem dJ5_ensureCapacityInternal_d00df_14 : decode cJ5_ensureCapacityInternal_d00df 14 = .ok (.ifCond .le 24, 3) := by decide +kernel
theorem dJ5_ensureCapacityInternal_d00df_17 : decode cJ5_ensureCapacityInternal_d00df 17 = .ok (.aload_n 0, 1) := by decide +kernel
theorem dJ5_ensureCapacityInternal_d00df_18 : decode cJ5_ensureCapacityInternal_d00df 18 = .ok (.aload_n 0, 1) := by decide +kernel
theorem dJ5_ensureCapacityInternal_d00df_19 : decode cJ5_ensureCapacityInternal_d00df 19 = .ok (.getfield 15, 3) := by decide +kernel
theorem dJ5_ensureCapacityInternal_d00df_22 : decode cJ5_ensureCapacityInternal_d00df 22 = .ok (.aload_n 0, 1) := by decide +kernel
theorem dJ5_ensureCapacityInternal_d00df_23 : decode cJ5_ensureCapacityInternal_d00df 23 = .ok (.iload_n 1, 1) := by decide +kernel
theorem dJ5_ensureCapacityInternal_d00df_24 : decode cJ5_ensureCapacityInternal_d00df 24 = .ok (.invokevirtual 104, 3) := by decide +kernel
theorem dJ5_ensureCapacityInternal_d00df_27 : decode cJ5_ensureCapacityInternal_d00df 27 = .ok (.aload_n 0, 1) := by decide +kernel
theorem dJ5_ensureCapacityInternal_d00df_28 : decode cJ5_ensureCapacityInternal_d00df 28 = .ok (.getfield 22, 3) := by decide +kernel
theorem dJ5_ensureCapacityInternal_d00df_31 : decode cJ5_ensureCapacityInternal_d00df 31 = .ok (.ishl, 1) := by decide +kernel
theorem dJ5_ensureCapacityInternal_d00df_32 : decode cJ5_ensureCapacityInternal_d00df 32 = .ok (.invokestatic 108, 3) := by decide +kernel
theorem dJ5_ensureCapacityInternal_d00df_35 : decode cJ5_ensureCapacityInternal_d00df 35 = .ok (.putfield 15, 3) := by decide +kernel
theorem dJ5_ensureCapacityInternal_d00df_38 : decode cJ5_ensureCapacityInternal_d00df 38 = .ok (.return_, 1) := by decide +kernel
theorem dJ5_newCapacity_0f7a4_0 : decode cJ5_newCapacity_0f7a4 0 = .ok (.aload_n 0, 1) := by decide +kernel
theorem dJ5_newCapacity_0f7a4_1 : decode cJ5_newCapacity_0f7a4 1 = .ok (.getfield 15, 3) := by decide +kernel
theorem dJ5_newCapacity_0f7a4_4 : decode cJ5_newCapacity_0f7a4 4 = .ok (.arraylength, 1) := by decide +kernel
theorem dJ5_newCapacity_0f7a4_5 : decode cJ5_newCapacity_0f7a4 5 = .ok (.istore_n 2, 1) := by decide +kernel
theorem dJ5_newCapacity_0f7a4_6 : decode cJ5_newCapacity_0f7a4 6 = .ok (.iload_n 1, 1) := by decide +kernel
theorem dJ5_newCapacity_0f7a4_7 : decode cJ5_newCapacity_0f7a4 7 = .ok (.aload_n 0, 1) := by decide +kernel
theorem dJ5_newCapacity_0f7a4_8 : decode cJ5_newCapacity_0f7a4 8 = .ok (.getfield 22, 3) := by decide +kernel
theorem dJ5_newCapacity_0f7a4_11 : decode cJ5_newCapacity_0f7a4 11 = .ok (.ishl, 1) := by decide +kernel
theorem dJ5_newCapacity_0f7a4_12 : decode cJ5_newCapacity_0f7a4 12 = .ok (.istore_n 3, 1) := by decide +kernel
theorem dJ5_newCapacity_0f7a4_13 : decode cJ5_newCapacity_0f7a4 13 = .ok (.iload_n 3, 1) := by decide +kernel
theorem dJ5_newCapacity_0f7a4_14 : decode cJ5_newCapacity_0f7a4 14 = .ok (.iload_n 2, 1) := by decide +kernel
theorem dJ5_newCapacity_0f7a4_15 : decode cJ5_newCapacity_0f7a4 15 = .ok (.isub, 1) := by decide +kernel
theorem dJ5_newCapacity_0f7a4_16 : decode cJ5_newCapacity_0f7a4 16 = .ok (.istore 4, 2) := by decide +kernel
theorem dJ5_newCapacity_0f7a4_18 : decode cJ5_newCapacity_0f7a4 18 = .ok (.iload_n 2, 1) := by decide +kernel
theorem dJ5_newCapacity_0f7a4_19 : decode cJ5_newCapacity_0f7a4 19 = .ok (.iload 4, 2) := by decide +kernel
theorem dJ5_newCapacity_0f7a4_21 : decode cJ5_newCapacity_0f7a4 21 = .ok (.iload_n 2, 1) := by decide +kernel
theorem dJ5_newCapacity_0f7a4_22 : decode cJ5_newCapacity_0f7a4 22 = .ok (.iconst 2, 1) := by decide +kernel
theorem dJ5_newCapacity_0f7a4_23 : decode cJ5_newCapacity_0f7a4 23 = .ok (.aload_n 0, 1) := by decide +kernel
theorem dJ5_newCapacity_0f7a4_24 : decode cJ5_newCapacity_0f7a4 24 = .ok (.getfield 22, 3) := by decide +kernel
theorem dJ5_newCapacity_0f7a4_27 : decode cJ5_newCapacity_0f7a4 27 = .ok (.ishl, 1) := by decide +kernel
theorem dJ5_newCapacity_0f7a4_28 : decode cJ5_newCapacity_0f7a4 28 = .ok (.iadd, 1) := by decide +kernel
theorem dJ5_newCapacity_0f7a4_29 : decode cJ5_newCapacity_0f7a4 29 = .ok (.invokestatic 114, 3) := by decide +kernel
theorem dJ5_newCapacity_0f7a4_32 : decode cJ5_newCapacity_0f7a4 32 = .ok (.istore 5, 2) := by decide +kernel
theorem dJ5_newCapacity_0f7a4_34 : decode cJ5_newCapacity_0f7a4 34 = .ok (.iload 5, 2) := by decide +kernel
theorem dJ5_newCapacity_0f7a4_36 : decode cJ5_newCapacity_0f7a4 36 = .ok (.ldc 39, 2) := by decide +kernel
theorem dJ5_newCapacity_0f7a4_38 : decode cJ5_newCapacity_0f7a4 38 = .ok (.if_icmp .ne 13, 3) := by decide +kernel
theorem dJ5_newCapacity_0f7a4_41 : decode cJ5_newCapacity_0f7a4 41 = .ok (.new 120, 3) := by decide +kernel
theorem dJ5_newCapacity_0f7a4_44 : decode cJ5_newCapacity_0f7a4 44 = .ok (.dup, 1) := by decide +kernel
theorem dJ5_newCapacity_0f7a4_45 : decode cJ5_newCapacity_0f7a4 45 = .ok (.ldc 122, 2) := by decide +kernel
theorem dJ5_newCapacity_0f7a4_47 : decode cJ5_newCapacity_0f7a4 47 = .ok (.invokespecial 124, 3) := by decide +kernel
theorem dJ5_newCapacity_0f7a4_50 : decode cJ5_newCapacity_0f7a4 50 = .ok (.athrow, 1) := by decide +kernel
theorem dJ5_newCapacity_0f7a4_51 : decode cJ5_newCapacity_0f7a4 51 = .ok (.iload 5, 2) := by decide +kernel
theorem dJ5_newCapacity_0f7a4_53 : decode cJ5_newCapacity_0f7a4 53 = .ok (.aload_n 0, 1) := by decide +kernel
theorem dJ5_newCapacity_0f7a4_54 : decode cJ5_newCapacity_0f7a4 54 = .ok (.getfield 22, 3) := by decide +kernel
theorem dJ5_newCapacity_0f7a4_57 : decode cJ5_newCapacity_0f7a4 57 = .ok (.ishr, 1) := by decide +kernel
theorem dJ5_newCapacity_0f7a4_58 : decode cJ5_newCapacity_0f7a4 58 = .ok (.ireturn, 1) := by decide +kernel
theorem dJ5_append_cf1ce_0 : decode cJ5_append_cf1ce 0 = .ok (.aload_n 1, 1) := by decide +kernel
theorem dJ5_append_cf1ce_1 : decode cJ5_append_cf1ce 1 = .ok (.ifnonnull 8, 3) := by decide +kernel
theorem dJ5_append_cf1ce_4 : decode cJ5_append_cf1ce 4 = .ok (.aload_n 0, 1) := by decide +kernel
theorem dJ5_append_cf1ce_5 : decode cJ5_append_cf1ce 5 = .ok (.invokevirtual 204, 3) := by decide +kernel
theorem dJ5_append_cf1ce_8 : decode cJ5_append_cf1ce 8 = .ok (.areturn, 1) := by decide +kernel
theorem dJ5_append_cf1ce_9 : decode cJ5_append_cf1ce 9 = .ok (.aload_n 1, 1) := by decide +kernel
theorem dJ5_append_cf1ce_10 : decode cJ5_append_cf1ce 10 = .ok (.invokevirtual 32, 3) := by decide +kernel
theorem dJ5_append_cf1ce_13 : decode cJ5_append_cf1ce 13 = .ok (.istore_n 2, 1) := by decide +kernel
theorem dJ5_append_cf1ce_14 : decode cJ5_append_cf1ce 14 = .ok (.aload_n 0, 1) := by decide +kernel
theorem dJ5_append_cf1ce_15 : decode cJ5_append_cf1ce 15 = .ok (.aload_n 0, 1) := by decide +kernel
theorem dJ5_append_cf1ce_16 : decode cJ5_append_cf1ce 16 = .ok (.getfield 79, 3) := by decide +kernel
theorem dJ5_append_cf1ce_19 : decode cJ5_append_cf1ce 19 = .ok (.iload_n 2, 1) := by decide +kernel
theorem dJ5_append_cf1ce_20 : decode cJ5_append_cf1ce 20 = .ok (.iadd, 1) := by decide +kernel
theorem dJ5_append_cf1ce_21 : decode cJ5_append_cf1ce 21 = .ok (.invokevirtual 100, 3) := by decide +kernel
theorem dJ5_append_cf1ce_24 : decode cJ5_append_cf1ce 24 = .ok (.aload_n 0, 1) := by decide +kernel
theorem dJ5_append_cf1ce_25 : decode cJ5_append_cf1ce 25 = .ok (.aload_n 0, 1) := by decide +kernel
theorem dJ5_append_cf1ce_26 : decode cJ5_append_cf1ce 26 = .ok (.getfield 79, 3) := by decide +kernel
theorem dJ5_append_cf1ce_29 : decode cJ5_append_cf1ce 29 = .ok (.aload_n 1, 1) := by decide +kernel
theorem dJ5_append_cf1ce_30 : decode cJ5_append_cf1ce 30 = .ok (.invokevirtual 208, 3) := by decide +kernel
theorem dJ5_append_cf1ce_33 : decode cJ5_append_cf1ce 33 = .ok (.aload_n 0, 1) := by decide +kernel
theorem dJ5_append_cf1ce_34 : decode cJ5_append_cf1ce 34 = .ok (.dup, 1) := by decide +kernel
theorem dJ5_append_cf1ce_35 : decode cJ5_append_cf1ce 35 = .ok (.getfield 79, 3) := by decide +kernel
theorem dJ5_append_cf1ce_38 : decode cJ5_append_cf1ce 38 = .ok (.iload_n 2, 1) := by decide +kernel
theorem dJ5_append_cf1ce_39 : decode cJ5_append_cf1ce 39 = .ok (.iadd, 1) := by decide +kernel
theorem dJ5_append_cf1ce_40 : decode cJ5_append_cf1ce 40 = .ok (.putfield 79, 3) := by decide +kernel
theorem dJ5_append_cf1ce_43 : decode cJ5_append_cf1ce 43 = .ok (.aload_n 0, 1) := by decide +kernel
theorem dJ5_append_cf1ce_44 : decode cJ5_append_cf1ce 44 = .ok (.areturn, 1) := by decide +kernel
theorem dJ5_append_c97b9_0 : decode cJ5_append_c97b9 0 = .ok (.aload_n 0, 1) := by decide +kernel
theorem dJ5_append_c97b9_1 : decode cJ5_append_c97b9 1 = .ok (.getfield 79, 3) := by decide +kernel
theorem dJ5_append_c97b9_4 : decode cJ5_append_c97b9 4 = .ok (.istore_n 2, 1) := by decide +kernel
theorem dJ5_append_c97b9_5 : decode cJ5_append_c97b9 5 = .ok (.iload_n 2, 1) := by decide +kernel
theorem dJ5_append_c97b9_6 : decode cJ5_append_c97b9 6 = .ok (.iload_n 1, 1) := by decide +kernel
theorem dJ5_append_c97b9_7 : decode cJ5_append_c97b9 7 = .ok (.invokestatic 245, 3) := by decide +kernel
theorem dJ5_append_c97b9_10 : decode cJ5_append_c97b9 10 = .ok (.iadd, 1) := by decide +kernel
theorem dJ5_append_c97b9_11 : decode cJ5_append_c97b9 11 = .ok (.istore_n 3, 1) := by decide +kernel
theorem dJ5_append_c97b9_12 : decode cJ5_append_c97b9 12 = .ok (.aload_n 0, 1) := by decide +kernel
theorem dJ5_append_c97b9_13 : decode cJ5_append_c97b9 13 = .ok (.iload_n 3, 1) := by decide +kernel
theorem dJ5_append_c97b9_14 : decode cJ5_append_c97b9 14 = .ok (.invokevirtual 100, 3) := by decide +kernel
theorem dJ5_append_c97b9_17 : decode cJ5_append_c97b9 17 = .ok (.aload_n 0, 1) := by decide +kernel
theorem dJ5_append_c97b9_18 : decode cJ5_append_c97b9 18 = .ok (.invokevirtual 83, 3) := by decide +kernel
theorem dJ5_append_c97b9_21 : decode cJ5_append_c97b9 21 = .ok (.ifCond .eq 16, 3) := by decide +kernel
theorem dJ5_append_c97b9_24 : decode cJ5_append_c97b9 24 = .ok (.iload_n 1, 1) := by decide +kernel
theorem dJ5_append_c97b9_25 : decode cJ5_append_c97b9 25 = .ok (.iload_n 3, 1) := by decide +kernel
theorem dJ5_append_c97b9_26 : decode cJ5_append_c97b9 26 = .ok (.aload_n 0, 1) := by decide +kernel
theorem dJ5_append_c97b9_27 : decode cJ5_append_c97b9 27 = .ok (.getfield 15, 3) := by decide +kernel
theorem dJ5_append_c97b9_30 : decode cJ5_append_c97b9 30 = .ok (.invokestatic 248, 3) := by decide +kernel
theorem dJ5_append_c97b9_33 : decode cJ5_append_c97b9 33 = .ok (.pop, 1) := by decide +kernel
theorem dJ5_append_c97b9_34 : decode cJ5_append_c97b9 34 = .ok (.goto 14, 3) := by decide +kernel
theorem dJ5_append_c97b9_37 : decode cJ5_append_c97b9 37 = .ok (.iload_n 1, 1) := by decide +kernel
theorem dJ5_append_c97b9_38 : decode cJ5_append_c97b9 38 = .ok (.iload_n 2, 1) := by decide +kernel
theorem dJ5_append_c97b9_39 : decode cJ5_append_c97b9 39 = .ok (.iload_n 3, 1) := by decide +kernel
theorem dJ5_append_c97b9_40 : decode cJ5_append_c97b9 40 = .ok (.aload_n 0, 1) := by decide +kernel
theorem dJ5_append_c97b9_41 : decode cJ5_append_c97b9 41 = .ok (.getfield 15, 3) := by decide +kernel
theorem dJ5_append_c97b9_44 : decode cJ5_append_c97b9 44 = .ok (.invokestatic 251, 3) := by decide +kernel
theorem dJ5_append_c97b9_47 : decode cJ5_append_c97b9 47 = .ok (.pop, 1) := by decide +kernel
theorem dJ5_append_c97b9_48 : decode cJ5_append_c97b9 48 = .ok (.aload_n 0, 1) := by decide +kernel
theorem dJ5_append_c97b9_49 : decode cJ5_append_c97b9 49 = .ok (.iload_n 3, 1) := by decide +kernel
theorem dJ5_append_c97b9_50 : decode cJ5_append_c97b9 50 = .ok (.putfield 79, 3) := by decide +kernel
theorem dJ5_append_c97b9_53 : decode cJ5_append_c97b9 53 = .ok (.aload_n 0, 1) := by decide +kernel
theorem dJ5_append_c97b9_54 : decode cJ5_append_c97b9 54 = .ok (.areturn, 1) := by decide +kernel
theorem dJ5_getValue_6d5f1_0 : decode cJ5_getValue_6d5f1 0 = .ok (.aload_n 0, 1) := by decide +kernel
theorem dJ5_getValue_6d5f1_1 : decode cJ5_getValue_6d5f1 1 = .ok (.getfield 15, 3) := by decide +kernel
theorem dJ5_getValue_6d5f1_4 : decode cJ5_getValue_6d5f1 4 = .ok (.areturn, 1) := by decide +kernel
theorem dJ5_isLatin1_aae02_0 : decode cJ5_isLatin1_aae02 0 = .ok (.getstatic 18, 3) := by decide +kernel
theorem dJ5_isLatin1_aae02_3 : decode cJ5_isLatin1_aae02 3 = .ok (.ifCond .eq 14, 3) := by decide +kernel
theorem dJ5_isLatin1_aae02_6 : decode cJ5_isLatin1_aae02 6 = .ok (.aload_n 0, 1) := by decide +kernel
theorem dJ5_isLatin1_aae02_7 : decode cJ5_isLatin1_aae02 7 = .ok (.getfield 22, 3) := by decide +kernel
theorem dJ5_isLatin1_aae02_10 : decode cJ5_isLatin1_aae02 10 = .ok (.ifCond .ne 7, 3) := by decide +kernel
theorem dJ5_isLatin1_aae02_13 : decode cJ5_isLatin1_aae02 13 = .ok (.iconst 1, 1) := by decide +kernel
theorem dJ5_isLatin1_aae02_14 : decode cJ5_isLatin1_aae02 14 = .ok (.goto 4, 3) := by decide +kernel
theorem dJ5_isLatin1_aae02_17 : decode cJ5_isLatin1_aae02 17 = .ok (.iconst 0, 1) := by decide +kernel
theorem dJ5_isLatin1_aae02_18 : decode cJ5_isLatin1_aae02 18 = .ok (.ireturn, 1) := by decide +kernel
theorem dJ5_inflateIfNeededFor_a7421_0 : decode cJ5_inflateIfNeededFor_a7421 0 = .ok (.getstatic 18, 3) := by decide +kernel
theorem dJ5_inflateIfNeededFor_a7421_3 : decode cJ5_inflateIfNeededFor_a7421 3 = .ok (.ifCond .eq 18, 3) := by decide +kernel
theorem dJ5_inflateIfNeededFor_a7421_6 : decode cJ5_inflateIfNeededFor_a7421 6 = .ok (.aload_n 0, 1) := by decide +kernel
theorem dJ5_inflateIfNeededFor_a7421_7 : decode cJ5_inflateIfNeededFor_a7421 7 = .ok (.getfield 22, 3) := by decide +kernel
theorem dJ5_inflateIfNeededFor_a7421_10 : decode cJ5_inflateIfNeededFor_a7421 10 = .ok (.aload_n 1, 1) := by decide +kernel
theorem dJ5_inflateIfNeededFor_a7421_11 : decode cJ5_inflateIfNeededFor_a7421 11 = .ok (.invokevirtual 40, 3) := by decide +kernel
theorem dJ5_inflateIfNeededFor_a7421_14 : decode cJ5_inflateIfNeededFor_a7421 14 = .ok (.if_icmp .eq 7, 3) := by decide +kernel
theorem dJ5_inflateIfNeededFor_a7421_17 : decode cJ5_inflateIfNeededFor_a7421 17 = .ok (.aload_n 0, 1) := by decide +kernel
theorem dJ5_inflateIfNeededFor_a7421_18 : decode cJ5_inflateIfNeededFor_a7421 18 = .ok (.invokevirtual 195, 3) := by decide +kernel
theorem dJ5_inflateIfNeededFor_a7421_21 : decode cJ5_inflateIfNeededFor_a7421 21 = .ok (.return_, 1) := by decide +kernel
theorem dJ5_putStringAt_47b60_0 : decode cJ5_putStringAt_47b60 0 = .ok (.aload_n 0, 1) := by decide +kernel
theorem dJ5_putStringAt_47b60_1 : decode cJ5_putStringAt_47b60 1 = .ok (.aload_n 2, 1) := by decide +kernel
theorem dJ5_putStringAt_47b60_2 : decode cJ5_putStringAt_47b60 2 = .ok (.invokevirtual 397, 3) := by decide +kernel
theorem dJ5_putStringAt_47b60_5 : decode cJ5_putStringAt_47b60 5 = .ok (.aload_n 2, 1) := by decide +kernel
theorem dJ5_putStringAt_47b60_6 : decode cJ5_putStringAt_47b60 6 = .ok (.aload_n 0, 1) := by decide +kernel
theorem dJ5_putStringAt_47b60_7 : decode cJ5_putStringAt_47b60 7 = .ok (.getfield 15, 3) := by decide +kernel
theorem dJ5_putStringAt_47b60_10 : decode cJ5_putStringAt_47b60 10 = .ok (.iload_n 1, 1) := by decide +kernel
theorem dJ5_putStringAt_47b60_11 : decode cJ5_putStringAt_47b60 11 = .ok (.aload_n 0, 1) := by decide +kernel
theorem dJ5_putStringAt_47b60_12 : decode cJ5_putStringAt_47b60 12 = .ok (.getfield 22, 3) := by decide +kernel
theorem dJ5_putStringAt_47b60_15 : decode cJ5_putStringAt_47b60 15 = .ok (.invokevirtual 399, 3) := by decide +kernel
theorem dJ5_putStringAt_47b60_18 : decode cJ5_putStringAt_47b60 18 = .ok (.return_, 1) := by decide +kernel
theorem dJ6_getChars_ba4f3_0 : decode cJ6_getChars_ba4f3 0 = .ok (.iload_n 1, 1) := by decide +kernel
theorem dJ6_getChars_ba4f3_1 : decode cJ6_getChars_ba4f3 1 = .ok (.istore 5, 2) := by decide +kernel
theorem dJ6_getChars_ba4f3_3 : decode cJ6_getChars_ba4f3 3 = .ok (.iload_n 0, 1) := by decide +kernel
theorem dJ6_getChars_ba4f3_4 : decode cJ6_getChars_ba4f3 4 = .ok (.ifCond .ge 7, 3) := by decide +kernel
theorem dJ6_getChars_ba4f3_7 : decode cJ6_getChars_ba4f3 7 = .ok (.iconst 1, 1) := by decide +kernel
theorem dJ6_getChars_ba4f3_8 : decode cJ6_getChars_ba4f3 8 = .ok (.goto 4, 3) := by decide +kernel
theorem dJ6_getChars_ba4f3_11 : decode cJ6_getChars_ba4f3 11 = .ok (.iconst 0, 1) := by decide +kernel
theorem dJ6_getChars_ba4f3_12 : decode cJ6_getChars_ba4f3 12 = .ok (.istore 6, 2) := by decide +kernel
theorem dJ6_getChars_ba4f3_14 : decode cJ6_getChars_ba4f3 14 = .ok (.iload 6, 2) := by decide +kernel
theorem dJ6_getChars_ba4f3_16 : decode cJ6_getChars_ba4f3 16 = .ok (.ifCond .ne 6, 3) := by decide +kernel
theorem dJ6_getChars_ba4f3_19 : decode cJ6_getChars_ba4f3 19 = .ok (.iload_n 0, 1) := by decide +kernel
theorem dJ6_getChars_ba4f3_20 : decode cJ6_getChars_ba4f3 20 = .ok (.ineg, 1) := by decide +kernel
theorem dJ6_getChars_ba4f3_21 : decode cJ6_getChars_ba4f3 21 = .ok (.istore_n 0, 1) := by decide +kernel
theorem dJ6_getChars_ba4f3_22 : decode cJ6_getChars_ba4f3 22 = .ok (.iload_n 0, 1) := by decide +kernel
theorem dJ6_getChars_ba4f3_23 : decode cJ6_getChars_ba4f3 23 = .ok (.bipush (-100), 2) := by decide +kernel
theorem dJ6_getChars_ba4f3_25 : decode cJ6_getChars_ba4f3 25 = .ok (.if_icmp .gt 47, 3) := by decide +kernel
theorem dJ6_getChars_ba4f3_28 : decode cJ6_getChars_ba4f3 28 = .ok (.iload_n 0, 1) := by decide +kernel
theorem dJ6_getChars_ba4f3_29 : decode cJ6_getChars_ba4f3 29 = .ok (.bipush 100, 2) := by decide +kernel
theorem dJ6_getChars_ba4f3_31 : decode cJ6_getChars_ba4f3 31 = .ok (.idiv, 1) := by decide +kernel
theorem dJ6_getChars_ba4f3_32 : decode cJ6_getChars_ba4f3 32 = .ok (.istore_n 3, 1) := by decide +kernel
theorem dJ6_getChars_ba4f3_33 : decode cJ6_getChars_ba4f3 33 = .ok (.iload_n 3, 1) := by decide +kernel
theorem dJ6_getChars_ba4f3_34 : decode cJ6_getChars_ba4f3 34 = .ok (.bipush 100, 2) := by decide +kernel
theorem dJ6_getChars_ba4f3_36 : decode cJ6_getChars_ba4f3 36 = .ok (.imul, 1) := by decide +kernel
theorem dJ6_getChars_ba4f3_37 : decode cJ6_getChars_ba4f3 37 = .ok (.iload_n 0, 1) := by decide +kernel
theorem dJ6_getChars_ba4f3_38 : decode cJ6_getChars_ba4f3 38 = .ok (.isub, 1) := by decide +kernel
theorem dJ6_getChars_ba4f3_39 : decode cJ6_getChars_ba4f3 39 = .ok (.istore 4, 2) := by decide +kernel
theorem dJ6_getChars_ba4f3_41 : decode cJ6_getChars_ba4f3 41 = .ok (.iload_n 3, 1) := by decide +kernel
theorem dJ6_getChars_ba4f3_42 : decode cJ6_getChars_ba4f3 42 = .ok (.istore_n 0, 1) := by decide +kernel
theorem dJ6_getChars_ba4f3_43 : decode cJ6_getChars_ba4f3 43 = .ok (.aload_n 2, 1) := by decide +kernel
theorem dJ6_getChars_ba4f3_44 : decode cJ6_getChars_ba4f3 44 = .ok (.iinc 5 (-1), 3) := by decide +kernel
theorem dJ6_getChars_ba4f3_47 : decode cJ6_getChars_ba4f3 47 = .ok (.iload 5, 2) := by decide +kernel
theorem dJ6_getChars_ba4f3_49 : decode cJ6_getChars_ba4f3 49 = .ok (.getstatic 83, 3) := by decide +kernel
theorem dJ6_getChars_ba4f3_52 : decode cJ6_getChars_ba4f3 52 = .ok (.iload 4, 2) := by decide +kernel
theorem dJ6_getChars_ba4f3_54 : decode cJ6_getChars_ba4f3 54 = .ok (.baload, 1) := by decide +kernel
theorem dJ6_getChars_ba4f3_55 : decode cJ6_getChars_ba4f3 55 = .ok (.bastore, 1) := by decide +kernel
theorem dJ6_getChars_ba4f3_56 : decode cJ6_getChars_ba4f3 56 = .ok (.aload_n 2, 1) := by decide +kernel
theorem dJ6_getChars_ba4f3_57 : decode cJ6_getChars_ba4f3 57 = .ok (.iinc 5 (-1), 3) := by decide +kernel
theorem dJ6_getChars_ba4f3_60 : decode cJ6_getChars_ba4f3 60 = .ok (.iload 5, 2) := by decide +kernel
theorem dJ6_getChars_ba4f3_62 : decode cJ6_getChars_ba4f3 62 = .ok (.getstatic 87, 3) := by decide +kernel
theorem dJ6_getChars_ba4f3_65 : decode cJ6_getChars_ba4f3 65 = .ok (.iload 4, 2) := by decide +kernel
theorem dJ6_getChars_ba4f3_67 : decode cJ6_getChars_ba4f3 67 = .ok (.baload, 1) := by decide +kernel
theorem dJ6_getChars_ba4f3_68 : decode cJ6_getChars_ba4f3 68 = .ok (.bastore, 1) := by decide +kernel
theorem dJ6_getChars_ba4f3_69 : decode cJ6_getChars_ba4f3 69 = .ok (.goto (-47), 3) := by decide +kernel
theorem dJ6_getChars_ba4f3_72 : decode cJ6_getChars_ba4f3 72 = .ok (.aload_n 2, 1) := by decide +kernel
theorem dJ6_getChars_ba4f3_73 : decode cJ6_getChars_ba4f3 73 = .ok (.iinc 5 (-1), 3) := by decide +kernel
theorem dJ6_getChars_ba4f3_76 : decode cJ6_getChars_ba4f3 76 = .ok (.iload 5, 2) := by decide +kernel
theorem dJ6_getChars_ba4f3_78 : decode cJ6_getChars_ba4f3 78 = .ok (.getstatic 83, 3) := by decide +kernel
theorem dJ6_getChars_ba4f3_81 : decode cJ6_getChars_ba4f3 81 = .ok (.iload_n 0, 1) := by decide +kernel
theorem dJ6_getChars_ba4f3_82 : decode cJ6_getChars_ba4f3 82 = .ok (.ineg, 1) := by decide +kernel
theorem dJ6_getChars_ba4f3_83 : decode cJ6_getChars_ba4f3 83 = .ok (.baload, 1) := by decide +kernel
theorem dJ6_getChars_ba4f3_84 : decode cJ6_getChars_ba4f3 84 = .ok (.bastore, 1) := by decide +kernel
theorem dJ6_getChars_ba4f3_85 : decode cJ6_getChars_ba4f3 85 = .ok (.iload_n 0, 1) := by decide +kernel
theorem dJ6_getChars_ba4f3_86 : decode cJ6_getChars_ba4f3 86 = .ok (.bipush (-9), 2) := by decide +kernel
theorem dJ6_getChars_ba4f3_88 : decode cJ6_getChars_ba4f3 88 = .ok (.if_icmp .ge 16, 3) := by decide +kernel
theorem dJ6_getChars_ba4f3_91 : decode cJ6_getChars_ba4f3 91 = .ok (.aload_n 2, 1) := by decide +kernel
theorem dJ6_getChars_ba4f3_92 : decode cJ6_getChars_ba4f3 92 = .ok (.iinc 5 (-1), 3) := by decide +kernel
theorem dJ6_getChars_ba4f3_95 : decode cJ6_getChars_ba4f3 95 = .ok (.iload 5, 2) := by decide +kernel
theorem dJ6_getChars_ba4f3_97 : decode cJ6_getChars_ba4f3 97 = .ok (.getstatic 87, 3) := by decide +kernel
theorem dJ6_getChars_ba4f3_100 : decode cJ6_getChars_ba4f3 100 = .ok (.iload_n 0, 1) := by decide +kernel
theorem dJ6_getChars_ba4f3_101 : decode cJ6_getChars_ba4f3 101 = .ok (.ineg, 1) := by decide +kernel
theorem dJ6_getChars_ba4f3_102 : decode cJ6_getChars_ba4f3 102 = .ok (.baload, 1) := by decide +kernel
theorem dJ6_getChars_ba4f3_103 : decode cJ6_getChars_ba4f3 103 = .ok (.bastore, 1) := by decide +kernel
theorem dJ6_getChars_ba4f3_104 : decode cJ6_getChars_ba4f3 104 = .ok (.iload 6, 2) := by decide +kernel
theorem dJ6_getChars_ba4f3_106 : decode cJ6_getChars_ba4f3 106 = .ok (.ifCond .eq 12, 3) := by decide +kernel
theorem dJ6_getChars_ba4f3_109 : decode cJ6_getChars_ba4f3 109 = .ok (.aload_n 2, 1) := by decide +kernel
theorem dJ6_getChars_ba4f3_110 : decode cJ6_getChars_ba4f3 110 = .ok (.iinc 5 (-1), 3) := by decide +kernel
theorem dJ6_getChars_ba4f3_113 : decode cJ6_getChars_ba4f3 113 = .ok (.iload 5, 2) := by decide +kernel
theorem dJ6_getChars_ba4f3_115 : decode cJ6_getChars_ba4f3 115 = .ok (.bipush 45, 2) := by decide +kernel
theorem dJ6_getChars_ba4f3_117 : decode cJ6_getChars_ba4f3 117 = .ok (.bastore, 1) := by decide +kernel
theorem dJ6_getChars_ba4f3_118 : decode cJ6_getChars_ba4f3 118 = .ok (.iload 5, 2) := by decide +kernel
theorem dJ6_getChars_ba4f3_120 : decode cJ6_getChars_ba4f3 120 = .ok (.ireturn, 1) := by decide +kernel
theorem dJ6_stringSize_0f7a4_0 : decode cJ6_stringSize_0f7a4 0 = .ok (.iconst 1, 1) := by decide +kernel
theorem dJ6_stringSize_0f7a4_1 : decode cJ6_stringSize_0f7a4 1 = .ok (.istore_n 1, 1) := by decide +kernel
theorem dJ6_stringSize_0f7a4_2 : decode cJ6_stringSize_0f7a4 2 = .ok (.iload_n 0, 1) := by decide +kernel
theorem dJ6_stringSize_0f7a4_3 : decode cJ6_stringSize_0f7a4 3 = .ok (.ifCond .lt 8, 3) := by decide +kernel
theorem dJ6_stringSize_0f7a4_6 : decode cJ6_stringSize_0f7a4 6 = .ok (.iconst 0, 1) := by decide +kernel
theorem dJ6_stringSize_0f7a4_7 : decode cJ6_stringSize_0f7a4 7 = .ok (.istore_n 1, 1) := by decide +kernel
theorem dJ6_stringSize_0f7a4_8 : decode cJ6_stringSize_0f7a4 8 = .ok (.iload_n 0, 1) := by decide +kernel
theorem dJ6_stringSize_0f7a4_9 : decode cJ6_stringSize_0f7a4 9 = .ok (.ineg, 1) := by decide +kernel
theorem dJ6_stringSize_0f7a4_10 : decode cJ6_stringSize_0f7a4 10 = .ok (.istore_n 0, 1) := by decide +kernel
theorem dJ6_stringSize_0f7a4_11 : decode cJ6_stringSize_0f7a4 11 = .ok (.bipush (-10), 2) := by decide +kernel
theorem dJ6_stringSize_0f7a4_13 : decode cJ6_stringSize_0f7a4 13 = .ok (.istore_n 2, 1) := by decide +kernel
theorem dJ6_stringSize_0f7a4_14 : decode cJ6_stringSize_0f7a4 14 = .ok (.iconst 1, 1) := by decide +kernel
theorem dJ6_stringSize_0f7a4_15 : decode cJ6_stringSize_0f7a4 15 = .ok (.istore_n 3, 1) := by decide +kernel
theorem dJ6_stringSize_0f7a4_16 : decode cJ6_stringSize_0f7a4 16 = .ok (.iload_n 3, 1) := by decide +kernel
theorem dJ6_stringSize_0f7a4_17 : decode cJ6_stringSize_0f7a4 17 = .ok (.bipush 10, 2) := by decide +kernel
theorem dJ6_stringSize_0f7a4_19 : decode cJ6_stringSize_0f7a4 19 = .ok (.if_icmp .ge 23, 3) := by decide +kernel
theorem dJ6_stringSize_0f7a4_22 : decode cJ6_stringSize_0f7a4 22 = .ok (.iload_n 0, 1) := by decide +kernel
theorem dJ6_stringSize_0f7a4_23 : decode cJ6_stringSize_0f7a4 23 = .ok (.iload_n 2, 1) := by decide +kernel
theorem dJ6_stringSize_0f7a4_24 : decode cJ6_stringSize_0f7a4 24 = .ok (.if_icmp .le 7, 3) := by decide +kernel
theorem dJ6_stringSize_0f7a4_27 : decode cJ6_stringSize_0f7a4 27 = .ok (.iload_n 3, 1) := by decide +kernel
theorem dJ6_stringSize_0f7a4_28 : decode cJ6_stringSize_0f7a4 28 = .ok (.iload_n 1, 1) := by decide +kernel
theorem dJ6_stringSize_0f7a4_29 : decode cJ6_stringSize_0f7a4 29 = .ok (.iadd, 1) := by decide +kernel
theorem dJ6_stringSize_0f7a4_30 : decode cJ6_stringSize_0f7a4 30 = .ok (.ireturn, 1) := by decide +kernel
theorem dJ6_stringSize_0f7a4_31 : decode cJ6_stringSize_0f7a4 31 = .ok (.bipush 10, 2) := by decide +kernel
theorem dJ6_stringSize_0f7a4_33 : decode cJ6_stringSize_0f7a4 33 = .ok (.iload_n 2, 1) := by decide +kernel
theorem dJ6_stringSize_0f7a4_34 : decode cJ6_stringSize_0f7a4 34 = .ok (.imul, 1) := by decide +kernel
theorem dJ6_stringSize_0f7a4_35 : decode cJ6_stringSize_0f7a4 35 = .ok (.istore_n 2, 1) := by decide +kernel
theorem dJ6_stringSize_0f7a4_36 : decode cJ6_stringSize_0f7a4 36 = .ok (.iinc 3 1, 3) := by decide +kernel
theorem dJ6_stringSize_0f7a4_39 : decode cJ6_stringSize_0f7a4 39 = .ok (.goto (-23), 3) := by decide +kernel
theorem dJ6_stringSize_0f7a4_42 : decode cJ6_stringSize_0f7a4 42 = .ok (.bipush 10, 2) := by decide +kernel
theorem dJ6_stringSize_0f7a4_44 : decode cJ6_stringSize_0f7a4 44 = .ok (.iload_n 1, 1) := by decide +kernel
theorem dJ6_stringSize_0f7a4_45 : decode cJ6_stringSize_0f7a4 45 = .ok (.iadd, 1) := by decide +kernel
theorem dJ6_stringSize_0f7a4_46 : decode cJ6_stringSize_0f7a4 46 = .ok (.ireturn, 1) := by decide +kernel
theorem dJ6_numberOfTrailingZeros_0f7a4_0 : decode cJ6_numberOfTrailingZeros_0f7a4 0 = .ok (.iload_n 0, 1) := by decide +kernel
theorem dJ6_numberOfTrailingZeros_0f7a4_1 : decode cJ6_numberOfTrailingZeros_0f7a4 1 = .ok (.iconst (-1), 1) := by decide +kernel
theorem dJ6_numberOfTrailingZeros_0f7a4_2 : decode cJ6_numberOfTrailingZeros_0f7a4 2 = .ok (.ixor, 1) := by decide +kernel
theorem dJ6_numberOfTrailingZeros_0f7a4_3 : decode cJ6_numberOfTrailingZeros_0f7a4 3 = .ok (.iload_n 0, 1) := by decide +kernel
theorem dJ6_numberOfTrailingZeros_0f7a4_4 : decode cJ6_numberOfTrailingZeros_0f7a4 4 = .ok (.iconst 1, 1) := by decide +kernel
theorem dJ6_numberOfTrailingZeros_0f7a4_5 : decode cJ6_numberOfTrailingZeros_0f7a4 5 = .ok (.isub, 1) := by decide +kernel
theorem dJ6_numberOfTrailingZeros_0f7a4_6 : decode cJ6_numberOfTrailingZeros_0f7a4 6 = .ok (.iand, 1) := by decide +kernel
theorem dJ6_numberOfTrailingZeros_0f7a4_7 : decode cJ6_numberOfTrailingZeros_0f7a4 7 = .ok (.istore_n 0, 1) := by decide +kernel
theorem dJ6_numberOfTrailingZeros_0f7a4_8 : decode cJ6_numberOfTrailingZeros_0f7a4 8 = .ok (.iload_n 0, 1) := by decide +kernel
theorem dJ6_numberOfTrailingZeros_0f7a4_9 : decode cJ6_numberOfTrailingZeros_0f7a4 9 = .ok (.ifCond .gt 8, 3) := by decide +kernel
theorem dJ6_numberOfTrailingZeros_0f7a4_12 : decode cJ6_numberOfTrailingZeros_0f7a4 12 = .ok (.iload_n 0, 1) := by decide +kernel
theorem dJ6_numberOfTrailingZeros_0f7a4_13 : decode cJ6_numberOfTrailingZeros_0f7a4 13 = .ok (.bipush 32, 2) := by decide +kernel
theorem dJ6_numberOfTrailingZeros_0f7a4_15 : decode cJ6_numberOfTrailingZeros_0f7a4 15 = .ok (.iand, 1) := by decide +kernel
theorem dJ6_numberOfTrailingZeros_0f7a4_16 : decode cJ6_numberOfTrailingZeros_0f7a4 16 = .ok (.ireturn, 1) := by decide +kernel
theorem dJ6_numberOfTrailingZeros_0f7a4_17 : decode cJ6_numberOfTrailingZeros_0f7a4 17 = .ok (.iconst 1, 1) := by decide +kernel
theorem dJ6_numberOfTrailingZeros_0f7a4_18 : decode cJ6_numberOfTrailingZeros_0f7a4 18 = .ok (.istore_n 1, 1) := by decide +kernel
theorem dJ6_numberOfTrailingZeros_0f7a4_19 : decode cJ6_numberOfTrailingZeros_0f7a4 19 = .ok (.iload_n 0, 1) := by decide +kernel
theorem dJ6_numberOfTrailingZeros_0f7a4_20 : decode cJ6_numberOfTrailingZeros_0f7a4 20 = .ok (.ldc_w 264, 3) := by decide +kernel
theorem dJ6_numberOfTrailingZeros_0f7a4_23 : decode cJ6_numberOfTrailingZeros_0f7a4 23 = .ok (.if_icmp .le 11, 3) := by decide +kernel
theorem dJ6_numberOfTrailingZeros_0f7a4_26 : decode cJ6_numberOfTrailingZeros_0f7a4 26 = .ok (.iinc 1 16, 3) := by decide +kernel
theorem dJ6_numberOfTrailingZeros_0f7a4_29 : decode cJ6_numberOfTrailingZeros_0f7a4 29 = .ok (.iload_n 0, 1) := by decide +kernel
theorem dJ6_numberOfTrailingZeros_0f7a4_30 : decode cJ6_numberOfTrailingZeros_0f7a4 30 = .ok (.bipush 16, 2) := by decide +kernel
theorem dJ6_numberOfTrailingZeros_0f7a4_32 : decode cJ6_numberOfTrailingZeros_0f7a4 32 = .ok (.iushr, 1) := by decide +kernel
theorem dJ6_numberOfTrailingZeros_0f7a4_33 : decode cJ6_numberOfTrailingZeros_0f7a4 33 = .ok (.istore_n 0, 1) := by decide +kernel
theorem dJ6_numberOfTrailingZeros_0f7a4_34 : decode cJ6_numberOfTrailingZeros_0f7a4 34 = .ok (.iload_n 0, 1) := by decide +kernel
theorem dJ6_numberOfTrailingZeros_0f7a4_35 : decode cJ6_numberOfTrailingZeros_0f7a4 35 = .ok (.sipush 256, 3) := by decide +kernel
theorem dJ6_numberOfTrailingZeros_0f7a4_38 : decode cJ6_numberOfTrailingZeros_0f7a4 38 = .ok (.if_icmp .le 11, 3) := by decide +kernel
theorem dJ6_numberOfTrailingZeros_0f7a4_41 : decode cJ6_numberOfTrailingZeros_0f7a4 41 = .ok (.iinc 1 8, 3) := by decide +kernel
theorem dJ6_numberOfTrailingZeros_0f7a4_44 : decode cJ6_numberOfTrailingZeros_0f7a4 44 = .ok (.iload_n 0, 1) := by decide +kernel
theorem dJ6_numberOfTrailingZeros_0f7a4_45 : decode cJ6_numberOfTrailingZeros_0f7a4 45 = .ok (.bipush 8, 2) := by decide +kernel
theorem dJ6_numberOfTrailingZeros_0f7a4_47 : decode cJ6_numberOfTrailingZeros_0f7a4 47 = .ok (.iushr, 1) := by decide +kernel
theorem dJ6_numberOfTrailingZeros_0f7a4_48 : decode cJ6_numberOfTrailingZeros_0f7a4 48 = .ok (.istore_n 0, 1) := by decide +kernel
theorem dJ6_numberOfTrailingZeros_0f7a4_49 : decode cJ6_numberOfTrailingZeros_0f7a4 49 = .ok (.iload_n 0, 1) := by decide +kernel
theorem dJ6_numberOfTrailingZeros_0f7a4_50 : decode cJ6_numberOfTrailingZeros_0f7a4 50 = .ok (.bipush 16, 2) := by decide +kernel
theorem dJ6_numberOfTrailingZeros_0f7a4_52 : decode cJ6_numberOfTrailingZeros_0f7a4 52 = .ok (.if_icmp .le 10, 3) := by decide +kernel
theorem dJ6_numberOfTrailingZeros_0f7a4_55 : decode cJ6_numberOfTrailingZeros_0f7a4 55 = .ok (.iinc 1 4, 3) := by decide +kernel
theorem dJ6_numberOfTrailingZeros_0f7a4_58 : decode cJ6_numberOfTrailingZeros_0f7a4 58 = .ok (.iload_n 0, 1) := by decide +kernel
theorem dJ6_numberOfTrailingZeros_0f7a4_59 : decode cJ6_numberOfTrailingZeros_0f7a4 59 = .ok (.iconst 4, 1) := by decide +kernel
theorem dJ6_numberOfTrailingZeros_0f7a4_60 : decode cJ6_numberOfTrailingZeros_0f7a4 60 = .ok (.iushr, 1) := by decide +kernel
theorem dJ6_numberOfTrailingZeros_0f7a4_61 : decode cJ6_numberOfTrailingZeros_0f7a4 61 = .ok (.istore_n 0, 1) := by decide +kernel
theorem dJ6_numberOfTrailingZeros_0f7a4_62 : decode cJ6_numberOfTrailingZeros_0f7a4 62 = .ok (.iload_n 0, 1) := by decide +kernel
theorem dJ6_numberOfTrailingZeros_0f7a4_63 : decode cJ6_numberOfTrailingZeros_0f7a4 63 = .ok (.iconst 4, 1) := by decide +kernel
theorem dJ6_numberOfTrailingZeros_0f7a4_64 : decode cJ6_numberOfTrailingZeros_0f7a4 64 = .ok (.if_icmp .le 10, 3) := by decide +kernel
theorem dJ6_numberOfTrailingZeros_0f7a4_67 : decode cJ6_numberOfTrailingZeros_0f7a4 67 = .ok (.iinc 1 2, 3) := by decide +kernel
theorem dJ6_numberOfTrailingZeros_0f7a4_70 : decode cJ6_numberOfTrailingZeros_0f7a4 70 = .ok (.iload_n 0, 1) := by decide +kernel
theorem dJ6_numberOfTrailingZeros_0f7a4_71 : decode cJ6_numberOfTrailingZeros_0f7a4 71 = .ok (.iconst 2, 1) := by decide +kernel
theorem dJ6_numberOfTrailingZeros_0f7a4_72 : decode cJ6_numberOfTrailingZeros_0f7a4 72 = .ok (.iushr, 1) := by decide +kernel
theorem dJ6_numberOfTrailingZeros_0f7a4_73 : decode cJ6_numberOfTrailingZeros_0f7a4 73 = .ok (.istore_n 0, 1) := by decide +kernel
theorem dJ6_numberOfTrailingZeros_0f7a4_74 : decode cJ6_numberOfTrailingZeros_0f7a4 74 = .ok (.iload_n 1, 1) := by decide +kernel
theorem dJ6_numberOfTrailingZeros_0f7a4_75 : decode cJ6_numberOfTrailingZeros_0f7a4 75 = .ok (.iload_n 0, 1) := by decide +kernel
theorem dJ6_numberOfTrailingZeros_0f7a4_76 : decode cJ6_numberOfTrailingZeros_0f7a4 76 = .ok (.iconst 1, 1) := by decide +kernel
theorem dJ6_numberOfTrailingZeros_0f7a4_77 : decode cJ6_numberOfTrailingZeros_0f7a4 77 = .ok (.iushr, 1) := by decide +kernel
theorem dJ6_numberOfTrailingZeros_0f7a4_78 : decode cJ6_numberOfTrailingZeros_0f7a4 78 = .ok (.iadd, 1) := by decide +kernel
theorem dJ6_numberOfTrailingZeros_0f7a4_79 : decode cJ6_numberOfTrailingZeros_0f7a4 79 = .ok (.ireturn, 1) := by decide +kernel
theorem dJ13_numberOfTrailingZeros_95d88_0 : decode cJ13_numberOfTrailingZeros_95d88 0 = .ok (.lload_n 0, 1) := by decide +kernel
theorem dJ13_numberOfTrailingZeros_95d88_1 : decode cJ13_numberOfTrailingZeros_95d88 1 = .ok (.l2i, 1) := by decide +kernel
theorem dJ13_numberOfTrailingZeros_95d88_2 : decode cJ13_numberOfTrailingZeros_95d88 2 = .ok (.istore_n 2, 1) := by decide +kernel
theorem dJ13_numberOfTrailingZeros_95d88_3 : decode cJ13_numberOfTrailingZeros_95d88 3 = .ok (.iload_n 2, 1) := by decide +kernel
theorem dJ13_numberOfTrailingZeros_95d88_4 : decode cJ13_numberOfTrailingZeros_95d88 4 = .ok (.ifCond .ne 17, 3) := by decide +kernel
theorem dJ13_numberOfTrailingZeros_95d88_7 : decode cJ13_numberOfTrailingZeros_95d88 7 = .ok (.bipush 32, 2) := by decide +kernel
theorem dJ13_numberOfTrailingZeros_95d88_9 : decode cJ13_numberOfTrailingZeros_95d88 9 = .ok (.lload_n 0, 1) := by decide +kernel
theorem dJ13_numberOfTrailingZeros_95d88_10 : decode cJ13_numberOfTrailingZeros_95d88 10 = .ok (.bipush 32, 2) := by decide +kernel
theorem dJ13_numberOfTrailingZeros_95d88_12 : decode cJ13_numberOfTrailingZeros_95d88 12 = .ok (.lushr, 1) := by decide +kernel
theorem dJ13_numberOfTrailingZeros_95d88_13 : decode cJ13_numberOfTrailingZeros_95d88 13 = .ok (.l2i, 1) := by decide +kernel
theorem dJ13_numberOfTrailingZeros_95d88_14 : decode cJ13_numberOfTrailingZeros_95d88 14 = .ok (.invokestatic 311, 3) := by decide +kernel
theorem dJ13_numberOfTrailingZeros_95d88_17 : decode cJ13_numberOfTrailingZeros_95d88 17 = .ok (.iadd, 1) := by decide +kernel
theorem dJ13_numberOfTrailingZeros_95d88_18 : decode cJ13_numberOfTrailingZeros_95d88 18 = .ok (.goto 7, 3) := by decide +kernel
theorem dJ13_numberOfTrailingZeros_95d88_21 : decode cJ13_numberOfTrailingZeros_95d88 21 = .ok (.iload_n 2, 1) := by decide +kernel
theorem dJ13_numberOfTrailingZeros_95d88_22 : decode cJ13_numberOfTrailingZeros_95d88 22 = .ok (.invokestatic 311, 3) := by decide +kernel
theorem dJ13_numberOfTrailingZeros_95d88_25 : decode cJ13_numberOfTrailingZeros_95d88 25 = .ok (.ireturn, 1) := by decide +kernel
theorem dJ13_bitCount_95d88_0 : decode cJ13_bitCount_95d88 0 = .ok (.lload_n 0, 1) := by decide +kernel
theorem dJ13_bitCount_95d88_1 : decode cJ13_bitCount_95d88 1 = .ok (.lload_n 0, 1) := by decide +kernel
theorem dJ13_bitCount_95d88_2 : decode cJ13_bitCount_95d88 2 = .ok (.iconst 1, 1) := by decide +kernel
theorem dJ13_bitCount_95d88_3 : decode cJ13_bitCount_95d88 3 = .ok (.lushr, 1) := by decide +kernel
theorem dJ13_bitCount_95d88_4 : decode cJ13_bitCount_95d88 4 = .ok (.ldc2_w 314, 3) := by decide +kernel
theorem dJ13_bitCount_95d88_7 : decode cJ13_bitCount_95d88 7 = .ok (.land, 1) := by decide +kernel
theorem dJ13_bitCount_95d88_8 : decode cJ13_bitCount_95d88 8 = .ok (.lsub, 1) := by decide +kernel
theorem dJ13_bitCount_95d88_9 : decode cJ13_bitCount_95d88 9 = .ok (.lstore_n 0, 1) := by decide +kernel
theorem dJ13_bitCount_95d88_10 : decode cJ13_bitCount_95d88 10 = .ok (.lload_n 0, 1) := by decide +kernel
theorem dJ13_bitCount_95d88_11 : decode cJ13_bitCount_95d88 11 = .ok (.ldc2_w 316, 3) := by decide +kernel
theorem dJ13_bitCount_95d88_14 : decode cJ13_bitCount_95d88 14 = .ok (.land, 1) := by decide +kernel
theorem dJ13_bitCount_95d88_15 : decode cJ13_bitCount_95d88 15 = .ok (.lload_n 0, 1) := by decide +kernel
theorem dJ13_bitCount_95d88_16 : decode cJ13_bitCount_95d88 16 = .ok (.iconst 2, 1) := by decide +kernel
theorem dJ13_bitCount_95d88_17 : decode cJ13_bitCount_95d88 17 = .ok (.lushr, 1) := by decide +kernel
theorem dJ13_bitCount_95d88_18 : decode cJ13_bitCount_95d88 18 = .ok (.ldc2_w 316, 3) := by decide +kernel
theorem dJ13_bitCount_95d88_21 : decode cJ13_bitCount_95d88 21 = .ok (.land, 1) := by decide +kernel
theorem dJ13_bitCount_95d88_22 : decode cJ13_bitCount_95d88 22 = .ok (.ladd, 1) := by decide +kernel
theorem dJ13_bitCount_95d88_23 : decode cJ13_bitCount_95d88 23 = .ok (.lstore_n 0, 1) := by decide +kernel
theorem dJ13_bitCount_95d88_24 : decode cJ13_bitCount_95d88 24 = .ok (.lload_n 0, 1) := by decide +kernel
theorem dJ13_bitCount_95d88_25 : decode cJ13_bitCount_95d88 25 = .ok (.lload_n 0, 1) := by decide +kernel
theorem dJ13_bitCount_95d88_26 : decode cJ13_bitCount_95d88 26 = .ok (.iconst 4, 1) := by decide +kernel
theorem dJ13_bitCount_95d88_27 : decode cJ13_bitCount_95d88 27 = .ok (.lushr, 1) := by decide +kernel
theorem dJ13_bitCount_95d88_28 : decode cJ13_bitCount_95d88 28 = .ok (.ladd, 1) := by decide +kernel
theorem dJ13_bitCount_95d88_29 : decode cJ13_bitCount_95d88 29 = .ok (.ldc2_w 318, 3) := by decide +kernel
theorem dJ13_bitCount_95d88_32 : decode cJ13_bitCount_95d88 32 = .ok (.land, 1) := by decide +kernel
theorem dJ13_bitCount_95d88_33 : decode cJ13_bitCount_95d88 33 = .ok (.lstore_n 0, 1) := by decide +kernel
theorem dJ13_bitCount_95d88_34 : decode cJ13_bitCount_95d88 34 = .ok (.lload_n 0, 1) := by decide +kernel
theorem dJ13_bitCount_95d88_35 : decode cJ13_bitCount_95d88 35 = .ok (.lload_n 0, 1) := by decide +kernel
theorem dJ13_bitCount_95d88_36 : decode cJ13_bitCount_95d88 36 = .ok (.bipush 8, 2) := by decide +kernel
theorem dJ13_bitCount_95d88_38 : decode cJ13_bitCount_95d88 38 = .ok (.lushr, 1) := by decide +kernel
theorem dJ13_bitCount_95d88_39 : decode cJ13_bitCount_95d88 39 = .ok (.ladd, 1) := by decide +kernel
theorem dJ13_bitCount_95d88_40 : decode cJ13_bitCount_95d88 40 = .ok (.lstore_n 0, 1) := by decide +kernel
theorem dJ13_bitCount_95d88_41 : decode cJ13_bitCount_95d88 41 = .ok (.lload_n 0, 1) := by decide +kernel
theorem dJ13_bitCount_95d88_42 : decode cJ13_bitCount_95d88 42 = .ok (.lload_n 0, 1) := by decide +kernel
theorem dJ13_bitCount_95d88_43 : decode cJ13_bitCount_95d88 43 = .ok (.bipush 16, 2) := by decide +kernel
theorem dJ13_bitCount_95d88_45 : decode cJ13_bitCount_95d88 45 = .ok (.lushr, 1) := by decide +kernel
theorem dJ13_bitCount_95d88_46 : decode cJ13_bitCount_95d88 46 = .ok (.ladd, 1) := by decide +kernel
theorem dJ13_bitCount_95d88_47 : decode cJ13_bitCount_95d88 47 = .ok (.lstore_n 0, 1) := by decide +kernel
theorem dJ13_bitCount_95d88_48 : decode cJ13_bitCount_95d88 48 = .ok (.lload_n 0, 1) := by decide +kernel
theorem dJ13_bitCount_95d88_49 : decode cJ13_bitCount_95d88 49 = .ok (.lload_n 0, 1) := by decide +kernel
theorem dJ13_bitCount_95d88_50 : decode cJ13_bitCount_95d88 50 = .ok (.bipush 32, 2) := by decide +kernel
theorem dJ13_bitCount_95d88_52 : decode cJ13_bitCount_95d88 52 = .ok (.lushr, 1) := by decide +kernel
theorem dJ13_bitCount_95d88_53 : decode cJ13_bitCount_95d88 53 = .ok (.ladd, 1) := by decide +kernel
theorem dJ13_bitCount_95d88_54 : decode cJ13_bitCount_95d88 54 = .ok (.lstore_n 0, 1) := by decide +kernel
theorem dJ13_bitCount_95d88_55 : decode cJ13_bitCount_95d88 55 = .ok (.lload_n 0, 1) := by decide +kernel
theorem dJ13_bitCount_95d88_56 : decode cJ13_bitCount_95d88 56 = .ok (.l2i, 1) := by decide +kernel
theorem dJ13_bitCount_95d88_57 : decode cJ13_bitCount_95d88 57 = .ok (.bipush 127, 2) := by decide +kernel
theorem dJ13_bitCount_95d88_59 : decode cJ13_bitCount_95d88 59 = .ok (.iand, 1) := by decide +kernel
theorem dJ13_bitCount_95d88_60 : decode cJ13_bitCount_95d88 60 = .ok (.ireturn, 1) := by decide +kernel
theorem dJ9_max_7cf53_0 : decode cJ9_max_7cf53 0 = .ok (.iload_n 0, 1) := by decide +kernel
theorem dJ9_max_7cf53_1 : decode cJ9_max_7cf53 1 = .ok (.iload_n 1, 1) := by decide +kernel
theorem dJ9_max_7cf53_2 : decode cJ9_max_7cf53 2 = .ok (.if_icmp .lt 7, 3) := by decide +kernel
theorem dJ9_max_7cf53_5 : decode cJ9_max_7cf53 5 = .ok (.iload_n 0, 1) := by decide +kernel
theorem dJ9_max_7cf53_6 : decode cJ9_max_7cf53 6 = .ok (.goto 4, 3) := by decide +kernel
theorem dJ9_max_7cf53_9 : decode cJ9_max_7cf53 9 = .ok (.iload_n 1, 1) := by decide +kernel
theorem dJ9_max_7cf53_10 : decode cJ9_max_7cf53 10 = .ok (.ireturn, 1) := by decide +kernel
theorem dJ9_max_f86c9_0 : decode cJ9_max_f86c9 0 = .ok (.lload_n 0, 1) := by decide +kernel
theorem dJ9_max_f86c9_1 : decode cJ9_max_f86c9 1 = .ok (.lload_n 2, 1) := by decide +kernel
theorem dJ9_max_f86c9_2 : decode cJ9_max_f86c9 2 = .ok (.lcmp, 1) := by decide +kernel
theorem dJ9_max_f86c9_3 : decode cJ9_max_f86c9 3 = .ok (.ifCond .lt 7, 3) := by decide +kernel
theorem dJ9_max_f86c9_6 : decode cJ9_max_f86c9 6 = .ok (.lload_n 0, 1) := by decide +kernel
theorem dJ9_max_f86c9_7 : decode cJ9_max_f86c9 7 = .ok (.goto 4, 3) := by decide +kernel
theorem dJ9_max_f86c9_10 : decode cJ9_max_f86c9 10 = .ok (.lload_n 2, 1) := by decide +kernel
theorem dJ9_max_f86c9_11 : decode cJ9_max_f86c9 11 = .ok (.lreturn, 1) := by decide +kernel
theorem dJ9_min_7cf53_0 : decode cJ9_min_7cf53 0 = .ok (.iload_n 0, 1) := by decide +kernel
theorem dJ9_min_7cf53_1 : decode cJ9_min_7cf53 1 = .ok (.iload_n 1, 1) := by decide +kernel
theorem dJ9_min_7cf53_2 : decode cJ9_min_7cf53 2 = .ok (.if_icmp .gt 7, 3) := by decide +kernel
theorem dJ9_min_7cf53_5 : decode cJ9_min_7cf53 5 = .ok (.iload_n 0, 1) := by decide +kernel
theorem dJ9_min_7cf53_6 : decode cJ9_min_7cf53 6 = .ok (.goto 4, 3) := by decide +kernel
theorem dJ9_min_7cf53_9 : decode cJ9_min_7cf53 9 = .ok (.iload_n 1, 1) := by decide +kernel
theorem dJ9_min_7cf53_10 : decode cJ9_min_7cf53 10 = .ok (.ireturn, 1) := by decide +kernel
theorem dJ0_init_81219_0 : decode cJ0_init_81219 0 = .ok (.aload_n 0, 1) := by decide +kernel
theorem dJ0_init_81219_1 : decode cJ0_init_81219 1 = .ok (.aload_n 1, 1) := by decide +kernel
theorem dJ0_init_81219_2 : decode cJ0_init_81219 2 = .ok (.aconst_null, 1) := by decide +kernel
theorem dJ0_init_81219_3 : decode cJ0_init_81219 3 = .ok (.invokespecial 489, 3) := by decide +kernel
theorem dJ0_init_81219_6 : decode cJ0_init_81219 6 = .ok (.return_, 1) := by decide +kernel
theorem dJ0_length_8abf5_0 : decode cJ0_length_8abf5 0 = .ok (.aload_n 0, 1) := by decide +kernel
theorem dJ0_length_8abf5_1 : decode cJ0_length_8abf5 1 = .ok (.getfield 9, 3) := by decide +kernel
theorem dJ0_length_8abf5_4 : decode cJ0_length_8abf5 4 = .ok (.arraylength, 1) := by decide +kernel
theorem dJ0_length_8abf5_5 : decode cJ0_length_8abf5 5 = .ok (.aload_n 0, 1) := by decide +kernel
theorem dJ0_length_8abf5_6 : decode cJ0_length_8abf5 6 = .ok (.invokevirtual 335, 3) := by decide +kernel
theorem dJ0_length_8abf5_9 : decode cJ0_length_8abf5 9 = .ok (.ishr, 1) := by decide +kernel
theorem dJ0_length_8abf5_10 : decode cJ0_length_8abf5 10 = .ok (.ireturn, 1) := by decide +kernel
theorem dJ0_charAt_5068e_0 : decode cJ0_charAt_5068e 0 = .ok (.aload_n 0, 1) := by decide +kernel
theorem dJ0_charAt_5068e_1 : decode cJ0_charAt_5068e 1 = .ok (.invokevirtual 492, 3) := by decide +kernel
theorem dJ0_charAt_5068e_4 : decode cJ0_charAt_5068e 4 = .ok (.ifCond .eq 12, 3) := by decide +kernel
theorem dJ0_charAt_5068e_7 : decode cJ0_charAt_5068e 7 = .ok (.aload_n 0, 1) := by decide +kernel
theorem dJ0_charAt_5068e_8 : decode cJ0_charAt_5068e 8 = .ok (.getfield 9, 3) := by decide +kernel
theorem dJ0_charAt_5068e_11 : decode cJ0_charAt_5068e 11 = .ok (.iload_n 1, 1) := by decide +kernel
theorem dJ0_charAt_5068e_12 : decode cJ0_charAt_5068e 12 = .ok (.invokestatic 495, 3) := by decide +kernel
theorem dJ0_charAt_5068e_15 : decode cJ0_charAt_5068e 15 = .ok (.ireturn, 1) := by decide +kernel
theorem dJ0_charAt_5068e_16 : decode cJ0_charAt_5068e 16 = .ok (.aload_n 0, 1) := by decide +kernel
theorem dJ0_charAt_5068e_17 : decode cJ0_charAt_5068e 17 = .ok (.getfield 9, 3) := by decide +kernel
theorem dJ0_charAt_5068e_20 : decode cJ0_charAt_5068e 20 = .ok (.iload_n 1, 1) := by decide +kernel
theorem dJ0_charAt_5068e_21 : decode cJ0_charAt_5068e 21 = .ok (.invokestatic 498, 3) := by decide +kernel
theorem dJ0_charAt_5068e_24 : decode cJ0_charAt_5068e 24 = .ok (.ireturn, 1) := by decide +kernel
theorem dJ0_getBytes_840e7_0 : decode cJ0_getBytes_840e7 0 = .ok (.aload_n 0, 1) := by decide +kernel
theorem dJ0_getBytes_840e7_1 : decode cJ0_getBytes_840e7 1 = .ok (.invokevirtual 335, 3) := by decide +kernel
theorem dJ0_getBytes_840e7_4 : decode cJ0_getBytes_840e7 4 = .ok (.iload_n 3, 1) := by decide +kernel
theorem dJ0_getBytes_840e7_5 : decode cJ0_getBytes_840e7 5 = .ok (.if_icmp .ne 23, 3) := by decide +kernel
theorem dJ0_getBytes_840e7_8 : decode cJ0_getBytes_840e7 8 = .ok (.aload_n 0, 1) := by decide +kernel
theorem dJ0_getBytes_840e7_9 : decode cJ0_getBytes_840e7 9 = .ok (.getfield 9, 3) := by decide +kernel
theorem dJ0_getBytes_840e7_12 : decode cJ0_getBytes_840e7 12 = .ok (.iconst 0, 1) := by decide +kernel
theorem dJ0_getBytes_840e7_13 : decode cJ0_getBytes_840e7 13 = .ok (.aload_n 1, 1) := by decide +kernel
theorem dJ0_getBytes_840e7_14 : decode cJ0_getBytes_840e7 14 = .ok (.iload_n 2, 1) := by decide +kernel
theorem dJ0_getBytes_840e7_15 : decode cJ0_getBytes_840e7 15 = .ok (.iload_n 3, 1) := by decide +kernel
theorem dJ0_getBytes_840e7_16 : decode cJ0_getBytes_840e7 16 = .ok (.ishl, 1) := by decide +kernel
theorem dJ0_getBytes_840e7_17 : decode cJ0_getBytes_840e7 17 = .ok (.aload_n 0, 1) := by decide +kernel
theorem dJ0_getBytes_840e7_18 : decode cJ0_getBytes_840e7 18 = .ok (.getfield 9, 3) := by decide +kernel
theorem dJ0_getBytes_840e7_21 : decode cJ0_getBytes_840e7 21 = .ok (.arraylength, 1) := by decide +kernel
theorem dJ0_getBytes_840e7_22 : decode cJ0_getBytes_840e7 22 = .ok (.invokestatic 212, 3) := by decide +kernel
theorem dJ0_getBytes_840e7_25 : decode cJ0_getBytes_840e7 25 = .ok (.goto 18, 3) := by decide +kernel
theorem dJ0_getBytes_840e7_28 : decode cJ0_getBytes_840e7 28 = .ok (.aload_n 0, 1) := by decide +kernel
theorem dJ0_getBytes_840e7_29 : decode cJ0_getBytes_840e7 29 = .ok (.getfield 9, 3) := by decide +kernel
theorem dJ0_getBytes_840e7_32 : decode cJ0_getBytes_840e7 32 = .ok (.iconst 0, 1) := by decide +kernel
theorem dJ0_getBytes_840e7_33 : decode cJ0_getBytes_840e7 33 = .ok (.aload_n 1, 1) := by decide +kernel
theorem dJ0_getBytes_840e7_34 : decode cJ0_getBytes_840e7 34 = .ok (.iload_n 2, 1) := by decide +kernel
theorem dJ0_getBytes_840e7_35 : decode cJ0_getBytes_840e7 35 = .ok (.aload_n 0, 1) := by decide +kernel
theorem dJ0_getBytes_840e7_36 : decode cJ0_getBytes_840e7 36 = .ok (.getfield 9, 3) := by decide +kernel
theorem dJ0_getBytes_840e7_39 : decode cJ0_getBytes_840e7 39 = .ok (.arraylength, 1) := by decide +kernel
theorem dJ0_getBytes_840e7_40 : decode cJ0_getBytes_840e7 40 = .ok (.invokestatic 106, 3) := by decide +kernel
theorem dJ0_getBytes_840e7_43 : decode cJ0_getBytes_840e7 43 = .ok (.return_, 1) := by decide +kernel
theorem dJ0_init_db425_0 : decode cJ0_init_db425 0 = .ok (.aload_n 0, 1) := by decide +kernel
theorem dJ0_init_db425_1 : decode cJ0_init_db425 1 = .ok (.invokespecial 1, 3) := by decide +kernel
theorem dJ0_init_db425_4 : decode cJ0_init_db425 4 = .ok (.aload_n 1, 1) := by decide +kernel
theorem dJ0_init_db425_5 : decode cJ0_init_db425 5 = .ok (.invokevirtual 552, 3) := by decide +kernel
theorem dJ0_init_db425_8 : decode cJ0_init_db425 8 = .ok (.astore_n 3, 1) := by decide +kernel
theorem dJ0_init_db425_9 : decode cJ0_init_db425 9 = .ok (.aload_n 1, 1) := by decide +kernel
theorem dJ0_init_db425_10 : decode cJ0_init_db425 10 = .ok (.invokevirtual 549, 3) := by decide +kernel
theorem dJ0_init_db425_13 : decode cJ0_init_db425 13 = .ok (.istore 4, 2) := by decide +kernel
theorem dJ0_init_db425_15 : decode cJ0_init_db425 15 = .ok (.aload_n 1, 1) := by decide +kernel
theorem dJ0_init_db425_16 : decode cJ0_init_db425 16 = .ok (.invokevirtual 1047, 3) := by decide +kernel
theorem dJ0_init_db425_19 : decode cJ0_init_db425 19 = .ok (.ifCond .eq 22, 3) := by decide +kernel
theorem dJ0_init_db425_22 : decode cJ0_init_db425 22 = .ok (.aload_n 0, 1) := by decide +kernel
theorem dJ0_init_db425_23 : decode cJ0_init_db425 23 = .ok (.iconst 0, 1) := by decide +kernel
theorem dJ0_init_db425_24 : decode cJ0_init_db425 24 = .ok (.putfield 15, 3) := by decide +kernel
theorem dJ0_init_db425_27 : decode cJ0_init_db425 27 = .ok (.aload_n 0, 1) := by decide +kernel
theorem dJ0_init_db425_28 : decode cJ0_init_db425 28 = .ok (.aload_n 3, 1) := by decide +kernel
theorem dJ0_init_db425_29 : decode cJ0_init_db425 29 = .ok (.iconst 0, 1) := by decide +kernel
theorem dJ0_init_db425_30 : decode cJ0_init_db425 30 = .ok (.iload 4, 2) := by decide +kernel
theorem dJ0_init_db425_32 : decode cJ0_init_db425 32 = .ok (.invokestatic 54, 3) := by decide +kernel
theorem dJ0_init_db425_35 : decode cJ0_init_db425 35 = .ok (.putfield 9, 3) := by decide +kernel
theorem dJ0_init_db425_38 : decode cJ0_init_db425 38 = .ok (.goto 59, 3) := by decide +kernel
theorem dJ0_init_db425_41 : decode cJ0_init_db425 41 = .ok (.getstatic 38, 3) := by decide +kernel
theorem dJ0_init_db425_44 : decode cJ0_init_db425 44 = .ok (.ifCond .eq 35, 3) := by decide +kernel
theorem dJ0_init_db425_47 : decode cJ0_init_db425 47 = .ok (.aload_n 1, 1) := by decide +kernel
theorem dJ0_init_db425_48 : decode cJ0_init_db425 48 = .ok (.getfield 1048, 3) := by decide +kernel
theorem dJ0_init_db425_51 : decode cJ0_init_db425 51 = .ok (.ifCond .eq 28, 3) := by decide +kernel
theorem dJ0_init_db425_54 : decode cJ0_init_db425 54 = .ok (.aload_n 0, 1) := by decide +kernel
theorem dJ0_init_db425_55 : decode cJ0_init_db425 55 = .ok (.aload_n 3, 1) := by decide +kernel
theorem dJ0_init_db425_56 : decode cJ0_init_db425 56 = .ok (.iconst 0, 1) := by decide +kernel
theorem dJ0_init_db425_57 : decode cJ0_init_db425 57 = .ok (.iload 4, 2) := by decide +kernel
theorem dJ0_init_db425_59 : decode cJ0_init_db425 59 = .ok (.invokestatic 1051, 3) := by decide +kernel
theorem dJ0_init_db425_62 : decode cJ0_init_db425 62 = .ok (.putfield 9, 3) := by decide +kernel
theorem dJ0_init_db425_65 : decode cJ0_init_db425 65 = .ok (.aload_n 0, 1) := by decide +kernel
theorem dJ0_init_db425_66 : decode cJ0_init_db425 66 = .ok (.aload_n 0, 1) := by decide +kernel
theorem dJ0_init_db425_67 : decode cJ0_init_db425 67 = .ok (.getfield 9, 3) := by decide +kernel
theorem dJ0_init_db425_70 : decode cJ0_init_db425 70 = .ok (.iload 4, 2) := by decide +kernel
theorem dJ0_init_db425_72 : decode cJ0_init_db425 72 = .ok (.invokestatic 47, 3) := by decide +kernel
theorem dJ0_init_db425_75 : decode cJ0_init_db425 75 = .ok (.putfield 15, 3) := by decide +kernel
theorem dJ0_init_db425_78 : decode cJ0_init_db425 78 = .ok (.return_, 1) := by decide +kernel
theorem dJ0_init_db425_79 : decode cJ0_init_db425 79 = .ok (.aload_n 0, 1) := by decide +kernel
theorem dJ0_init_db425_80 : decode cJ0_init_db425 80 = .ok (.iconst 1, 1) := by decide +kernel
theorem dJ0_init_db425_81 : decode cJ0_init_db425 81 = .ok (.putfield 15, 3) := by decide +kernel
theorem dJ0_init_db425_84 : decode cJ0_init_db425 84 = .ok (.aload_n 0, 1) := by decide +kernel
theorem dJ0_init_db425_85 : decode cJ0_init_db425 85 = .ok (.aload_n 3, 1) := by decide +kernel
theorem dJ0_init_db425_86 : decode cJ0_init_db425 86 = .ok (.iconst 0, 1) := by decide +kernel
theorem dJ0_init_db425_87 : decode cJ0_init_db425 87 = .ok (.iload 4, 2) := by decide +kernel
theorem dJ0_init_db425_89 : decode cJ0_init_db425 89 = .ok (.iconst 1, 1) := by decide +kernel
theorem dJ0_init_db425_90 : decode cJ0_init_db425 90 = .ok (.ishl, 1) := by decide +kernel
theorem dJ0_init_db425_91 : decode cJ0_init_db425 91 = .ok (.invokestatic 54, 3) := by decide +kernel
theorem dJ0_init_db425_94 : decode cJ0_init_db425 94 = .ok (.putfield 9, 3) := by decide +kernel
theorem dJ0_init_db425_97 : decode cJ0_init_db425 97 = .ok (.return_, 1) := by decide +kernel
theorem dJ0_coder_7d493_0 : decode cJ0_coder_7d493 0 = .ok (.getstatic 38, 3) := by decide +kernel
theorem dJ0_coder_7d493_3 : decode cJ0_coder_7d493 3 = .ok (.ifCond .eq 10, 3) := by decide +kernel
theorem dJ0_coder_7d493_6 : decode cJ0_coder_7d493 6 = .ok (.aload_n 0, 1) := by decide +kernel
theorem dJ0_coder_7d493_7 : decode cJ0_coder_7d493 7 = .ok (.getfield 15, 3) := by decide +kernel
theorem dJ0_coder_7d493_10 : decode cJ0_coder_7d493 10 = .ok (.goto 4, 3) := by decide +kernel
theorem dJ0_coder_7d493_13 : decode cJ0_coder_7d493 13 = .ok (.iconst 1, 1) := by decide +kernel
theorem dJ0_coder_7d493_14 : decode cJ0_coder_7d493 14 = .ok (.ireturn, 1) := by decide +kernel
theorem dJ0_isLatin1_aae02_0 : decode cJ0_isLatin1_aae02 0 = .ok (.getstatic 38, 3) := by decide +kernel
theorem dJ0_isLatin1_aae02_3 : decode cJ0_isLatin1_aae02 3 = .ok (.ifCond .eq 14, 3) := by decide +kernel
theorem dJ0_isLatin1_aae02_6 : decode cJ0_isLatin1_aae02 6 = .ok (.aload_n 0, 1) := by decide +kernel
theorem dJ0_isLatin1_aae02_7 : decode cJ0_isLatin1_aae02 7 = .ok (.getfield 15, 3) := by decide +kernel
theorem dJ0_isLatin1_aae02_10 : decode cJ0_isLatin1_aae02 10 = .ok (.ifCond .ne 7, 3) := by decide +kernel
theorem dJ0_isLatin1_aae02_13 : decode cJ0_isLatin1_aae02 13 = .ok (.iconst 1, 1) := by decide +kernel
theorem dJ0_isLatin1_aae02_14 : decode cJ0_isLatin1_aae02 14 = .ok (.goto 4, 3) := by decide +kernel
theorem dJ0_isLatin1_aae02_17 : decode cJ0_isLatin1_aae02 17 = .ok (.iconst 0, 1) := by decide +kernel
theorem dJ0_isLatin1_aae02_18 : decode cJ0_isLatin1_aae02 18 = .ok (.ireturn, 1) := by decide +kernel
theorem dJ0_checkIndex_df160_0 : decode cJ0_checkIndex_df160 0 = .ok (.iload_n 0, 1) := by decide +kernel
theorem dJ0_checkIndex_df160_1 : decode cJ0_checkIndex_df160 1 = .ok (.iload_n 1, 1) := by decide +kernel
theorem dJ0_checkIndex_df160_2 : decode cJ0_checkIndex_df160 2 = .ok (.getstatic 1053, 3) := by decide +kernel
theorem dJ0_checkIndex_df160_5 : decode cJ0_checkIndex_df160 5 = .ok (.invokestatic 1059, 3) := by decide +kernel
theorem dJ0_checkIndex_df160_8 : decode cJ0_checkIndex_df160 8 = .ok (.pop, 1) := by decide +kernel
theorem dJ0_checkIndex_df160_9 : decode cJ0_checkIndex_df160 9 = .ok (.return_, 1) := by decide +kernel
theorem dJ4_init_da8c8_0 : decode cJ4_init_da8c8 0 = .ok (.aload_n 0, 1) := by decide +kernel
theorem dJ4_init_da8c8_1 : decode cJ4_init_da8c8 1 = .ok (.bipush 16, 2) := by decide +kernel
theorem dJ4_init_da8c8_3 : decode cJ4_init_da8c8 3 = .ok (.invokespecial 1, 3) := by decide +kernel
theorem dJ4_init_da8c8_6 : decode cJ4_init_da8c8 6 = .ok (.return_, 1) := by decide +kernel
theorem dJ4_append_15ec4_0 : decode cJ4_append_15ec4 0 = .ok (.aload_n 0, 1) := by decide +kernel
theorem dJ4_append_15ec4_1 : decode cJ4_append_15ec4 1 = .ok (.aload_n 1, 1) := by decide +kernel
theorem dJ4_append_15ec4_2 : decode cJ4_append_15ec4 2 = .ok (.invokespecial 29, 3) := by decide +kernel
theorem dJ4_append_15ec4_5 : decode cJ4_append_15ec4 5 = .ok (.pop, 1) := by decide +kernel
theorem dJ4_append_15ec4_6 : decode cJ4_append_15ec4 6 = .ok (.aload_n 0, 1) := by decide +kernel
theorem dJ4_append_15ec4_7 : decode cJ4_append_15ec4 7 = .ok (.areturn, 1) := by decide +kernel
theorem dJ4_append_bf812_0 : decode cJ4_append_bf812 0 = .ok (.aload_n 0, 1) := by decide +kernel
theorem dJ4_append_bf812_1 : decode cJ4_append_bf812 1 = .ok (.iload_n 1, 1) := by decide +kernel
theorem dJ4_append_bf812_2 : decode cJ4_append_bf812 2 = .ok (.invokespecial 53, 3) := by decide +kernel
theorem dJ4_append_bf812_5 : decode cJ4_append_bf812 5 = .ok (.pop, 1) := by decide +kernel
theorem dJ4_append_bf812_6 : decode cJ4_append_bf812 6 = .ok (.aload_n 0, 1) := by decide +kernel
theorem dJ4_append_bf812_7 : decode cJ4_append_bf812 7 = .ok (.areturn, 1) := by decide +kernel
theorem dJ4_toString_0e30d_0 : decode cJ4_toString_0e30d 0 = .ok (.new 18, 3) := by decide +kernel
theorem dJ4_toString_0e30d_3 : decode cJ4_toString_0e30d 3 = .ok (.dup, 1) := by decide +kernel
theorem dJ4_toString_0e30d_4 : decode cJ4_toString_0e30d 4 = .ok (.aload_n 0, 1) := by decide +kernel
theorem dJ4_toString_0e30d_5 : decode cJ4_toString_0e30d 5 = .ok (.invokespecial 137, 3) := by decide +kernel
theorem dJ4_toString_0e30d_8 : decode cJ4_toString_0e30d 8 = .ok (.areturn, 1) := by decide +kernel
theorem dJ1_charAt_3b067_0 : decode cJ1_charAt_3b067 0 = .ok (.iload_n 1, 1) := by decide +kernel
theorem dJ1_charAt_3b067_1 : decode cJ1_charAt_3b067 1 = .ok (.aload_n 0, 1) := by decide +kernel
theorem dJ1_charAt_3b067_2 : decode cJ1_charAt_3b067 2 = .ok (.arraylength, 1) := by decide +kernel
theorem dJ1_charAt_3b067_3 : decode cJ1_charAt_3b067 3 = .ok (.invokestatic 9, 3) := by decide +kernel
theorem dJ1_charAt_3b067_6 : decode cJ1_charAt_3b067 6 = .ok (.aload_n 0, 1) := by decide +kernel
theorem dJ1_charAt_3b067_7 : decode cJ1_charAt_3b067 7 = .ok (.iload_n 1, 1) := by decide +kernel
theorem dJ1_charAt_3b067_8 : decode cJ1_charAt_3b067 8 = .ok (.baload, 1) := by decide +kernel
theorem dJ1_charAt_3b067_9 : decode cJ1_charAt_3b067 9 = .ok (.sipush 255, 3) := by decide +kernel
theorem dJ1_charAt_3b067_12 : decode cJ1_charAt_3b067 12 = .ok (.iand, 1) := by decide +kernel
theorem dJ1_charAt_3b067_13 : decode cJ1_charAt_3b067 13 = .ok (.i2c, 1) := by decide +kernel
theorem dJ1_charAt_3b067_14 : decode cJ1_charAt_3b067 14 = .ok (.ireturn, 1) := by decide +kernel
theorem dJ7_copyOf_9075b_0 : decode cJ7_copyOf_9075b 0 = .ok (.iload_n 1, 1) := by decide +kernel
theorem dJ7_copyOf_9075b_1 : decode cJ7_copyOf_9075b 1 = .ok (.aload_n 0, 1) := by decide +kernel
theorem dJ7_copyOf_9075b_2 : decode cJ7_copyOf_9075b 2 = .ok (.arraylength, 1) := by decide +kernel
theorem dJ7_copyOf_9075b_3 : decode cJ7_copyOf_9075b 3 = .ok (.if_icmp .ne 11, 3) := by decide +kernel
theorem dJ7_copyOf_9075b_6 : decode cJ7_copyOf_9075b 6 = .ok (.aload_n 0, 1) := by decide +kernel
theorem dJ7_copyOf_9075b_7 : decode cJ7_copyOf_9075b 7 = .ok (.invokevirtual 310, 3) := by decide +kernel
theorem dJ7_copyOf_9075b_10 : decode cJ7_copyOf_9075b 10 = .ok (.checkcast 311, 3) := by decide +kernel
theorem dJ7_copyOf_9075b_13 : decode cJ7_copyOf_9075b 13 = .ok (.areturn, 1) := by decide +kernel
theorem dJ7_copyOf_9075b_14 : decode cJ7_copyOf_9075b 14 = .ok (.iload_n 1, 1) := by decide +kernel
theorem dJ7_copyOf_9075b_15 : decode cJ7_copyOf_9075b 15 = .ok (.newarray .byte, 2) := by decide +kernel
theorem dJ7_copyOf_9075b_17 : decode cJ7_copyOf_9075b 17 = .ok (.astore_n 2, 1) := by decide +kernel
theorem dJ7_copyOf_9075b_18 : decode cJ7_copyOf_9075b 18 = .ok (.aload_n 0, 1) := by decide +kernel
theorem dJ7_copyOf_9075b_19 : decode cJ7_copyOf_9075b 19 = .ok (.iconst 0, 1) := by decide +kernel
theorem dJ7_copyOf_9075b_20 : decode cJ7_copyOf_9075b 20 = .ok (.aload_n 2, 1) := by decide +kernel
theorem dJ7_copyOf_9075b_21 : decode cJ7_copyOf_9075b 21 = .ok (.iconst 0, 1) := by decide +kernel
theorem dJ7_copyOf_9075b_22 : decode cJ7_copyOf_9075b 22 = .ok (.aload_n 0, 1) := by decide +kernel
theorem dJ7_copyOf_9075b_23 : decode cJ7_copyOf_9075b 23 = .ok (.arraylength, 1) := by decide +kernel
theorem dJ7_copyOf_9075b_24 : decode cJ7_copyOf_9075b 24 = .ok (.iload_n 1, 1) := by decide +kernel
theorem dJ7_copyOf_9075b_25 : decode cJ7_copyOf_9075b 25 = .ok (.invokestatic 304, 3) := by decide +kernel
theorem dJ7_copyOf_9075b_28 : decode cJ7_copyOf_9075b 28 = .ok (.invokestatic 150, 3) := by decide +kernel
theorem dJ7_copyOf_9075b_31 : decode cJ7_copyOf_9075b 31 = .ok (.aload_n 2, 1) := by decide +kernel
theorem dJ7_copyOf_9075b_32 : decode cJ7_copyOf_9075b 32 = .ok (.areturn, 1) := by decide +kernel
theorem dJ7_checkLength_df160_0 : decode cJ7_checkLength_df160 0 = .ok (.iload_n 1, 1) := by decide +kernel
theorem dJ7_checkLength_df160_1 : decode cJ7_checkLength_df160 1 = .ok (.iload_n 0, 1) := by decide +kernel
theorem dJ7_checkLength_df160_2 : decode cJ7_checkLength_df160 2 = .ok (.if_icmp .ge 35, 3) := by decide +kernel
theorem dJ7_checkLength_df160_5 : decode cJ7_checkLength_df160 5 = .ok (.new 43, 3) := by decide +kernel
theorem dJ7_checkLength_df160_8 : decode cJ7_checkLength_df160 8 = .ok (.dup, 1) := by decide +kernel
theorem dJ7_checkLength_df160_9 : decode cJ7_checkLength_df160 9 = .ok (.new 45, 3) := by decide +kernel
theorem dJ7_checkLength_df160_12 : decode cJ7_checkLength_df160 12 = .ok (.dup, 1) := by decide +kernel
theorem dJ7_checkLength_df160_13 : decode cJ7_checkLength_df160 13 = .ok (.invokespecial 47, 3) := by decide +kernel
theorem dJ7_checkLength_df160_16 : decode cJ7_checkLength_df160 16 = .ok (.iload_n 0, 1) := by decide +kernel
theorem dJ7_checkLength_df160_17 : decode cJ7_checkLength_df160 17 = .ok (.invokevirtual 54, 3) := by decide +kernel
theorem dJ7_checkLength_df160_20 : decode cJ7_checkLength_df160 20 = .ok (.ldc_w 337, 3) := by decide +kernel
theorem dJ7_checkLength_df160_23 : decode cJ7_checkLength_df160 23 = .ok (.invokevirtual 50, 3) := by decide +kernel
theorem dJ7_checkLength_df160_26 : decode cJ7_checkLength_df160 26 = .ok (.iload_n 1, 1) := by decide +kernel
theorem dJ7_checkLength_df160_27 : decode cJ7_checkLength_df160 27 = .ok (.invokevirtual 54, 3) := by decide +kernel
theorem dJ7_checkLength_df160_30 : decode cJ7_checkLength_df160 30 = .ok (.invokevirtual 61, 3) := by decide +kernel
theorem dJ7_checkLength_df160_33 : decode cJ7_checkLength_df160 33 = .ok (.invokespecial 65, 3) := by decide +kernel
theorem dJ7_checkLength_df160_36 : decode cJ7_checkLength_df160 36 = .ok (.athrow, 1) := by decide +kernel
theorem dJ7_checkLength_df160_37 : decode cJ7_checkLength_df160 37 = .ok (.return_, 1) := by decide +kernel
theorem dJ7_copyOfRange_39247_0 : decode cJ7_copyOfRange_39247 0 = .ok (.iload_n 1, 1) := by decide +kernel
theorem dJ7_copyOfRange_39247_1 : decode cJ7_copyOfRange_39247 1 = .ok (.ifCond .ne 9, 3) := by decide +kernel
theorem dJ7_copyOfRange_39247_4 : decode cJ7_copyOfRange_39247 4 = .ok (.iload_n 2, 1) := by decide +kernel
theorem dJ7_copyOfRange_39247_5 : decode cJ7_copyOfRange_39247 5 = .ok (.aload_n 0, 1) := by decide +kernel
theorem dJ7_copyOfRange_39247_6 : decode cJ7_copyOfRange_39247 6 = .ok (.arraylength, 1) := by decide +kernel
theorem dJ7_copyOfRange_39247_7 : decode cJ7_copyOfRange_39247 7 = .ok (.if_icmp .eq 10, 3) := by decide +kernel
theorem dJ7_copyOfRange_39247_10 : decode cJ7_copyOfRange_39247 10 = .ok (.aload_n 0, 1) := by decide +kernel
theorem dJ7_copyOfRange_39247_11 : decode cJ7_copyOfRange_39247 11 = .ok (.iload_n 1, 1) := by decide +kernel
theorem dJ7_copyOfRange_39247_12 : decode cJ7_copyOfRange_39247 12 = .ok (.iload_n 2, 1) := by decide +kernel
theorem dJ7_copyOfRange_39247_13 : decode cJ7_copyOfRange_39247 13 = .ok (.invokestatic 339, 3) := by decide +kernel
theorem dJ7_copyOfRange_39247_16 : decode cJ7_copyOfRange_39247 16 = .ok (.areturn, 1) := by decide +kernel
theorem dJ7_copyOfRange_39247_17 : decode cJ7_copyOfRange_39247 17 = .ok (.aload_n 0, 1) := by decide +kernel
theorem dJ7_copyOfRange_39247_18 : decode cJ7_copyOfRange_39247 18 = .ok (.invokevirtual 310, 3) := by decide +kernel
theorem dJ7_copyOfRange_39247_21 : decode cJ7_copyOfRange_39247 21 = .ok (.checkcast 311, 3) := by decide +kernel
theorem dJ7_copyOfRange_39247_24 : decode cJ7_copyOfRange_39247 24 = .ok (.areturn, 1) := by decide +kernel
theorem dJ7_copyOfRangeByte_39247_0 : decode cJ7_copyOfRangeByte_39247 0 = .ok (.iload_n 1, 1) := by decide +kernel
theorem dJ7_copyOfRangeByte_39247_1 : decode cJ7_copyOfRangeByte_39247 1 = .ok (.iload_n 2, 1) := by decide +kernel
theorem dJ7_copyOfRangeByte_39247_2 : decode cJ7_copyOfRangeByte_39247 2 = .ok (.invokestatic 343, 3) := by decide +kernel
theorem dJ7_copyOfRangeByte_39247_5 : decode cJ7_copyOfRangeByte_39247 5 = .ok (.iload_n 2, 1) := by decide +kernel
theorem dJ7_copyOfRangeByte_39247_6 : decode cJ7_copyOfRangeByte_39247 6 = .ok (.iload_n 1, 1) := by decide +kernel
theorem dJ7_copyOfRangeByte_39247_7 : decode cJ7_copyOfRangeByte_39247 7 = .ok (.isub, 1) := by decide +kernel
theorem dJ7_copyOfRangeByte_39247_8 : decode cJ7_copyOfRangeByte_39247 8 = .ok (.istore_n 3, 1) := by decide +kernel
theorem dJ7_copyOfRangeByte_39247_9 : decode cJ7_copyOfRangeByte_39247 9 = .ok (.iload_n 3, 1) := by decide +kernel
theorem dJ7_copyOfRangeByte_39247_10 : decode cJ7_copyOfRangeByte_39247 10 = .ok (.newarray .byte, 2) := by decide +kernel
theorem dJ7_copyOfRangeByte_39247_12 : decode cJ7_copyOfRangeByte_39247 12 = .ok (.astore 4, 2) := by decide +kernel
theorem dJ7_copyOfRangeByte_39247_14 : decode cJ7_copyOfRangeByte_39247 14 = .ok (.aload_n 0, 1) := by decide +kernel
theorem dJ7_copyOfRangeByte_39247_15 : decode cJ7_copyOfRangeByte_39247 15 = .ok (.iload_n 1, 1) := by decide +kernel
theorem dJ7_copyOfRangeByte_39247_16 : decode cJ7_copyOfRangeByte_39247 16 = .ok (.aload 4, 2) := by decide +kernel
theorem dJ7_copyOfRangeByte_39247_18 : decode cJ7_copyOfRangeByte_39247 18 = .ok (.iconst 0, 1) := by decide +kernel
theorem dJ7_copyOfRangeByte_39247_19 : decode cJ7_copyOfRangeByte_39247 19 = .ok (.aload_n 0, 1) := by decide +kernel
theorem dJ7_copyOfRangeByte_39247_20 : decode cJ7_copyOfRangeByte_39247 20 = .ok (.arraylength, 1) := by decide +kernel
theorem dJ7_copyOfRangeByte_39247_21 : decode cJ7_copyOfRangeByte_39247 21 = .ok (.iload_n 1, 1) := by decide +kernel
theorem dJ7_copyOfRangeByte_39247_22 : decode cJ7_copyOfRangeByte_39247 22 = .ok (.isub, 1) := by decide +kernel
theorem dJ7_copyOfRangeByte_39247_23 : decode cJ7_copyOfRangeByte_39247 23 = .ok (.iload_n 3, 1) := by decide +kernel
theorem dJ7_copyOfRangeByte_39247_24 : decode cJ7_copyOfRangeByte_39247 24 = .ok (.invokestatic 304, 3) := by decide +kernel
theorem dJ7_copyOfRangeByte_39247_27 : decode cJ7_copyOfRangeByte_39247 27 = .ok (.invokestatic 150, 3) := by decide +kernel
theorem dJ7_copyOfRangeByte_39247_30 : decode cJ7_copyOfRangeByte_39247 30 = .ok (.aload 4, 2) := by decide +kernel
theorem dJ7_copyOfRangeByte_39247_32 : decode cJ7_copyOfRangeByte_39247 32 = .ok (.areturn, 1) := by decide +kernel
theorem dJ8_newLength_cabcc_0 : decode cJ8_newLength_cabcc 0 = .ok (.iload_n 0, 1) := by decide +kernel
theorem dJ8_newLength_cabcc_1 : decode cJ8_newLength_cabcc 1 = .ok (.iload_n 1, 1) := by decide +kernel
theorem dJ8_newLength_cabcc_2 : decode cJ8_newLength_cabcc 2 = .ok (.iload_n 2, 1) := by decide +kernel
theorem dJ8_newLength_cabcc_3 : decode cJ8_newLength_cabcc 3 = .ok (.invokestatic 194, 3) := by decide +kernel
theorem dJ8_newLength_cabcc_6 : decode cJ8_newLength_cabcc 6 = .ok (.iadd, 1) := by decide +kernel
theorem dJ8_newLength_cabcc_7 : decode cJ8_newLength_cabcc 7 = .ok (.istore_n 3, 1) := by decide +kernel
theorem dJ8_newLength_cabcc_8 : decode cJ8_newLength_cabcc 8 = .ok (.iconst 0, 1) := by decide +kernel
theorem dJ8_newLength_cabcc_9 : decode cJ8_newLength_cabcc 9 = .ok (.iload_n 3, 1) := by decide +kernel
theorem dJ8_newLength_cabcc_10 : decode cJ8_newLength_cabcc 10 = .ok (.if_icmp .ge 11, 3) := by decide +kernel
theorem dJ8_newLength_cabcc_13 : decode cJ8_newLength_cabcc 13 = .ok (.iload_n 3, 1) := by decide +kernel
theorem dJ8_newLength_cabcc_14 : decode cJ8_newLength_cabcc 14 = .ok (.ldc 200, 2) := by decide +kernel
theorem dJ8_newLength_cabcc_16 : decode cJ8_newLength_cabcc 16 = .ok (.if_icmp .gt 5, 3) := by decide +kernel
theorem dJ8_newLength_cabcc_19 : decode cJ8_newLength_cabcc 19 = .ok (.iload_n 3, 1) := by decide +kernel
theorem dJ8_newLength_cabcc_20 : decode cJ8_newLength_cabcc 20 = .ok (.ireturn, 1) := by decide +kernel
theorem dJ8_newLength_cabcc_21 : decode cJ8_newLength_cabcc 21 = .ok (.iload_n 0, 1) := by decide +kernel
theorem dJ8_newLength_cabcc_22 : decode cJ8_newLength_cabcc 22 = .ok (.iload_n 1, 1) := by decide +kernel
theorem dJ8_newLength_cabcc_23 : decode cJ8_newLength_cabcc 23 = .ok (.invokestatic 201, 3) := by decide +kernel
theorem dJ8_newLength_cabcc_26 : decode cJ8_newLength_cabcc 26 = .ok (.ireturn, 1) := by decide +kernel
theorem dJ3_checkIndex_8e157_0 : decode cJ3_checkIndex_8e157 0 = .ok (.iload_n 0, 1) := by decide +kernel
theorem dJ3_checkIndex_8e157_1 : decode cJ3_checkIndex_8e157 1 = .ok (.ifCond .lt 8, 3) := by decide +kernel
theorem dJ3_checkIndex_8e157_4 : decode cJ3_checkIndex_8e157 4 = .ok (.iload_n 0, 1) := by decide +kernel
theorem dJ3_checkIndex_8e157_5 : decode cJ3_checkIndex_8e157 5 = .ok (.iload_n 1, 1) := by decide +kernel
theorem dJ3_checkIndex_8e157_6 : decode cJ3_checkIndex_8e157 6 = .ok (.if_icmp .lt 10, 3) := by decide +kernel
theorem dJ3_checkIndex_8e157_9 : decode cJ3_checkIndex_8e157 9 = .ok (.aload_n 2, 1) := by decide +kernel
theorem dJ3_checkIndex_8e157_10 : decode cJ3_checkIndex_8e157 10 = .ok (.iload_n 0, 1) := by decide +kernel
theorem dJ3_checkIndex_8e157_11 : decode cJ3_checkIndex_8e157 11 = .ok (.iload_n 1, 1) := by decide +kernel
theorem dJ3_checkIndex_8e157_12 : decode cJ3_checkIndex_8e157 12 = .ok (.invokestatic 95, 3) := by decide +kernel
theorem dJ3_checkIndex_8e157_15 : decode cJ3_checkIndex_8e157 15 = .ok (.athrow, 1) := by decide +kernel
theorem dJ3_checkIndex_8e157_16 : decode cJ3_checkIndex_8e157 16 = .ok (.iload_n 0, 1) := by decide +kernel
theorem dJ3_checkIndex_8e157_17 : decode cJ3_checkIndex_8e157 17 = .ok (.ireturn, 1) := by decide +kernel
end
section
theorem dL_at_0 : decode cL_at 0 = .ok (.iload_n 1, 1) := by decide +kernel
theorem dL_at_1 : decode cL_at 1 = .ok (.aload_n 0, 1) := by decide +kernel
theorem dL_at_2 : decode cL_at 2 = .ok (.arraylength, 1) := by decide +kernel
theorem dL_at_3 : decode cL_at 3 = .ok (.if_icmp .ge 9, 3) := by decide +kernel
theorem dL_at_6 : decode cL_at 6 = .ok (.aload_n 0, 1) := by decide +kernel
theorem dL_at_7 : decode cL_at 7 = .ok (.iload_n 1, 1) := by decide +kernel
theorem dL_at_8 : decode cL_at 8 = .ok (.iaload, 1) := by decide +kernel
theorem dL_at_9 : decode cL_at 9 = .ok (.goto 4, 3) := by decide +kernel
theorem dL_at_12 : decode cL_at 12 = .ok (.iconst 0, 1) := by decide +kernel
theorem dL_at_13 : decode cL_at 13 = .ok (.ireturn, 1) := by decide +kernel
theorem dL_text_0 : decode cL_text 0 = .ok (.iconst 0, 1) := by decide +kernel
theorem dL_text_1 : decode cL_text 1 = .ok (.istore_n 2, 1) := by decide +kernel
theorem dL_text_2 : decode cL_text 2 = .ok (.iload_n 2, 1) := by decide +kernel
theorem dL_text_3 : decode cL_text 3 = .ok (.aload_n 1, 1) := by decide +kernel
theorem dL_text_4 : decode cL_text 4 = .ok (.invokevirtual 7, 3) := by decide +kernel
theorem dL_text_7 : decode cL_text 7 = .ok (.if_icmp .ge 24, 3) := by decide +kernel
theorem dL_text_10 : decode cL_text 10 = .ok (.aload_n 0, 1) := by decide +kernel
theorem dL_text_11 : decode cL_text 11 = .ok (.iconst 1, 1) := by decide +kernel
theorem dL_text_12 : decode cL_text 12 = .ok (.aload_n 1, 1) := by decide +kernel
theorem dL_text_13 : decode cL_text 13 = .ok (.iload_n 2, 1) := by decide +kernel
theorem dL_text_14 : decode cL_text 14 = .ok (.invokevirtual 13, 3) := by decide +kernel
theorem dL_text_17 : decode cL_text 17 = .ok (.iconst 0, 1) := by decide +kernel
theorem dL_text_18 : decode cL_text 18 = .ok (.iconst 0, 1) := by decide +kernel
theorem dL_text_19 : decode cL_text 19 = .ok (.iconst 0, 1) := by decide +kernel
theorem dL_text_20 : decode cL_text 20 = .ok (.iconst 0, 1) := by decide +kernel
theorem dL_text_21 : decode cL_text 21 = .ok (.invokevirtual 17, 3) := by decide +kernel
theorem dL_text_24 : decode cL_text 24 = .ok (.pop, 1) := by decide +kernel
theorem dL_text_25 : decode cL_text 25 = .ok (.iinc 2 1, 3) := by decide +kernel
theorem dL_text_28 : decode cL_text 28 = .ok (.goto (-26), 3) := by decide +kernel
theorem dL_text_31 : decode cL_text 31 = .ok (.return_, 1) := by decide +kernel
theorem dL_build_0 : decode cL_build 0 = .ok (.new 18, 3) := by decide +kernel
theorem dL_build_3 : decode cL_build 3 = .ok (.dup, 1) := by decide +kernel
theorem dL_build_4 : decode cL_build 4 = .ok (.invokespecial 23, 3) := by decide +kernel
theorem dL_build_7 : decode cL_build 7 = .ok (.astore_n 1, 1) := by decide +kernel
theorem dL_build_8 : decode cL_build 8 = .ok (.iconst 0, 1) := by decide +kernel
theorem dL_build_9 : decode cL_build 9 = .ok (.istore_n 2, 1) := by decide +kernel
theorem dL_build_10 : decode cL_build 10 = .ok (.iload_n 2, 1) := by decide +kernel
theorem dL_build_11 : decode cL_build 11 = .ok (.bipush 48, 2) := by decide +kernel
theorem dL_build_13 : decode cL_build 13 = .ok (.if_icmp .ge 40, 3) := by decide +kernel
theorem dL_build_16 : decode cL_build 16 = .ok (.aload_n 1, 1) := by decide +kernel
theorem dL_build_17 : decode cL_build 17 = .ok (.iload_n 2, 1) := by decide +kernel
theorem dL_build_18 : decode cL_build 18 = .ok (.aload_n 0, 1) := by decide +kernel
theorem dL_build_19 : decode cL_build 19 = .ok (.iload_n 2, 1) := by decide +kernel
theorem dL_build_20 : decode cL_build 20 = .ok (.invokestatic 24, 3) := by decide +kernel
theorem dL_build_23 : decode cL_build 23 = .ok (.aload_n 0, 1) := by decide +kernel
theorem dL_build_24 : decode cL_build 24 = .ok (.iload_n 2, 1) := by decide +kernel
theorem dL_build_25 : decode cL_build 25 = .ok (.invokestatic 30, 3) := by decide +kernel
theorem dL_build_28 : decode cL_build 28 = .ok (.invokevirtual 33, 3) := by decide +kernel
theorem dL_build_31 : decode cL_build 31 = .ok (.pop, 1) := by decide +kernel
theorem dL_build_32 : decode cL_build 32 = .ok (.aload_n 0, 1) := by decide +kernel
theorem dL_build_33 : decode cL_build 33 = .ok (.iload_n 2, 1) := by decide +kernel
theorem dL_build_34 : decode cL_build 34 = .ok (.invokestatic 37, 3) := by decide +kernel
theorem dL_build_37 : decode cL_build 37 = .ok (.ifCond .eq 10, 3) := by decide +kernel
theorem dL_build_40 : decode cL_build 40 = .ok (.aload_n 1, 1) := by decide +kernel
theorem dL_build_41 : decode cL_build 41 = .ok (.iload_n 2, 1) := by decide +kernel
theorem dL_build_42 : decode cL_build 42 = .ok (.iconst 1, 1) := by decide +kernel
theorem dL_build_43 : decode cL_build 43 = .ok (.invokevirtual 41, 3) := by decide +kernel
theorem dL_build_46 : decode cL_build 46 = .ok (.pop, 1) := by decide +kernel
theorem dL_build_47 : decode cL_build 47 = .ok (.iinc 2 1, 3) := by decide +kernel
theorem dL_build_50 : decode cL_build 50 = .ok (.goto (-40), 3) := by decide +kernel
theorem dL_build_53 : decode cL_build 53 = .ok (.aload_n 0, 1) := by decide +kernel
theorem dL_build_54 : decode cL_build 54 = .ok (.invokestatic 45, 3) := by decide +kernel
theorem dL_build_57 : decode cL_build 57 = .ok (.ifCond .ne 64, 3) := by decide +kernel
theorem dL_build_60 : decode cL_build 60 = .ok (.aload_n 1, 1) := by decide +kernel
theorem dL_build_61 : decode cL_build 61 = .ok (.new 49, 3) := by decide +kernel
theorem dL_build_64 : decode cL_build 64 = .ok (.dup, 1) := by decide +kernel
theorem dL_build_65 : decode cL_build 65 = .ok (.invokespecial 51, 3) := by decide +kernel
theorem dL_build_68 : decode cL_build 68 = .ok (.ldc 52, 2) := by decide +kernel
theorem dL_build_70 : decode cL_build 70 = .ok (.invokevirtual 54, 3) := by decide +kernel
theorem dL_build_73 : decode cL_build 73 = .ok (.aload_n 0, 1) := by decide +kernel
theorem dL_build_74 : decode cL_build 74 = .ok (.iconst 0, 1) := by decide +kernel
theorem dL_build_75 : decode cL_build 75 = .ok (.invokestatic 58, 3) := by decide +kernel
theorem dL_build_78 : decode cL_build 78 = .ok (.iconst 1, 1) := by decide +kernel
theorem dL_build_79 : decode cL_build 79 = .ok (.iand, 1) := by decide +kernel
theorem dL_build_80 : decode cL_build 80 = .ok (.invokevirtual 61, 3) := by decide +kernel
theorem dL_build_83 : decode cL_build 83 = .ok (.ldc 64, 2) := by decide +kernel
theorem dL_build_85 : decode cL_build 85 = .ok (.invokevirtual 54, 3) := by decide +kernel
theorem dL_build_88 : decode cL_build 88 = .ok (.aload_n 0, 1) := by decide +kernel
theorem dL_build_89 : decode cL_build 89 = .ok (.iconst 0, 1) := by decide +kernel
theorem dL_build_90 : decode cL_build 90 = .ok (.invokestatic 58, 3) := by decide +kernel
theorem dL_build_93 : decode cL_build 93 = .ok (.iconst 3, 1) := by decide +kernel
theorem dL_build_94 : decode cL_build 94 = .ok (.ishr, 1) := by decide +kernel
theorem dL_build_95 : decode cL_build 95 = .ok (.bipush 7, 2) := by decide +kernel
theorem dL_build_97 : decode cL_build 97 = .ok (.iand, 1) := by decide +kernel
theorem dL_build_98 : decode cL_build 98 = .ok (.invokevirtual 61, 3) := by decide +kernel
theorem dL_build_101 : decode cL_build 101 = .ok (.ldc 66, 2) := by decide +kernel
theorem dL_build_103 : decode cL_build 103 = .ok (.invokevirtual 54, 3) := by decide +kernel
theorem dL_build_106 : decode cL_build 106 = .ok (.invokevirtual 68, 3) := by decide +kernel
theorem dL_build_109 : decode cL_build 109 = .ok (.invokestatic 72, 3) := by decide +kernel
theorem dL_build_112 : decode cL_build 112 = .ok (.aload_n 1, 1) := by decide +kernel
theorem dL_build_113 : decode cL_build 113 = .ok (.aload_n 1, 1) := by decide +kernel
theorem dL_build_114 : decode cL_build 114 = .ok (.invokevirtual 76, 3) := by decide +kernel
theorem dL_build_117 : decode cL_build 117 = .ok (.invokevirtual 78, 3) := by decide +kernel
theorem dL_build_120 : decode cL_build 120 = .ok (.pop, 1) := by decide +kernel
theorem dL_build_121 : decode cL_build 121 = .ok (.aload_n 1, 1) := by decide +kernel
theorem dL_build_122 : decode cL_build 122 = .ok (.areturn, 1) := by decide +kernel
theorem dL_plain_0 : decode cL_plain 0 = .ok (.aload_n 0, 1) := by decide +kernel
theorem dL_plain_1 : decode cL_plain 1 = .ok (.iconst 0, 1) := by decide +kernel
theorem dL_plain_2 : decode cL_plain 2 = .ok (.invokestatic 58, 3) := by decide +kernel
theorem dL_plain_5 : decode cL_plain 5 = .ok (.iconst 1, 1) := by decide +kernel
theorem dL_plain_6 : decode cL_plain 6 = .ok (.ishr, 1) := by decide +kernel
theorem dL_plain_7 : decode cL_plain 7 = .ok (.iconst 3, 1) := by decide +kernel
theorem dL_plain_8 : decode cL_plain 8 = .ok (.iand, 1) := by decide +kernel
theorem dL_plain_9 : decode cL_plain 9 = .ok (.iconst 3, 1) := by decide +kernel
theorem dL_plain_10 : decode cL_plain 10 = .ok (.if_icmp .eq 7, 3) := by decide +kernel
theorem dL_plain_13 : decode cL_plain 13 = .ok (.iconst 1, 1) := by decide +kernel
theorem dL_plain_14 : decode cL_plain 14 = .ok (.goto 4, 3) := by decide +kernel
theorem dL_plain_17 : decode cL_plain 17 = .ok (.iconst 0, 1) := by decide +kernel
theorem dL_plain_18 : decode cL_plain 18 = .ok (.ireturn, 1) := by decide +kernel
theorem dL_kind_0 : decode cL_kind 0 = .ok (.aload_n 0, 1) := by decide +kernel
theorem dL_kind_1 : decode cL_kind 1 = .ok (.iconst 1, 1) := by decide +kernel
theorem dL_kind_2 : decode cL_kind 2 = .ok (.iload_n 1, 1) := by decide +kernel
theorem dL_kind_3 : decode cL_kind 3 = .ok (.bipush 12, 2) := by decide +kernel
theorem dL_kind_5 : decode cL_kind 5 = .ok (.idiv, 1) := by decide +kernel
theorem dL_kind_6 : decode cL_kind 6 = .ok (.iadd, 1) := by decide +kernel
theorem dL_kind_7 : decode cL_kind 7 = .ok (.invokestatic 58, 3) := by decide +kernel
theorem dL_kind_10 : decode cL_kind 10 = .ok (.iconst 2, 1) := by decide +kernel
theorem dL_kind_11 : decode cL_kind 11 = .ok (.iload_n 1, 1) := by decide +kernel
theorem dL_kind_12 : decode cL_kind 12 = .ok (.bipush 12, 2) := by decide +kernel
theorem dL_kind_14 : decode cL_kind 14 = .ok (.irem, 1) := by decide +kernel
theorem dL_kind_15 : decode cL_kind 15 = .ok (.imul, 1) := by decide +kernel
theorem dL_kind_16 : decode cL_kind 16 = .ok (.ishr, 1) := by decide +kernel
theorem dL_kind_17 : decode cL_kind 17 = .ok (.iconst 3, 1) := by decide +kernel
theorem dL_kind_18 : decode cL_kind 18 = .ok (.iand, 1) := by decide +kernel
theorem dL_kind_19 : decode cL_kind 19 = .ok (.istore_n 2, 1) := by decide +kernel
theorem dL_kind_20 : decode cL_kind 20 = .ok (.iload_n 2, 1) := by decide +kernel
theorem dL_kind_21 : decode cL_kind 21 = .ok (.ifCond .ne 7, 3) := by decide +kernel
theorem dL_kind_24 : decode cL_kind 24 = .ok (.iconst 1, 1) := by decide +kernel
theorem dL_kind_25 : decode cL_kind 25 = .ok (.goto 31, 3) := by decide +kernel
theorem dL_kind_28 : decode cL_kind 28 = .ok (.iload_n 2, 1) := by decide +kernel
theorem dL_kind_29 : decode cL_kind 29 = .ok (.iconst 3, 1) := by decide +kernel
theorem dL_kind_30 : decode cL_kind 30 = .ok (.if_icmp .ne 25, 3) := by decide +kernel
theorem dL_kind_33 : decode cL_kind 33 = .ok (.aload_n 0, 1) := by decide +kernel
theorem dL_kind_34 : decode cL_kind 34 = .ok (.iconst 5, 1) := by decide +kernel
theorem dL_kind_35 : decode cL_kind 35 = .ok (.iload_n 1, 1) := by decide +kernel
theorem dL_kind_36 : decode cL_kind 36 = .ok (.iconst 4, 1) := by decide +kernel
theorem dL_kind_37 : decode cL_kind 37 = .ok (.irem, 1) := by decide +kernel
theorem dL_kind_38 : decode cL_kind 38 = .ok (.iadd, 1) := by decide +kernel
theorem dL_kind_39 : decode cL_kind 39 = .ok (.invokestatic 58, 3) := by decide +kernel
theorem dL_kind_42 : decode cL_kind 42 = .ok (.iload_n 1, 1) := by decide +kernel
theorem dL_kind_43 : decode cL_kind 43 = .ok (.iconst 4, 1) := by decide +kernel
theorem dL_kind_44 : decode cL_kind 44 = .ok (.idiv, 1) := by decide +kernel
theorem dL_kind_45 : decode cL_kind 45 = .ok (.ishr, 1) := by decide +kernel
theorem dL_kind_46 : decode cL_kind 46 = .ok (.bipush 7, 2) := by decide +kernel
theorem dL_kind_48 : decode cL_kind 48 = .ok (.iand, 1) := by decide +kernel
theorem dL_kind_49 : decode cL_kind 49 = .ok (.bipush 6, 2) := by decide +kernel
theorem dL_kind_51 : decode cL_kind 51 = .ok (.irem, 1) := by decide +kernel
theorem dL_kind_52 : decode cL_kind 52 = .ok (.goto 4, 3) := by decide +kernel
theorem dL_kind_55 : decode cL_kind 55 = .ok (.iconst 0, 1) := by decide +kernel
theorem dL_kind_56 : decode cL_kind 56 = .ok (.ireturn, 1) := by decide +kernel
theorem dL_more_0 : decode cL_more 0 = .ok (.aload_n 0, 1) := by decide +kernel
theorem dL_more_1 : decode cL_more 1 = .ok (.iconst 5, 1) := by decide +kernel
theorem dL_more_2 : decode cL_more 2 = .ok (.iload_n 1, 1) := by decide +kernel
theorem dL_more_3 : decode cL_more 3 = .ok (.iconst 1, 1) := by decide +kernel
theorem dL_more_4 : decode cL_more 4 = .ok (.iadd, 1) := by decide +kernel
theorem dL_more_5 : decode cL_more 5 = .ok (.iconst 4, 1) := by decide +kernel
theorem dL_more_6 : decode cL_more 6 = .ok (.irem, 1) := by decide +kernel
theorem dL_more_7 : decode cL_more 7 = .ok (.iadd, 1) := by decide +kernel
theorem dL_more_8 : decode cL_more 8 = .ok (.invokestatic 58, 3) := by decide +kernel
theorem dL_more_11 : decode cL_more 11 = .ok (.iload_n 1, 1) := by decide +kernel
theorem dL_more_12 : decode cL_more 12 = .ok (.iconst 3, 1) := by decide +kernel
theorem dL_more_13 : decode cL_more 13 = .ok (.idiv, 1) := by decide +kernel
theorem dL_more_14 : decode cL_more 14 = .ok (.ishr, 1) := by decide +kernel
theorem dL_more_15 : decode cL_more 15 = .ok (.bipush 15, 2) := by decide +kernel
theorem dL_more_17 : decode cL_more 17 = .ok (.iand, 1) := by decide +kernel
theorem dL_more_18 : decode cL_more 18 = .ok (.bipush 10, 2) := by decide +kernel
theorem dL_more_20 : decode cL_more 20 = .ok (.irem, 1) := by decide +kernel
theorem dL_more_21 : decode cL_more 21 = .ok (.ireturn, 1) := by decide +kernel
theorem dL_pinned_0 : decode cL_pinned 0 = .ok (.aload_n 0, 1) := by decide +kernel
theorem dL_pinned_1 : decode cL_pinned 1 = .ok (.iconst 0, 1) := by decide +kernel
theorem dL_pinned_2 : decode cL_pinned 2 = .ok (.invokestatic 58, 3) := by decide +kernel
theorem dL_pinned_5 : decode cL_pinned 5 = .ok (.bipush 6, 2) := by decide +kernel
theorem dL_pinned_7 : decode cL_pinned 7 = .ok (.ishr, 1) := by decide +kernel
theorem dL_pinned_8 : decode cL_pinned 8 = .ok (.bipush 63, 2) := by decide +kernel
theorem dL_pinned_10 : decode cL_pinned 10 = .ok (.iand, 1) := by decide +kernel
theorem dL_pinned_11 : decode cL_pinned 11 = .ok (.iload_n 1, 1) := by decide +kernel
theorem dL_pinned_12 : decode cL_pinned 12 = .ok (.if_icmp .eq 18, 3) := by decide +kernel
theorem dL_pinned_15 : decode cL_pinned 15 = .ok (.aload_n 0, 1) := by decide +kernel
theorem dL_pinned_16 : decode cL_pinned 16 = .ok (.iconst 0, 1) := by decide +kernel
theorem dL_pinned_17 : decode cL_pinned 17 = .ok (.invokestatic 58, 3) := by decide +kernel
theorem dL_pinned_20 : decode cL_pinned 20 = .ok (.bipush 12, 2) := by decide +kernel
theorem dL_pinned_22 : decode cL_pinned 22 = .ok (.ishr, 1) := by decide +kernel
theorem dL_pinned_23 : decode cL_pinned 23 = .ok (.bipush 63, 2) := by decide +kernel
theorem dL_pinned_25 : decode cL_pinned 25 = .ok (.iand, 1) := by decide +kernel
theorem dL_pinned_26 : decode cL_pinned 26 = .ok (.iload_n 1, 1) := by decide +kernel
theorem dL_pinned_27 : decode cL_pinned 27 = .ok (.if_icmp .ne 7, 3) := by decide +kernel
theorem dL_pinned_30 : decode cL_pinned 30 = .ok (.iconst 1, 1) := by decide +kernel
theorem dL_pinned_31 : decode cL_pinned 31 = .ok (.goto 4, 3) := by decide +kernel
theorem dL_pinned_34 : decode cL_pinned 34 = .ok (.iconst 0, 1) := by decide +kernel
theorem dL_pinned_35 : decode cL_pinned 35 = .ok (.ireturn, 1) := by decide +kernel
theorem dL_face_0 : decode cL_face 0 = .ok (.aload_n 0, 1) := by decide +kernel
theorem dL_face_1 : decode cL_face 1 = .ok (.iload_n 1, 1) := by decide +kernel
theorem dL_face_2 : decode cL_face 2 = .ok (.invokestatic 24, 3) := by decide +kernel
theorem dL_face_5 : decode cL_face 5 = .ok (.iconst 1, 1) := by decide +kernel
theorem dL_face_6 : decode cL_face 6 = .ok (.if_icmp .ne 7, 3) := by decide +kernel
theorem dL_face_9 : decode cL_face 9 = .ok (.iconst 1, 1) := by decide +kernel
theorem dL_face_10 : decode cL_face 10 = .ok (.goto 4, 3) := by decide +kernel
theorem dL_face_13 : decode cL_face 13 = .ok (.iconst 0, 1) := by decide +kernel
theorem dL_face_14 : decode cL_face 14 = .ok (.ireturn, 1) := by decide +kernel
theorem dL_keeps_0 : decode cL_keeps 0 = .ok (.aload_n 0, 1) := by decide +kernel
theorem dL_keeps_1 : decode cL_keeps 1 = .ok (.iload_n 1, 1) := by decide +kernel
theorem dL_keeps_2 : decode cL_keeps 2 = .ok (.invokestatic 24, 3) := by decide +kernel
theorem dL_keeps_5 : decode cL_keeps 5 = .ok (.iconst 5, 1) := by decide +kernel
theorem dL_keeps_6 : decode cL_keeps 6 = .ok (.if_icmp .eq 11, 3) := by decide +kernel
theorem dL_keeps_9 : decode cL_keeps 9 = .ok (.aload_n 0, 1) := by decide +kernel
theorem dL_keeps_10 : decode cL_keeps 10 = .ok (.iload_n 1, 1) := by decide +kernel
theorem dL_keeps_11 : decode cL_keeps 11 = .ok (.invokestatic 37, 3) := by decide +kernel
theorem dL_keeps_14 : decode cL_keeps 14 = .ok (.ifCond .eq 7, 3) := by decide +kernel
theorem dL_keeps_17 : decode cL_keeps 17 = .ok (.iconst 1, 1) := by decide +kernel
theorem dL_keeps_18 : decode cL_keeps 18 = .ok (.goto 4, 3) := by decide +kernel
theorem dL_keeps_21 : decode cL_keeps 21 = .ok (.iconst 0, 1) := by decide +kernel
theorem dL_keeps_22 : decode cL_keeps 22 = .ok (.ireturn, 1) := by decide +kernel
theorem dL_through_0 : decode cL_through 0 = .ok (.iconst 1, 1) := by decide +kernel
theorem dL_through_1 : decode cL_through 1 = .ok (.iload_n 1, 1) := by decide +kernel
theorem dL_through_2 : decode cL_through 2 = .ok (.bipush 6, 2) := by decide +kernel
theorem dL_through_4 : decode cL_through 4 = .ok (.irem, 1) := by decide +kernel
theorem dL_through_5 : decode cL_through 5 = .ok (.ishl, 1) := by decide +kernel
theorem dL_through_6 : decode cL_through 6 = .ok (.istore_n 2, 1) := by decide +kernel
theorem dL_through_7 : decode cL_through 7 = .ok (.iload_n 1, 1) := by decide +kernel
theorem dL_through_8 : decode cL_through 8 = .ok (.iconst 2, 1) := by decide +kernel
theorem dL_through_9 : decode cL_through 9 = .ok (.irem, 1) := by decide +kernel
theorem dL_through_10 : decode cL_through 10 = .ok (.ifCond .ne 9, 3) := by decide +kernel
theorem dL_through_13 : decode cL_through 13 = .ok (.iload_n 2, 1) := by decide +kernel
theorem dL_through_14 : decode cL_through 14 = .ok (.iconst 1, 1) := by decide +kernel
theorem dL_through_15 : decode cL_through 15 = .ok (.ishl, 1) := by decide +kernel
theorem dL_through_16 : decode cL_through 16 = .ok (.goto 6, 3) := by decide +kernel
theorem dL_through_19 : decode cL_through 19 = .ok (.iload_n 2, 1) := by decide +kernel
theorem dL_through_20 : decode cL_through 20 = .ok (.iconst 1, 1) := by decide +kernel
theorem dL_through_21 : decode cL_through 21 = .ok (.ishr, 1) := by decide +kernel
theorem dL_through_22 : decode cL_through 22 = .ok (.istore_n 3, 1) := by decide +kernel
theorem dL_through_23 : decode cL_through 23 = .ok (.aload_n 0, 1) := by decide +kernel
theorem dL_through_24 : decode cL_through 24 = .ok (.iload_n 1, 1) := by decide +kernel
theorem dL_through_25 : decode cL_through 25 = .ok (.invokestatic 24, 3) := by decide +kernel
theorem dL_through_28 : decode cL_through 28 = .ok (.tableswitch 36 2 4 #[28, 30, 34], 28) := by decide +kernel
theorem dL_through_56 : decode cL_through 56 = .ok (.iload_n 3, 1) := by decide +kernel
theorem dL_through_57 : decode cL_through 57 = .ok (.ireturn, 1) := by decide +kernel
theorem dL_through_58 : decode cL_through 58 = .ok (.iload_n 2, 1) := by decide +kernel
theorem dL_through_59 : decode cL_through 59 = .ok (.iload_n 3, 1) := by decide +kernel
theorem dL_through_60 : decode cL_through 60 = .ok (.ior, 1) := by decide +kernel
theorem dL_through_61 : decode cL_through 61 = .ok (.ireturn, 1) := by decide +kernel
theorem dL_through_62 : decode cL_through 62 = .ok (.iconst 0, 1) := by decide +kernel
theorem dL_through_63 : decode cL_through 63 = .ok (.ireturn, 1) := by decide +kernel
theorem dL_through_64 : decode cL_through 64 = .ok (.iload_n 2, 1) := by decide +kernel
theorem dL_through_65 : decode cL_through 65 = .ok (.ireturn, 1) := by decide +kernel
theorem dL_held_0 : decode cL_held 0 = .ok (.iconst 0, 1) := by decide +kernel
theorem dL_held_1 : decode cL_held 1 = .ok (.iload_n 1, 1) := by decide +kernel
theorem dL_held_2 : decode cL_held 2 = .ok (.iload_n 0, 1) := by decide +kernel
theorem dL_held_3 : decode cL_held 3 = .ok (.invokestatic 82, 3) := by decide +kernel
theorem dL_held_6 : decode cL_held 6 = .ok (.invokestatic 87, 3) := by decide +kernel
theorem dL_held_9 : decode cL_held 9 = .ok (.ireturn, 1) := by decide +kernel
theorem dL_asks_0 : decode cL_asks 0 = .ok (.aload_n 0, 1) := by decide +kernel
theorem dL_asks_1 : decode cL_asks 1 = .ok (.invokestatic 45, 3) := by decide +kernel
theorem dL_asks_4 : decode cL_asks 4 = .ok (.ifCond .eq 51, 3) := by decide +kernel
theorem dL_asks_7 : decode cL_asks 7 = .ok (.iload_n 1, 1) := by decide +kernel
theorem dL_asks_8 : decode cL_asks 8 = .ok (.ifCond .ne 22, 3) := by decide +kernel
theorem dL_asks_11 : decode cL_asks 11 = .ok (.bipush 10, 2) := by decide +kernel
theorem dL_asks_13 : decode cL_asks 13 = .ok (.aload_n 0, 1) := by decide +kernel
theorem dL_asks_14 : decode cL_asks 14 = .ok (.iload_n 2, 1) := by decide +kernel
theorem dL_asks_15 : decode cL_asks 15 = .ok (.invokestatic 30, 3) := by decide +kernel
theorem dL_asks_18 : decode cL_asks 18 = .ok (.iadd, 1) := by decide +kernel
theorem dL_asks_19 : decode cL_asks 19 = .ok (.aload_n 0, 1) := by decide +kernel
theorem dL_asks_20 : decode cL_asks 20 = .ok (.iload_n 2, 1) := by decide +kernel
theorem dL_asks_21 : decode cL_asks 21 = .ok (.invokestatic 90, 3) := by decide +kernel
theorem dL_asks_24 : decode cL_asks 24 = .ok (.iconst 3, 1) := by decide +kernel
theorem dL_asks_25 : decode cL_asks 25 = .ok (.imul, 1) := by decide +kernel
theorem dL_asks_26 : decode cL_asks 26 = .ok (.isub, 1) := by decide +kernel
theorem dL_asks_27 : decode cL_asks 27 = .ok (.goto 93, 3) := by decide +kernel
theorem dL_asks_30 : decode cL_asks 30 = .ok (.iload_n 1, 1) := by decide +kernel
theorem dL_asks_31 : decode cL_asks 31 = .ok (.iconst 1, 1) := by decide +kernel
theorem dL_asks_32 : decode cL_asks 32 = .ok (.if_icmp .ne 13, 3) := by decide +kernel
theorem dL_asks_35 : decode cL_asks 35 = .ok (.iconst 2, 1) := by decide +kernel
theorem dL_asks_36 : decode cL_asks 36 = .ok (.aload_n 0, 1) := by decide +kernel
theorem dL_asks_37 : decode cL_asks 37 = .ok (.iload_n 2, 1) := by decide +kernel
theorem dL_asks_38 : decode cL_asks 38 = .ok (.invokestatic 30, 3) := by decide +kernel
theorem dL_asks_41 : decode cL_asks 41 = .ok (.iadd, 1) := by decide +kernel
theorem dL_asks_42 : decode cL_asks 42 = .ok (.goto 78, 3) := by decide +kernel
theorem dL_asks_45 : decode cL_asks 45 = .ok (.iconst 1, 1) := by decide +kernel
theorem dL_asks_46 : decode cL_asks 46 = .ok (.aload_n 0, 1) := by decide +kernel
theorem dL_asks_47 : decode cL_asks 47 = .ok (.iload_n 2, 1) := by decide +kernel
theorem dL_asks_48 : decode cL_asks 48 = .ok (.invokestatic 90, 3) := by decide +kernel
theorem dL_asks_51 : decode cL_asks 51 = .ok (.iadd, 1) := by decide +kernel
theorem dL_asks_52 : decode cL_asks 52 = .ok (.goto 68, 3) := by decide +kernel
theorem dL_asks_55 : decode cL_asks 55 = .ok (.iload_n 1, 1) := by decide +kernel
theorem dL_asks_56 : decode cL_asks 56 = .ok (.ifCond .ne 26, 3) := by decide +kernel
theorem dL_asks_59 : decode cL_asks 59 = .ok (.iload_n 3, 1) := by decide +kernel
theorem dL_asks_60 : decode cL_asks 60 = .ok (.aload_n 0, 1) := by decide +kernel
theorem dL_asks_61 : decode cL_asks 61 = .ok (.iconst 0, 1) := by decide +kernel
theorem dL_asks_62 : decode cL_asks 62 = .ok (.invokestatic 58, 3) := by decide +kernel
theorem dL_asks_65 : decode cL_asks 65 = .ok (.iconst 1, 1) := by decide +kernel
theorem dL_asks_66 : decode cL_asks 66 = .ok (.iand, 1) := by decide +kernel
theorem dL_asks_67 : decode cL_asks 67 = .ok (.imul, 1) := by decide +kernel
theorem dL_asks_68 : decode cL_asks 68 = .ok (.iload_n 2, 1) := by decide +kernel
theorem dL_asks_69 : decode cL_asks 69 = .ok (.bipush 6, 2) := by decide +kernel
theorem dL_asks_71 : decode cL_asks 71 = .ok (.idiv, 1) := by decide +kernel
theorem dL_asks_72 : decode cL_asks 72 = .ok (.iadd, 1) := by decide +kernel
theorem dL_asks_73 : decode cL_asks 73 = .ok (.aload_n 0, 1) := by decide +kernel
theorem dL_asks_74 : decode cL_asks 74 = .ok (.iload_n 2, 1) := by decide +kernel
theorem dL_asks_75 : decode cL_asks 75 = .ok (.invokestatic 30, 3) := by decide +kernel
theorem dL_asks_78 : decode cL_asks 78 = .ok (.isub, 1) := by decide +kernel
theorem dL_asks_79 : decode cL_asks 79 = .ok (.goto 41, 3) := by decide +kernel
theorem dL_asks_82 : decode cL_asks 82 = .ok (.iload_n 1, 1) := by decide +kernel
theorem dL_asks_83 : decode cL_asks 83 = .ok (.iconst 1, 1) := by decide +kernel
theorem dL_asks_84 : decode cL_asks 84 = .ok (.if_icmp .ne 10, 3) := by decide +kernel
theorem dL_asks_87 : decode cL_asks 87 = .ok (.iload_n 3, 1) := by decide +kernel
theorem dL_asks_88 : decode cL_asks 88 = .ok (.iload 4, 2) := by decide +kernel
theorem dL_asks_90 : decode cL_asks 90 = .ok (.iadd, 1) := by decide +kernel
theorem dL_asks_91 : decode cL_asks 91 = .ok (.goto 29, 3) := by decide +kernel
theorem dL_asks_94 : decode cL_asks 94 = .ok (.iload_n 2, 1) := by decide +kernel
theorem dL_asks_95 : decode cL_asks 95 = .ok (.bipush 6, 2) := by decide +kernel
theorem dL_asks_97 : decode cL_asks 97 = .ok (.irem, 1) := by decide +kernel
theorem dL_asks_98 : decode cL_asks 98 = .ok (.iload_n 2, 1) := by decide +kernel
theorem dL_asks_99 : decode cL_asks 99 = .ok (.bipush 6, 2) := by decide +kernel
theorem dL_asks_101 : decode cL_asks 101 = .ok (.idiv, 1) := by decide +kernel
theorem dL_asks_102 : decode cL_asks 102 = .ok (.imul, 1) := by decide +kernel
theorem dL_asks_103 : decode cL_asks 103 = .ok (.aload_n 0, 1) := by decide +kernel
theorem dL_asks_104 : decode cL_asks 104 = .ok (.iload_n 2, 1) := by decide +kernel
theorem dL_asks_105 : decode cL_asks 105 = .ok (.invokestatic 90, 3) := by decide +kernel
theorem dL_asks_108 : decode cL_asks 108 = .ok (.aload_n 0, 1) := by decide +kernel
theorem dL_asks_109 : decode cL_asks 109 = .ok (.iconst 0, 1) := by decide +kernel
theorem dL_asks_110 : decode cL_asks 110 = .ok (.invokestatic 58, 3) := by decide +kernel
theorem dL_asks_113 : decode cL_asks 113 = .ok (.iconst 3, 1) := by decide +kernel
theorem dL_asks_114 : decode cL_asks 114 = .ok (.ishr, 1) := by decide +kernel
theorem dL_asks_115 : decode cL_asks 115 = .ok (.bipush 7, 2) := by decide +kernel
theorem dL_asks_117 : decode cL_asks 117 = .ok (.iand, 1) := by decide +kernel
theorem dL_asks_118 : decode cL_asks 118 = .ok (.imul, 1) := by decide +kernel
theorem dL_asks_119 : decode cL_asks 119 = .ok (.isub, 1) := by decide +kernel
theorem dL_asks_120 : decode cL_asks 120 = .ok (.istore 5, 2) := by decide +kernel
theorem dL_asks_122 : decode cL_asks 122 = .ok (.iload 5, 2) := by decide +kernel
theorem dL_asks_124 : decode cL_asks 124 = .ok (.bipush 99, 2) := by decide +kernel
theorem dL_asks_126 : decode cL_asks 126 = .ok (.invokestatic 93, 3) := by decide +kernel
theorem dL_asks_129 : decode cL_asks 129 = .ok (.ireturn, 1) := by decide +kernel
theorem dL_rubs_0 : decode cL_rubs 0 = .ok (.aload_n 0, 1) := by decide +kernel
theorem dL_rubs_1 : decode cL_rubs 1 = .ok (.iconst 0, 1) := by decide +kernel
theorem dL_rubs_2 : decode cL_rubs 2 = .ok (.iload_n 1, 1) := by decide +kernel
theorem dL_rubs_3 : decode cL_rubs 3 = .ok (.iload_n 2, 1) := by decide +kernel
theorem dL_rubs_4 : decode cL_rubs 4 = .ok (.iconst 0, 1) := by decide +kernel
theorem dL_rubs_5 : decode cL_rubs 5 = .ok (.invokestatic 96, 3) := by decide +kernel
theorem dL_rubs_8 : decode cL_rubs 8 = .ok (.istore_n 3, 1) := by decide +kernel
theorem dL_rubs_9 : decode cL_rubs 9 = .ok (.aload_n 0, 1) := by decide +kernel
theorem dL_rubs_10 : decode cL_rubs 10 = .ok (.iload_n 1, 1) := by decide +kernel
theorem dL_rubs_11 : decode cL_rubs 11 = .ok (.invokestatic 24, 3) := by decide +kernel
theorem dL_rubs_14 : decode cL_rubs 14 = .ok (.istore 4, 2) := by decide +kernel
theorem dL_rubs_16 : decode cL_rubs 16 = .ok (.iload 4, 2) := by decide +kernel
theorem dL_rubs_18 : decode cL_rubs 18 = .ok (.iconst 3, 1) := by decide +kernel
theorem dL_rubs_19 : decode cL_rubs 19 = .ok (.if_icmp .ne 9, 3) := by decide +kernel
theorem dL_rubs_22 : decode cL_rubs 22 = .ok (.iconst 2, 1) := by decide +kernel
theorem dL_rubs_23 : decode cL_rubs 23 = .ok (.iload_n 3, 1) := by decide +kernel
theorem dL_rubs_24 : decode cL_rubs 24 = .ok (.imul, 1) := by decide +kernel
theorem dL_rubs_25 : decode cL_rubs 25 = .ok (.goto 26, 3) := by decide +kernel
theorem dL_rubs_28 : decode cL_rubs 28 = .ok (.iload 4, 2) := by decide +kernel
theorem dL_rubs_30 : decode cL_rubs 30 = .ok (.iconst 1, 1) := by decide +kernel
theorem dL_rubs_31 : decode cL_rubs 31 = .ok (.if_icmp .eq 9, 3) := by decide +kernel
theorem dL_rubs_34 : decode cL_rubs 34 = .ok (.iload 4, 2) := by decide +kernel
theorem dL_rubs_36 : decode cL_rubs 36 = .ok (.iconst 5, 1) := by decide +kernel
theorem dL_rubs_37 : decode cL_rubs 37 = .ok (.if_icmp .ne 13, 3) := by decide +kernel
theorem dL_rubs_40 : decode cL_rubs 40 = .ok (.iload_n 3, 1) := by decide +kernel
theorem dL_rubs_41 : decode cL_rubs 41 = .ok (.aload_n 0, 1) := by decide +kernel
theorem dL_rubs_42 : decode cL_rubs 42 = .ok (.iload_n 1, 1) := by decide +kernel
theorem dL_rubs_43 : decode cL_rubs 43 = .ok (.invokestatic 30, 3) := by decide +kernel
theorem dL_rubs_46 : decode cL_rubs 46 = .ok (.iadd, 1) := by decide +kernel
theorem dL_rubs_47 : decode cL_rubs 47 = .ok (.goto 4, 3) := by decide +kernel
theorem dL_rubs_50 : decode cL_rubs 50 = .ok (.iload_n 3, 1) := by decide +kernel
theorem dL_rubs_51 : decode cL_rubs 51 = .ok (.ireturn, 1) := by decide +kernel
theorem dL_run_0 : decode cL_run 0 = .ok (.aload_n 1, 1) := by decide +kernel
theorem dL_run_1 : decode cL_run 1 = .ok (.bipush 48, 2) := by decide +kernel
theorem dL_run_3 : decode cL_run 3 = .ok (.lconst 0, 1) := by decide +kernel
theorem dL_run_4 : decode cL_run 4 = .ok (.lastore, 1) := by decide +kernel
theorem dL_run_5 : decode cL_run 5 = .ok (.bipush 47, 2) := by decide +kernel
theorem dL_run_7 : decode cL_run 7 = .ok (.istore 7, 2) := by decide +kernel
theorem dL_run_9 : decode cL_run 9 = .ok (.iload 7, 2) := by decide +kernel
theorem dL_run_11 : decode cL_run 11 = .ok (.ifCond .lt 16, 3) := by decide +kernel
theorem dL_run_14 : decode cL_run 14 = .ok (.aload_n 1, 1) := by decide +kernel
theorem dL_run_15 : decode cL_run 15 = .ok (.iload 7, 2) := by decide +kernel
theorem dL_run_17 : decode cL_run 17 = .ok (.ldc2_w 100, 3) := by decide +kernel
theorem dL_run_20 : decode cL_run 20 = .ok (.lastore, 1) := by decide +kernel
theorem dL_run_21 : decode cL_run 21 = .ok (.iinc 7 (-1), 3) := by decide +kernel
theorem dL_run_24 : decode cL_run 24 = .ok (.goto (-15), 3) := by decide +kernel
theorem dL_run_27 : decode cL_run 27 = .ok (.bipush 7, 2) := by decide +kernel
theorem dL_run_29 : decode cL_run 29 = .ok (.istore 7, 2) := by decide +kernel
theorem dL_run_31 : decode cL_run 31 = .ok (.iload 7, 2) := by decide +kernel
theorem dL_run_33 : decode cL_run 33 = .ok (.ifCond .lt 150, 3) := by decide +kernel
theorem dL_run_36 : decode cL_run 36 = .ok (.bipush 6, 2) := by decide +kernel
theorem dL_run_38 : decode cL_run 38 = .ok (.iload 7, 2) := by decide +kernel
theorem dL_run_40 : decode cL_run 40 = .ok (.imul, 1) := by decide +kernel
theorem dL_run_41 : decode cL_run 41 = .ok (.istore 8, 2) := by decide +kernel
theorem dL_run_43 : decode cL_run 43 = .ok (.iload 8, 2) := by decide +kernel
theorem dL_run_45 : decode cL_run 45 = .ok (.bipush 6, 2) := by decide +kernel
theorem dL_run_47 : decode cL_run 47 = .ok (.iload 7, 2) := by decide +kernel
theorem dL_run_49 : decode cL_run 49 = .ok (.imul, 1) := by decide +kernel
theorem dL_run_50 : decode cL_run 50 = .ok (.bipush 6, 2) := by decide +kernel
theorem dL_run_52 : decode cL_run 52 = .ok (.iadd, 1) := by decide +kernel
theorem dL_run_53 : decode cL_run 53 = .ok (.if_icmp .ge 124, 3) := by decide +kernel
theorem dL_run_56 : decode cL_run 56 = .ok (.aload_n 0, 1) := by decide +kernel
theorem dL_run_57 : decode cL_run 57 = .ok (.iload 8, 2) := by decide +kernel
theorem dL_run_59 : decode cL_run 59 = .ok (.invokestatic 102, 3) := by decide +kernel
theorem dL_run_62 : decode cL_run 62 = .ok (.ifCond .ne 109, 3) := by decide +kernel
theorem dL_run_65 : decode cL_run 65 = .ok (.lload 5, 2) := by decide +kernel
theorem dL_run_67 : decode cL_run 67 = .ok (.iload 8, 2) := by decide +kernel
theorem dL_run_69 : decode cL_run 69 = .ok (.lshr, 1) := by decide +kernel
theorem dL_run_70 : decode cL_run 70 = .ok (.lconst 1, 1) := by decide +kernel
theorem dL_run_71 : decode cL_run 71 = .ok (.land, 1) := by decide +kernel
theorem dL_run_72 : decode cL_run 72 = .ok (.lconst 1, 1) := by decide +kernel
theorem dL_run_73 : decode cL_run 73 = .ok (.lcmp, 1) := by decide +kernel
theorem dL_run_74 : decode cL_run 74 = .ok (.ifCond .ne 6, 3) := by decide +kernel
theorem dL_run_77 : decode cL_run 77 = .ok (.goto 94, 3) := by decide +kernel
theorem dL_run_80 : decode cL_run 80 = .ok (.aload_n 0, 1) := by decide +kernel
theorem dL_run_81 : decode cL_run 81 = .ok (.aload_n 1, 1) := by decide +kernel
theorem dL_run_82 : decode cL_run 82 = .ok (.iload 8, 2) := by decide +kernel
theorem dL_run_84 : decode cL_run 84 = .ok (.invokestatic 105, 3) := by decide +kernel
theorem dL_run_87 : decode cL_run 87 = .ok (.lstore 9, 2) := by decide +kernel
theorem dL_run_89 : decode cL_run 89 = .ok (.lload_n 2, 1) := by decide +kernel
theorem dL_run_90 : decode cL_run 90 = .ok (.iload 8, 2) := by decide +kernel
theorem dL_run_92 : decode cL_run 92 = .ok (.lshr, 1) := by decide +kernel
theorem dL_run_93 : decode cL_run 93 = .ok (.lconst 1, 1) := by decide +kernel
theorem dL_run_94 : decode cL_run 94 = .ok (.land, 1) := by decide +kernel
theorem dL_run_95 : decode cL_run 95 = .ok (.lconst 1, 1) := by decide +kernel
theorem dL_run_96 : decode cL_run 96 = .ok (.lcmp, 1) := by decide +kernel
theorem dL_run_97 : decode cL_run 97 = .ok (.ifCond .ne 13, 3) := by decide +kernel
theorem dL_run_100 : decode cL_run 100 = .ok (.aload_n 1, 1) := by decide +kernel
theorem dL_run_101 : decode cL_run 101 = .ok (.iload 8, 2) := by decide +kernel
theorem dL_run_103 : decode cL_run 103 = .ok (.iload 4, 2) := by decide +kernel
theorem dL_run_105 : decode cL_run 105 = .ok (.i2l, 1) := by decide +kernel
theorem dL_run_106 : decode cL_run 106 = .ok (.lastore, 1) := by decide +kernel
theorem dL_run_107 : decode cL_run 107 = .ok (.goto 43, 3) := by decide +kernel
theorem dL_run_110 : decode cL_run 110 = .ok (.lload 9, 2) := by decide +kernel
theorem dL_run_112 : decode cL_run 112 = .ok (.lconst 0, 1) := by decide +kernel
theorem dL_run_113 : decode cL_run 113 = .ok (.lcmp, 1) := by decide +kernel
theorem dL_run_114 : decode cL_run 114 = .ok (.ifCond .lt 36, 3) := by decide +kernel
theorem dL_run_117 : decode cL_run 117 = .ok (.lload 9, 2) := by decide +kernel
theorem dL_run_119 : decode cL_run 119 = .ok (.aload_n 0, 1) := by decide +kernel
theorem dL_run_120 : decode cL_run 120 = .ok (.iload 8, 2) := by decide +kernel
theorem dL_run_122 : decode cL_run 122 = .ok (.lload 9, 2) := by decide +kernel
theorem dL_run_124 : decode cL_run 124 = .ok (.l2i, 1) := by decide +kernel
theorem dL_run_125 : decode cL_run 125 = .ok (.invokestatic 109, 3) := by decide +kernel
theorem dL_run_128 : decode cL_run 128 = .ok (.i2l, 1) := by decide +kernel
theorem dL_run_129 : decode cL_run 129 = .ok (.lcmp, 1) := by decide +kernel
theorem dL_run_130 : decode cL_run 130 = .ok (.ifCond .le 20, 3) := by decide +kernel
theorem dL_run_133 : decode cL_run 133 = .ok (.aload_n 1, 1) := by decide +kernel
theorem dL_run_134 : decode cL_run 134 = .ok (.iload 8, 2) := by decide +kernel
theorem dL_run_136 : decode cL_run 136 = .ok (.lload 9, 2) := by decide +kernel
theorem dL_run_138 : decode cL_run 138 = .ok (.aload_n 0, 1) := by decide +kernel
theorem dL_run_139 : decode cL_run 139 = .ok (.iload 8, 2) := by decide +kernel
theorem dL_run_141 : decode cL_run 141 = .ok (.lload 9, 2) := by decide +kernel
theorem dL_run_143 : decode cL_run 143 = .ok (.l2i, 1) := by decide +kernel
theorem dL_run_144 : decode cL_run 144 = .ok (.invokestatic 109, 3) := by decide +kernel
theorem dL_run_147 : decode cL_run 147 = .ok (.i2l, 1) := by decide +kernel
theorem dL_run_148 : decode cL_run 148 = .ok (.lsub, 1) := by decide +kernel
theorem dL_run_149 : decode cL_run 149 = .ok (.lastore, 1) := by decide +kernel
theorem dL_run_150 : decode cL_run 150 = .ok (.aload_n 1, 1) := by decide +kernel
theorem dL_run_151 : decode cL_run 151 = .ok (.bipush 48, 2) := by decide +kernel
theorem dL_run_153 : decode cL_run 153 = .ok (.dup2, 1) := by decide +kernel
theorem dL_run_154 : decode cL_run 154 = .ok (.laload, 1) := by decide +kernel
theorem dL_run_155 : decode cL_run 155 = .ok (.aload_n 1, 1) := by decide +kernel
theorem dL_run_156 : decode cL_run 156 = .ok (.iload 8, 2) := by decide +kernel
theorem dL_run_158 : decode cL_run 158 = .ok (.laload, 1) := by decide +kernel
theorem dL_run_159 : decode cL_run 159 = .ok (.lconst 0, 1) := by decide +kernel
theorem dL_run_160 : decode cL_run 160 = .ok (.lcmp, 1) := by decide +kernel
theorem dL_run_161 : decode cL_run 161 = .ok (.ifCond .lt 7, 3) := by decide +kernel
theorem dL_run_164 : decode cL_run 164 = .ok (.lconst 1, 1) := by decide +kernel
theorem dL_run_165 : decode cL_run 165 = .ok (.goto 4, 3) := by decide +kernel
theorem dL_run_168 : decode cL_run 168 = .ok (.lconst 0, 1) := by decide +kernel
theorem dL_run_169 : decode cL_run 169 = .ok (.ladd, 1) := by decide +kernel
theorem dL_run_170 : decode cL_run 170 = .ok (.lastore, 1) := by decide +kernel
theorem dL_run_171 : decode cL_run 171 = .ok (.iinc 8 1, 3) := by decide +kernel
theorem dL_run_174 : decode cL_run 174 = .ok (.goto (-131), 3) := by decide +kernel
theorem dL_run_177 : decode cL_run 177 = .ok (.iinc 7 (-1), 3) := by decide +kernel
theorem dL_run_180 : decode cL_run 180 = .ok (.goto (-149), 3) := by decide +kernel
theorem dL_run_183 : decode cL_run 183 = .ok (.return_, 1) := by decide +kernel
theorem dL_come_0 : decode cL_come 0 = .ok (.ldc2_w 100, 3) := by decide +kernel
theorem dL_come_3 : decode cL_come 3 = .ok (.lstore_n 3, 1) := by decide +kernel
theorem dL_come_4 : decode cL_come 4 = .ok (.iload_n 2, 1) := by decide +kernel
theorem dL_come_5 : decode cL_come 5 = .ok (.bipush 6, 2) := by decide +kernel
theorem dL_come_7 : decode cL_come 7 = .ok (.idiv, 1) := by decide +kernel
theorem dL_come_8 : decode cL_come 8 = .ok (.bipush 6, 2) := by decide +kernel
theorem dL_come_10 : decode cL_come 10 = .ok (.imul, 1) := by decide +kernel
theorem dL_come_11 : decode cL_come 11 = .ok (.bipush 6, 2) := by decide +kernel
theorem dL_come_13 : decode cL_come 13 = .ok (.iadd, 1) := by decide +kernel
theorem dL_come_14 : decode cL_come 14 = .ok (.istore 5, 2) := by decide +kernel
theorem dL_come_16 : decode cL_come 16 = .ok (.iload 5, 2) := by decide +kernel
theorem dL_come_18 : decode cL_come 18 = .ok (.bipush 48, 2) := by decide +kernel
theorem dL_come_20 : decode cL_come 20 = .ok (.if_icmp .ge 65, 3) := by decide +kernel
theorem dL_come_23 : decode cL_come 23 = .ok (.iload 5, 2) := by decide +kernel
theorem dL_come_25 : decode cL_come 25 = .ok (.iload_n 2, 1) := by decide +kernel
theorem dL_come_26 : decode cL_come 26 = .ok (.bipush 6, 2) := by decide +kernel
theorem dL_come_28 : decode cL_come 28 = .ok (.idiv, 1) := by decide +kernel
theorem dL_come_29 : decode cL_come 29 = .ok (.bipush 6, 2) := by decide +kernel
theorem dL_come_31 : decode cL_come 31 = .ok (.imul, 1) := by decide +kernel
theorem dL_come_32 : decode cL_come 32 = .ok (.bipush 12, 2) := by decide +kernel
theorem dL_come_34 : decode cL_come 34 = .ok (.iadd, 1) := by decide +kernel
theorem dL_come_35 : decode cL_come 35 = .ok (.if_icmp .ge 50, 3) := by decide +kernel
theorem dL_come_38 : decode cL_come 38 = .ok (.aload_n 0, 1) := by decide +kernel
theorem dL_come_39 : decode cL_come 39 = .ok (.iload 5, 2) := by decide +kernel
theorem dL_come_41 : decode cL_come 41 = .ok (.invokestatic 113, 3) := by decide +kernel
theorem dL_come_44 : decode cL_come 44 = .ok (.iload_n 2, 1) := by decide +kernel
theorem dL_come_45 : decode cL_come 45 = .ok (.bipush 6, 2) := by decide +kernel
theorem dL_come_47 : decode cL_come 47 = .ok (.irem, 1) := by decide +kernel
theorem dL_come_48 : decode cL_come 48 = .ok (.ishr, 1) := by decide +kernel
theorem dL_come_49 : decode cL_come 49 = .ok (.iconst 1, 1) := by decide +kernel
theorem dL_come_50 : decode cL_come 50 = .ok (.iand, 1) := by decide +kernel
theorem dL_come_51 : decode cL_come 51 = .ok (.ifCond .ne 6, 3) := by decide +kernel
theorem dL_come_54 : decode cL_come 54 = .ok (.goto 25, 3) := by decide +kernel
theorem dL_come_57 : decode cL_come 57 = .ok (.aload_n 1, 1) := by decide +kernel
theorem dL_come_58 : decode cL_come 58 = .ok (.iload 5, 2) := by decide +kernel
theorem dL_come_60 : decode cL_come 60 = .ok (.laload, 1) := by decide +kernel
theorem dL_come_61 : decode cL_come 61 = .ok (.lconst 0, 1) := by decide +kernel
theorem dL_come_62 : decode cL_come 62 = .ok (.lcmp, 1) := by decide +kernel
theorem dL_come_63 : decode cL_come 63 = .ok (.ifCond .ge 7, 3) := by decide +kernel
theorem dL_come_66 : decode cL_come 66 = .ok (.ldc2_w 100, 3) := by decide +kernel
theorem dL_come_69 : decode cL_come 69 = .ok (.lreturn, 1) := by decide +kernel
theorem dL_come_70 : decode cL_come 70 = .ok (.lload_n 3, 1) := by decide +kernel
theorem dL_come_71 : decode cL_come 71 = .ok (.aload_n 1, 1) := by decide +kernel
theorem dL_come_72 : decode cL_come 72 = .ok (.iload 5, 2) := by decide +kernel
theorem dL_come_74 : decode cL_come 74 = .ok (.laload, 1) := by decide +kernel
theorem dL_come_75 : decode cL_come 75 = .ok (.invokestatic 116, 3) := by decide +kernel
theorem dL_come_78 : decode cL_come 78 = .ok (.lstore_n 3, 1) := by decide +kernel
theorem dL_come_79 : decode cL_come 79 = .ok (.iinc 5 1, 3) := by decide +kernel
theorem dL_come_82 : decode cL_come 82 = .ok (.goto (-66), 3) := by decide +kernel
theorem dL_come_85 : decode cL_come 85 = .ok (.lload_n 3, 1) := by decide +kernel
theorem dL_come_86 : decode cL_come 86 = .ok (.lreturn, 1) := by decide +kernel
theorem dL_law_0 : decode cL_law 0 = .ok (.aload_n 0, 1) := by decide +kernel
theorem dL_law_1 : decode cL_law 1 = .ok (.invokestatic 119, 3) := by decide +kernel
theorem dL_law_4 : decode cL_law 4 = .ok (.astore_n 1, 1) := by decide +kernel
theorem dL_law_5 : decode cL_law 5 = .ok (.bipush 50, 2) := by decide +kernel
theorem dL_law_7 : decode cL_law 7 = .ok (.newarray .long, 2) := by decide +kernel
theorem dL_law_9 : decode cL_law 9 = .ok (.astore_n 2, 1) := by decide +kernel
theorem dL_law_10 : decode cL_law 10 = .ok (.aload_n 0, 1) := by decide +kernel
theorem dL_law_11 : decode cL_law 11 = .ok (.bipush 9, 2) := by decide +kernel
theorem dL_law_13 : decode cL_law 13 = .ok (.invokestatic 58, 3) := by decide +kernel
theorem dL_law_16 : decode cL_law 16 = .ok (.bipush 63, 2) := by decide +kernel
theorem dL_law_18 : decode cL_law 18 = .ok (.iand, 1) := by decide +kernel
theorem dL_law_19 : decode cL_law 19 = .ok (.bipush 48, 2) := by decide +kernel
theorem dL_law_21 : decode cL_law 21 = .ok (.irem, 1) := by decide +kernel
theorem dL_law_22 : decode cL_law 22 = .ok (.istore_n 3, 1) := by decide +kernel
theorem dL_law_23 : decode cL_law 23 = .ok (.aload_n 0, 1) := by decide +kernel
theorem dL_law_24 : decode cL_law 24 = .ok (.bipush 9, 2) := by decide +kernel
theorem dL_law_26 : decode cL_law 26 = .ok (.invokestatic 58, 3) := by decide +kernel
theorem dL_law_29 : decode cL_law 29 = .ok (.bipush 6, 2) := by decide +kernel
theorem dL_law_31 : decode cL_law 31 = .ok (.ishr, 1) := by decide +kernel
theorem dL_law_32 : decode cL_law 32 = .ok (.bipush 127, 2) := by decide +kernel
theorem dL_law_34 : decode cL_law 34 = .ok (.iand, 1) := by decide +kernel
theorem dL_law_35 : decode cL_law 35 = .ok (.bipush 100, 2) := by decide +kernel
theorem dL_law_37 : decode cL_law 37 = .ok (.irem, 1) := by decide +kernel
theorem dL_law_38 : decode cL_law 38 = .ok (.istore 4, 2) := by decide +kernel
theorem dL_law_40 : decode cL_law 40 = .ok (.iconst 0, 1) := by decide +kernel
theorem dL_law_41 : decode cL_law 41 = .ok (.istore 5, 2) := by decide +kernel
theorem dL_law_43 : decode cL_law 43 = .ok (.iload 5, 2) := by decide +kernel
theorem dL_law_45 : decode cL_law 45 = .ok (.iconst 3, 1) := by decide +kernel
theorem dL_law_46 : decode cL_law 46 = .ok (.if_icmp .ge 419, 3) := by decide +kernel
theorem dL_law_49 : decode cL_law 49 = .ok (.iload 5, 2) := by decide +kernel
theorem dL_law_51 : decode cL_law 51 = .ok (.ifCond .ne 7, 3) := by decide +kernel
theorem dL_law_54 : decode cL_law 54 = .ok (.iload_n 3, 1) := by decide +kernel
theorem dL_law_55 : decode cL_law 55 = .ok (.goto 16, 3) := by decide +kernel
theorem dL_law_58 : decode cL_law 58 = .ok (.bipush 47, 2) := by decide +kernel
theorem dL_law_60 : decode cL_law 60 = .ok (.iload_n 3, 1) := by decide +kernel
theorem dL_law_61 : decode cL_law 61 = .ok (.iload 5, 2) := by decide +kernel
theorem dL_law_63 : decode cL_law 63 = .ok (.bipush 7, 2) := by decide +kernel
theorem dL_law_65 : decode cL_law 65 = .ok (.imul, 1) := by decide +kernel
theorem dL_law_66 : decode cL_law 66 = .ok (.iadd, 1) := by decide +kernel
theorem dL_law_67 : decode cL_law 67 = .ok (.bipush 12, 2) := by decide +kernel
theorem dL_law_69 : decode cL_law 69 = .ok (.irem, 1) := by decide +kernel
theorem dL_law_70 : decode cL_law 70 = .ok (.isub, 1) := by decide +kernel
theorem dL_law_71 : decode cL_law 71 = .ok (.istore 6, 2) := by decide +kernel
theorem dL_law_73 : decode cL_law 73 = .ok (.aload_n 0, 1) := by decide +kernel
theorem dL_law_74 : decode cL_law 74 = .ok (.aload_n 2, 1) := by decide +kernel
theorem dL_law_75 : decode cL_law 75 = .ok (.lconst 1, 1) := by decide +kernel
theorem dL_law_76 : decode cL_law 76 = .ok (.iload 6, 2) := by decide +kernel
theorem dL_law_78 : decode cL_law 78 = .ok (.lshl, 1) := by decide +kernel
theorem dL_law_79 : decode cL_law 79 = .ok (.iload 4, 2) := by decide +kernel
theorem dL_law_81 : decode cL_law 81 = .ok (.lconst 0, 1) := by decide +kernel
theorem dL_law_82 : decode cL_law 82 = .ok (.invokestatic 123, 3) := by decide +kernel
theorem dL_law_85 : decode cL_law 85 = .ok (.lconst 0, 1) := by decide +kernel
theorem dL_law_86 : decode cL_law 86 = .ok (.lstore 7, 2) := by decide +kernel
theorem dL_law_88 : decode cL_law 88 = .ok (.lconst 0, 1) := by decide +kernel
theorem dL_law_89 : decode cL_law 89 = .ok (.lstore 9, 2) := by decide +kernel
theorem dL_law_91 : decode cL_law 91 = .ok (.iconst (-1), 1) := by decide +kernel
theorem dL_law_92 : decode cL_law 92 = .ok (.istore 11, 2) := by decide +kernel
theorem dL_law_94 : decode cL_law 94 = .ok (.iconst 0, 1) := by decide +kernel
theorem dL_law_95 : decode cL_law 95 = .ok (.istore 12, 2) := by decide +kernel
theorem dL_law_97 : decode cL_law 97 = .ok (.iconst 0, 1) := by decide +kernel
theorem dL_law_98 : decode cL_law 98 = .ok (.istore 13, 2) := by decide +kernel
theorem dL_law_100 : decode cL_law 100 = .ok (.bipush 47, 2) := by decide +kernel
theorem dL_law_102 : decode cL_law 102 = .ok (.istore 14, 2) := by decide +kernel
theorem dL_law_104 : decode cL_law 104 = .ok (.iload 14, 2) := by decide +kernel
theorem dL_law_106 : decode cL_law 106 = .ok (.ifCond .lt 115, 3) := by decide +kernel
theorem dL_law_109 : decode cL_law 109 = .ok (.aload_n 1, 1) := by decide +kernel
theorem dL_law_110 : decode cL_law 110 = .ok (.iload 6, 2) := by decide +kernel
theorem dL_law_112 : decode cL_law 112 = .ok (.iload 4, 2) := by decide +kernel
theorem dL_law_114 : decode cL_law 114 = .ok (.iload 14, 2) := by decide +kernel
theorem dL_law_116 : decode cL_law 116 = .ok (.invokevirtual 127, 3) := by decide +kernel
theorem dL_law_119 : decode cL_law 119 = .ok (.i2l, 1) := by decide +kernel
theorem dL_law_120 : decode cL_law 120 = .ok (.aload_n 2, 1) := by decide +kernel
theorem dL_law_121 : decode cL_law 121 = .ok (.iload 14, 2) := by decide +kernel
theorem dL_law_123 : decode cL_law 123 = .ok (.laload, 1) := by decide +kernel
theorem dL_law_124 : decode cL_law 124 = .ok (.lcmp, 1) := by decide +kernel
theorem dL_law_125 : decode cL_law 125 = .ok (.ifCond .eq 5, 3) := by decide +kernel
theorem dL_law_128 : decode cL_law 128 = .ok (.iconst 0, 1) := by decide +kernel
theorem dL_law_129 : decode cL_law 129 = .ok (.ireturn, 1) := by decide +kernel
theorem dL_law_130 : decode cL_law 130 = .ok (.aload_n 2, 1) := by decide +kernel
theorem dL_law_131 : decode cL_law 131 = .ok (.iload 14, 2) := by decide +kernel
theorem dL_law_133 : decode cL_law 133 = .ok (.laload, 1) := by decide +kernel
theorem dL_law_134 : decode cL_law 134 = .ok (.lconst 0, 1) := by decide +kernel
theorem dL_law_135 : decode cL_law 135 = .ok (.lcmp, 1) := by decide +kernel
theorem dL_law_136 : decode cL_law 136 = .ok (.ifCond .ge 27, 3) := by decide +kernel
theorem dL_law_139 : decode cL_law 139 = .ok (.aload_n 0, 1) := by decide +kernel
theorem dL_law_140 : decode cL_law 140 = .ok (.aload_n 2, 1) := by decide +kernel
theorem dL_law_141 : decode cL_law 141 = .ok (.iload 14, 2) := by decide +kernel
theorem dL_law_143 : decode cL_law 143 = .ok (.invokestatic 105, 3) := by decide +kernel
theorem dL_law_146 : decode cL_law 146 = .ok (.lconst 0, 1) := by decide +kernel
theorem dL_law_147 : decode cL_law 147 = .ok (.lcmp, 1) := by decide +kernel
theorem dL_law_148 : decode cL_law 148 = .ok (.ifCond .lt 67, 3) := by decide +kernel
theorem dL_law_151 : decode cL_law 151 = .ok (.lload 9, 2) := by decide +kernel
theorem dL_law_153 : decode cL_law 153 = .ok (.lconst 1, 1) := by decide +kernel
theorem dL_law_154 : decode cL_law 154 = .ok (.iload 14, 2) := by decide +kernel
theorem dL_law_156 : decode cL_law 156 = .ok (.lshl, 1) := by decide +kernel
theorem dL_law_157 : decode cL_law 157 = .ok (.lor, 1) := by decide +kernel
theorem dL_law_158 : decode cL_law 158 = .ok (.lstore 9, 2) := by decide +kernel
theorem dL_law_160 : decode cL_law 160 = .ok (.goto 55, 3) := by decide +kernel
theorem dL_law_163 : decode cL_law 163 = .ok (.lload 7, 2) := by decide +kernel
theorem dL_law_165 : decode cL_law 165 = .ok (.lconst 1, 1) := by decide +kernel
theorem dL_law_166 : decode cL_law 166 = .ok (.iload 14, 2) := by decide +kernel
theorem dL_law_168 : decode cL_law 168 = .ok (.lshl, 1) := by decide +kernel
theorem dL_law_169 : decode cL_law 169 = .ok (.lor, 1) := by decide +kernel
theorem dL_law_170 : decode cL_law 170 = .ok (.lstore 7, 2) := by decide +kernel
theorem dL_law_172 : decode cL_law 172 = .ok (.iload 14, 2) := by decide +kernel
theorem dL_law_174 : decode cL_law 174 = .ok (.bipush 6, 2) := by decide +kernel
theorem dL_law_176 : decode cL_law 176 = .ok (.idiv, 1) := by decide +kernel
theorem dL_law_177 : decode cL_law 177 = .ok (.istore 11, 2) := by decide +kernel
theorem dL_law_179 : decode cL_law 179 = .ok (.iload 12, 2) := by decide +kernel
theorem dL_law_181 : decode cL_law 181 = .ok (.aload_n 0, 1) := by decide +kernel
theorem dL_law_182 : decode cL_law 182 = .ok (.iconst 1, 1) := by decide +kernel
theorem dL_law_183 : decode cL_law 183 = .ok (.iload 14, 2) := by decide +kernel
theorem dL_law_185 : decode cL_law 185 = .ok (.aload_n 2, 1) := by decide +kernel
theorem dL_law_186 : decode cL_law 186 = .ok (.iload 14, 2) := by decide +kernel
theorem dL_law_188 : decode cL_law 188 = .ok (.laload, 1) := by decide +kernel
theorem dL_law_189 : decode cL_law 189 = .ok (.l2i, 1) := by decide +kernel
theorem dL_law_190 : decode cL_law 190 = .ok (.iconst 0, 1) := by decide +kernel
theorem dL_law_191 : decode cL_law 191 = .ok (.invokestatic 96, 3) := by decide +kernel
theorem dL_law_194 : decode cL_law 194 = .ok (.iadd, 1) := by decide +kernel
theorem dL_law_195 : decode cL_law 195 = .ok (.istore 12, 2) := by decide +kernel
theorem dL_law_197 : decode cL_law 197 = .ok (.iload 13, 2) := by decide +kernel
theorem dL_law_199 : decode cL_law 199 = .ok (.aload_n 0, 1) := by decide +kernel
theorem dL_law_200 : decode cL_law 200 = .ok (.iconst 2, 1) := by decide +kernel
theorem dL_law_201 : decode cL_law 201 = .ok (.iload 14, 2) := by decide +kernel
theorem dL_law_203 : decode cL_law 203 = .ok (.aload_n 2, 1) := by decide +kernel
theorem dL_law_204 : decode cL_law 204 = .ok (.iload 14, 2) := by decide +kernel
theorem dL_law_206 : decode cL_law 206 = .ok (.laload, 1) := by decide +kernel
theorem dL_law_207 : decode cL_law 207 = .ok (.l2i, 1) := by decide +kernel
theorem dL_law_208 : decode cL_law 208 = .ok (.iconst 0, 1) := by decide +kernel
theorem dL_law_209 : decode cL_law 209 = .ok (.invokestatic 96, 3) := by decide +kernel
theorem dL_law_212 : decode cL_law 212 = .ok (.iadd, 1) := by decide +kernel
theorem dL_law_213 : decode cL_law 213 = .ok (.istore 13, 2) := by decide +kernel
theorem dL_law_215 : decode cL_law 215 = .ok (.iinc 14 (-1), 3) := by decide +kernel
theorem dL_law_218 : decode cL_law 218 = .ok (.goto (-114), 3) := by decide +kernel
theorem dL_law_221 : decode cL_law 221 = .ok (.aload_n 1, 1) := by decide +kernel
theorem dL_law_222 : decode cL_law 222 = .ok (.iload 6, 2) := by decide +kernel
theorem dL_law_224 : decode cL_law 224 = .ok (.iload 4, 2) := by decide +kernel
theorem dL_law_226 : decode cL_law 226 = .ok (.iconst 0, 1) := by decide +kernel
theorem dL_law_227 : decode cL_law 227 = .ok (.invokevirtual 130, 3) := by decide +kernel
theorem dL_law_230 : decode cL_law 230 = .ok (.lload 7, 2) := by decide +kernel
theorem dL_law_232 : decode cL_law 232 = .ok (.lcmp, 1) := by decide +kernel
theorem dL_law_233 : decode cL_law 233 = .ok (.ifCond .ne 78, 3) := by decide +kernel
theorem dL_law_236 : decode cL_law 236 = .ok (.aload_n 1, 1) := by decide +kernel
theorem dL_law_237 : decode cL_law 237 = .ok (.iload 6, 2) := by decide +kernel
theorem dL_law_239 : decode cL_law 239 = .ok (.iload 4, 2) := by decide +kernel
theorem dL_law_241 : decode cL_law 241 = .ok (.iconst 1, 1) := by decide +kernel
theorem dL_law_242 : decode cL_law 242 = .ok (.invokevirtual 130, 3) := by decide +kernel
theorem dL_law_245 : decode cL_law 245 = .ok (.lload 9, 2) := by decide +kernel
theorem dL_law_247 : decode cL_law 247 = .ok (.lcmp, 1) := by decide +kernel
theorem dL_law_248 : decode cL_law 248 = .ok (.ifCond .ne 63, 3) := by decide +kernel
theorem dL_law_251 : decode cL_law 251 = .ok (.aload_n 1, 1) := by decide +kernel
theorem dL_law_252 : decode cL_law 252 = .ok (.iload 6, 2) := by decide +kernel
theorem dL_law_254 : decode cL_law 254 = .ok (.iload 4, 2) := by decide +kernel
theorem dL_law_256 : decode cL_law 256 = .ok (.iconst 0, 1) := by decide +kernel
theorem dL_law_257 : decode cL_law 257 = .ok (.invokevirtual 134, 3) := by decide +kernel
theorem dL_law_260 : decode cL_law 260 = .ok (.i2l, 1) := by decide +kernel
theorem dL_law_261 : decode cL_law 261 = .ok (.aload_n 2, 1) := by decide +kernel
theorem dL_law_262 : decode cL_law 262 = .ok (.bipush 48, 2) := by decide +kernel
theorem dL_law_264 : decode cL_law 264 = .ok (.laload, 1) := by decide +kernel
theorem dL_law_265 : decode cL_law 265 = .ok (.lcmp, 1) := by decide +kernel
theorem dL_law_266 : decode cL_law 266 = .ok (.ifCond .ne 45, 3) := by decide +kernel
theorem dL_law_269 : decode cL_law 269 = .ok (.aload_n 1, 1) := by decide +kernel
theorem dL_law_270 : decode cL_law 270 = .ok (.iload 6, 2) := by decide +kernel
theorem dL_law_272 : decode cL_law 272 = .ok (.iload 4, 2) := by decide +kernel
theorem dL_law_274 : decode cL_law 274 = .ok (.iconst 1, 1) := by decide +kernel
theorem dL_law_275 : decode cL_law 275 = .ok (.invokevirtual 134, 3) := by decide +kernel
theorem dL_law_278 : decode cL_law 278 = .ok (.iload 11, 2) := by decide +kernel
theorem dL_law_280 : decode cL_law 280 = .ok (.if_icmp .ne 31, 3) := by decide +kernel
theorem dL_law_283 : decode cL_law 283 = .ok (.aload_n 1, 1) := by decide +kernel
theorem dL_law_284 : decode cL_law 284 = .ok (.iload 6, 2) := by decide +kernel
theorem dL_law_286 : decode cL_law 286 = .ok (.iload 4, 2) := by decide +kernel
theorem dL_law_288 : decode cL_law 288 = .ok (.iconst 2, 1) := by decide +kernel
theorem dL_law_289 : decode cL_law 289 = .ok (.invokevirtual 134, 3) := by decide +kernel
theorem dL_law_292 : decode cL_law 292 = .ok (.iload 12, 2) := by decide +kernel
theorem dL_law_294 : decode cL_law 294 = .ok (.if_icmp .ne 17, 3) := by decide +kernel
theorem dL_law_297 : decode cL_law 297 = .ok (.aload_n 1, 1) := by decide +kernel
theorem dL_law_298 : decode cL_law 298 = .ok (.iload 6, 2) := by decide +kernel
theorem dL_law_300 : decode cL_law 300 = .ok (.iload 4, 2) := by decide +kernel
theorem dL_law_302 : decode cL_law 302 = .ok (.iconst 3, 1) := by decide +kernel
theorem dL_law_303 : decode cL_law 303 = .ok (.invokevirtual 134, 3) := by decide +kernel
theorem dL_law_306 : decode cL_law 306 = .ok (.iload 13, 2) := by decide +kernel
theorem dL_law_308 : decode cL_law 308 = .ok (.if_icmp .eq 5, 3) := by decide +kernel
theorem dL_law_311 : decode cL_law 311 = .ok (.iconst 0, 1) := by decide +kernel
theorem dL_law_312 : decode cL_law 312 = .ok (.ireturn, 1) := by decide +kernel
theorem dL_law_313 : decode cL_law 313 = .ok (.iload 11, 2) := by decide +kernel
theorem dL_law_315 : decode cL_law 315 = .ok (.ifCond .ge 7, 3) := by decide +kernel
theorem dL_law_318 : decode cL_law 318 = .ok (.iconst 0, 1) := by decide +kernel
theorem dL_law_319 : decode cL_law 319 = .ok (.goto 11, 3) := by decide +kernel
theorem dL_law_322 : decode cL_law 322 = .ok (.bipush 24, 2) := by decide +kernel
theorem dL_law_324 : decode cL_law 324 = .ok (.bipush 8, 2) := by decide +kernel
theorem dL_law_326 : decode cL_law 326 = .ok (.iload 11, 2) := by decide +kernel
theorem dL_law_328 : decode cL_law 328 = .ok (.isub, 1) := by decide +kernel
theorem dL_law_329 : decode cL_law 329 = .ok (.imul, 1) := by decide +kernel
theorem dL_law_330 : decode cL_law 330 = .ok (.istore 14, 2) := by decide +kernel
theorem dL_law_332 : decode cL_law 332 = .ok (.aload_n 2, 1) := by decide +kernel
theorem dL_law_333 : decode cL_law 333 = .ok (.bipush 48, 2) := by decide +kernel
theorem dL_law_335 : decode cL_law 335 = .ok (.laload, 1) := by decide +kernel
theorem dL_law_336 : decode cL_law 336 = .ok (.lconst 0, 1) := by decide +kernel
theorem dL_law_337 : decode cL_law 337 = .ok (.lcmp, 1) := by decide +kernel
theorem dL_law_338 : decode cL_law 338 = .ok (.ifCond .ne 7, 3) := by decide +kernel
theorem dL_law_341 : decode cL_law 341 = .ok (.iconst (-1), 1) := by decide +kernel
theorem dL_law_342 : decode cL_law 342 = .ok (.goto 49, 3) := by decide +kernel
theorem dL_law_345 : decode cL_law 345 = .ok (.iload 12, 2) := by decide +kernel
theorem dL_law_347 : decode cL_law 347 = .ok (.iload 14, 2) := by decide +kernel
theorem dL_law_349 : decode cL_law 349 = .ok (.if_icmp .gt 22, 3) := by decide +kernel
theorem dL_law_352 : decode cL_law 352 = .ok (.iload 12, 2) := by decide +kernel
theorem dL_law_354 : decode cL_law 354 = .ok (.i2l, 1) := by decide +kernel
theorem dL_law_355 : decode cL_law 355 = .ok (.ldc2_w 136, 3) := by decide +kernel
theorem dL_law_358 : decode cL_law 358 = .ok (.aload_n 2, 1) := by decide +kernel
theorem dL_law_359 : decode cL_law 359 = .ok (.bipush 48, 2) := by decide +kernel
theorem dL_law_361 : decode cL_law 361 = .ok (.laload, 1) := by decide +kernel
theorem dL_law_362 : decode cL_law 362 = .ok (.ladd, 1) := by decide +kernel
theorem dL_law_363 : decode cL_law 363 = .ok (.lcmp, 1) := by decide +kernel
theorem dL_law_364 : decode cL_law 364 = .ok (.ifCond .gt 7, 3) := by decide +kernel
theorem dL_law_367 : decode cL_law 367 = .ok (.iconst 0, 1) := by decide +kernel
theorem dL_law_368 : decode cL_law 368 = .ok (.goto 23, 3) := by decide +kernel
theorem dL_law_371 : decode cL_law 371 = .ok (.iload 14, 2) := by decide +kernel
theorem dL_law_373 : decode cL_law 373 = .ok (.i2l, 1) := by decide +kernel
theorem dL_law_374 : decode cL_law 374 = .ok (.ldc2_w 136, 3) := by decide +kernel
theorem dL_law_377 : decode cL_law 377 = .ok (.aload_n 2, 1) := by decide +kernel
theorem dL_law_378 : decode cL_law 378 = .ok (.bipush 48, 2) := by decide +kernel
theorem dL_law_380 : decode cL_law 380 = .ok (.laload, 1) := by decide +kernel
theorem dL_law_381 : decode cL_law 381 = .ok (.ladd, 1) := by decide +kernel
theorem dL_law_382 : decode cL_law 382 = .ok (.lcmp, 1) := by decide +kernel
theorem dL_law_383 : decode cL_law 383 = .ok (.ifCond .gt 7, 3) := by decide +kernel
theorem dL_law_386 : decode cL_law 386 = .ok (.iconst 1, 1) := by decide +kernel
theorem dL_law_387 : decode cL_law 387 = .ok (.goto 4, 3) := by decide +kernel
theorem dL_law_390 : decode cL_law 390 = .ok (.iconst 2, 1) := by decide +kernel
theorem dL_law_391 : decode cL_law 391 = .ok (.istore 15, 2) := by decide +kernel
theorem dL_law_393 : decode cL_law 393 = .ok (.aload_n 1, 1) := by decide +kernel
theorem dL_law_394 : decode cL_law 394 = .ok (.iload 6, 2) := by decide +kernel
theorem dL_law_396 : decode cL_law 396 = .ok (.iload 4, 2) := by decide +kernel
theorem dL_law_398 : decode cL_law 398 = .ok (.iconst 0, 1) := by decide +kernel
theorem dL_law_399 : decode cL_law 399 = .ok (.invokevirtual 138, 3) := by decide +kernel
theorem dL_law_402 : decode cL_law 402 = .ok (.iload 15, 2) := by decide +kernel
theorem dL_law_404 : decode cL_law 404 = .ok (.if_icmp .ne 53, 3) := by decide +kernel
theorem dL_law_407 : decode cL_law 407 = .ok (.aload_n 1, 1) := by decide +kernel
theorem dL_law_408 : decode cL_law 408 = .ok (.iload 6, 2) := by decide +kernel
theorem dL_law_410 : decode cL_law 410 = .ok (.iload 4, 2) := by decide +kernel
theorem dL_law_412 : decode cL_law 412 = .ok (.iconst 1, 1) := by decide +kernel
theorem dL_law_413 : decode cL_law 413 = .ok (.invokevirtual 138, 3) := by decide +kernel
theorem dL_law_416 : decode cL_law 416 = .ok (.iload 15, 2) := by decide +kernel
theorem dL_law_418 : decode cL_law 418 = .ok (.ifCond .ge 7, 3) := by decide +kernel
theorem dL_law_421 : decode cL_law 421 = .ok (.iconst 0, 1) := by decide +kernel
theorem dL_law_422 : decode cL_law 422 = .ok (.goto 32, 3) := by decide +kernel
theorem dL_law_425 : decode cL_law 425 = .ok (.iload 15, 2) := by decide +kernel
theorem dL_law_427 : decode cL_law 427 = .ok (.ifCond .ne 8, 3) := by decide +kernel
theorem dL_law_430 : decode cL_law 430 = .ok (.iload 12, 2) := by decide +kernel
theorem dL_law_432 : decode cL_law 432 = .ok (.goto 22, 3) := by decide +kernel
theorem dL_law_435 : decode cL_law 435 = .ok (.iload 15, 2) := by decide +kernel
theorem dL_law_437 : decode cL_law 437 = .ok (.iconst 1, 1) := by decide +kernel
theorem dL_law_438 : decode cL_law 438 = .ok (.if_icmp .ne 8, 3) := by decide +kernel
theorem dL_law_441 : decode cL_law 441 = .ok (.iload 14, 2) := by decide +kernel
theorem dL_law_443 : decode cL_law 443 = .ok (.goto 11, 3) := by decide +kernel
theorem dL_law_446 : decode cL_law 446 = .ok (.bipush 50, 2) := by decide +kernel
theorem dL_law_448 : decode cL_law 448 = .ok (.aload_n 2, 1) := by decide +kernel
theorem dL_law_449 : decode cL_law 449 = .ok (.bipush 48, 2) := by decide +kernel
theorem dL_law_451 : decode cL_law 451 = .ok (.laload, 1) := by decide +kernel
theorem dL_law_452 : decode cL_law 452 = .ok (.l2i, 1) := by decide +kernel
theorem dL_law_453 : decode cL_law 453 = .ok (.iadd, 1) := by decide +kernel
theorem dL_law_454 : decode cL_law 454 = .ok (.if_icmp .eq 5, 3) := by decide +kernel
theorem dL_law_457 : decode cL_law 457 = .ok (.iconst 0, 1) := by decide +kernel
theorem dL_law_458 : decode cL_law 458 = .ok (.ireturn, 1) := by decide +kernel
theorem dL_law_459 : decode cL_law 459 = .ok (.iinc 5 1, 3) := by decide +kernel
theorem dL_law_462 : decode cL_law 462 = .ok (.goto (-419), 3) := by decide +kernel
theorem dL_law_465 : decode cL_law 465 = .ok (.aload_n 0, 1) := by decide +kernel
theorem dL_law_466 : decode cL_law 466 = .ok (.bipush 9, 2) := by decide +kernel
theorem dL_law_468 : decode cL_law 468 = .ok (.invokestatic 58, 3) := by decide +kernel
theorem dL_law_471 : decode cL_law 471 = .ok (.bipush 13, 2) := by decide +kernel
theorem dL_law_473 : decode cL_law 473 = .ok (.ishr, 1) := by decide +kernel
theorem dL_law_474 : decode cL_law 474 = .ok (.bipush 7, 2) := by decide +kernel
theorem dL_law_476 : decode cL_law 476 = .ok (.iand, 1) := by decide +kernel
theorem dL_law_477 : decode cL_law 477 = .ok (.bipush 6, 2) := by decide +kernel
theorem dL_law_479 : decode cL_law 479 = .ok (.irem, 1) := by decide +kernel
theorem dL_law_480 : decode cL_law 480 = .ok (.istore 5, 2) := by decide +kernel
theorem dL_law_482 : decode cL_law 482 = .ok (.lconst 0, 1) := by decide +kernel
theorem dL_law_483 : decode cL_law 483 = .ok (.lstore 6, 2) := by decide +kernel
theorem dL_law_485 : decode cL_law 485 = .ok (.iconst 0, 1) := by decide +kernel
theorem dL_law_486 : decode cL_law 486 = .ok (.istore 8, 2) := by decide +kernel
theorem dL_law_488 : decode cL_law 488 = .ok (.iload 8, 2) := by decide +kernel
theorem dL_law_490 : decode cL_law 490 = .ok (.bipush 8, 2) := by decide +kernel
theorem dL_law_492 : decode cL_law 492 = .ok (.if_icmp .ge 24, 3) := by decide +kernel
theorem dL_law_495 : decode cL_law 495 = .ok (.lload 6, 2) := by decide +kernel
theorem dL_law_497 : decode cL_law 497 = .ok (.lconst 1, 1) := by decide +kernel
theorem dL_law_498 : decode cL_law 498 = .ok (.bipush 6, 2) := by decide +kernel
theorem dL_law_500 : decode cL_law 500 = .ok (.iload 8, 2) := by decide +kernel
theorem dL_law_502 : decode cL_law 502 = .ok (.imul, 1) := by decide +kernel
theorem dL_law_503 : decode cL_law 503 = .ok (.iload 5, 2) := by decide +kernel
theorem dL_law_505 : decode cL_law 505 = .ok (.iadd, 1) := by decide +kernel
theorem dL_law_506 : decode cL_law 506 = .ok (.lshl, 1) := by decide +kernel
theorem dL_law_507 : decode cL_law 507 = .ok (.lor, 1) := by decide +kernel
theorem dL_law_508 : decode cL_law 508 = .ok (.lstore 6, 2) := by decide +kernel
theorem dL_law_510 : decode cL_law 510 = .ok (.iinc 8 1, 3) := by decide +kernel
theorem dL_law_513 : decode cL_law 513 = .ok (.goto (-25), 3) := by decide +kernel
theorem dL_law_516 : decode cL_law 516 = .ok (.aload_n 0, 1) := by decide +kernel
theorem dL_law_517 : decode cL_law 517 = .ok (.aload_n 2, 1) := by decide +kernel
theorem dL_law_518 : decode cL_law 518 = .ok (.lload 6, 2) := by decide +kernel
theorem dL_law_520 : decode cL_law 520 = .ok (.iload 4, 2) := by decide +kernel
theorem dL_law_522 : decode cL_law 522 = .ok (.lconst 0, 1) := by decide +kernel
theorem dL_law_523 : decode cL_law 523 = .ok (.invokestatic 123, 3) := by decide +kernel
theorem dL_law_526 : decode cL_law 526 = .ok (.iconst 0, 1) := by decide +kernel
theorem dL_law_527 : decode cL_law 527 = .ok (.istore 8, 2) := by decide +kernel
theorem dL_law_529 : decode cL_law 529 = .ok (.iconst 0, 1) := by decide +kernel
theorem dL_law_530 : decode cL_law 530 = .ok (.istore 9, 2) := by decide +kernel
theorem dL_law_532 : decode cL_law 532 = .ok (.iload 9, 2) := by decide +kernel
theorem dL_law_534 : decode cL_law 534 = .ok (.bipush 48, 2) := by decide +kernel
theorem dL_law_536 : decode cL_law 536 = .ok (.if_icmp .ge 38, 3) := by decide +kernel
theorem dL_law_539 : decode cL_law 539 = .ok (.iload 8, 2) := by decide +kernel
theorem dL_law_541 : decode cL_law 541 = .ok (.iload 9, 2) := by decide +kernel
theorem dL_law_543 : decode cL_law 543 = .ok (.bipush 6, 2) := by decide +kernel
theorem dL_law_545 : decode cL_law 545 = .ok (.irem, 1) := by decide +kernel
theorem dL_law_546 : decode cL_law 546 = .ok (.iload 5, 2) := by decide +kernel
theorem dL_law_548 : decode cL_law 548 = .ok (.if_icmp .eq 16, 3) := by decide +kernel
theorem dL_law_551 : decode cL_law 551 = .ok (.aload_n 2, 1) := by decide +kernel
theorem dL_law_552 : decode cL_law 552 = .ok (.iload 9, 2) := by decide +kernel
theorem dL_law_554 : decode cL_law 554 = .ok (.laload, 1) := by decide +kernel
theorem dL_law_555 : decode cL_law 555 = .ok (.lconst 0, 1) := by decide +kernel
theorem dL_law_556 : decode cL_law 556 = .ok (.lcmp, 1) := by decide +kernel
theorem dL_law_557 : decode cL_law 557 = .ok (.ifCond .lt 7, 3) := by decide +kernel
theorem dL_law_560 : decode cL_law 560 = .ok (.iconst 1, 1) := by decide +kernel
theorem dL_law_561 : decode cL_law 561 = .ok (.goto 4, 3) := by decide +kernel
theorem dL_law_564 : decode cL_law 564 = .ok (.iconst 0, 1) := by decide +kernel
theorem dL_law_565 : decode cL_law 565 = .ok (.iadd, 1) := by decide +kernel
theorem dL_law_566 : decode cL_law 566 = .ok (.istore 8, 2) := by decide +kernel
theorem dL_law_568 : decode cL_law 568 = .ok (.iinc 9 1, 3) := by decide +kernel
theorem dL_law_571 : decode cL_law 571 = .ok (.goto (-39), 3) := by decide +kernel
theorem dL_law_574 : decode cL_law 574 = .ok (.aload_n 1, 1) := by decide +kernel
theorem dL_law_575 : decode cL_law 575 = .ok (.iload 5, 2) := by decide +kernel
theorem dL_law_577 : decode cL_law 577 = .ok (.iload 4, 2) := by decide +kernel
theorem dL_law_579 : decode cL_law 579 = .ok (.iconst 0, 1) := by decide +kernel
theorem dL_law_580 : decode cL_law 580 = .ok (.invokevirtual 141, 3) := by decide +kernel
theorem dL_law_583 : decode cL_law 583 = .ok (.i2l, 1) := by decide +kernel
theorem dL_law_584 : decode cL_law 584 = .ok (.aload_n 2, 1) := by decide +kernel
theorem dL_law_585 : decode cL_law 585 = .ok (.bipush 48, 2) := by decide +kernel
theorem dL_law_587 : decode cL_law 587 = .ok (.laload, 1) := by decide +kernel
theorem dL_law_588 : decode cL_law 588 = .ok (.lcmp, 1) := by decide +kernel
theorem dL_law_589 : decode cL_law 589 = .ok (.ifCond .ne 17, 3) := by decide +kernel
theorem dL_law_592 : decode cL_law 592 = .ok (.aload_n 1, 1) := by decide +kernel
theorem dL_law_593 : decode cL_law 593 = .ok (.iload 5, 2) := by decide +kernel
theorem dL_law_595 : decode cL_law 595 = .ok (.iload 4, 2) := by decide +kernel
theorem dL_law_597 : decode cL_law 597 = .ok (.iconst 1, 1) := by decide +kernel
theorem dL_law_598 : decode cL_law 598 = .ok (.invokevirtual 141, 3) := by decide +kernel
theorem dL_law_601 : decode cL_law 601 = .ok (.iload 8, 2) := by decide +kernel
theorem dL_law_603 : decode cL_law 603 = .ok (.if_icmp .eq 5, 3) := by decide +kernel
theorem dL_law_606 : decode cL_law 606 = .ok (.iconst 0, 1) := by decide +kernel
theorem dL_law_607 : decode cL_law 607 = .ok (.ireturn, 1) := by decide +kernel
theorem dL_law_608 : decode cL_law 608 = .ok (.aload_n 1, 1) := by decide +kernel
theorem dL_law_609 : decode cL_law 609 = .ok (.iload_n 3, 1) := by decide +kernel
theorem dL_law_610 : decode cL_law 610 = .ok (.iload 4, 2) := by decide +kernel
theorem dL_law_612 : decode cL_law 612 = .ok (.iconst 2, 1) := by decide +kernel
theorem dL_law_613 : decode cL_law 613 = .ok (.iconst 0, 1) := by decide +kernel
theorem dL_law_614 : decode cL_law 614 = .ok (.invokevirtual 144, 3) := by decide +kernel
theorem dL_law_617 : decode cL_law 617 = .ok (.istore 9, 2) := by decide +kernel
theorem dL_law_619 : decode cL_law 619 = .ok (.iload 9, 2) := by decide +kernel
theorem dL_law_621 : decode cL_law 621 = .ok (.ifCond .le 89, 3) := by decide +kernel
theorem dL_law_624 : decode cL_law 624 = .ok (.aload_n 1, 1) := by decide +kernel
theorem dL_law_625 : decode cL_law 625 = .ok (.iload_n 3, 1) := by decide +kernel
theorem dL_law_626 : decode cL_law 626 = .ok (.iload 4, 2) := by decide +kernel
theorem dL_law_628 : decode cL_law 628 = .ok (.iconst 2, 1) := by decide +kernel
theorem dL_law_629 : decode cL_law 629 = .ok (.iconst 1, 1) := by decide +kernel
theorem dL_law_630 : decode cL_law 630 = .ok (.invokevirtual 144, 3) := by decide +kernel
theorem dL_law_633 : decode cL_law 633 = .ok (.istore 10, 2) := by decide +kernel
theorem dL_law_635 : decode cL_law 635 = .ok (.aload_n 1, 1) := by decide +kernel
theorem dL_law_636 : decode cL_law 636 = .ok (.iload_n 3, 1) := by decide +kernel
theorem dL_law_637 : decode cL_law 637 = .ok (.iload 4, 2) := by decide +kernel
theorem dL_law_639 : decode cL_law 639 = .ok (.iconst 2, 1) := by decide +kernel
theorem dL_law_640 : decode cL_law 640 = .ok (.iconst 2, 1) := by decide +kernel
theorem dL_law_641 : decode cL_law 641 = .ok (.invokevirtual 144, 3) := by decide +kernel
theorem dL_law_644 : decode cL_law 644 = .ok (.istore 11, 2) := by decide +kernel
theorem dL_law_646 : decode cL_law 646 = .ok (.aload_n 1, 1) := by decide +kernel
theorem dL_law_647 : decode cL_law 647 = .ok (.iload 10, 2) := by decide +kernel
theorem dL_law_649 : decode cL_law 649 = .ok (.iconst 1, 1) := by decide +kernel
theorem dL_law_650 : decode cL_law 650 = .ok (.invokevirtual 41, 3) := by decide +kernel
theorem dL_law_653 : decode cL_law 653 = .ok (.istore 12, 2) := by decide +kernel
theorem dL_law_655 : decode cL_law 655 = .ok (.iload 11, 2) := by decide +kernel
theorem dL_law_657 : decode cL_law 657 = .ok (.ifCond .ge 7, 3) := by decide +kernel
theorem dL_law_660 : decode cL_law 660 = .ok (.iconst 0, 1) := by decide +kernel
theorem dL_law_661 : decode cL_law 661 = .ok (.goto 10, 3) := by decide +kernel
theorem dL_law_664 : decode cL_law 664 = .ok (.aload_n 1, 1) := by decide +kernel
theorem dL_law_665 : decode cL_law 665 = .ok (.iload 11, 2) := by decide +kernel
theorem dL_law_667 : decode cL_law 667 = .ok (.iconst 1, 1) := by decide +kernel
theorem dL_law_668 : decode cL_law 668 = .ok (.invokevirtual 41, 3) := by decide +kernel
theorem dL_law_671 : decode cL_law 671 = .ok (.istore 13, 2) := by decide +kernel
theorem dL_law_673 : decode cL_law 673 = .ok (.aload_n 1, 1) := by decide +kernel
theorem dL_law_674 : decode cL_law 674 = .ok (.iload_n 3, 1) := by decide +kernel
theorem dL_law_675 : decode cL_law 675 = .ok (.iload 4, 2) := by decide +kernel
theorem dL_law_677 : decode cL_law 677 = .ok (.iconst 0, 1) := by decide +kernel
theorem dL_law_678 : decode cL_law 678 = .ok (.invokevirtual 134, 3) := by decide +kernel
theorem dL_law_681 : decode cL_law 681 = .ok (.iconst 2, 1) := by decide +kernel
theorem dL_law_682 : decode cL_law 682 = .ok (.if_icmp .le 5, 3) := by decide +kernel
theorem dL_law_685 : decode cL_law 685 = .ok (.iconst 0, 1) := by decide +kernel
theorem dL_law_686 : decode cL_law 686 = .ok (.ireturn, 1) := by decide +kernel
theorem dL_law_687 : decode cL_law 687 = .ok (.iload 11, 2) := by decide +kernel
theorem dL_law_689 : decode cL_law 689 = .ok (.ifCond .lt 12, 3) := by decide +kernel
theorem dL_law_692 : decode cL_law 692 = .ok (.aload_n 1, 1) := by decide +kernel
theorem dL_law_693 : decode cL_law 693 = .ok (.iload 11, 2) := by decide +kernel
theorem dL_law_695 : decode cL_law 695 = .ok (.iload 13, 2) := by decide +kernel
theorem dL_law_697 : decode cL_law 697 = .ok (.invokevirtual 41, 3) := by decide +kernel
theorem dL_law_700 : decode cL_law 700 = .ok (.pop, 1) := by decide +kernel
theorem dL_law_701 : decode cL_law 701 = .ok (.aload_n 1, 1) := by decide +kernel
theorem dL_law_702 : decode cL_law 702 = .ok (.iload 10, 2) := by decide +kernel
theorem dL_law_704 : decode cL_law 704 = .ok (.iload 12, 2) := by decide +kernel
theorem dL_law_706 : decode cL_law 706 = .ok (.invokevirtual 41, 3) := by decide +kernel
theorem dL_law_709 : decode cL_law 709 = .ok (.pop, 1) := by decide +kernel
theorem dL_law_710 : decode cL_law 710 = .ok (.aload_n 1, 1) := by decide +kernel
theorem dL_law_711 : decode cL_law 711 = .ok (.bipush 48, 2) := by decide +kernel
theorem dL_law_713 : decode cL_law 713 = .ok (.iconst 0, 1) := by decide +kernel
theorem dL_law_714 : decode cL_law 714 = .ok (.iconst 0, 1) := by decide +kernel
theorem dL_law_715 : decode cL_law 715 = .ok (.invokevirtual 134, 3) := by decide +kernel
theorem dL_law_718 : decode cL_law 718 = .ok (.bipush (-5), 2) := by decide +kernel
theorem dL_law_720 : decode cL_law 720 = .ok (.if_icmp .ne 164, 3) := by decide +kernel
theorem dL_law_723 : decode cL_law 723 = .ok (.aload_n 1, 1) := by decide +kernel
theorem dL_law_724 : decode cL_law 724 = .ok (.iconst 0, 1) := by decide +kernel
theorem dL_law_725 : decode cL_law 725 = .ok (.bipush 100, 2) := by decide +kernel
theorem dL_law_727 : decode cL_law 727 = .ok (.iconst 0, 1) := by decide +kernel
theorem dL_law_728 : decode cL_law 728 = .ok (.invokevirtual 134, 3) := by decide +kernel
theorem dL_law_731 : decode cL_law 731 = .ok (.bipush (-7), 2) := by decide +kernel
theorem dL_law_733 : decode cL_law 733 = .ok (.if_icmp .ne 151, 3) := by decide +kernel
theorem dL_law_736 : decode cL_law 736 = .ok (.aload_n 1, 1) := by decide +kernel
theorem dL_law_737 : decode cL_law 737 = .ok (.iconst 0, 1) := by decide +kernel
theorem dL_law_738 : decode cL_law 738 = .ok (.iconst 0, 1) := by decide +kernel
theorem dL_law_739 : decode cL_law 739 = .ok (.iconst 4, 1) := by decide +kernel
theorem dL_law_740 : decode cL_law 740 = .ok (.invokevirtual 134, 3) := by decide +kernel
theorem dL_law_743 : decode cL_law 743 = .ok (.bipush (-7), 2) := by decide +kernel
theorem dL_law_745 : decode cL_law 745 = .ok (.if_icmp .ne 139, 3) := by decide +kernel
theorem dL_law_748 : decode cL_law 748 = .ok (.aload_n 1, 1) := by decide +kernel
theorem dL_law_749 : decode cL_law 749 = .ok (.bipush 48, 2) := by decide +kernel
theorem dL_law_751 : decode cL_law 751 = .ok (.iconst 0, 1) := by decide +kernel
theorem dL_law_752 : decode cL_law 752 = .ok (.iconst 0, 1) := by decide +kernel
theorem dL_law_753 : decode cL_law 753 = .ok (.invokevirtual 130, 3) := by decide +kernel
theorem dL_law_756 : decode cL_law 756 = .ok (.ldc2_w 147, 3) := by decide +kernel
theorem dL_law_759 : decode cL_law 759 = .ok (.lcmp, 1) := by decide +kernel
theorem dL_law_760 : decode cL_law 760 = .ok (.ifCond .ne 124, 3) := by decide +kernel
theorem dL_law_763 : decode cL_law 763 = .ok (.aload_n 1, 1) := by decide +kernel
theorem dL_law_764 : decode cL_law 764 = .ok (.iconst 0, 1) := by decide +kernel
theorem dL_law_765 : decode cL_law 765 = .ok (.iconst (-1), 1) := by decide +kernel
theorem dL_law_766 : decode cL_law 766 = .ok (.iconst 0, 1) := by decide +kernel
theorem dL_law_767 : decode cL_law 767 = .ok (.invokevirtual 130, 3) := by decide +kernel
theorem dL_law_770 : decode cL_law 770 = .ok (.ldc2_w 147, 3) := by decide +kernel
theorem dL_law_773 : decode cL_law 773 = .ok (.lcmp, 1) := by decide +kernel
theorem dL_law_774 : decode cL_law 774 = .ok (.ifCond .ne 110, 3) := by decide +kernel
theorem dL_law_777 : decode cL_law 777 = .ok (.aload_n 1, 1) := by decide +kernel
theorem dL_law_778 : decode cL_law 778 = .ok (.iconst 0, 1) := by decide +kernel
theorem dL_law_779 : decode cL_law 779 = .ok (.iconst 0, 1) := by decide +kernel
theorem dL_law_780 : decode cL_law 780 = .ok (.iconst 2, 1) := by decide +kernel
theorem dL_law_781 : decode cL_law 781 = .ok (.invokevirtual 130, 3) := by decide +kernel
theorem dL_law_784 : decode cL_law 784 = .ok (.ldc2_w 147, 3) := by decide +kernel
theorem dL_law_787 : decode cL_law 787 = .ok (.lcmp, 1) := by decide +kernel
theorem dL_law_788 : decode cL_law 788 = .ok (.ifCond .ne 96, 3) := by decide +kernel
theorem dL_law_791 : decode cL_law 791 = .ok (.aload_n 1, 1) := by decide +kernel
theorem dL_law_792 : decode cL_law 792 = .ok (.iconst 0, 1) := by decide +kernel
theorem dL_law_793 : decode cL_law 793 = .ok (.iconst 0, 1) := by decide +kernel
theorem dL_law_794 : decode cL_law 794 = .ok (.bipush 48, 2) := by decide +kernel
theorem dL_law_796 : decode cL_law 796 = .ok (.invokevirtual 127, 3) := by decide +kernel
theorem dL_law_799 : decode cL_law 799 = .ok (.bipush (-5), 2) := by decide +kernel
theorem dL_law_801 : decode cL_law 801 = .ok (.if_icmp .ne 83, 3) := by decide +kernel
theorem dL_law_804 : decode cL_law 804 = .ok (.aload_n 1, 1) := by decide +kernel
theorem dL_law_805 : decode cL_law 805 = .ok (.iconst 0, 1) := by decide +kernel
theorem dL_law_806 : decode cL_law 806 = .ok (.bipush 100, 2) := by decide +kernel
theorem dL_law_808 : decode cL_law 808 = .ok (.iconst 0, 1) := by decide +kernel
theorem dL_law_809 : decode cL_law 809 = .ok (.invokevirtual 127, 3) := by decide +kernel
theorem dL_law_812 : decode cL_law 812 = .ok (.bipush (-7), 2) := by decide +kernel
theorem dL_law_814 : decode cL_law 814 = .ok (.if_icmp .ne 70, 3) := by decide +kernel
theorem dL_law_817 : decode cL_law 817 = .ok (.aload_n 1, 1) := by decide +kernel
theorem dL_law_818 : decode cL_law 818 = .ok (.bipush 6, 2) := by decide +kernel
theorem dL_law_820 : decode cL_law 820 = .ok (.iconst 0, 1) := by decide +kernel
theorem dL_law_821 : decode cL_law 821 = .ok (.iconst 0, 1) := by decide +kernel
theorem dL_law_822 : decode cL_law 822 = .ok (.invokevirtual 141, 3) := by decide +kernel
theorem dL_law_825 : decode cL_law 825 = .ok (.bipush (-5), 2) := by decide +kernel
theorem dL_law_827 : decode cL_law 827 = .ok (.if_icmp .ne 57, 3) := by decide +kernel
theorem dL_law_830 : decode cL_law 830 = .ok (.aload_n 1, 1) := by decide +kernel
theorem dL_law_831 : decode cL_law 831 = .ok (.iconst 0, 1) := by decide +kernel
theorem dL_law_832 : decode cL_law 832 = .ok (.bipush 100, 2) := by decide +kernel
theorem dL_law_834 : decode cL_law 834 = .ok (.iconst 0, 1) := by decide +kernel
theorem dL_law_835 : decode cL_law 835 = .ok (.invokevirtual 141, 3) := by decide +kernel
theorem dL_law_838 : decode cL_law 838 = .ok (.bipush (-7), 2) := by decide +kernel
theorem dL_law_840 : decode cL_law 840 = .ok (.if_icmp .ne 44, 3) := by decide +kernel
theorem dL_law_843 : decode cL_law 843 = .ok (.aload_n 1, 1) := by decide +kernel
theorem dL_law_844 : decode cL_law 844 = .ok (.iconst 0, 1) := by decide +kernel
theorem dL_law_845 : decode cL_law 845 = .ok (.iconst 0, 1) := by decide +kernel
theorem dL_law_846 : decode cL_law 846 = .ok (.iconst 2, 1) := by decide +kernel
theorem dL_law_847 : decode cL_law 847 = .ok (.invokevirtual 141, 3) := by decide +kernel
theorem dL_law_850 : decode cL_law 850 = .ok (.bipush (-7), 2) := by decide +kernel
theorem dL_law_852 : decode cL_law 852 = .ok (.if_icmp .ne 32, 3) := by decide +kernel
theorem dL_law_855 : decode cL_law 855 = .ok (.aload_n 1, 1) := by decide +kernel
theorem dL_law_856 : decode cL_law 856 = .ok (.bipush 48, 2) := by decide +kernel
theorem dL_law_858 : decode cL_law 858 = .ok (.iconst 0, 1) := by decide +kernel
theorem dL_law_859 : decode cL_law 859 = .ok (.iconst 0, 1) := by decide +kernel
theorem dL_law_860 : decode cL_law 860 = .ok (.invokevirtual 138, 3) := by decide +kernel
theorem dL_law_863 : decode cL_law 863 = .ok (.bipush (-5), 2) := by decide +kernel
theorem dL_law_865 : decode cL_law 865 = .ok (.if_icmp .ne 19, 3) := by decide +kernel
theorem dL_law_868 : decode cL_law 868 = .ok (.aload_n 1, 1) := by decide +kernel
theorem dL_law_869 : decode cL_law 869 = .ok (.iconst 0, 1) := by decide +kernel
theorem dL_law_870 : decode cL_law 870 = .ok (.iconst 0, 1) := by decide +kernel
theorem dL_law_871 : decode cL_law 871 = .ok (.iconst 2, 1) := by decide +kernel
theorem dL_law_872 : decode cL_law 872 = .ok (.invokevirtual 138, 3) := by decide +kernel
theorem dL_law_875 : decode cL_law 875 = .ok (.bipush (-7), 2) := by decide +kernel
theorem dL_law_877 : decode cL_law 877 = .ok (.if_icmp .ne 7, 3) := by decide +kernel
theorem dL_law_880 : decode cL_law 880 = .ok (.iconst 1, 1) := by decide +kernel
theorem dL_law_881 : decode cL_law 881 = .ok (.goto 4, 3) := by decide +kernel
theorem dL_law_884 : decode cL_law 884 = .ok (.iconst 0, 1) := by decide +kernel
theorem dL_law_885 : decode cL_law 885 = .ok (.ireturn, 1) := by decide +kernel
end
section
/-! THE MINI HEAP: cells by small literal addresses, their numbers in two flat memories, references in the shape; a judgement over it that holds the kit's context inside -/
abbrev mh_F : Type := Nat ⊕ Option Nat
abbrev mh_C : Type := (Nat × List mh_F) ⊕ (Nat × Nat × (Nat → Option Nat))
abbrev mh_I : Type := Nat → Nat → Int32
abbrev mh_L : Type := Nat → Nat → Int64
def mh_ty : Nat → FieldType
  | 0 => .int
  | 1 => .long
  | 2 => .byte
  | 3 => .object RX2
  | _ => .object RX4
def mh_v (ad : Nat → Nat) : Value → Value
  | .ref a => .ref (ad a)
  | v => v
def mh_fv (ad : Nat → Nat) (I : mh_I) (L : mh_L) (a k : Nat) : mh_F → Value
  | .inl 0 => .int (I a k)
  | .inl (_ + 1) => .long (L a k)
  | .inr r => va_rf (r.map ad)
def mh_cell (ad : Nat → Nat) (cA : Nat → ClassId) (I : mh_I) (L : mh_L) (a : Nat) : mh_C → va_E
  | .inl (ci, fs) => .inr (ci, fs.mapIdx (fun k f => mh_fv ad I L a k f))
  | .inr (0, n, _) => .inl (cA a, n, .inl (I a))
  | .inr (1, n, _) => .inl (cA a, n, .inr (.inl (L a)))
  | .inr (2, n, _) => .inl (cA a, n, .inl (I a))
  | .inr (_ + 3, n, r) => .inl (cA a, n, .inr (.inr (.inr (.inr (fun k => (r k).map ad)))))
def mh_ws (ad : Nat → Nat) (cA : Nat → ClassId) (sh : List mh_C) (I : mh_I) (L : mh_L) : va_W := sh.mapIdx (fun a c => (ad a, mh_cell ad cA I L a c))
/-- an int, a long written at a place of a cell -/
def mh_u (I : mh_I) (a k : Nat) (x : Int32) : mh_I := fun b j => if b = a ∧ j = k then x else I b j
def mh_ul (L : mh_L) (a k : Nat) (x : Int64) : mh_L := fun b j => if b = a ∧ j = k then x else L b j
/-- what is in the tables and stays true at a call -/
theorem lw_notif {C : String} {y y0 : MethodName} {s : State} {args : Array Value} (h0 : (Cond.selects C y0 y0).before args s = true) (e : y0.cls = y.cls) {mk : MethodId} (hn : s.methodNamed? y = some mk) : ∃ k, s.vm.classes[mk.cls]? = some k ∧ k.isInterface = false := by
  simp only [Cond.before, Cond.holds, Cond.value] at h0
  cases h1 : s.vm.findClass C with
  | none => simp [h1] at h0
  | some c =>
    cases h2 : s.methodFound? y0.cls y0.name y0.desc with
    | none => simp [h1, h2] at h0
    | some r =>
      cases h3 : s.methodNamed? y0 with
      | none => simp [h1, h2, h3] at h0
      | some m =>
        have hm : m.cls = mk.cls := by
          have a1 := findClass_of_methodNamed h3
          have a2 := findClass_of_methodNamed hn
          rw [e] at a1
          exact Option.some.inj (a1.symm.trans a2)
        simp only [h1, h2, h3] at h0
        cases h4 : selectMethod {} s.vm c r with
        | method m' =>
          simp only [h4] at h0
          cases h5 : s.vm.classes[m.cls]? with
          | none => simp [h5] at h0
          | some k =>
            simp [h5] at h0
            exact ⟨k, by rw [← hm]; exact h5, h0.2⟩
        | _ => simp [h4] at h0
theorem lw_selsup {C : String} {y y0 : MethodName} {s : State} {args : Array Value} (hy : y.cls ≠ "java/lang/invoke/MethodHandle" ∧ y.cls ≠ "java/lang/invoke/VarHandle") (h0 : (Cond.selects C y0 y0).before args s = true) (e : y0.cls = y.cls) (hins : ∃ n, (Cond.instantiable C n).before args s = true) (hpriv : (Cond.privateMethod y).before args s = true) (hinst : (Cond.instanceMethod y).before args s = true) : (Cond.selects C y y).before args s = true := by
  obtain ⟨n, hins⟩ := hins
  obtain ⟨c, k, hc, hk, -⟩ := Cond.instantiable_spec hins
  obtain ⟨mk, methM, hnamed, hmethM, -, -⟩ := Cond.instanceMethod_spec hinst
  have hfound : s.methodFound? y.cls y.name y.desc = some mk := State.methodFound?_of_named hnamed hy
  obtain ⟨kp, hkp, hni⟩ := lw_notif h0 e hnamed
  have hsel : selectMethod {} s.vm c mk = .method mk := selectMethod_private hmethM (Cond.privateMethod_at hpriv mk methM hnamed hmethM)
  simp only [Cond.before, Cond.holds, Cond.value, hc, hfound, hnamed, hsel, hkp]
  simp; exact hni
def lw_sup : List Cond := [.selects RJ4 yJ5_ensureCapacityInternal_d00df yJ5_ensureCapacityInternal_d00df, .selects RJ4 yJ5_newCapacity_0f7a4 yJ5_newCapacity_0f7a4, .selects RJ4 yJ5_putStringAt_47b60 yJ5_putStringAt_47b60, .selects RJ4 yJ5_inflateIfNeededFor_a7421 yJ5_inflateIfNeededFor_a7421]
def mh_TB : List Cond := (lw_sup ++ lw_tbl).filter goodWord
def mh_nest : Cond → Bool
  | .fieldLinkNest _ _ _ _ _ _ => true
  | .methodLinkNest _ _ _ _ => true
  | _ => false
def mh_NW : List Cond := tables_1.filter mh_nest
/-- the String constants: refs 1000 .. 1004, in the order of mh_tx; DigitOnes is the ref 1030 -/
def mh_tx : List String := ["rub 10 + more - face * 3 ; minutes 2 + more ; seen 1 + face ;", " rub minutes seen or and not row place more pull face mended ", "rub pull*", "+row-more;minutes pull+mended;seen place*row-face*", ";"]
def mh_ldc : List (String × Nat × Nat) := [(RX5, 51, 0), (RX3, 84, 1), (RL, 52, 2), (RL, 64, 3), (RL, 66, 4)]
def mh_byt : List (List Int32) := mh_tx.map (fun t => t.toList.map (fun ch => Int32.ofNat ch.toNat))
def mh_len : List Nat := mh_tx.map (fun t => t.length)
/-- what else holds at a method's start and isn't the method's to write -/
def mh_E (A : Nat → Prop) (ad : Nat → Nat) (U : State) : Prop :=
  (∀ w ∈ mh_NW, va_Nw w U) ∧ (∀ q ∈ mh_ldc, vk_R q.1 q.2.1 (mh_tx.getD q.2.2 "") (ad (1000 + q.2.2)) U) ∧
  vk_S 5 mh_len mh_byt (fun i => ad (1000 + i)) (fun i => ad (1010 + i)) A U U.heap ∧ va_Z "java/lang/String" "COMPACT_STRINGS" "Z" (.int 1) A U U.heap ∧ (va_Z "jdk/internal/util/Preconditions" "SIOOBE_FORMATTER" "Ljava/util/function/BiFunction;" .null A U U.heap ∨ va_Z "jdk/internal/util/Preconditions" "SIOOBE_FORMATTER" "Ljava/util/function/BiFunction;" (.ref (ad 1020)) A U U.heap) ∧ va_AO RX2 U ∧ va_AO RX4 U ∧ va_Z "java/lang/Integer" "DigitOnes" "[B" (.ref (ad 1030)) A U U.heap ∧ va_T .byte (ad 1030) 100 (fun j => .int (nI (48 + j % 10))) A U U.heap
abbrev mh_P : Type := Option Value → List mh_C → mh_I → mh_L → Prop
abbrev mh_X : Type := (Nat → Nat) → (Nat → Prop) → State → Prop
def mh_noX : mh_X := fun _ _ _ => True
def mh_B (D : va_G) (ad : Nat → Nat) (cA : Nat → ClassId) (A : Nat → Prop) (sh : List mh_C) (I : mh_I) (L : mh_L) (H : Heap) (U : State) : Prop :=
  va_P D vwCl (mh_ws ad cA sh I L) H ∧ va_D A (mh_ws ad cA sh I L) ∧ va_K D vwCl [] U ∧ ∀ (a t n : Nat) (r : Nat → Option Nat), sh[a]? = some (.inr (t, n, r)) → va_K D vwCl [(cA a, mh_ty t)] U
def mh_A (ad : Nat → Nat) (n sz : Nat) : Nat → Prop := fun q => (∃ a : Nat, a < n ∧ q = ad a) ∨ sz ≤ q
/-- a method's end, in the words of the mini heap -/
def mh_Q (D : va_G) (ad : Nat → Nat) (A : Nat → Prop) (n0 : Nat) (Φ : mh_P) : Array Value → State → Outcome → State → Prop := fun _ st oc t =>
  (∃ (r : Option Value) (cA : Nat → ClassId) (sh : List mh_C) (I : mh_I) (L : mh_L), oc = .returned (r.map (mh_v ad)) ∧ Φ r sh I L ∧ mh_B D ad cA A sh I L t.heap t ∧ sh.length < 1000 ∧ n0 ≤ sh.length) ∧ va_F A st t
/-- what stays through a method -/
def mh_K (own : String) (cc : ByteArray) (nL : Nat) (rt : Option FieldType) (ini : Bool) (n0 : Nat) (Ex : mh_X) (p : Program) (s : State) (m : MethodId) (args : Array Value) (meth : Method) (c : Code) (ad : Nat → Nat) (A : Nat → Prop) : Prop :=
  p.tables.exec = Jvm.exec ∧ c.code = cc ∧ c.maxLocals = nL ∧ meth.sig.returnType = rt ∧ meth.locks = false ∧ (ini = true → meth.name = "<init>") ∧ s.vm.findClass own = some m.cls ∧ (∀ w ∈ mh_TB, w.before args s = true) ∧ mh_E A ad s ∧ (∀ q : Nat, A q ↔ mh_A ad n0 s.heap.size q) ∧ (∀ a : Nat, n0 ≤ a → a < 1000 → ad a = s.heap.size + (a - n0)) ∧ Ex ad A s
/-- what moves -/
def mh_S (nL n0 : Nat) (s : State) (D : va_G) (ad : Nat → Nat) (A : Nat → Prop) (cA : Nat → ClassId) (sh : List mh_C) (I : mh_I) (L : mh_L) (lv : List (Nat × Value)) (H : Heap) (locs : List Loc) (ls : Array Slot) : Prop :=
  mh_B D ad cA A sh I L H s ∧ va_S A s.heap H locs ∧ lv_has ls nL (lv.map (fun q => (q.1, mh_v ad q.2))) ∧ n0 ≤ sh.length ∧ sh.length < 1000
/-- the machine at pc with these locals, this stack, this mini heap comes to the method's end with Φ -/
def mh_W (own : String) (cc : ByteArray) (nL : Nat) (rt : Option FieldType) (ini : Bool) (R : Room) (n0 mc ms : Nat) (Ex : mh_X) (Φ : mh_P) (slots : Nat) (sh : List mh_C) (I : mh_I) (L : mh_L) (pc : Nat) (lv : List (Nat × Value)) (st : List Value) : Prop :=
  ∀ (p : Program) (l : Launch) (e : Env) (s : State) (m : MethodId) (args : Array Value) (below : List Frame) (meth : Method) (c : Code) (D : va_G) (ad : Nat → Nat) (A : Nat → Prop) (cA : Nat → ClassId) (H : Heap) (locs : List Loc) (ls : Array Slot),
    mh_K own cc nL rt ini n0 Ex p s m args meth c ad A → mh_S nL n0 s D ad A cA sh I L lv H locs ls →
    W p l e R s m args below meth c H locs (sh.length - n0) slots (MQ below (mh_Q D ad A n0 Φ) args s mc ms A) (F0 m pc ls (st.map (mh_v ad)))
section MHK
variable {own : String} {cc : ByteArray} {nL : Nat} {rt : Option FieldType} {ini : Bool} {n0 : Nat} {Ex : mh_X} {p : Program} {s : State} {m : MethodId} {args : Array Value} {meth : Method} {c : Code} {ad : Nat → Nat} {A : Nat → Prop}
theorem mh_K.x (K : mh_K own cc nL rt ini n0 Ex p s m args meth c ad A) : p.tables.exec = Jvm.exec := K.1
theorem mh_K.b (K : mh_K own cc nL rt ini n0 Ex p s m args meth c ad A) : c.code = cc := K.2.1
theorem mh_K.ml (K : mh_K own cc nL rt ini n0 Ex p s m args meth c ad A) : c.maxLocals = nL := K.2.2.1
theorem mh_K.hrt (K : mh_K own cc nL rt ini n0 Ex p s m args meth c ad A) : meth.sig.returnType = rt := K.2.2.2.1
theorem mh_K.locks (K : mh_K own cc nL rt ini n0 Ex p s m args meth c ad A) : meth.locks = false := K.2.2.2.2.1
theorem mh_K.hini (K : mh_K own cc nL rt ini n0 Ex p s m args meth c ad A) : ini = true → meth.name = "<init>" := K.2.2.2.2.2.1
theorem mh_K.hown (K : mh_K own cc nL rt ini n0 Ex p s m args meth c ad A) : s.vm.findClass own = some m.cls := K.2.2.2.2.2.2.1
theorem mh_K.tb (K : mh_K own cc nL rt ini n0 Ex p s m args meth c ad A) : ∀ w ∈ mh_TB, w.before args s = true := K.2.2.2.2.2.2.2.1
theorem mh_K.e (K : mh_K own cc nL rt ini n0 Ex p s m args meth c ad A) : mh_E A ad s := K.2.2.2.2.2.2.2.2.1
theorem mh_K.hA (K : mh_K own cc nL rt ini n0 Ex p s m args meth c ad A) : ∀ q : Nat, A q ↔ mh_A ad n0 s.heap.size q := K.2.2.2.2.2.2.2.2.2.1
theorem mh_K.new (K : mh_K own cc nL rt ini n0 Ex p s m args meth c ad A) : ∀ q : Nat, s.heap.size ≤ q → A q := fun q h => (K.hA q).mpr (Or.inr h)
theorem mh_K.had (K : mh_K own cc nL rt ini n0 Ex p s m args meth c ad A) : ∀ a : Nat, n0 ≤ a → a < 1000 → ad a = s.heap.size + (a - n0) := K.2.2.2.2.2.2.2.2.2.2.1
theorem mh_K.ex (K : mh_K own cc nL rt ini n0 Ex p s m args meth c ad A) : Ex ad A s := K.2.2.2.2.2.2.2.2.2.2.2
variable {D : va_G} {cA : Nat → ClassId} {sh : List mh_C} {I : mh_I} {L : mh_L} {lv : List (Nat × Value)} {H : Heap} {locs : List Loc} {ls : Array Slot}
theorem mh_S.P (S : mh_S nL n0 s D ad A cA sh I L lv H locs ls) : va_P D vwCl (mh_ws ad cA sh I L) H := S.1.1
theorem mh_S.hD (S : mh_S nL n0 s D ad A cA sh I L lv H locs ls) : va_D A (mh_ws ad cA sh I L) := S.1.2.1
theorem mh_S.K (S : mh_S nL n0 s D ad A cA sh I L lv H locs ls) : va_K D vwCl [] s := S.1.2.2.1
theorem mh_S.KA (S : mh_S nL n0 s D ad A cA sh I L lv H locs ls) {a t n : Nat} {r : Nat → Option Nat} (h : sh[a]? = some (.inr (t, n, r))) : va_K D vwCl [(cA a, mh_ty t)] s := S.1.2.2.2 a t n r h
theorem mh_S.S (S : mh_S nL n0 s D ad A cA sh I L lv H locs ls) : va_S A s.heap H locs := S.2.1
theorem mh_S.hlv (S : mh_S nL n0 s D ad A cA sh I L lv H locs ls) : lv_has ls nL (lv.map (fun q => (q.1, mh_v ad q.2))) := S.2.2.1
theorem mh_S.hn0 (S : mh_S nL n0 s D ad A cA sh I L lv H locs ls) : n0 ≤ sh.length := S.2.2.2.1
theorem mh_S.big (S : mh_S nL n0 s D ad A cA sh I L lv H locs ls) : sh.length < 1000 := S.2.2.2.2
theorem mh_S.lvs {lv' : List (Nat × Value)} {ls' : Array Slot} (S : mh_S nL n0 s D ad A cA sh I L lv H locs ls) (h : lv_has ls' nL (lv'.map (fun q => (q.1, mh_v ad q.2)))) : mh_S nL n0 s D ad A cA sh I L lv' H locs ls' := ⟨S.1, S.2.1, h, S.2.2.2⟩
end MHK
theorem mh_v_cat (ad : Nat → Nat) (v : Value) : (mh_v ad v).category = v.category := by cases v <;> rfl
theorem mh_cats (ad : Nat → Nat) (st : List Value) : ((st.map (mh_v ad)).map fun v => v.category) = st.map fun v => v.category := by
  rw [List.map_map]
  exact List.map_congr_left fun v _ => mh_v_cat ad v
def mh_st (i : Nat) (v : Value) (lv : List (Nat × Value)) : List (Nat × Value) := (i, v) :: lv.filter (fun q => !(q.1 == i) && !(q.1 + 1 == i && q.2.category == 2))
def mh_stl (i : Nat) (v : Value) (lv : List (Nat × Value)) : List (Nat × Value) := (i, v) :: lv.filter (fun q => !(q.1 == i) && (!(q.1 == i + 1) && !(q.1 + 1 == i && q.2.category == 2)))
theorem mh_st_map (ad : Nat → Nat) (i : Nat) (v : Value) (lv : List (Nat × Value)) : (i, mh_v ad v) :: (lv.map (fun q => (q.1, mh_v ad q.2))).filter (fun q => !(q.1 == i) && !(q.1 + 1 == i && q.2.category == 2)) = (mh_st i v lv).map (fun q => (q.1, mh_v ad q.2)) := by
  rw [mh_st, List.map_cons, List.filter_map]
  congr 2
  apply List.filter_congr
  intro q _
  simp only [Function.comp, mh_v_cat]
theorem mh_stl_map (ad : Nat → Nat) (i : Nat) (v : Value) (lv : List (Nat × Value)) : (i, mh_v ad v) :: (lv.map (fun q => (q.1, mh_v ad q.2))).filter (fun q => !(q.1 == i) && (!(q.1 == i + 1) && !(q.1 + 1 == i && q.2.category == 2))) = (mh_stl i v lv).map (fun q => (q.1, mh_v ad q.2)) := by
  rw [mh_stl, List.map_cons, List.filter_map]
  congr 2
  apply List.filter_congr
  intro q _
  simp only [Function.comp, mh_v_cat]
theorem mh_lvm (ad : Nat → Nat) {lv : List (Nat × Value)} {i : Nat} {v : Value} (j : Nat) (h : lv[j]? = some (i, v)) : (lv.map (fun q => (q.1, mh_v ad q.2)))[j]? = some (i, mh_v ad v) := by
  rw [List.getElem?_map, h]; rfl
theorem mh_lv {ad : Nat → Nat} {lv : List (Nat × Value)} {ls : Array Slot} {nL i : Nat} {v : Value} (hl : lv_has ls nL (lv.map (fun q => (q.1, mh_v ad q.2)))) (j : Nat) (h : lv[j]? = some (i, v)) : ls[i]? = some (.val (mh_v ad v)) := lv_at hl j (mh_lvm ad j h)
theorem mh_pick_map (ad : Nat → Nat) (lv : List (Nat × Value)) (ks : List Nat) : lv_pick (lv.map (fun q => (q.1, mh_v ad q.2))) ks = (lv_pick lv ks).map (fun q => (q.1, mh_v ad q.2)) := by
  unfold lv_pick
  induction ks with
  | nil => rfl
  | cons k ks ih =>
    rw [List.filterMap_cons, List.filterMap_cons, List.getElem?_map]
    cases lv[k]? with
    | none => exact ih
    | some q => simp only [Option.map_some, List.map_cons]; rw [ih]
end
section
section MW
variable {own : String} {cc : ByteArray} {nL : Nat} {rt : Option FieldType} {ini : Bool} {R : Room} {n0 mc ms : Nat} {Ex : mh_X} {Φ : mh_P} {slots : Nat} {sh : List mh_C} {I : mh_I} {L : mh_L} {pc : Nat} {lv : List (Nat × Value)} {st : List Value}

theorem mw_iadd {x y : Int32} (hd : decode cc pc = .ok (.iadd, 1)) (k : mh_W own cc nL rt ini R n0 mc ms Ex Φ slots sh I L (pc + 1) lv (.int (x + y) :: st)) : mh_W own cc nL rt ini R n0 mc ms Ex Φ slots sh I L pc lv (.int y :: .int x :: st) := by
  intro p l e s m args below meth c D ad A cA H locs ls K S
  exact lv_iadd K.1 K.2.1 hd (k p l e s m args below meth c D ad A cA H locs ls K S)
theorem mw_isub {x y : Int32} (hd : decode cc pc = .ok (.isub, 1)) (k : mh_W own cc nL rt ini R n0 mc ms Ex Φ slots sh I L (pc + 1) lv (.int (x - y) :: st)) : mh_W own cc nL rt ini R n0 mc ms Ex Φ slots sh I L pc lv (.int y :: .int x :: st) := by
  intro p l e s m args below meth c D ad A cA H locs ls K S
  exact lv_isub K.1 K.2.1 hd (k p l e s m args below meth c D ad A cA H locs ls K S)
theorem mw_imul {x y : Int32} (hd : decode cc pc = .ok (.imul, 1)) (k : mh_W own cc nL rt ini R n0 mc ms Ex Φ slots sh I L (pc + 1) lv (.int (x * y) :: st)) : mh_W own cc nL rt ini R n0 mc ms Ex Φ slots sh I L pc lv (.int y :: .int x :: st) := by
  intro p l e s m args below meth c D ad A cA H locs ls K S
  exact lv_imul K.1 K.2.1 hd (k p l e s m args below meth c D ad A cA H locs ls K S)
theorem mw_iand {x y : Int32} (hd : decode cc pc = .ok (.iand, 1)) (k : mh_W own cc nL rt ini R n0 mc ms Ex Φ slots sh I L (pc + 1) lv (.int (x &&& y) :: st)) : mh_W own cc nL rt ini R n0 mc ms Ex Φ slots sh I L pc lv (.int y :: .int x :: st) := by
  intro p l e s m args below meth c D ad A cA H locs ls K S
  exact lv_iand K.1 K.2.1 hd (k p l e s m args below meth c D ad A cA H locs ls K S)
theorem mw_ior {x y : Int32} (hd : decode cc pc = .ok (.ior, 1)) (k : mh_W own cc nL rt ini R n0 mc ms Ex Φ slots sh I L (pc + 1) lv (.int (x ||| y) :: st)) : mh_W own cc nL rt ini R n0 mc ms Ex Φ slots sh I L pc lv (.int y :: .int x :: st) := by
  intro p l e s m args below meth c D ad A cA H locs ls K S
  exact lv_ior K.1 K.2.1 hd (k p l e s m args below meth c D ad A cA H locs ls K S)
theorem mw_ixor {x y : Int32} (hd : decode cc pc = .ok (.ixor, 1)) (k : mh_W own cc nL rt ini R n0 mc ms Ex Φ slots sh I L (pc + 1) lv (.int (x ^^^ y) :: st)) : mh_W own cc nL rt ini R n0 mc ms Ex Φ slots sh I L pc lv (.int y :: .int x :: st) := by
  intro p l e s m args below meth c D ad A cA H locs ls K S
  exact lv_ixor K.1 K.2.1 hd (k p l e s m args below meth c D ad A cA H locs ls K S)
theorem mw_ishl {x y : Int32} (hd : decode cc pc = .ok (.ishl, 1)) (k : mh_W own cc nL rt ini R n0 mc ms Ex Φ slots sh I L (pc + 1) lv (.int (x <<< (y &&& 31)) :: st)) : mh_W own cc nL rt ini R n0 mc ms Ex Φ slots sh I L pc lv (.int y :: .int x :: st) := by
  intro p l e s m args below meth c D ad A cA H locs ls K S
  exact lv_ishl K.1 K.2.1 hd (k p l e s m args below meth c D ad A cA H locs ls K S)
theorem mw_ishr {x y : Int32} (hd : decode cc pc = .ok (.ishr, 1)) (k : mh_W own cc nL rt ini R n0 mc ms Ex Φ slots sh I L (pc + 1) lv (.int (x >>> (y &&& 31)) :: st)) : mh_W own cc nL rt ini R n0 mc ms Ex Φ slots sh I L pc lv (.int y :: .int x :: st) := by
  intro p l e s m args below meth c D ad A cA H locs ls K S
  exact lv_ishr K.1 K.2.1 hd (k p l e s m args below meth c D ad A cA H locs ls K S)
theorem mw_idiv {x y : Int32} (hd : decode cc pc = .ok (.idiv, 1)) (hne : ¬ y = 0) (k : mh_W own cc nL rt ini R n0 mc ms Ex Φ slots sh I L (pc + 1) lv (.int (x / y) :: st)) : mh_W own cc nL rt ini R n0 mc ms Ex Φ slots sh I L pc lv (.int y :: .int x :: st) := by
  intro p l e s m args below meth c D ad A cA H locs ls K S
  exact lv_idiv K.1 K.2.1 hd hne (k p l e s m args below meth c D ad A cA H locs ls K S)
theorem mw_irem {x y : Int32} (hd : decode cc pc = .ok (.irem, 1)) (hne : ¬ y = 0) (k : mh_W own cc nL rt ini R n0 mc ms Ex Φ slots sh I L (pc + 1) lv (.int (x - x / y * y) :: st)) : mh_W own cc nL rt ini R n0 mc ms Ex Φ slots sh I L pc lv (.int y :: .int x :: st) := by
  intro p l e s m args below meth c D ad A cA H locs ls K S
  exact lv_irem K.1 K.2.1 hd hne (k p l e s m args below meth c D ad A cA H locs ls K S)
theorem mw_ineg {x : Int32} (hd : decode cc pc = .ok (.ineg, 1)) (k : mh_W own cc nL rt ini R n0 mc ms Ex Φ slots sh I L (pc + 1) lv (.int (-x) :: st)) : mh_W own cc nL rt ini R n0 mc ms Ex Φ slots sh I L pc lv (.int x :: st) := by
  intro p l e s m args below meth c D ad A cA H locs ls K S
  exact lv_ineg K.1 K.2.1 hd (k p l e s m args below meth c D ad A cA H locs ls K S)
theorem mw_ladd {x y : Int64} (hd : decode cc pc = .ok (.ladd, 1)) (k : mh_W own cc nL rt ini R n0 mc ms Ex Φ slots sh I L (pc + 1) lv (.long (x + y) :: st)) : mh_W own cc nL rt ini R n0 mc ms Ex Φ slots sh I L pc lv (.long y :: .long x :: st) := by
  intro p l e s m args below meth c D ad A cA H locs ls K S
  exact lv_ladd K.1 K.2.1 hd (k p l e s m args below meth c D ad A cA H locs ls K S)
theorem mw_lmul {x y : Int64} (hd : decode cc pc = .ok (.lmul, 1)) (k : mh_W own cc nL rt ini R n0 mc ms Ex Φ slots sh I L (pc + 1) lv (.long (x * y) :: st)) : mh_W own cc nL rt ini R n0 mc ms Ex Φ slots sh I L pc lv (.long y :: .long x :: st) := by
  intro p l e s m args below meth c D ad A cA H locs ls K S
  exact lv_lmul K.1 K.2.1 hd (k p l e s m args below meth c D ad A cA H locs ls K S)
theorem mw_land {x y : Int64} (hd : decode cc pc = .ok (.land, 1)) (k : mh_W own cc nL rt ini R n0 mc ms Ex Φ slots sh I L (pc + 1) lv (.long (x &&& y) :: st)) : mh_W own cc nL rt ini R n0 mc ms Ex Φ slots sh I L pc lv (.long y :: .long x :: st) := by
  intro p l e s m args below meth c D ad A cA H locs ls K S
  exact lv_land K.1 K.2.1 hd (k p l e s m args below meth c D ad A cA H locs ls K S)
theorem mw_lor {x y : Int64} (hd : decode cc pc = .ok (.lor, 1)) (k : mh_W own cc nL rt ini R n0 mc ms Ex Φ slots sh I L (pc + 1) lv (.long (x ||| y) :: st)) : mh_W own cc nL rt ini R n0 mc ms Ex Φ slots sh I L pc lv (.long y :: .long x :: st) := by
  intro p l e s m args below meth c D ad A cA H locs ls K S
  exact lv_lor K.1 K.2.1 hd (k p l e s m args below meth c D ad A cA H locs ls K S)
theorem mw_lxor {x y : Int64} (hd : decode cc pc = .ok (.lxor, 1)) (k : mh_W own cc nL rt ini R n0 mc ms Ex Φ slots sh I L (pc + 1) lv (.long (x ^^^ y) :: st)) : mh_W own cc nL rt ini R n0 mc ms Ex Φ slots sh I L pc lv (.long y :: .long x :: st) := by
  intro p l e s m args below meth c D ad A cA H locs ls K S
  exact lv_lxor K.1 K.2.1 hd (k p l e s m args below meth c D ad A cA H locs ls K S)
theorem mw_ldiv {x y : Int64} (hd : decode cc pc = .ok (.ldiv, 1)) (hne : ¬ y = 0) (k : mh_W own cc nL rt ini R n0 mc ms Ex Φ slots sh I L (pc + 1) lv (.long (x / y) :: st)) : mh_W own cc nL rt ini R n0 mc ms Ex Φ slots sh I L pc lv (.long y :: .long x :: st) := by
  intro p l e s m args below meth c D ad A cA H locs ls K S
  exact lv_ldiv K.1 K.2.1 hd hne (k p l e s m args below meth c D ad A cA H locs ls K S)
theorem mw_lrem {x y : Int64} (hd : decode cc pc = .ok (.lrem, 1)) (hne : ¬ y = 0) (k : mh_W own cc nL rt ini R n0 mc ms Ex Φ slots sh I L (pc + 1) lv (.long (x - x / y * y) :: st)) : mh_W own cc nL rt ini R n0 mc ms Ex Φ slots sh I L pc lv (.long y :: .long x :: st) := by
  intro p l e s m args below meth c D ad A cA H locs ls K S
  exact lv_lrem K.1 K.2.1 hd hne (k p l e s m args below meth c D ad A cA H locs ls K S)
theorem mw_lshl {x : Int64} {y : Int32} (hd : decode cc pc = .ok (.lshl, 1)) (k : mh_W own cc nL rt ini R n0 mc ms Ex Φ slots sh I L (pc + 1) lv (.long (x <<< (y.toInt64 &&& 63)) :: st)) : mh_W own cc nL rt ini R n0 mc ms Ex Φ slots sh I L pc lv (.int y :: .long x :: st) := by
  intro p l e s m args below meth c D ad A cA H locs ls K S
  exact lv_lshl K.1 K.2.1 hd rfl (k p l e s m args below meth c D ad A cA H locs ls K S)
theorem mw_lshr {x : Int64} {y : Int32} (hd : decode cc pc = .ok (.lshr, 1)) (k : mh_W own cc nL rt ini R n0 mc ms Ex Φ slots sh I L (pc + 1) lv (.long (x >>> (y.toInt64 &&& 63)) :: st)) : mh_W own cc nL rt ini R n0 mc ms Ex Φ slots sh I L pc lv (.int y :: .long x :: st) := by
  intro p l e s m args below meth c D ad A cA H locs ls K S
  exact lv_lshr K.1 K.2.1 hd rfl (k p l e s m args below meth c D ad A cA H locs ls K S)
theorem mw_i2l {x : Int32} (hd : decode cc pc = .ok (.i2l, 1)) (k : mh_W own cc nL rt ini R n0 mc ms Ex Φ slots sh I L (pc + 1) lv (.long (x.toInt64) :: st)) : mh_W own cc nL rt ini R n0 mc ms Ex Φ slots sh I L pc lv (.int x :: st) := by
  intro p l e s m args below meth c D ad A cA H locs ls K S
  exact lv_i2l K.1 K.2.1 hd rfl (k p l e s m args below meth c D ad A cA H locs ls K S)
theorem mw_i2b {x : Int32} (hd : decode cc pc = .ok (.i2b, 1)) (k : mh_W own cc nL rt ini R n0 mc ms Ex Φ slots sh I L (pc + 1) lv (.int (x.toInt8.toInt32) :: st)) : mh_W own cc nL rt ini R n0 mc ms Ex Φ slots sh I L pc lv (.int x :: st) := by
  intro p l e s m args below meth c D ad A cA H locs ls K S
  exact lv_i2b K.1 K.2.1 hd rfl (k p l e s m args below meth c D ad A cA H locs ls K S)
theorem mw_i2s {x : Int32} (hd : decode cc pc = .ok (.i2s, 1)) (k : mh_W own cc nL rt ini R n0 mc ms Ex Φ slots sh I L (pc + 1) lv (.int (x.toInt16.toInt32) :: st)) : mh_W own cc nL rt ini R n0 mc ms Ex Φ slots sh I L pc lv (.int x :: st) := by
  intro p l e s m args below meth c D ad A cA H locs ls K S
  exact lv_i2s K.1 K.2.1 hd rfl (k p l e s m args below meth c D ad A cA H locs ls K S)
theorem mw_iconst {n : Int} {v : Int32} (hd : decode cc pc = .ok (.iconst n, 1)) (hv : Int32.ofInt n = v) (k : mh_W own cc nL rt ini R n0 mc ms Ex Φ slots sh I L (pc + 1) lv (.int v :: st)) : mh_W own cc nL rt ini R n0 mc ms Ex Φ slots sh I L pc lv ( st) := by
  intro p l e s m args below meth c D ad A cA H locs ls K S
  exact lv_iconst K.1 K.2.1 hd hv (k p l e s m args below meth c D ad A cA H locs ls K S)
theorem mw_bipush {n : Int} {v : Int32} (hd : decode cc pc = .ok (.bipush n, 2)) (hv : (Int8.ofInt n).toInt32 = v) (k : mh_W own cc nL rt ini R n0 mc ms Ex Φ slots sh I L (pc + 2) lv (.int v :: st)) : mh_W own cc nL rt ini R n0 mc ms Ex Φ slots sh I L pc lv ( st) := by
  intro p l e s m args below meth c D ad A cA H locs ls K S
  exact lv_bipush K.1 K.2.1 hd hv (k p l e s m args below meth c D ad A cA H locs ls K S)
theorem mw_sipush {n : Int} {v : Int32} (hd : decode cc pc = .ok (.sipush n, 3)) (hv : (Int16.ofInt n).toInt32 = v) (k : mh_W own cc nL rt ini R n0 mc ms Ex Φ slots sh I L (pc + 3) lv (.int v :: st)) : mh_W own cc nL rt ini R n0 mc ms Ex Φ slots sh I L pc lv ( st) := by
  intro p l e s m args below meth c D ad A cA H locs ls K S
  exact lv_sipush K.1 K.2.1 hd hv (k p l e s m args below meth c D ad A cA H locs ls K S)
theorem mw_lconst {n : Fin 2} {v : Int64} (hd : decode cc pc = .ok (.lconst n, 1)) (hv : Int64.ofNat (n : Nat) = v) (k : mh_W own cc nL rt ini R n0 mc ms Ex Φ slots sh I L (pc + 1) lv (.long v :: st)) : mh_W own cc nL rt ini R n0 mc ms Ex Φ slots sh I L pc lv ( st) := by
  intro p l e s m args below meth c D ad A cA H locs ls K S
  exact lv_lconst K.1 K.2.1 hd hv (k p l e s m args below meth c D ad A cA H locs ls K S)
theorem mw_lcmp {x y : Int64} (hd : decode cc pc = .ok (.lcmp, 1)) (k : mh_W own cc nL rt ini R n0 mc ms Ex Φ slots sh I L (pc + 1) lv (.int (lg_cmp x y) :: st)) : mh_W own cc nL rt ini R n0 mc ms Ex Φ slots sh I L pc lv (.long y :: .long x :: st) := by
  intro p l e s m args below meth c D ad A cA H locs ls K S
  exact W.lcmp K.1 K.2.1 hd (k p l e s m args below meth c D ad A cA H locs ls K S)
theorem mw_ldc {index : Nat} {v : Int32} (hd : decode cc pc = .ok (.ldc index, 2)) (hw : Cond.constant own index v ∈ mh_TB) (k : mh_W own cc nL rt ini R n0 mc ms Ex Φ slots sh I L (pc + 2) lv (.int v :: st)) : mh_W own cc nL rt ini R n0 mc ms Ex Φ slots sh I L pc lv st := by
  intro p l e s m args below meth c D ad A cA H locs ls K S
  exact lv_ldc K.1 K.2.1 K.hown (K.tb _ hw) hd (k p l e s m args below meth c D ad A cA H locs ls K S)
theorem mw_ldc2 {index : Nat} {v : Int64} (hd : decode cc pc = .ok (.ldc2_w index, 3)) (hw : Cond.constantLong own index v ∈ mh_TB) (k : mh_W own cc nL rt ini R n0 mc ms Ex Φ slots sh I L (pc + 3) lv (.long v :: st)) : mh_W own cc nL rt ini R n0 mc ms Ex Φ slots sh I L pc lv st := by
  intro p l e s m args below meth c D ad A cA H locs ls K S
  exact lv_ldc2 K.1 K.2.1 K.hown (K.tb _ hw) hd (k p l e s m args below meth c D ad A cA H locs ls K S)
theorem mw_pop {v : Value} (hd : decode cc pc = .ok (.pop, 1)) (hv : v.category = 1) (k : mh_W own cc nL rt ini R n0 mc ms Ex Φ slots sh I L (pc + 1) lv st) : mh_W own cc nL rt ini R n0 mc ms Ex Φ slots sh I L pc lv (v :: st) := by
  intro p l e s m args below meth c D ad A cA H locs ls K S
  exact lv_pop K.1 K.2.1 hd ((mh_v_cat ad v).trans hv) (k p l e s m args below meth c D ad A cA H locs ls K S)
theorem mw_dup {v : Value} (hd : decode cc pc = .ok (.dup, 1)) (hv : v.category = 1) (k : mh_W own cc nL rt ini R n0 mc ms Ex Φ slots sh I L (pc + 1) lv (v :: v :: st)) : mh_W own cc nL rt ini R n0 mc ms Ex Φ slots sh I L pc lv (v :: st) := by
  intro p l e s m args below meth c D ad A cA H locs ls K S
  exact lv_dup K.1 K.2.1 hd ((mh_v_cat ad v).trans hv) (k p l e s m args below meth c D ad A cA H locs ls K S)
theorem mw_dup_x1 {v w : Value} (hd : decode cc pc = .ok (.dup_x1, 1)) (hv : v.category = 1) (hw : w.category = 1) (k : mh_W own cc nL rt ini R n0 mc ms Ex Φ slots sh I L (pc + 1) lv (v :: w :: v :: st)) : mh_W own cc nL rt ini R n0 mc ms Ex Φ slots sh I L pc lv (v :: w :: st) := by
  intro p l e s m args below meth c D ad A cA H locs ls K S
  exact lv_dup_x1 K.1 K.2.1 hd ((mh_v_cat ad v).trans hv) ((mh_v_cat ad w).trans hw) (k p l e s m args below meth c D ad A cA H locs ls K S)
theorem mw_iload_n {k4 : Fin 4} {x : Int32} (hd : decode cc pc = .ok (.iload_n k4, 1)) (j : Nat) (h : lv[j]? = some ((k4 : Nat), .int x)) (k : mh_W own cc nL rt ini R n0 mc ms Ex Φ slots sh I L (pc + 1) lv (.int x :: st)) : mh_W own cc nL rt ini R n0 mc ms Ex Φ slots sh I L pc lv st := by
  intro p l e s m args below meth c D ad A cA H locs ls K S
  exact lv_iload_n K.1 K.2.1 hd rfl (mh_lv S.hlv j h) (k p l e s m args below meth c D ad A cA H locs ls K S)
theorem mw_iload {i : Nat} {x : Int32} (hd : decode cc pc = .ok (.iload i, 2)) (j : Nat) (h : lv[j]? = some (i, .int x)) (k : mh_W own cc nL rt ini R n0 mc ms Ex Φ slots sh I L (pc + 2) lv (.int x :: st)) : mh_W own cc nL rt ini R n0 mc ms Ex Φ slots sh I L pc lv st := by
  intro p l e s m args below meth c D ad A cA H locs ls K S
  exact lv_iload K.1 K.2.1 hd (mh_lv S.hlv j h) (k p l e s m args below meth c D ad A cA H locs ls K S)
theorem mw_lload_n {k4 : Fin 4} {x : Int64} (hd : decode cc pc = .ok (.lload_n k4, 1)) (j : Nat) (h : lv[j]? = some ((k4 : Nat), .long x)) (k : mh_W own cc nL rt ini R n0 mc ms Ex Φ slots sh I L (pc + 1) lv (.long x :: st)) : mh_W own cc nL rt ini R n0 mc ms Ex Φ slots sh I L pc lv st := by
  intro p l e s m args below meth c D ad A cA H locs ls K S
  exact lv_lload_n K.1 K.2.1 hd rfl (mh_lv S.hlv j h) (k p l e s m args below meth c D ad A cA H locs ls K S)
theorem mw_lload {i : Nat} {x : Int64} (hd : decode cc pc = .ok (.lload i, 2)) (j : Nat) (h : lv[j]? = some (i, .long x)) (k : mh_W own cc nL rt ini R n0 mc ms Ex Φ slots sh I L (pc + 2) lv (.long x :: st)) : mh_W own cc nL rt ini R n0 mc ms Ex Φ slots sh I L pc lv st := by
  intro p l e s m args below meth c D ad A cA H locs ls K S
  exact lv_lload K.1 K.2.1 hd (mh_lv S.hlv j h) (k p l e s m args below meth c D ad A cA H locs ls K S)
theorem mw_aload_n {k4 : Fin 4} {x : Nat} (hd : decode cc pc = .ok (.aload_n k4, 1)) (j : Nat) (h : lv[j]? = some ((k4 : Nat), .ref x)) (k : mh_W own cc nL rt ini R n0 mc ms Ex Φ slots sh I L (pc + 1) lv (.ref x :: st)) : mh_W own cc nL rt ini R n0 mc ms Ex Φ slots sh I L pc lv st := by
  intro p l e s m args below meth c D ad A cA H locs ls K S
  exact lv_aload_n K.1 K.2.1 hd rfl (mh_lv S.hlv j h) (k p l e s m args below meth c D ad A cA H locs ls K S)
theorem mw_aload {i : Nat} {x : Nat} (hd : decode cc pc = .ok (.aload i, 2)) (j : Nat) (h : lv[j]? = some (i, .ref x)) (k : mh_W own cc nL rt ini R n0 mc ms Ex Φ slots sh I L (pc + 2) lv (.ref x :: st)) : mh_W own cc nL rt ini R n0 mc ms Ex Φ slots sh I L pc lv st := by
  intro p l e s m args below meth c D ad A cA H locs ls K S
  exact lv_aload K.1 K.2.1 hd (mh_lv S.hlv j h) (k p l e s m args below meth c D ad A cA H locs ls K S)
theorem mw_istore {i : Nat} {x : Int32} {lv' : List (Nat × Value)} (hd : decode cc pc = .ok (.istore i, 2)) (hn : i < nL) (hl : mh_st i (.int x) lv = lv') (k : mh_W own cc nL rt ini R n0 mc ms Ex Φ slots sh I L (pc + 2) lv' st) : mh_W own cc nL rt ini R n0 mc ms Ex Φ slots sh I L pc lv (.int x :: st) := by
  intro p l e s m args below meth c D ad A cA H locs ls K S
  subst hl
  exact lv_istore K.1 K.2.1 hd S.hlv hn (mh_st_map ad i (.int x) lv) (fun ls' h' => k p l e s m args below meth c D ad A cA H locs ls' K (S.lvs h'))
theorem mw_istore_n {k4 : Fin 4} {x : Int32} {lv' : List (Nat × Value)} (hd : decode cc pc = .ok (.istore_n k4, 1)) (hn : (k4 : Nat) < nL) (hl : mh_st (k4 : Nat) (.int x) lv = lv') (k : mh_W own cc nL rt ini R n0 mc ms Ex Φ slots sh I L (pc + 1) lv' st) : mh_W own cc nL rt ini R n0 mc ms Ex Φ slots sh I L pc lv (.int x :: st) := by
  intro p l e s m args below meth c D ad A cA H locs ls K S
  subst hl
  exact lv_istore_n K.1 K.2.1 hd rfl S.hlv hn (mh_st_map ad (k4 : Nat) (.int x) lv) (fun ls' h' => k p l e s m args below meth c D ad A cA H locs ls' K (S.lvs h'))
theorem mw_lstore {i : Nat} {x : Int64} {lv' : List (Nat × Value)} (hd : decode cc pc = .ok (.lstore i, 2)) (hn : i + 1 < nL) (hl : mh_stl i (.long x) lv = lv') (k : mh_W own cc nL rt ini R n0 mc ms Ex Φ slots sh I L (pc + 2) lv' st) : mh_W own cc nL rt ini R n0 mc ms Ex Φ slots sh I L pc lv (.long x :: st) := by
  intro p l e s m args below meth c D ad A cA H locs ls K S
  subst hl
  exact lv_lstore K.1 K.2.1 hd S.hlv hn (mh_stl_map ad i (.long x) lv) (fun ls' h' => k p l e s m args below meth c D ad A cA H locs ls' K (S.lvs h'))
theorem mw_lstore_n {k4 : Fin 4} {x : Int64} {lv' : List (Nat × Value)} (hd : decode cc pc = .ok (.lstore_n k4, 1)) (hn : (k4 : Nat) + 1 < nL) (hl : mh_stl (k4 : Nat) (.long x) lv = lv') (k : mh_W own cc nL rt ini R n0 mc ms Ex Φ slots sh I L (pc + 1) lv' st) : mh_W own cc nL rt ini R n0 mc ms Ex Φ slots sh I L pc lv (.long x :: st) := by
  intro p l e s m args below meth c D ad A cA H locs ls K S
  subst hl
  exact lv_lstore_n K.1 K.2.1 hd rfl S.hlv hn (mh_stl_map ad (k4 : Nat) (.long x) lv) (fun ls' h' => k p l e s m args below meth c D ad A cA H locs ls' K (S.lvs h'))
theorem mw_astore {i : Nat} {x : Nat} {lv' : List (Nat × Value)} (hd : decode cc pc = .ok (.astore i, 2)) (hn : i < nL) (hl : mh_st i (.ref x) lv = lv') (k : mh_W own cc nL rt ini R n0 mc ms Ex Φ slots sh I L (pc + 2) lv' st) : mh_W own cc nL rt ini R n0 mc ms Ex Φ slots sh I L pc lv (.ref x :: st) := by
  intro p l e s m args below meth c D ad A cA H locs ls K S
  subst hl
  exact lv_astore K.1 K.2.1 hd S.hlv hn (mh_st_map ad i (.ref x) lv) (fun ls' h' => k p l e s m args below meth c D ad A cA H locs ls' K (S.lvs h'))
theorem mw_astore_n {k4 : Fin 4} {x : Nat} {lv' : List (Nat × Value)} (hd : decode cc pc = .ok (.astore_n k4, 1)) (hn : (k4 : Nat) < nL) (hl : mh_st (k4 : Nat) (.ref x) lv = lv') (k : mh_W own cc nL rt ini R n0 mc ms Ex Φ slots sh I L (pc + 1) lv' st) : mh_W own cc nL rt ini R n0 mc ms Ex Φ slots sh I L pc lv (.ref x :: st) := by
  intro p l e s m args below meth c D ad A cA H locs ls K S
  subst hl
  exact lv_astore_n K.1 K.2.1 hd rfl S.hlv hn (mh_st_map ad (k4 : Nat) (.ref x) lv) (fun ls' h' => k p l e s m args below meth c D ad A cA H locs ls' K (S.lvs h'))
theorem mw_iinc {i : Nat} {n : Int} {x v : Int32} {lv' : List (Nat × Value)} (hd : decode cc pc = .ok (.iinc i n, 3)) (j : Nat) (hj : lv[j]? = some (i, .int x)) (hv : x + Int32.ofInt n = v) (hn : i < nL) (hl : mh_st i (.int v) lv = lv') (k : mh_W own cc nL rt ini R n0 mc ms Ex Φ slots sh I L (pc + 3) lv' st) : mh_W own cc nL rt ini R n0 mc ms Ex Φ slots sh I L pc lv st := by
  intro p l e s m args below meth c D ad A cA H locs ls K S
  subst hl
  exact lv_iinc K.1 K.2.1 hd S.hlv (mh_lvm ad j hj) hv hn (mh_st_map ad i (.int v) lv) (fun ls' h' => k p l e s m args below meth c D ad A cA H locs ls' K (S.lvs h'))
theorem mw_loc (ks : List Nat) {lv' : List (Nat × Value)} (hl : lv_pick lv ks = lv') (k : mh_W own cc nL rt ini R n0 mc ms Ex Φ slots sh I L pc lv' st) : mh_W own cc nL rt ini R n0 mc ms Ex Φ slots sh I L pc lv st := by
  intro p l e s m args below meth c D ad A cA H locs ls K S
  subst hl
  exact k p l e s m args below meth c D ad A cA H locs ls K (S.lvs (lv_sub S.hlv ks (mh_pick_map ad lv ks)))
theorem mw_goto {off : Int} {tgt : Nat} (hd : decode cc pc = .ok (.goto off, 3)) (ht : (pc : Int) + off = (tgt : Int)) (k : mh_W own cc nL rt ini R n0 mc ms Ex Φ slots sh I L tgt lv st) : mh_W own cc nL rt ini R n0 mc ms Ex Φ slots sh I L pc lv st := by
  intro p l e s m args below meth c D ad A cA H locs ls K S
  exact lv_goto K.1 K.2.1 hd ht (k p l e s m args below meth c D ad A cA H locs ls K S)
theorem mw_if_eq {x : Int32} {off : Int} {tgt : Nat} (hd : decode cc pc = .ok (.ifCond .eq off, 3)) (ht : (pc : Int) + off = (tgt : Int)) (kt : x = 0 → mh_W own cc nL rt ini R n0 mc ms Ex Φ slots sh I L tgt lv st) (kf : ¬ x = 0 → mh_W own cc nL rt ini R n0 mc ms Ex Φ slots sh I L (pc + 3) lv st) : mh_W own cc nL rt ini R n0 mc ms Ex Φ slots sh I L pc lv (.int x :: st) := by
  intro p l e s m args below meth c D ad A cA H locs ls K S
  exact lv_if_eq K.1 K.2.1 hd ht (fun h => kt h p l e s m args below meth c D ad A cA H locs ls K S) (fun h => kf h p l e s m args below meth c D ad A cA H locs ls K S)
theorem mw_icmp_eq {x y : Int32} {off : Int} {tgt : Nat} (hd : decode cc pc = .ok (.if_icmp .eq off, 3)) (ht : (pc : Int) + off = (tgt : Int)) (kt : x = y → mh_W own cc nL rt ini R n0 mc ms Ex Φ slots sh I L tgt lv st) (kf : ¬ x = y → mh_W own cc nL rt ini R n0 mc ms Ex Φ slots sh I L (pc + 3) lv st) : mh_W own cc nL rt ini R n0 mc ms Ex Φ slots sh I L pc lv (.int y :: .int x :: st) := by
  intro p l e s m args below meth c D ad A cA H locs ls K S
  exact lv_icmp_eq K.1 K.2.1 hd ht (fun h => kt h p l e s m args below meth c D ad A cA H locs ls K S) (fun h => kf h p l e s m args below meth c D ad A cA H locs ls K S)
theorem mw_if_ne {x : Int32} {off : Int} {tgt : Nat} (hd : decode cc pc = .ok (.ifCond .ne off, 3)) (ht : (pc : Int) + off = (tgt : Int)) (kt : ¬ x = 0 → mh_W own cc nL rt ini R n0 mc ms Ex Φ slots sh I L tgt lv st) (kf : x = 0 → mh_W own cc nL rt ini R n0 mc ms Ex Φ slots sh I L (pc + 3) lv st) : mh_W own cc nL rt ini R n0 mc ms Ex Φ slots sh I L pc lv (.int x :: st) := by
  intro p l e s m args below meth c D ad A cA H locs ls K S
  exact lv_if_ne K.1 K.2.1 hd ht (fun h => kt h p l e s m args below meth c D ad A cA H locs ls K S) (fun h => kf h p l e s m args below meth c D ad A cA H locs ls K S)
theorem mw_icmp_ne {x y : Int32} {off : Int} {tgt : Nat} (hd : decode cc pc = .ok (.if_icmp .ne off, 3)) (ht : (pc : Int) + off = (tgt : Int)) (kt : ¬ x = y → mh_W own cc nL rt ini R n0 mc ms Ex Φ slots sh I L tgt lv st) (kf : x = y → mh_W own cc nL rt ini R n0 mc ms Ex Φ slots sh I L (pc + 3) lv st) : mh_W own cc nL rt ini R n0 mc ms Ex Φ slots sh I L pc lv (.int y :: .int x :: st) := by
  intro p l e s m args below meth c D ad A cA H locs ls K S
  exact lv_icmp_ne K.1 K.2.1 hd ht (fun h => kt h p l e s m args below meth c D ad A cA H locs ls K S) (fun h => kf h p l e s m args below meth c D ad A cA H locs ls K S)
theorem mw_if_lt {x : Int32} {off : Int} {tgt : Nat} (hd : decode cc pc = .ok (.ifCond .lt off, 3)) (ht : (pc : Int) + off = (tgt : Int)) (kt : x < 0 → mh_W own cc nL rt ini R n0 mc ms Ex Φ slots sh I L tgt lv st) (kf : ¬ x < 0 → mh_W own cc nL rt ini R n0 mc ms Ex Φ slots sh I L (pc + 3) lv st) : mh_W own cc nL rt ini R n0 mc ms Ex Φ slots sh I L pc lv (.int x :: st) := by
  intro p l e s m args below meth c D ad A cA H locs ls K S
  exact lv_if_lt K.1 K.2.1 hd ht (fun h => kt h p l e s m args below meth c D ad A cA H locs ls K S) (fun h => kf h p l e s m args below meth c D ad A cA H locs ls K S)
theorem mw_icmp_lt {x y : Int32} {off : Int} {tgt : Nat} (hd : decode cc pc = .ok (.if_icmp .lt off, 3)) (ht : (pc : Int) + off = (tgt : Int)) (kt : x < y → mh_W own cc nL rt ini R n0 mc ms Ex Φ slots sh I L tgt lv st) (kf : ¬ x < y → mh_W own cc nL rt ini R n0 mc ms Ex Φ slots sh I L (pc + 3) lv st) : mh_W own cc nL rt ini R n0 mc ms Ex Φ slots sh I L pc lv (.int y :: .int x :: st) := by
  intro p l e s m args below meth c D ad A cA H locs ls K S
  exact lv_icmp_lt K.1 K.2.1 hd ht (fun h => kt h p l e s m args below meth c D ad A cA H locs ls K S) (fun h => kf h p l e s m args below meth c D ad A cA H locs ls K S)
theorem mw_if_ge {x : Int32} {off : Int} {tgt : Nat} (hd : decode cc pc = .ok (.ifCond .ge off, 3)) (ht : (pc : Int) + off = (tgt : Int)) (kt : 0 ≤ x → mh_W own cc nL rt ini R n0 mc ms Ex Φ slots sh I L tgt lv st) (kf : ¬ 0 ≤ x → mh_W own cc nL rt ini R n0 mc ms Ex Φ slots sh I L (pc + 3) lv st) : mh_W own cc nL rt ini R n0 mc ms Ex Φ slots sh I L pc lv (.int x :: st) := by
  intro p l e s m args below meth c D ad A cA H locs ls K S
  exact lv_if_ge K.1 K.2.1 hd ht (fun h => kt h p l e s m args below meth c D ad A cA H locs ls K S) (fun h => kf h p l e s m args below meth c D ad A cA H locs ls K S)
theorem mw_icmp_ge {x y : Int32} {off : Int} {tgt : Nat} (hd : decode cc pc = .ok (.if_icmp .ge off, 3)) (ht : (pc : Int) + off = (tgt : Int)) (kt : y ≤ x → mh_W own cc nL rt ini R n0 mc ms Ex Φ slots sh I L tgt lv st) (kf : ¬ y ≤ x → mh_W own cc nL rt ini R n0 mc ms Ex Φ slots sh I L (pc + 3) lv st) : mh_W own cc nL rt ini R n0 mc ms Ex Φ slots sh I L pc lv (.int y :: .int x :: st) := by
  intro p l e s m args below meth c D ad A cA H locs ls K S
  exact lv_icmp_ge K.1 K.2.1 hd ht (fun h => kt h p l e s m args below meth c D ad A cA H locs ls K S) (fun h => kf h p l e s m args below meth c D ad A cA H locs ls K S)
theorem mw_if_gt {x : Int32} {off : Int} {tgt : Nat} (hd : decode cc pc = .ok (.ifCond .gt off, 3)) (ht : (pc : Int) + off = (tgt : Int)) (kt : 0 < x → mh_W own cc nL rt ini R n0 mc ms Ex Φ slots sh I L tgt lv st) (kf : ¬ 0 < x → mh_W own cc nL rt ini R n0 mc ms Ex Φ slots sh I L (pc + 3) lv st) : mh_W own cc nL rt ini R n0 mc ms Ex Φ slots sh I L pc lv (.int x :: st) := by
  intro p l e s m args below meth c D ad A cA H locs ls K S
  exact lv_if_gt K.1 K.2.1 hd ht (fun h => kt h p l e s m args below meth c D ad A cA H locs ls K S) (fun h => kf h p l e s m args below meth c D ad A cA H locs ls K S)
theorem mw_icmp_gt {x y : Int32} {off : Int} {tgt : Nat} (hd : decode cc pc = .ok (.if_icmp .gt off, 3)) (ht : (pc : Int) + off = (tgt : Int)) (kt : y < x → mh_W own cc nL rt ini R n0 mc ms Ex Φ slots sh I L tgt lv st) (kf : ¬ y < x → mh_W own cc nL rt ini R n0 mc ms Ex Φ slots sh I L (pc + 3) lv st) : mh_W own cc nL rt ini R n0 mc ms Ex Φ slots sh I L pc lv (.int y :: .int x :: st) := by
  intro p l e s m args below meth c D ad A cA H locs ls K S
  exact lv_icmp_gt K.1 K.2.1 hd ht (fun h => kt h p l e s m args below meth c D ad A cA H locs ls K S) (fun h => kf h p l e s m args below meth c D ad A cA H locs ls K S)
theorem mw_if_le {x : Int32} {off : Int} {tgt : Nat} (hd : decode cc pc = .ok (.ifCond .le off, 3)) (ht : (pc : Int) + off = (tgt : Int)) (kt : x ≤ 0 → mh_W own cc nL rt ini R n0 mc ms Ex Φ slots sh I L tgt lv st) (kf : ¬ x ≤ 0 → mh_W own cc nL rt ini R n0 mc ms Ex Φ slots sh I L (pc + 3) lv st) : mh_W own cc nL rt ini R n0 mc ms Ex Φ slots sh I L pc lv (.int x :: st) := by
  intro p l e s m args below meth c D ad A cA H locs ls K S
  exact lv_if_le K.1 K.2.1 hd ht (fun h => kt h p l e s m args below meth c D ad A cA H locs ls K S) (fun h => kf h p l e s m args below meth c D ad A cA H locs ls K S)
theorem mw_icmp_le {x y : Int32} {off : Int} {tgt : Nat} (hd : decode cc pc = .ok (.if_icmp .le off, 3)) (ht : (pc : Int) + off = (tgt : Int)) (kt : x ≤ y → mh_W own cc nL rt ini R n0 mc ms Ex Φ slots sh I L tgt lv st) (kf : ¬ x ≤ y → mh_W own cc nL rt ini R n0 mc ms Ex Φ slots sh I L (pc + 3) lv st) : mh_W own cc nL rt ini R n0 mc ms Ex Φ slots sh I L pc lv (.int y :: .int x :: st) := by
  intro p l e s m args below meth c D ad A cA H locs ls K S
  exact lv_icmp_le K.1 K.2.1 hd ht (fun h => kt h p l e s m args below meth c D ad A cA H locs ls K S) (fun h => kf h p l e s m args below meth c D ad A cA H locs ls K S)
theorem mw_tableIn {dflt lo hi : Int} {offs : Array Int} {len : Nat} {x : Int32} {off : Int} {tgt : Nat} (hd : decode cc pc = .ok (.tableswitch dflt lo hi offs, len)) (h1 : ¬ x.toInt < lo) (h2 : ¬ hi < x.toInt) (ho : offs[(x.toInt - lo).toNat]? = some off) (ht : (pc : Int) + off = (tgt : Int)) (k : mh_W own cc nL rt ini R n0 mc ms Ex Φ slots sh I L tgt lv st) : mh_W own cc nL rt ini R n0 mc ms Ex Φ slots sh I L pc lv (.int x :: st) := by
  intro p l e s m args below meth c D ad A cA H locs ls K S
  exact lv_tableIn K.1 K.2.1 hd h1 h2 ho ht (k p l e s m args below meth c D ad A cA H locs ls K S)
theorem mw_tableOut {dflt lo hi : Int} {offs : Array Int} {len : Nat} {x : Int32} {tgt : Nat} (hd : decode cc pc = .ok (.tableswitch dflt lo hi offs, len)) (h : x.toInt < lo ∨ hi < x.toInt) (ht : (pc : Int) + dflt = (tgt : Int)) (k : mh_W own cc nL rt ini R n0 mc ms Ex Φ slots sh I L tgt lv st) : mh_W own cc nL rt ini R n0 mc ms Ex Φ slots sh I L pc lv (.int x :: st) := by
  intro p l e s m args below meth c D ad A cA H locs ls K S
  exact lv_tableOut K.1 K.2.1 hd h ht (k p l e s m args below meth c D ad A cA H locs ls K S)
theorem mw_lookup {dflt : Int} {ps : Array (Int × Int)} {len : Nat} {x : Int32} {off : Int} {tgt : Nat} (hd : decode cc pc = .ok (.lookupswitch dflt ps, len)) (hp : (ps.toList.zip (ps.toList.drop 1)).all (fun (a, next) => a.1 < next.1) = true) (ho : Op.lookupswitch.offset ps.toList dflt x.toInt = off) (ht : (pc : Int) + off = (tgt : Int)) (k : mh_W own cc nL rt ini R n0 mc ms Ex Φ slots sh I L tgt lv st) : mh_W own cc nL rt ini R n0 mc ms Ex Φ slots sh I L pc lv (.int x :: st) := by
  intro p l e s m args below meth c D ad A cA H locs ls K S
  exact lv_lookup K.1 K.2.1 hd hp ho ht (k p l e s m args below meth c D ad A cA H locs ls K S)
end MW
end
section
/-! the mini heap's rows: its cells by their places, and what a write does -/
theorem mh_ws_at {ad : Nat → Nat} {cA : Nat → ClassId} {sh : List mh_C} {I : mh_I} {L : mh_L} {a : Nat} {c : mh_C} (h : sh[a]? = some c) : (mh_ws ad cA sh I L)[a]? = some (ad a, mh_cell ad cA I L a c) := by
  rw [mh_ws, List.getElem?_mapIdx, h]; rfl
theorem mh_ws_len {ad : Nat → Nat} {cA : Nat → ClassId} {sh : List mh_C} {I : mh_I} {L : mh_L} : (mh_ws ad cA sh I L).length = sh.length := by
  rw [mh_ws, List.length_mapIdx]
theorem mh_fs_at {ad : Nat → Nat} {I : mh_I} {L : mh_L} {a k : Nat} {fs : List mh_F} {f : mh_F} (h : fs[k]? = some f) : (fs.mapIdx (fun k f => mh_fv ad I L a k f))[k]? = some (mh_fv ad I L a k f) := by
  rw [List.getElem?_mapIdx, h]; rfl
theorem mh_fv_congr {ad : Nat → Nat} {I I' : mh_I} {L L' : mh_L} {a k : Nat} (hI : I' a k = I a k) (hL : L' a k = L a k) (f : mh_F) : mh_fv ad I' L' a k f = mh_fv ad I L a k f := by
  rcases f with n | r
  · cases n with
    | zero => exact congrArg Value.int hI
    | succ n => exact congrArg Value.long hL
  · rfl
theorem mh_cell_congr {ad : Nat → Nat} {cA cA' : Nat → ClassId} {I I' : mh_I} {L L' : mh_L} {a : Nat} (hI : I' a = I a) (hL : L' a = L a) (hA : cA' a = cA a) (c : mh_C) : mh_cell ad cA' I' L' a c = mh_cell ad cA I L a c := by
  rcases c with ⟨ci, fs⟩ | ⟨t, n, r⟩
  · simp only [mh_cell]
    refine congrArg (fun z => (Sum.inr (ci, z) : va_E)) ?_
    refine congrArg (fun f => fs.mapIdx f) ?_
    funext k f
    exact mh_fv_congr (congrFun hI k) (congrFun hL k) f
  · match t with
    | 0 => simp only [mh_cell, hI, hA]
    | 1 => simp only [mh_cell, hL, hA]
    | 2 => simp only [mh_cell, hI, hA]
    | t + 3 => simp only [mh_cell, hA]
/-- one cell written: the world that has it -/
theorem mh_ws_set {ad : Nat → Nat} {cA : Nat → ClassId} {sh : List mh_C} {I I' : mh_I} {L L' : mh_L} {a : Nat} {c' : mh_C} (ha : a < sh.length) (hI : ∀ b, b ≠ a → I' b = I b) (hL : ∀ b, b ≠ a → L' b = L b) : (mh_ws ad cA sh I L).set a (ad a, mh_cell ad cA I' L' a c') = mh_ws ad cA (sh.set a c') I' L' := by
  apply List.ext_getElem?
  intro j
  by_cases hj : j = a
  · subst hj
    rw [List.getElem?_set_self (by rw [mh_ws_len]; exact ha), mh_ws_at (c := c')]
    rw [List.getElem?_set_self ha]
  · rw [List.getElem?_set_ne (Ne.symm hj)]
    simp only [mh_ws, List.getElem?_mapIdx]
    rw [List.getElem?_set_ne (Ne.symm hj)]
    cases sh[j]? with
    | none => rfl
    | some c => simp only [Option.map_some]; rw [mh_cell_congr (hI j hj) (hL j hj) rfl]
theorem mh_set_same {sh : List mh_C} {a : Nat} {c : mh_C} (h : sh[a]? = some c) : sh.set a c = sh := by
  obtain ⟨h1, h2⟩ := List.getElem?_eq_some_iff.mp h
  rw [← h2]
  exact List.set_getElem_self h1
theorem mh_u_ne {I : mh_I} {a k : Nat} {x : Int32} : ∀ b, b ≠ a → mh_u I a k x b = I b := fun b hb => by funext j; simp [mh_u, hb]
theorem mh_ul_ne {L : mh_L} {a k : Nat} {x : Int64} : ∀ b, b ≠ a → mh_ul L a k x b = L b := fun b hb => by funext j; simp [mh_ul, hb]
theorem mh_u_row {I : mh_I} {a k : Nat} {x : Int32} : mh_u I a k x a = upd (I a) k x := by funext j; simp [mh_u, upd]
theorem mh_fs_seti {ad : Nat → Nat} {I : mh_I} {L : mh_L} {a k : Nat} {fs : List mh_F} {x : Int32} (h : fs[k]? = some (.inl 0)) : (fs.mapIdx (fun k f => mh_fv ad I L a k f)).set k (.int x) = fs.mapIdx (fun j f => mh_fv ad (mh_u I a k x) L a j f) := by
  apply List.ext_getElem?
  intro j
  by_cases hj : j = k
  · subst hj
    rw [List.getElem?_set_self (by rw [List.length_mapIdx]; exact (List.getElem?_eq_some_iff.mp h).1), List.getElem?_mapIdx, h]
    simp [mh_fv, mh_u]
  · rw [List.getElem?_set_ne (Ne.symm hj), List.getElem?_mapIdx, List.getElem?_mapIdx]
    cases fs[j]? with
    | none => rfl
    | some f => simp only [Option.map_some]; rw [mh_fv_congr (I := I) (I' := mh_u I a k x) (by simp [mh_u, hj]) rfl f]
theorem mh_fs_setl {ad : Nat → Nat} {I : mh_I} {L : mh_L} {a k n : Nat} {fs : List mh_F} {x : Int64} (h : fs[k]? = some (.inl (n + 1))) : (fs.mapIdx (fun k f => mh_fv ad I L a k f)).set k (.long x) = fs.mapIdx (fun j f => mh_fv ad I (mh_ul L a k x) a j f) := by
  apply List.ext_getElem?
  intro j
  by_cases hj : j = k
  · subst hj
    rw [List.getElem?_set_self (by rw [List.length_mapIdx]; exact (List.getElem?_eq_some_iff.mp h).1), List.getElem?_mapIdx, h]
    simp [mh_fv, mh_ul]
  · rw [List.getElem?_set_ne (Ne.symm hj), List.getElem?_mapIdx, List.getElem?_mapIdx]
    cases fs[j]? with
    | none => rfl
    | some f => simp only [Option.map_some]; rw [mh_fv_congr (L := L) (L' := mh_ul L a k x) rfl (by simp [mh_ul, hj]) f]
theorem mh_fs_setr {ad : Nat → Nat} {I : mh_I} {L : mh_L} {a k : Nat} {fs : List mh_F} {r : Option Nat} (h : k < fs.length) : (fs.mapIdx (fun k f => mh_fv ad I L a k f)).set k (va_rf (r.map ad)) = (fs.set k (.inr r)).mapIdx (fun j f => mh_fv ad I L a j f) := by
  apply List.ext_getElem?
  intro j
  by_cases hj : j = k
  · subst hj
    rw [List.getElem?_set_self (by rw [List.length_mapIdx]; exact h), List.getElem?_mapIdx, List.getElem?_set_self h]
    rfl
  · rw [List.getElem?_set_ne (Ne.symm hj), List.getElem?_mapIdx, List.getElem?_mapIdx, List.getElem?_set_ne (Ne.symm hj)]
theorem mh_B.set {D : va_G} {ad : Nat → Nat} {cA : Nat → ClassId} {A : Nat → Prop} {sh sh' : List mh_C} {I I' : mh_I} {L L' : mh_L} {H H1 : Heap} {U : State} (B : mh_B D ad cA A sh I L H U) (hP : va_P D vwCl (mh_ws ad cA sh' I' L') H1) (hD : va_D A (mh_ws ad cA sh' I' L')) (hs : ∀ (a t n : Nat) (r : Nat → Option Nat), sh'[a]? = some (.inr (t, n, r)) → ∃ r', sh[a]? = some (.inr (t, n, r'))) : mh_B D ad cA A sh' I' L' H1 U :=
  ⟨hP, hD, B.2.2.1, fun a t n r h => (hs a t n r h).elim fun r' h' => B.2.2.2 a t n r' h'⟩
/-- a field that is read: by the tables, of its own class or of a nest mate -/
def mh_fl (own : String) (index ci k : Nat) : Prop :=
  ∃ (C : String) (T : u_T) (N : Nat), vwCl[ci]? = some (C, T, N) ∧ (∀ w ∈ u_ws C T N, w ∈ mh_TB) ∧ k < N ∧ True ∧ (Cond.fieldLink own index (T k).1 (T k).2.1 (T k).2.2.1 ∈ mh_TB ∨ ∃ host : String, Cond.fieldLinkNest own index (T k).1 (T k).2.1 (T k).2.2.1 host ∈ mh_NW)
/-- a field that is written -/
def mh_fp (own : String) (index ci k : Nat) (ty : FieldType) (fin : Bool) : Prop :=
  ∃ (C : String) (T : u_T) (N : Nat) (ty0 : Nat → FieldType), vwCl[ci]? = some (C, T, N) ∧ (∀ w ∈ u_ws C T N, w ∈ mh_TB) ∧ k < N ∧ True ∧ (Cond.fieldLink own index (T k).1 (T k).2.1 (T k).2.2.1 ∈ mh_TB ∨ (fin = false ∧ ∃ host : String, Cond.fieldLinkNest own index (T k).1 (T k).2.1 (T k).2.2.1 host ∈ mh_NW)) ∧
    (∀ k, k < N → parseFieldDescriptor (T k).2.2.1 = some (ty0 k)) ∧ (∀ a, a < N → ∀ b, b < N → a ≠ b → (T a).2.1 ≠ (T b).2.1) ∧ (T k).2.2.2 = fin ∧ parseFieldDescriptor (T k).2.2.1 = some ty ∧ (fin = true → (T k).1 = own)
section MH2
variable {own : String} {cc : ByteArray} {nL : Nat} {rt : Option FieldType} {ini : Bool} {R : Room} {n0 mc ms : Nat} {Ex : mh_X} {Φ : mh_P} {slots : Nat} {sh : List mh_C} {I : mh_I} {L : mh_L} {pc : Nat} {lv : List (Nat × Value)} {st : List Value}
theorem mw_getv {index ci k a : Nat} {fs : List mh_F} {f : mh_F} {v : Value} (q : mh_fl own index ci k) (hd : decode cc pc = .ok (.getfield index, 3)) (hs : sh[a]? = some (.inl (ci, fs))) (hf : fs[k]? = some f) (hv : ∀ ad, mh_fv ad I L a k f = mh_v ad v) (kk : mh_W own cc nL rt ini R n0 mc ms Ex Φ slots sh I L (pc + 3) lv (v :: st)) : mh_W own cc nL rt ini R n0 mc ms Ex Φ slots sh I L pc lv (.ref a :: st) := by
  intro p l e s m args below meth c D ad A cA H locs ls K S
  obtain ⟨C, T, N, hc, hin, hk, hC, hl⟩ := q
  have h1 := mh_ws_at (ad := ad) (cA := cA) (I := I) (L := L) hs
  have h2 : (fs.mapIdx (fun k f => mh_fv ad I L a k f))[k]? = some (mh_v ad v) := (mh_fs_at hf).trans (by rw [hv])
  have hK := kk p l e s m args below meth c D ad A cA H locs ls K S
  rcases hl with hl | ⟨host, hl⟩
  · exact va_get (T := T) K.x K.b K.tb hin K.hown S.K S.P a h1 hc k hk (K.tb _ hl) (fun _ h => h) h2 hd hK
  · exact va_getN (T := T) (host := host) K.x K.b K.tb hin K.hown S.K S.P a h1 hc k hk (va_Nw.use rfl (K.e.1 _ hl)) (fun _ h => h) h2 hd hK
theorem mw_geti {index ci k a : Nat} {fs : List mh_F} (q : mh_fl own index ci k) (hd : decode cc pc = .ok (.getfield index, 3)) (hs : sh[a]? = some (.inl (ci, fs))) (hf : fs[k]? = some (.inl 0)) (kk : mh_W own cc nL rt ini R n0 mc ms Ex Φ slots sh I L (pc + 3) lv (.int (I a k) :: st)) : mh_W own cc nL rt ini R n0 mc ms Ex Φ slots sh I L pc lv (.ref a :: st) := mw_getv q hd hs hf (fun _ => rfl) kk
theorem mw_getl {index ci k a : Nat} {fs : List mh_F} (q : mh_fl own index ci k) (hd : decode cc pc = .ok (.getfield index, 3)) (hs : sh[a]? = some (.inl (ci, fs))) (hf : fs[k]? = some (.inl 1)) (kk : mh_W own cc nL rt ini R n0 mc ms Ex Φ slots sh I L (pc + 3) lv (.long (L a k) :: st)) : mh_W own cc nL rt ini R n0 mc ms Ex Φ slots sh I L pc lv (.ref a :: st) := mw_getv q hd hs hf (fun _ => rfl) kk
theorem mw_getr {index ci k a b : Nat} {fs : List mh_F} (q : mh_fl own index ci k) (hd : decode cc pc = .ok (.getfield index, 3)) (hs : sh[a]? = some (.inl (ci, fs))) (hf : fs[k]? = some (.inr (some b))) (kk : mh_W own cc nL rt ini R n0 mc ms Ex Φ slots sh I L (pc + 3) lv (.ref b :: st)) : mh_W own cc nL rt ini R n0 mc ms Ex Φ slots sh I L pc lv (.ref a :: st) := mw_getv q hd hs hf (fun _ => rfl) kk
/-- a write of a field, whatever it holds -/
theorem mw_putv {index ci k a : Nat} {fs fs' : List mh_F} {v : Value} {ty : FieldType} {fin : Bool} {I' : mh_I} {L' : mh_L} (q : mh_fp own index ci k ty fin) (hi : fin = true → ini = true) (hd : decode cc pc = .ok (.putfield index, 3)) (hs : sh[a]? = some (.inl (ci, fs))) (hkl : k < fs.length)
    (hn : ∀ ad, narrow ty (mh_v ad v) = mh_v ad v) (hfit : ∀ ad, fits ty (mh_v ad v) = true) (hI : ∀ b, b ≠ a → I' b = I b) (hL : ∀ b, b ≠ a → L' b = L b)
    (hset : ∀ ad : Nat → Nat, (fs.mapIdx (fun k f => mh_fv ad I L a k f)).set k (mh_v ad v) = fs'.mapIdx (fun k f => mh_fv ad I' L' a k f))
    (kk : mh_W own cc nL rt ini R n0 mc ms Ex Φ slots (sh.set a (.inl (ci, fs'))) I' L' (pc + 3) lv st) : mh_W own cc nL rt ini R n0 mc ms Ex Φ slots sh I L pc lv (v :: .ref a :: st) := by
  intro p l e s m args below meth c D ad A cA H locs ls K S
  obtain ⟨C, T, N, ty0, hc, hin, hk, hC, hl, hty, hnm, hfin, hpd, how⟩ := q
  have h1 := mh_ws_at (ad := ad) (cA := cA) (I := I) (L := L) hs
  have ha : a < sh.length := (List.getElem?_eq_some_iff.mp hs).1
  have hcont : ∀ (H1 : Heap) (locs1 : List Loc), va_P D vwCl ((mh_ws ad cA sh I L).set a (ad a, .inr (ci, (fs.mapIdx (fun k f => mh_fv ad I L a k f)).set k (mh_v ad v)))) H1 → va_D A ((mh_ws ad cA sh I L).set a (ad a, .inr (ci, (fs.mapIdx (fun k f => mh_fv ad I L a k f)).set k (mh_v ad v)))) → va_S A s.heap H1 locs1 →
      W p l e R s m args below meth c H1 locs1 (sh.length - n0) slots (MQ below (mh_Q D ad A n0 Φ) args s mc ms A) (F0 m (pc + 3) ls (st.map (mh_v ad))) := by
    intro H1 locs1 hP hD hS
    have hw : (mh_ws ad cA sh I L).set a (ad a, .inr (ci, (fs.mapIdx (fun k f => mh_fv ad I L a k f)).set k (mh_v ad v))) = mh_ws ad cA (sh.set a (.inl (ci, fs'))) I' L' := by
      rw [hset ad]
      exact mh_ws_set (c' := .inl (ci, fs')) ha hI hL
    rw [hw] at hP hD
    have hk := kk p l e s m args below meth c D ad A cA H1 locs1 ls K ⟨S.1.set hP hD (fun b t n r h => ?_), hS, S.hlv, by rw [List.length_set]; exact S.hn0, by rw [List.length_set]; exact S.big⟩
    · rw [List.length_set] at hk
      exact hk
    by_cases hb : b = a
    · subst hb
      rw [List.getElem?_set_self ha] at h
      cases h
    · rw [List.getElem?_set_ne (Ne.symm hb)] at h
      exact ⟨r, h⟩
  have hkf : k < (fs.mapIdx (fun k f => mh_fv ad I L a k f)).length := by rw [List.length_mapIdx]; exact hkl
  have hdecl : ∀ x, s.fieldFound? (T k).1 (T k).2.1 (T k).2.2.1 = some x → s.fieldFound? (T k).1 (T k).2.1 (T k).2.2.1 = some x := fun _ h => h
  rcases hl with hl | ⟨hf0, host, hl⟩
  · cases fin with
    | false => exact va_put (T := T) K.x K.b K.tb hin ty0 hty hnm K.hown S.K S.P S.hD S.S a h1 hc k hk (K.tb _ hl) hdecl hfin hpd (hn ad) (hfit ad) hkf hd hcont
    | true => exact va_putF (T := T) K.x K.b K.tb hin ty0 hty hnm K.hown S.K S.P S.hD S.S a h1 hc k hk (K.tb _ hl) hdecl hfin (K.hini (hi rfl)) (how rfl) hpd (hn ad) (hfit ad) hkf hd hcont
  · subst hf0
    exact va_putN (T := T) (host := host) K.x K.b K.tb hin ty0 hty hnm K.hown S.K S.P S.hD S.S a h1 hc k hk (va_Nw.use rfl (K.e.1 _ hl)) hdecl hfin hpd (hn ad) (hfit ad) hkf hd hcont
end MH2
end
section
section MH3
variable {own : String} {cc : ByteArray} {nL : Nat} {rt : Option FieldType} {ini : Bool} {R : Room} {n0 mc ms : Nat} {Ex : mh_X} {Φ : mh_P} {slots : Nat} {sh : List mh_C} {I : mh_I} {L : mh_L} {pc : Nat} {lv : List (Nat × Value)} {st : List Value}
theorem mw_puti {index ci k a : Nat} {fs : List mh_F} {x : Int32} {ty : FieldType} {fin : Bool} (q : mh_fp own index ci k ty fin) (hi : fin = true → ini = true) (hn : narrow ty (.int x) = .int x) (hfit : fits ty (.int x) = true) (hd : decode cc pc = .ok (.putfield index, 3)) (hs : sh[a]? = some (.inl (ci, fs))) (hf : fs[k]? = some (.inl 0))
    (kk : mh_W own cc nL rt ini R n0 mc ms Ex Φ slots sh (mh_u I a k x) L (pc + 3) lv st) : mh_W own cc nL rt ini R n0 mc ms Ex Φ slots sh I L pc lv (.int x :: .ref a :: st) := by
  refine mw_putv (fs' := fs) (v := .int x) q hi hd hs (List.getElem?_eq_some_iff.mp hf).1 (fun _ => hn) (fun _ => hfit) mh_u_ne (fun _ _ => rfl) (fun ad => mh_fs_seti hf) ?_
  rw [mh_set_same hs]
  exact kk
theorem mw_putl {index ci k a : Nat} {fs : List mh_F} {x : Int64} {fin : Bool} (q : mh_fp own index ci k .long fin) (hi : fin = true → ini = true) (hd : decode cc pc = .ok (.putfield index, 3)) (hs : sh[a]? = some (.inl (ci, fs))) (hf : fs[k]? = some (.inl 1))
    (kk : mh_W own cc nL rt ini R n0 mc ms Ex Φ slots sh I (mh_ul L a k x) (pc + 3) lv st) : mh_W own cc nL rt ini R n0 mc ms Ex Φ slots sh I L pc lv (.long x :: .ref a :: st) := by
  refine mw_putv (fs' := fs) (v := .long x) q hi hd hs (List.getElem?_eq_some_iff.mp hf).1 (fun _ => rfl) (fun _ => rfl) (fun _ _ => rfl) mh_ul_ne (fun ad => mh_fs_setl hf) ?_
  rw [mh_set_same hs]
  exact kk
theorem mw_putr {index ci k a b : Nat} {fs : List mh_F} {ty : FieldType} {fin : Bool} (q : mh_fp own index ci k ty fin) (hi : fin = true → ini = true) (hty : refKind ty = true) (hd : decode cc pc = .ok (.putfield index, 3)) (hs : sh[a]? = some (.inl (ci, fs))) (hk : k < fs.length)
    (kk : mh_W own cc nL rt ini R n0 mc ms Ex Φ slots (sh.set a (.inl (ci, fs.set k (.inr (some b))))) I L (pc + 3) lv st) : mh_W own cc nL rt ini R n0 mc ms Ex Φ slots sh I L pc lv (.ref b :: .ref a :: st) :=
  mw_putv (fs' := fs.set k (.inr (some b))) (v := .ref b) q hi hd hs hk (fun _ => by cases ty <;> first | rfl | cases hty) (fun _ => by cases ty <;> first | rfl | cases hty) (fun _ _ => rfl) (fun _ _ => rfl) (fun ad => mh_fs_setr (r := some b) hk) kk
theorem mw_iald {a n : Nat} {r : Nat → Option Nat} {i : Int32} (hd : decode cc pc = .ok (.iaload, 1)) (hs : sh[a]? = some (.inr (0, n, r))) (hin : ¬ (i < 0 ∨ n ≤ i.toNatClampNeg)) (kk : mh_W own cc nL rt ini R n0 mc ms Ex Φ slots sh I L (pc + 1) lv (.int (I a i.toNatClampNeg) :: st)) : mh_W own cc nL rt ini R n0 mc ms Ex Φ slots sh I L pc lv (.int i :: .ref a :: st) := by
  intro p l e s m args below meth c D ad A cA H locs ls K S
  exact va_iald K.x K.b (S.KA hs) S.P a 0 (mh_ws_at hs) rfl hin hd (kk p l e s m args below meth c D ad A cA H locs ls K S)
theorem mw_lald {a n : Nat} {r : Nat → Option Nat} {i : Int32} (hd : decode cc pc = .ok (.laload, 1)) (hs : sh[a]? = some (.inr (1, n, r))) (hin : ¬ (i < 0 ∨ n ≤ i.toNatClampNeg)) (kk : mh_W own cc nL rt ini R n0 mc ms Ex Φ slots sh I L (pc + 1) lv (.long (L a i.toNatClampNeg) :: st)) : mh_W own cc nL rt ini R n0 mc ms Ex Φ slots sh I L pc lv (.int i :: .ref a :: st) := by
  intro p l e s m args below meth c D ad A cA H locs ls K S
  exact va_lald K.x K.b (S.KA hs) S.P a 0 (mh_ws_at hs) rfl hin hd (kk p l e s m args below meth c D ad A cA H locs ls K S)
theorem mh_ty_ref (t : Nat) : ∃ C : String, mh_ty (t + 3) = .object C ∧ ∃ (ci : Nat) (T : u_T) (N : Nat), vwCl[ci]? = some (C, T, N) := by
  match t with
  | 0 => exact ⟨RX2, rfl, 2, TX2, 3, rfl⟩
  | t + 1 => exact ⟨RX4, rfl, 4, TX4, 5, rfl⟩
theorem mw_aald {a n t b : Nat} {r : Nat → Option Nat} {i : Int32} (hd : decode cc pc = .ok (.aaload, 1)) (hs : sh[a]? = some (.inr (t + 3, n, r))) (hin : ¬ (i < 0 ∨ n ≤ i.toNatClampNeg)) (hb : r i.toNatClampNeg = some b) (kk : mh_W own cc nL rt ini R n0 mc ms Ex Φ slots sh I L (pc + 1) lv (.ref b :: st)) : mh_W own cc nL rt ini R n0 mc ms Ex Φ slots sh I L pc lv (.int i :: .ref a :: st) := by
  intro p l e s m args below meth c D ad A cA H locs ls K S
  obtain ⟨C, hC, -⟩ := mh_ty_ref t
  have hKA := S.KA hs
  rw [hC] at hKA
  have hk := kk p l e s m args below meth c D ad A cA H locs ls K S
  refine va_aldq (f := fun k => (r k).map ad) K.x K.b hKA S.P a 0 (mh_ws_at hs) rfl hin hd ?_
  rw [hb]
  exact hk
/-- an array's cell written -/
theorem mh_arr_step {nL' : Nat} {s : State} {D : va_G} {ad : Nat → Nat} {A : Nat → Prop} {cA : Nat → ClassId} {H H1 : Heap} {locs locs1 : List Loc} {ls : Array Slot} {sh' : List mh_C} {I' : mh_I} {L' : mh_L} {a t n : Nat} {r r' : Nat → Option Nat} (hs : sh[a]? = some (.inr (t, n, r))) (hsh : sh' = sh.set a (.inr (t, n, r'))) (S : mh_S nL' n0 s D ad A cA sh I L lv H locs ls) {c' : va_E}
    (hc : c' = mh_cell ad cA I' L' a (.inr (t, n, r'))) (hI : ∀ b, b ≠ a → I' b = I b) (hL : ∀ b, b ≠ a → L' b = L b) (hP : va_P D vwCl ((mh_ws ad cA sh I L).set a (ad a, c')) H1) (hD : va_D A ((mh_ws ad cA sh I L).set a (ad a, c'))) (hS : va_S A s.heap H1 locs1) : mh_S nL' n0 s D ad A cA sh' I' L' lv H1 locs1 ls := by
  have ha : a < sh.length := (List.getElem?_eq_some_iff.mp hs).1
  subst hc
  subst hsh
  rw [mh_ws_set ha hI hL] at hP hD
  refine ⟨S.1.set hP hD (fun b t1 n1 r1 h => ?_), hS, S.hlv, by rw [List.length_set]; exact S.hn0, by rw [List.length_set]; exact S.big⟩
  by_cases hb : b = a
  · subst hb
    rw [List.getElem?_set_self ha] at h
    cases h
    exact ⟨r, hs⟩
  · rw [List.getElem?_set_ne (Ne.symm hb)] at h
    exact ⟨r1, h⟩
theorem mw_iast {a n : Nat} {r : Nat → Option Nat} {i x : Int32} (hd : decode cc pc = .ok (.iastore, 1)) (hs : sh[a]? = some (.inr (0, n, r))) (hin : ¬ (i < 0 ∨ n ≤ i.toNatClampNeg)) (kk : mh_W own cc nL rt ini R n0 mc ms Ex Φ slots sh (mh_u I a i.toNatClampNeg x) L (pc + 1) lv st) : mh_W own cc nL rt ini R n0 mc ms Ex Φ slots sh I L pc lv (.int x :: .int i :: .ref a :: st) := by
  intro p l e s m args below meth c D ad A cA H locs ls K S
  refine va_iast K.x K.b (S.KA hs) S.P S.hD S.S a 0 (mh_ws_at hs) rfl hin hd (fun H1 locs1 hP hD hS => ?_)
  exact kk p l e s m args below meth c D ad A cA H1 locs1 ls K (mh_arr_step hs (mh_set_same hs).symm S (by rw [mh_cell, mh_u_row]) mh_u_ne (fun _ _ => rfl) hP hD hS)
theorem mw_last {a n : Nat} {r : Nat → Option Nat} {i : Int32} {x : Int64} (hd : decode cc pc = .ok (.lastore, 1)) (hs : sh[a]? = some (.inr (1, n, r))) (hin : ¬ (i < 0 ∨ n ≤ i.toNatClampNeg)) (kk : mh_W own cc nL rt ini R n0 mc ms Ex Φ slots sh I (mh_ul L a i.toNatClampNeg x) (pc + 1) lv st) : mh_W own cc nL rt ini R n0 mc ms Ex Φ slots sh I L pc lv (.long x :: .int i :: .ref a :: st) := by
  intro p l e s m args below meth c D ad A cA H locs ls K S
  refine va_last K.x K.b (S.KA hs) S.P S.hD S.S a 0 (mh_ws_at hs) rfl hin hd (fun H1 locs1 hP hD hS => ?_)
  refine kk p l e s m args below meth c D ad A cA H1 locs1 ls K (mh_arr_step hs (mh_set_same hs).symm S ?_ (fun _ _ => rfl) mh_ul_ne hP hD hS)
  have hr : vp_updL (L a) i.toNatClampNeg x = mh_ul L a i.toNatClampNeg x a := by funext j; simp [mh_ul, vp_updL]
  rw [mh_cell, hr]
theorem mw_aast {a n t b ci : Nat} {r : Nat → Option Nat} {i : Int32} {fs : List mh_F} (hd : decode cc pc = .ok (.aastore, 1)) (hs : sh[a]? = some (.inr (t + 3, n, r))) (hb : sh[b]? = some (.inl (ci, fs))) (hci : ∃ (C : String) (T : u_T) (N : Nat), vwCl[ci]? = some (C, T, N) ∧ mh_ty (t + 3) = .object C) (hin : ¬ (i < 0 ∨ n ≤ i.toNatClampNeg)) (kk : mh_W own cc nL rt ini R n0 mc ms Ex Φ slots (sh.set a (.inr (t + 3, n, va_up r i.toNatClampNeg (some b)))) I L (pc + 1) lv st) : mh_W own cc nL rt ini R n0 mc ms Ex Φ slots sh I L pc lv (.ref b :: .int i :: .ref a :: st) := by
  intro p l e s m args below meth c D ad A cA H locs ls K S
  obtain ⟨C, T, N, hc, hC⟩ := hci
  have hKA := S.KA hs
  rw [hC] at hKA
  refine va_astq (r := (C, T, N)) (f := fun k => (r k).map ad) K.x K.b ⟨hKA.1, hKA.2⟩ S.P S.hD S.S a 0 b ci (mh_ws_at hs) rfl (mh_ws_at hb) hc hin hd (fun H1 locs1 hP hD hS => ?_)
  have hk := kk p l e s m args below meth c D ad A cA H1 locs1 ls K (mh_arr_step (I' := I) (L' := L) hs rfl S ?_ (fun _ _ => rfl) (fun _ _ => rfl) hP hD hS)
  · rw [List.length_set] at hk
    exact hk
  · rw [mh_cell]
    congr 7
    funext j
    by_cases hj : j = i.toNatClampNeg <;> simp [va_up, hj]
theorem mw_copy {a0 a1 n0' n1' index : Nat} {r0 r1 : Nat → Option Nat} {sp dp n : Int32} (hl : Cond.methodLink own index arraycopyName ∈ mh_TB) (hd : decode cc pc = .ok (.invokestatic index, 3)) (hs0 : sh[a0]? = some (.inr (0, n0', r0))) (hs1 : sh[a1]? = some (.inr (0, n1', r1))) (h1 : ¬ sp < 0) (h2 : ¬ dp < 0) (h3 : ¬ n < 0) (h4 : sp.toNatClampNeg + n.toNatClampNeg ≤ n0') (h5 : dp.toNatClampNeg + n.toNatClampNeg ≤ n1')
    (hw : Cond.native arraycopyName ∈ mh_TB ∧ Cond.static arraycopyName ∈ mh_TB ∧ Cond.initialized "java/lang/System" ∈ mh_TB) (hR : 1 ≤ R.frames ∧ (st.map fun v => v.category).sum + (nativeFrameWords "java/lang/System" "arraycopy" 5 + 11) ≤ R.locals)
    (kk : mh_W own cc nL rt ini R n0 mc ms Ex Φ slots sh (fun b => if b = a1 then va_cpy (I a0) (I a1) sp.toNatClampNeg dp.toNatClampNeg n.toNatClampNeg else I b) L (pc + 3) lv st) : mh_W own cc nL rt ini R n0 mc ms Ex Φ slots sh I L pc lv (.int n :: .int dp :: .ref a1 :: .int sp :: .ref a0 :: st) := by
  intro p l e s m args below meth c D ad A cA H locs ls K S
  have hKK : va_K D vwCl [(cA a0, .int), (cA a1, .int)] s := va_K.app (S.KA hs0) (S.KA hs1)
  refine va_copyi (ty := .int) K.x K.b (K.ml.trans S.hlv.1.symm) K.hown (K.tb _ hl) (K.tb _ hw.1) (K.tb _ hw.2.1) (K.tb _ hw.2.2) hKK S.P S.hD S.S a0 a1 0 1 (mh_ws_at hs0) (mh_ws_at hs1) rfl rfl rfl h1 h2 h3 h4 h5 (fun _ _ => rfl) hR.1 (by rw [mh_cats]; exact hR.2) hd (fun H1 locs1 hP hD hS => ?_)
  exact kk p l e s m args below meth c D ad A cA H1 locs1 ls K (mh_arr_step hs1 (mh_set_same hs1).symm S (by rw [mh_cell]; simp) (fun b hb => by simp [hb]) (fun _ _ => rfl) hP hD hS)
theorem mw_bald8 {a n : Nat} {r : Nat → Option Nat} {i : Int32} (hd : decode cc pc = .ok (.baload, 1)) (hs : sh[a]? = some (.inr (2, n, r))) (hin : ¬ (i < 0 ∨ n ≤ i.toNatClampNeg)) (kk : mh_W own cc nL rt ini R n0 mc ms Ex Φ slots sh I L (pc + 1) lv (.int (I a i.toNatClampNeg) :: st)) : mh_W own cc nL rt ini R n0 mc ms Ex Φ slots sh I L pc lv (.int i :: .ref a :: st) := by
  intro p l e s m args below meth c D ad A cA H locs ls K S
  exact va_bald K.x K.b (S.KA hs) S.P a 0 (mh_ws_at hs) rfl hin hd (kk p l e s m args below meth c D ad A cA H locs ls K S)
theorem mw_bast8 {a n : Nat} {r : Nat → Option Nat} {i x : Int32} (hd : decode cc pc = .ok (.bastore, 1)) (hs : sh[a]? = some (.inr (2, n, r))) (hin : ¬ (i < 0 ∨ n ≤ i.toNatClampNeg)) (kk : mh_W own cc nL rt ini R n0 mc ms Ex Φ slots sh (mh_u I a i.toNatClampNeg (vp_nar .byte x)) L (pc + 1) lv st) : mh_W own cc nL rt ini R n0 mc ms Ex Φ slots sh I L pc lv (.int x :: .int i :: .ref a :: st) := by
  intro p l e s m args below meth c D ad A cA H locs ls K S
  refine va_bast K.x K.b (S.KA hs) S.P S.hD S.S a 0 (mh_ws_at hs) rfl hin hd (fun H1 locs1 hP hD hS => ?_)
  exact kk p l e s m args below meth c D ad A cA H1 locs1 ls K (mh_arr_step hs (mh_set_same hs).symm S (by rw [mh_cell, mh_u_row]) mh_u_ne (fun _ _ => rfl) hP hD hS)
theorem mw_alen8 {a n : Nat} {r : Nat → Option Nat} {v : Int32} (hd : decode cc pc = .ok (.arraylength, 1)) (hs : sh[a]? = some (.inr (2, n, r))) (hv : nI n = v) (kk : mh_W own cc nL rt ini R n0 mc ms Ex Φ slots sh I L (pc + 1) lv (.int v :: st)) : mh_W own cc nL rt ini R n0 mc ms Ex Φ slots sh I L pc lv (.ref a :: st) := by
  intro p l e s m args below meth c D ad A cA H locs ls K S
  exact va_alen (ty := .byte) K.x K.b (S.KA hs) S.P a 0 (mh_ws_at hs) rfl hv hd (kk p l e s m args below meth c D ad A cA H locs ls K S)
theorem mw_copy8 {a0 a1 n0' n1' index : Nat} {r0 r1 : Nat → Option Nat} {sp dp n : Int32} (hl : Cond.methodLink own index arraycopyName ∈ mh_TB) (hd : decode cc pc = .ok (.invokestatic index, 3)) (hs0 : sh[a0]? = some (.inr (2, n0', r0))) (hs1 : sh[a1]? = some (.inr (2, n1', r1))) (h1 : ¬ sp < 0) (h2 : ¬ dp < 0) (h3 : ¬ n < 0) (h4 : sp.toNatClampNeg + n.toNatClampNeg ≤ n0') (h5 : dp.toNatClampNeg + n.toNatClampNeg ≤ n1') (hfit : ∀ i, i < n.toNatClampNeg → fits .byte (.int (I a0 (sp.toNatClampNeg + i))) = true)
    (hw : Cond.native arraycopyName ∈ mh_TB ∧ Cond.static arraycopyName ∈ mh_TB ∧ Cond.initialized "java/lang/System" ∈ mh_TB) (hR : 1 ≤ R.frames ∧ (st.map fun v => v.category).sum + (nativeFrameWords "java/lang/System" "arraycopy" 5 + 11) ≤ R.locals)
    (kk : mh_W own cc nL rt ini R n0 mc ms Ex Φ slots sh (fun b => if b = a1 then va_cpy (I a0) (I a1) sp.toNatClampNeg dp.toNatClampNeg n.toNatClampNeg else I b) L (pc + 3) lv st) : mh_W own cc nL rt ini R n0 mc ms Ex Φ slots sh I L pc lv (.int n :: .int dp :: .ref a1 :: .int sp :: .ref a0 :: st) := by
  intro p l e s m args below meth c D ad A cA H locs ls K S
  have hKK : va_K D vwCl [(cA a0, .byte), (cA a1, .byte)] s := va_K.app (S.KA hs0) (S.KA hs1)
  refine va_copyi (ty := .byte) K.x K.b (K.ml.trans S.hlv.1.symm) K.hown (K.tb _ hl) (K.tb _ hw.1) (K.tb _ hw.2.1) (K.tb _ hw.2.2) hKK S.P S.hD S.S a0 a1 0 1 (mh_ws_at hs0) (mh_ws_at hs1) rfl rfl rfl h1 h2 h3 h4 h5 hfit hR.1 (by rw [mh_cats]; exact hR.2) hd (fun H1 locs1 hP hD hS => ?_)
  exact kk p l e s m args below meth c D ad A cA H1 locs1 ls K (mh_arr_step hs1 (mh_set_same hs1).symm S (by rw [mh_cell]; simp) (fun b hb => by simp [hb]) (fun _ _ => rfl) hP hD hS)
/-- the size of the heap is known between two numbers -/
theorem W_szb {p : Program} {l : Launch} {e : Env} {s : State} {m : MethodId} {args : Array Value} {below : List Frame} {meth : Method} {c : Code} {H : Heap} {locs : List Loc} {cells slots : Nat} {Q : State → Prop} {g : JFrame} (k : s.heap.size ≤ H.size → H.size ≤ s.heap.size + cells → W p l e R s m args below meth c H locs cells slots Q g) : W p l e R s m args below meth c H locs cells slots Q g := by
  intro T hT X
  have h := X.same
  unfold State.sameButNew at h
  have h1 : s.heap.size ≤ T.heap.size := h.2.1
  have h2 : T.heap.size ≤ s.heap.size + cells := h.2.2.1
  rw [hT] at h1 h2
  exact k h1 h2 T hT X
theorem mh_low {D : va_G} {ad : Nat → Nat} {cA : Nat → ClassId} {H : Heap} {z : Nat} (hP : va_P D vwCl (mh_ws ad cA sh I L) H) (had : ∀ a : Nat, n0 ≤ a → a < 1000 → ad a = z + (a - n0)) (hn : n0 ≤ sh.length) (hb : sh.length < 1000) (hz : z ≤ H.size) : z + (sh.length - n0) ≤ H.size := by
  by_cases h : sh.length = n0
  · omega
  · have h1 : sh.length - 1 < sh.length := by omega
    obtain ⟨c, hc⟩ : ∃ c, sh[sh.length - 1]? = some c := ⟨_, List.getElem?_eq_getElem h1⟩
    have h2 := (hP _ _ (mh_ws_at hc)).lt
    rw [had (sh.length - 1) (by omega) (by omega)] at h2
    omega
end MH3
end
section
/-! contracts in the words of the mini heap; a method's start, its end, its calls -/
def mh_CT (y : MethodName) (cc : ByteArray) (maxL : Nat) (rt : Option FieldType) (Rc : Room) (sh : List mh_C) (I : mh_I) (L : mh_L) (av : List Value) (Φ : mh_P) : Prop :=
  ∀ (l : Launch) (D : va_G) (ad : Nat → Nat) (cA : Nat → ClassId) (sz : Nat), sh.length < 1000 → (∀ a : Nat, sh.length ≤ a → a < 1000 → ad a = sz + (a - sh.length)) →
    Met l y (.code y cc maxL rt :: mh_TB) Rc (va_Pc (av.map (mh_v ad)) (fun U => U.heap.size = sz ∧ mh_B D ad cA (mh_A ad sh.length sz) sh I L U.heap U ∧ mh_E (mh_A ad sh.length sz) ad U)) (mh_Q D ad (mh_A ad sh.length sz) sh.length Φ) Rc.cells Rc.slots (mh_A ad sh.length sz)
theorem mh_lvargs (ad : Nat → Nat) : ∀ (av : List Value) (i : Nat), lv_args i (av.map (mh_v ad)) = (lv_args i av).map (fun q => (q.1, mh_v ad q.2))
  | [], _ => rfl
  | v :: vs, i => by
    rw [List.map_cons, lv_args, lv_args, List.map_cons, mh_v_cat, mh_lvargs ad vs]
theorem mh_lgsl (ad : Nat → Nat) : ∀ (av : List Value), (lg_sl (av.map (mh_v ad))).length = (lg_sl av).length
  | [] => rfl
  | v :: vs => by
    have h := mh_lgsl ad vs
    unfold lg_sl at h ⊢
    rw [List.map_cons, List.flatMap_cons, List.flatMap_cons, List.length_append, List.length_append, h, mh_v_cat]
    by_cases hc : v.category = 2 <;> simp [hc]
theorem mh_ofW {y : MethodName} {cc : ByteArray} {maxL : Nat} {rt : Option FieldType} {Rc : Room} {sh : List mh_C} {I : mh_I} {L : mh_L} {av : List Value} {Φ : mh_P} {ini : Bool} (own : String) (hown : own = y.cls) (hy : plainName y.cls = true) (hini : ini = true → y.name = "<init>") (hn : (lg_sl av).length ≤ maxL)
    (h : mh_W own cc maxL rt ini Rc sh.length Rc.cells Rc.slots mh_noX Φ 0 sh I L 0 (lv_args 0 av) []) : mh_CT y cc maxL rt Rc sh I L av Φ := by
  subst hown
  intro l D ad cA sz hbig had
  refine Met.ofW (cc := cc) (maxL := maxL) (ret := rt) hy rfl ?_
  intro p e s m args below meth c s₁ B hml hv
  obtain ⟨rfl, hsz, hB, hE⟩ := hv
  have hts := atoms_spec (ws := .code y cc maxL rt :: mh_TB) B.pre
  have hown : s.vm.findClass y.cls = some m.cls := findClass_of_methodNamed B.named
  subst hsz
  have hl := lv_entry (av.map (mh_v ad)) (n := maxL) (by rw [mh_lgsl]; exact hn)
  rw [lg_entry_eq]
  generalize (lg_sl (av.map (mh_v ad)) ++ List.replicate (maxL - (lg_sl (av.map (mh_v ad))).length) Slot.unset).toArray = ls at hl ⊢
  rw [mh_lvargs] at hl
  have hk := h p l e s m (av.map (mh_v ad)).toArray below meth c D ad (mh_A ad sh.length s.heap.size) cA s.heap [] ls
    ⟨B.exec, B.bytes, hml, B.returns, B.notSynchronized, fun hi => (name_of_methodNamed B.named B.method).1.trans (hini hi), hown, fun w hw => hts w (List.mem_cons_of_mem _ hw), hE, fun q => Iff.rfl, had, trivial⟩
    ⟨hB, va_S.rf, hl, Nat.le_refl _, hbig⟩
  rw [Nat.sub_self] at hk
  exact hk
theorem mh_B.moved {D : va_G} {ad : Nat → Nat} {cA : Nat → ClassId} {A : Nat → Prop} {sh : List mh_C} {I : mh_I} {L : mh_L} {H : Heap} {u U : State} (hvm : u.vm.Alike U.vm) (h : mh_B D ad cA A sh I L H u) : mh_B D ad cA A sh I L H U :=
  ⟨h.1, h.2.1, va_K.moved hvm h.2.2.1, fun a t n r hs => va_K.moved hvm (h.2.2.2 a t n r hs)⟩
section MH4
variable {own : String} {cc : ByteArray} {nL : Nat} {rt : Option FieldType} {ini : Bool} {R : Room} {n0 mc ms : Nat} {Ex : mh_X} {Φ : mh_P} {slots : Nat} {sh : List mh_C} {I : mh_I} {L : mh_L} {pc : Nat} {lv : List (Nat × Value)} {st : List Value}
theorem mh_Qof {nL' : Nat} {s : State} {D : va_G} {ad : Nat → Nat} {A : Nat → Prop} {cA : Nat → ClassId} {H : Heap} {locs : List Loc} {ls : Array Slot} (S : mh_S nL' n0 s D ad A cA sh I L lv H locs ls) {r : Option Value} (hq : Φ r sh I L) {args : Array Value} {t : State} (ht : t.heap = H) (hW : s.WarmedH t.vm) : mh_Q D ad A n0 Φ args s (.returned (r.map (mh_v ad))) t := by
  refine ⟨⟨r, cA, sh, I, L, rfl, hq, ?_, S.big, S.hn0⟩, S.S.F ht⟩
  rw [ht]
  exact S.1.moved hW.alike
theorem mw_iret {v : Int32} {ty : FieldType} (hd : decode cc pc = .ok (.ireturn, 1)) (hr : rt = some ty) (hn : narrow ty (.int v) = .int v) (hc : sh.length - n0 ≤ mc) (hsl : slots ≤ ms) (hq : Φ (some (.int v)) sh I L) : mh_W own cc nL rt ini R n0 mc ms Ex Φ slots sh I L pc lv [.int v] := by
  intro p l e s m args below meth c D ad A cA H locs ls K S
  refine W.widen hc hsl ?_
  exact W.zret K.x K.b (K.hrt.trans hr) hn (fun t ht hW => mh_Qof S hq ht hW) S.S.2.2 hd K.locks
theorem mw_lret {v : Int64} (hd : decode cc pc = .ok (.lreturn, 1)) (hr : rt = some .long) (hc : sh.length - n0 ≤ mc) (hsl : slots ≤ ms) (hq : Φ (some (.long v)) sh I L) : mh_W own cc nL rt ini R n0 mc ms Ex Φ slots sh I L pc lv [.long v] := by
  intro p l e s m args below meth c D ad A cA H locs ls K S
  refine W.widen hc hsl ?_
  exact W.lret K.x K.b (K.hrt.trans hr) (fun t ht hW => mh_Qof S hq ht hW) S.S.2.2 hd K.locks
theorem mw_aret {b : Nat} {ty : FieldType} (hd : decode cc pc = .ok (.areturn, 1)) (hr : rt = some ty) (hty : (∃ n, ty = .object n) ∨ ∃ t, ty = .array t) (hc : sh.length - n0 ≤ mc) (hsl : slots ≤ ms) (hq : Φ (some (.ref b)) sh I L) : mh_W own cc nL rt ini R n0 mc ms Ex Φ slots sh I L pc lv [.ref b] := by
  intro p l e s m args below meth c D ad A cA H locs ls K S
  refine W.widen hc hsl ?_
  exact W.aret K.x K.b (K.hrt.trans hr) hty (Or.inr ⟨_, rfl⟩) (fun t ht hW => mh_Qof S hq ht hW) S.S.2.2 hd K.locks
theorem mw_vret (hd : decode cc pc = .ok (.return_, 1)) (hr : rt = none) (hc : sh.length - n0 ≤ mc) (hsl : slots ≤ ms) (hq : Φ none sh I L) : mh_W own cc nL rt ini R n0 mc ms Ex Φ slots sh I L pc lv [] := by
  intro p l e s m args below meth c D ad A cA H locs ls K S
  refine W.widen hc hsl ?_
  exact W.vret K.x K.b (K.hrt.trans hr) (fun t ht hW => mh_Qof S hq ht hW) S.S.2.2 hd K.locks
end MH4
theorem mh_nw_warm {s U : State} (hW : s.WarmedH U.vm) {w : Cond} (hw : w ∈ mh_NW) (h : va_Nw w s) : va_Nw w U := by
  have h1 : mh_nest w = true := (List.mem_filter.mp hw).2
  cases w with
  | fieldLinkNest a b c d e f => exact va_Nw.warmF hW h
  | methodLinkNest a b c d => exact va_Nw.warmM hW h
  | _ => cases h1
theorem mh_E.move {A B : Nat → Prop} {ad : Nat → Nat} {s U : State} (h : mh_E A ad s) (hW : s.WarmedH U.vm) (hk : ∀ a : Nat, a < s.heap.size → ¬ A a → U.heap[a]? = s.heap[a]?) (hAB : ∀ q, B q → A q) : mh_E B ad U := by
  obtain ⟨h1, h2, h4, h5, h6, h7, h8, h9, h10⟩ := h
  exact ⟨fun w hw => mh_nw_warm hW hw (h1 w hw), fun q hq => vk_R.warm hW (h2 q hq), ((h4.kept hk).moved hW.alike).narrow hAB, ((h5.kept hk).moved hW.alike).narrow hAB, h6.elim (fun h6 => Or.inl (((h6.kept hk).moved hW.alike).narrow hAB)) (fun h6 => Or.inr (((h6.kept hk).moved hW.alike).narrow hAB)), va_AO.moved hW.alike h7, va_AO.moved hW.alike h8, ((h9.kept hk).moved hW.alike).narrow hAB, ((h10.kept hk).moved hW.alike).narrow hAB⟩
theorem mh_blind {D : va_G} {ad : Nat → Nat} {cA : Nat → ClassId} {A : Nat → Prop} {sh : List mh_C} {I : mh_I} {L : mh_L} {sz : Nat} {vs : List Value} : FrameBlind (va_Pc vs (fun U => U.heap.size = sz ∧ mh_B D ad cA A sh I L U.heap U ∧ mh_E A ad U)) := by
  intro a U g mk h
  obtain ⟨h1, h2, h3, h4⟩ := h
  exact ⟨h1, h2, h3.moved (u := U) (U := U.calling g mk a) (Vm.Alike.refl U.vm), h4.move (s := U) (U := U.calling g mk a) (State.WarmedH.refl U) (fun _ _ _ => rfl) (fun _ hq => hq)⟩
/-- what the tables say of a call -/
def mh_cl (own : String) (index : Nat) (y : MethodName) (n : Nat) : Prop :=
  (Cond.methodLink own index y ∈ mh_TB ∨ ∃ host : String, Cond.methodLinkNest own index y host ∈ mh_NW) ∧ Cond.initialized y.cls ∈ mh_TB ∧ (y.cls ≠ "java/lang/invoke/MethodHandle" ∧ y.cls ≠ "java/lang/invoke/VarHandle") ∧ (parseMethodDescriptor y.desc).map (fun d => d.parameters.length) = some n
def mh_cv (own : String) (index : Nat) (y : MethodName) (n : Nat) : Prop := mh_cl own index y n ∧ Cond.instanceMethod y ∈ mh_TB ∧ Cond.selects y.cls y y ∈ mh_TB
def mh_cvC (C own : String) (index : Nat) (y : MethodName) (n : Nat) : Prop := mh_cl own index y n ∧ Cond.instanceMethod y ∈ mh_TB ∧ Cond.selects C y y ∈ mh_TB
def mh_cs (own : String) (index : Nat) (y : MethodName) (n : Nat) : Prop := mh_cl own index y n ∧ Cond.static y ∈ mh_TB
def mh_ci (own : String) (index : Nat) (y : MethodName) (n : Nat) : Prop := mh_cl own index y n ∧ Cond.instanceMethod y ∈ mh_TB ∧ y.name = "<init>"
theorem mh_good {y : MethodName} {cc : ByteArray} {maxL : Nat} {rt : Option FieldType} (h : Cond.code y cc maxL rt ∈ mh_TB) : GoodIn mh_TB (.code y cc maxL rt :: mh_TB) := by
  intro w hw
  rcases List.mem_cons.mp hw with rfl | hw
  · exact ⟨h, good_of_word (List.mem_filter.mp h).2⟩
  · exact ⟨hw, good_of_word (List.mem_filter.mp hw).2⟩
section MH5
variable {p : Program} {l : Launch} {e : Env} {R : Room} {s : State} {m : MethodId} {args : Array Value} {below : List Frame} {meth : Method} {c : Code} {H : Heap} {locs : List Loc} {cells slots : Nat} {Q : State → Prop} {pc : Nat} {ls : Array Slot} {rest st0 : List Value} {a : Array Value} {mc ms : Nat} {free : Addr → Prop}
/-- behind a call -/
theorem mh_on {D : va_G} {ad : Nat → Nat} {A A1 : Nat → Prop} {n1 : Nat} {Φ : mh_P} (hr : va_Run p l e R s m args below meth c H locs cells slots mc ms (F0 m pc ls st0) rest (mh_Q D ad A1 n1 Φ a) free) (hS : va_S A s.heap H locs) (hA : ∀ q, A1 q → A q) (hf : ∀ q, free q → A q)
    (kk : ∀ (r : Option Value) (cA : Nat → ClassId) (sh : List mh_C) (I : mh_I) (L : mh_L) (H1 : Heap) (locs1 : List Loc), Φ r sh I L → mh_B D ad cA A1 sh I L H1 s → sh.length < 1000 → n1 ≤ sh.length → va_S A s.heap H1 locs1 → (H.size ≤ H1.size ∧ ∀ q : Nat, q < H.size → ¬ A1 q → H1[q]? = H[q]?) → W p l e R s m args below meth c H1 locs1 (cells + mc) (slots + ms) Q (F0 m (pc + 3) ls ((r.map (mh_v ad)).toList ++ rest))) : W p l e R s m args below meth c H locs cells slots Q (F0 m pc ls st0) := by
  intro T hT X
  obtain ⟨v, st₀, t, T', L0, h0, X', hL, e1, e2, ⟨⟨r, cA, sh, I, L, hv, hφ, hB, hbig, hn⟩, hz, hk⟩, st⟩ := hr T hT X
  cases hv
  rw [h0] at hz hk
  have hal : s.vm.Alike t.vm := by rw [← e2]; exact X'.warmed.alike
  obtain ⟨t2, a1, b1⟩ := kk r cA sh I L T'.heap (locs ++ L0) hφ (by rw [e1]; exact hB.moved hal.symm) hbig hn
    ⟨Nat.le_trans hS.1 (by rw [e1]; exact hz), fun q h1 h2 => by rw [e1, hk q (Nat.lt_of_lt_of_le h1 hS.1) (fun z => h2 (hA q z))]; exact hS.2.1 q h1 h2, fun q hq => by
      rcases List.mem_append.mp hq with h | h
      · exact hS.2.2 q h
      · exact hf _ (hL q h)⟩ ⟨by rw [e1]; exact hz, fun q h1 h2 => by rw [e1]; exact hk q h1 h2⟩ T' rfl X'
  exact ⟨t2, st t2 a1, b1⟩
end MH5
end
section
section MH6
variable {own : String} {cc : ByteArray} {nL : Nat} {rt : Option FieldType} {ini : Bool} {R : Room} {n0 mc ms : Nat} {Ex : mh_X} {Φ : mh_P} {slots : Nat} {sh : List mh_C} {I : mh_I} {L : mh_L} {pc : Nat} {lv : List (Nat × Value)} {st : List Value}
/-- the start of a callee's world is the caller's -/
theorem mh_pre {nL' : Nat} {p : Program} {s : State} {m : MethodId} {args : Array Value} {meth : Method} {c : Code} {D : va_G} {ad : Nat → Nat} {A : Nat → Prop} {cA : Nat → ClassId} {H : Heap} {locs : List Loc} {ls : Array Slot} (K : mh_K own cc nL rt ini n0 Ex p s m args meth c ad A) (S : mh_S nL' n0 s D ad A cA sh I L lv H locs ls) (hz : H.size ≤ s.heap.size + (sh.length - n0)) :
    (∀ a : Nat, sh.length ≤ a → a < 1000 → ad a = H.size + (a - sh.length)) ∧ (∀ q, mh_A ad sh.length H.size q → A q) ∧ ∀ U : State, U.heap = H → s.WarmedH U.vm → U.heap.size = H.size ∧ mh_B D ad cA (mh_A ad sh.length H.size) sh I L U.heap U ∧ mh_E (mh_A ad sh.length H.size) ad U := by
  have hlow := mh_low S.P K.had S.hn0 S.big S.S.1
  have hAA : ∀ q, mh_A ad sh.length H.size q → A q := by
    intro q hq
    rcases hq with ⟨a, h1, rfl⟩ | hq
    · obtain ⟨x, hx⟩ : ∃ x, sh[a]? = some x := ⟨_, List.getElem?_eq_getElem h1⟩
      exact S.hD.2 _ _ (mh_ws_at hx)
    · exact K.new q (Nat.le_trans S.S.1 hq)
  refine ⟨fun a h1 h2 => ?_, hAA, fun U hU hW => ⟨by rw [hU], ?_, ?_⟩⟩
  · have h3 := S.hn0
    rw [K.had a (by omega) h2]
    omega
  · rw [hU]
    refine (mh_B.moved hW.alike (?_ : mh_B D ad cA (mh_A ad sh.length H.size) sh I L H s))
    refine ⟨S.P, S.hD.weaken (fun k q hk _ => ?_), S.1.2.2⟩
    have hk1 : k < sh.length := by
      have := (List.getElem?_eq_some_iff.mp hk).1
      rw [mh_ws_len] at this
      exact this
    obtain ⟨x, hx⟩ : ∃ x, sh[k]? = some x := ⟨_, List.getElem?_eq_getElem hk1⟩
    rw [mh_ws_at hx] at hk
    cases hk
    exact Or.inl ⟨k, hk1, rfl⟩
  · exact K.e.move hW (fun a h1 h2 => by rw [hU]; exact S.S.2.1 a h1 h2) hAA
/-- what comes back from a call is the caller's world again -/
theorem mh_back {nL' : Nat} {s : State} {D : va_G} {ad : Nat → Nat} {A A1 : Nat → Prop} {cA cA1 : Nat → ClassId} {H H1 : Heap} {locs locs1 : List Loc} {ls : Array Slot} {sh1 : List mh_C} {I1 : mh_I} {L1 : mh_L} (S : mh_S nL' n0 s D ad A cA sh I L lv H locs ls) (hAA : ∀ q, A1 q → A q) (hB : mh_B D ad cA1 A1 sh1 I1 L1 H1 s) (hbig : sh1.length < 1000) (hn : sh.length ≤ sh1.length) (hS : va_S A s.heap H1 locs1) : mh_S nL' n0 s D ad A cA1 sh1 I1 L1 lv H1 locs1 ls :=
  ⟨⟨hB.1, hB.2.1.weaken (fun _ q _ h => hAA q.1 h), hB.2.2⟩, hS, S.hlv, Nat.le_trans S.hn0 hn, hbig⟩
theorem mw_callV {index n ci : Nat} {y : MethodName} {bytes : ByteArray} {maxL : Nat} {ret : Option FieldType} {Rc : Room} {Φ' : mh_P} {b : Nat} {fs : List mh_F} {T : u_T} {N : Nat} (q : mh_cv own index y n) (hcode : Cond.code y bytes maxL ret ∈ mh_TB) (hd : decode cc pc = .ok (.invokevirtual index, 3)) (As : List Value) (stk : List Value) (hstk : stk = As.reverse ++ .ref b :: st) (hn : As.length = n) (hs : sh[b]? = some (.inl (ci, fs))) (hci : vwCl[ci]? = some (y.cls, T, N))
    (hC : mh_CT y bytes maxL ret Rc sh I L (.ref b :: As) Φ') (hR : Rc.frames + 1 ≤ R.frames ∧ 8 + (maxL + 11) + Rc.locals ≤ R.locals) (hrest : (st.map fun v => v.category).sum ≤ 8) (hcs : sh.length - n0 + Rc.cells ≤ R.cells ∧ slots + Rc.slots ≤ R.slots)
    (kk : ∀ r sh1 I1 L1, Φ' r sh1 I1 L1 → sh1.length = sh.length + Rc.cells ∧ mh_W own cc nL rt ini R n0 mc ms Ex Φ (slots + Rc.slots) sh1 I1 L1 (pc + 3) lv (r.toList ++ st)) : mh_W own cc nL rt ini R n0 mc ms Ex Φ slots sh I L pc lv stk := by
  subst hstk
  intro p l e s m args below meth c D ad A cA H locs ls K S
  refine W_szb (fun hz0 hz => ?_)
  obtain ⟨had, hAA, hpre⟩ := mh_pre K S hz
  have hM := hC l D ad cA H.size S.big had
  have hrun := fun (cw : (mh_cl own index y n)) => (?_ : va_Run p l e R s m args below meth c H locs (sh.length - n0) slots Rc.cells Rc.slots (F0 m pc ls ((As.reverse ++ .ref b :: st).map (mh_v ad))) (st.map (mh_v ad)) (mh_Q D ad (mh_A ad sh.length H.size) sh.length Φ' (Value.ref (ad b) :: As.map (mh_v ad)).toArray) (mh_A ad sh.length H.size))
  · refine mh_on (hrun q.1) S.S hAA hAA (fun r cA1 sh1 I1 L1 H1 locs1 hφ hB hbig hn1 hS1 _ => ?_)
    obtain ⟨hlen, hk⟩ := kk r sh1 I1 L1 hφ
    have hk1 := hk p l e s m args below meth c D ad A cA1 H1 locs1 ls K (mh_back S hAA hB hbig hn1 hS1)
    have h3 := S.hn0
    rw [show sh1.length - n0 = sh.length - n0 + Rc.cells by omega, List.map_append] at hk1
    have e1 : r.toList.map (mh_v ad) = (r.map (mh_v ad)).toList := by cases r <;> rfl
    rw [e1] at hk1
    exact hk1
  · have hstack : (As.reverse ++ Value.ref b :: st).map (mh_v ad) = (As.map (mh_v ad)).reverse ++ Value.ref (ad b) :: st.map (mh_v ad) := by
      rw [List.map_append, List.map_reverse, List.map_cons]; rfl
    have hsum : 2 * (F0 m pc ls ((As.reverse ++ Value.ref b :: st).map (mh_v ad))).monitorRoom + ((st.map (mh_v ad)).map fun v => v.category).sum ≤ 8 := lv_room (by rw [mh_cats]; exact hrest)
    obtain ⟨⟨hlink, hini', hy, hdesc⟩, hinst, hsel⟩ := q
    have hpv : PreV s H y.cls (ad b) (va_Pc ((Value.ref b :: As).map (mh_v ad)) (fun U => U.heap.size = H.size ∧ mh_B D ad cA (mh_A ad sh.length H.size) sh I L U.heap U ∧ mh_E (mh_A ad sh.length H.size) ad U)) (As.map (mh_v ad)) :=
      ⟨mh_blind, va_recv (ci := ci) (q := (y.cls, T, N)) S.K S.P hci (mh_ws_at hs), fun U hU hW => ⟨rfl, hpre U hU hW⟩⟩
    rcases hlink with hlink | ⟨host, hlink⟩
    · exact va_runV (nL := nL) (own := own) (C := y.cls) (As := As.map (mh_v ad)) ⟨K.x, K.b, K.ml, K.hown, K.tb⟩ hM ⟨callB_of n K.tb (mh_good hcode) rfl rfl rfl (K.tb _ hini') (K.tb _ hlink) ⟨hy.1, hy.2, hdesc⟩ hR, K.tb _ hinst, K.tb _ hsel⟩ hpv rfl (by rw [List.length_map]; exact hn) S.hlv.1 hstack hsum hd hcs
    · exact va_runVN (nL := nL) (own := own) (C := y.cls) (host := host) (As := As.map (mh_v ad)) ⟨K.x, K.b, K.ml, K.hown, K.tb⟩ hM ⟨va_cnB n K.tb (mh_good hcode) rfl rfl rfl (K.e.1 _ hlink) (K.tb _ hini') ⟨hy.1, hy.2, hdesc⟩ hR, K.tb _ hinst, K.tb _ hsel⟩ hpv rfl (by rw [List.length_map]; exact hn) S.hlv.1 hstack hsum hd hcs
theorem mw_callS {index n : Nat} {y : MethodName} {bytes : ByteArray} {maxL : Nat} {ret : Option FieldType} {Rc : Room} {Φ' : mh_P} (q : mh_cs own index y n) (hcode : Cond.code y bytes maxL ret ∈ mh_TB) (hd : decode cc pc = .ok (.invokestatic index, 3)) (As : List Value) (stk : List Value) (hstk : stk = As.reverse ++ st) (hn : As.length = n)
    (hC : mh_CT y bytes maxL ret Rc sh I L As Φ') (hR : Rc.frames + 1 ≤ R.frames ∧ 8 + (maxL + 11) + Rc.locals ≤ R.locals) (hrest : (st.map fun v => v.category).sum ≤ 8) (hcs : sh.length - n0 + Rc.cells ≤ R.cells ∧ slots + Rc.slots ≤ R.slots)
    (kk : ∀ r sh1 I1 L1, Φ' r sh1 I1 L1 → sh1.length = sh.length + Rc.cells ∧ mh_W own cc nL rt ini R n0 mc ms Ex Φ (slots + Rc.slots) sh1 I1 L1 (pc + 3) lv (r.toList ++ st)) : mh_W own cc nL rt ini R n0 mc ms Ex Φ slots sh I L pc lv stk := by
  subst hstk
  intro p l e s m args below meth c D ad A cA H locs ls K S
  refine W_szb (fun hz0 hz => ?_)
  obtain ⟨had, hAA, hpre⟩ := mh_pre K S hz
  have hM := hC l D ad cA H.size S.big had
  have hrun := fun (cw : (mh_cl own index y n)) => (?_ : va_Run p l e R s m args below meth c H locs (sh.length - n0) slots Rc.cells Rc.slots (F0 m pc ls ((As.reverse ++ st).map (mh_v ad))) (st.map (mh_v ad)) (mh_Q D ad (mh_A ad sh.length H.size) sh.length Φ' (As.map (mh_v ad)).toArray) (mh_A ad sh.length H.size))
  · refine mh_on (hrun q.1) S.S hAA hAA (fun r cA1 sh1 I1 L1 H1 locs1 hφ hB hbig hn1 hS1 _ => ?_)
    obtain ⟨hlen, hk⟩ := kk r sh1 I1 L1 hφ
    have hk1 := hk p l e s m args below meth c D ad A cA1 H1 locs1 ls K (mh_back S hAA hB hbig hn1 hS1)
    have h3 := S.hn0
    rw [show sh1.length - n0 = sh.length - n0 + Rc.cells by omega, List.map_append] at hk1
    have e1 : r.toList.map (mh_v ad) = (r.map (mh_v ad)).toList := by cases r <;> rfl
    rw [e1] at hk1
    exact hk1
  · have hstack : (As.reverse ++ st).map (mh_v ad) = (As.map (mh_v ad)).reverse ++ st.map (mh_v ad) := by
      rw [List.map_append, List.map_reverse]
    have hsum : 2 * (F0 m pc ls ((As.reverse ++ st).map (mh_v ad))).monitorRoom + ((st.map (mh_v ad)).map fun v => v.category).sum ≤ 8 := lv_room (by rw [mh_cats]; exact hrest)
    obtain ⟨⟨hlink, hini', hy, hdesc⟩, hstat⟩ := q
    have hpv : PreS s H (va_Pc (As.map (mh_v ad)) (fun U => U.heap.size = H.size ∧ mh_B D ad cA (mh_A ad sh.length H.size) sh I L U.heap U ∧ mh_E (mh_A ad sh.length H.size) ad U)) (As.map (mh_v ad)) :=
      ⟨mh_blind, fun U hU hW => ⟨rfl, hpre U hU hW⟩⟩
    rcases hlink with hlink | ⟨host, hlink⟩
    · exact va_runS (nL := nL) (own := own) (As := As.map (mh_v ad)) ⟨K.x, K.b, K.ml, K.hown, K.tb⟩ hM ⟨callB_of n K.tb (mh_good hcode) rfl rfl rfl (K.tb _ hini') (K.tb _ hlink) ⟨hy.1, hy.2, hdesc⟩ hR, K.tb _ hstat⟩ hpv rfl (by rw [List.length_map]; exact hn) S.hlv.1 hstack hsum hd hcs
    · exact va_runSN (nL := nL) (own := own) (host := host) (As := As.map (mh_v ad)) ⟨K.x, K.b, K.ml, K.hown, K.tb⟩ hM ⟨va_cnB n K.tb (mh_good hcode) rfl rfl rfl (K.e.1 _ hlink) (K.tb _ hini') ⟨hy.1, hy.2, hdesc⟩ hR, K.tb _ hstat, trivial⟩ hpv rfl (by rw [List.length_map]; exact hn) S.hlv.1 hstack hsum hd hcs
theorem mw_callI {index n : Nat} {y : MethodName} {bytes : ByteArray} {maxL : Nat} {Rc : Room} {Φ' : mh_P} {b : Nat} (q : mh_ci own index y n) (hcode : Cond.code y bytes maxL none ∈ mh_TB) (hd : decode cc pc = .ok (.invokespecial index, 3)) (As : List Value) (stk : List Value) (hstk : stk = As.reverse ++ .ref b :: st) (hn : As.length = n)
    (hC : mh_CT y bytes maxL none Rc sh I L (.ref b :: As) Φ') (hR : Rc.frames + 1 ≤ R.frames ∧ 8 + (maxL + 11) + Rc.locals ≤ R.locals) (hrest : (st.map fun v => v.category).sum ≤ 8) (hcs : sh.length - n0 + Rc.cells ≤ R.cells ∧ slots + Rc.slots ≤ R.slots)
    (kk : ∀ r sh1 I1 L1, Φ' r sh1 I1 L1 → sh1.length = sh.length + Rc.cells ∧ mh_W own cc nL rt ini R n0 mc ms Ex Φ (slots + Rc.slots) sh1 I1 L1 (pc + 3) lv (r.toList ++ st)) : mh_W own cc nL rt ini R n0 mc ms Ex Φ slots sh I L pc lv stk := by
  subst hstk
  intro p l e s m args below meth c D ad A cA H locs ls K S
  refine W_szb (fun hz0 hz => ?_)
  obtain ⟨had, hAA, hpre⟩ := mh_pre K S hz
  have hM := hC l D ad cA H.size S.big had
  have hrun := fun (cw : (mh_cl own index y n)) => (?_ : va_Run p l e R s m args below meth c H locs (sh.length - n0) slots Rc.cells Rc.slots (F0 m pc ls ((As.reverse ++ .ref b :: st).map (mh_v ad))) (st.map (mh_v ad)) (mh_Q D ad (mh_A ad sh.length H.size) sh.length Φ' (Value.ref (ad b) :: As.map (mh_v ad)).toArray) (mh_A ad sh.length H.size))
  · refine mh_on (hrun q.1) S.S hAA hAA (fun r cA1 sh1 I1 L1 H1 locs1 hφ hB hbig hn1 hS1 _ => ?_)
    obtain ⟨hlen, hk⟩ := kk r sh1 I1 L1 hφ
    have hk1 := hk p l e s m args below meth c D ad A cA1 H1 locs1 ls K (mh_back S hAA hB hbig hn1 hS1)
    have h3 := S.hn0
    rw [show sh1.length - n0 = sh.length - n0 + Rc.cells by omega, List.map_append] at hk1
    have e1 : r.toList.map (mh_v ad) = (r.map (mh_v ad)).toList := by cases r <;> rfl
    rw [e1] at hk1
    exact hk1
  · have hstack : (As.reverse ++ Value.ref b :: st).map (mh_v ad) = (As.map (mh_v ad)).reverse ++ Value.ref (ad b) :: st.map (mh_v ad) := by
      rw [List.map_append, List.map_reverse, List.map_cons]; rfl
    have hsum : 2 * (F0 m pc ls ((As.reverse ++ Value.ref b :: st).map (mh_v ad))).monitorRoom + ((st.map (mh_v ad)).map fun v => v.category).sum ≤ 8 := lv_room (by rw [mh_cats]; exact hrest)
    obtain ⟨⟨hlink, hini', hy, hdesc⟩, hinst, hnm⟩ := q
    have hpv : PreS s H (va_Pc ((Value.ref b :: As).map (mh_v ad)) (fun U => U.heap.size = H.size ∧ mh_B D ad cA (mh_A ad sh.length H.size) sh I L U.heap U ∧ mh_E (mh_A ad sh.length H.size) ad U)) (.ref (ad b) :: As.map (mh_v ad)) :=
      ⟨mh_blind, fun U hU hW => ⟨rfl, hpre U hU hW⟩⟩
    rcases hlink with hlink | ⟨host, hlink⟩
    · exact va_runI (nL := nL) (own := own) (As := As.map (mh_v ad)) ⟨K.x, K.b, K.ml, K.hown, K.tb⟩ hM ⟨callB_of n K.tb (mh_good hcode) rfl rfl rfl (K.tb _ hini') (K.tb _ hlink) ⟨hy.1, hy.2, hdesc⟩ hR, hnm, K.tb _ hinst⟩ hpv rfl (by rw [List.length_map]; exact hn) S.hlv.1 hstack hsum hd hcs
    · exact va_runIN (nL := nL) (own := own) (host := host) (As := As.map (mh_v ad)) ⟨K.x, K.b, K.ml, K.hown, K.tb⟩ hM ⟨va_cnB n K.tb (mh_good hcode) rfl rfl rfl (K.e.1 _ hlink) (K.tb _ hini') ⟨hy.1, hy.2, hdesc⟩ hR, hnm, K.tb _ hinst⟩ hpv rfl (by rw [List.length_map]; exact hn) S.hlv.1 hstack hsum hd hcs
end MH6
end
section
def mh_z (I : mh_I) (a : Nat) : mh_I := fun b => if b = a then fun _ => 0 else I b
def mh_zl (L : mh_L) (a : Nat) : mh_L := fun b => if b = a then fun _ => 0 else L b
def mh_d : mh_F → Value
  | .inl 0 => .int 0
  | .inl (_ + 1) => .long 0
  | .inr _ => .null
theorem mh_ws_push {ad : Nat → Nat} {cA cA' : Nat → ClassId} {sh : List mh_C} {I I' : mh_I} {L L' : mh_L} {c : mh_C} (hI : ∀ b, b < sh.length → I' b = I b) (hL : ∀ b, b < sh.length → L' b = L b) (hA : ∀ b, b < sh.length → cA' b = cA b) : mh_ws ad cA' (sh ++ [c]) I' L' = mh_ws ad cA sh I L ++ [(ad sh.length, mh_cell ad cA' I' L' sh.length c)] := by
  unfold mh_ws
  rw [List.mapIdx_append]
  congr 1
  · apply List.ext_getElem?
    intro j
    rw [List.getElem?_mapIdx, List.getElem?_mapIdx]
    cases h : sh[j]? with
    | none => rfl
    | some x =>
      have hj := (List.getElem?_eq_some_iff.mp h).1
      simp only [Option.map_some]
      rw [mh_cell_congr (hI j hj) (hL j hj) (hA j hj)]
  · simp
section MH7
variable {own : String} {cc : ByteArray} {nL : Nat} {rt : Option FieldType} {ini : Bool} {R : Room} {n0 mc ms : Nat} {Ex : mh_X} {Φ : mh_P} {slots : Nat} {sh : List mh_C} {I : mh_I} {L : mh_L} {pc : Nat} {lv : List (Nat × Value)} {st : List Value}
/-- a cell that is made lies just where the mini heap says -/
theorem mh_newq {s : State} {D : va_G} {ad : Nat → Nat} {A : Nat → Prop} {cA : Nat → ClassId} {H1 : Heap} {q : Nat} {x : va_E} (hA : ∀ q : Nat, A q ↔ mh_A ad n0 s.heap.size q) (had : ∀ a : Nat, n0 ≤ a → a < 1000 → ad a = s.heap.size + (a - n0)) (hn : n0 ≤ sh.length) (hb : sh.length < 1000) (hP : va_P D vwCl (mh_ws ad cA sh I L ++ [(q, x)]) H1) (hD : va_D A (mh_ws ad cA sh I L ++ [(q, x)])) (hz : H1.size ≤ s.heap.size + (sh.length - n0 + 1)) : q = ad sh.length := by
  have hlast : (mh_ws ad cA sh I L ++ [(q, x)])[sh.length]? = some (q, x) := by
    rw [List.getElem?_append_right (by rw [mh_ws_len]; exact Nat.le_refl _), mh_ws_len, Nat.sub_self]; rfl
  have hlt := (hP _ _ hlast).lt
  have hne : ∀ a, a < sh.length → q ≠ ad a := by
    intro a ha e
    obtain ⟨c, hc⟩ : ∃ c, sh[a]? = some c := ⟨_, List.getElem?_eq_getElem ha⟩
    have h1 : (mh_ws ad cA sh I L ++ [(q, x)])[a]? = some (ad a, mh_cell ad cA I L a c) := by
      rw [List.getElem?_append_left (by rw [mh_ws_len]; exact ha)]
      exact mh_ws_at hc
    have := hD.1 _ _ _ _ hlast h1 e
    omega
  rcases (hA q).mp (hD.2 _ _ hlast) with ⟨a, ha, e⟩ | hq
  · exact absurd e (hne a (by omega))
  · dsimp only at hlt
    by_cases hj : q - s.heap.size < sh.length - n0
    · have := hne (n0 + (q - s.heap.size)) (by omega)
      rw [had _ (by omega) (by omega)] at this
      omega
    · rw [had _ hn hb]
      omega
/-- the world with one cell more -/
theorem mh_grow {nL' : Nat} {p : Program} {s : State} {m : MethodId} {args : Array Value} {meth : Method} {c : Code} {D : va_G} {ad : Nat → Nat} {A : Nat → Prop} {cA cA' : Nat → ClassId} {H H1 : Heap} {locs : List Loc} {ls : Array Slot} {q : Nat} {x : va_E} {I' : mh_I} {L' : mh_L} {cn : mh_C} (K : mh_K own cc nL rt ini n0 Ex p s m args meth c ad A) (S : mh_S nL' n0 s D ad A cA sh I L lv H locs ls) (hP : va_P D vwCl (mh_ws ad cA sh I L ++ [(q, x)]) H1) (hD : va_D A (mh_ws ad cA sh I L ++ [(q, x)])) (hS : va_S A s.heap H1 locs) (hz : H1.size ≤ s.heap.size + (sh.length - n0 + 1)) (hbig : sh.length < 999)
    (hx : x = mh_cell ad cA' I' L' sh.length cn) (hI : ∀ b, b < sh.length → I' b = I b) (hL : ∀ b, b < sh.length → L' b = L b) (hA : ∀ b, b < sh.length → cA' b = cA b) (hk : ∀ (t n : Nat) (r : Nat → Option Nat), cn = .inr (t, n, r) → va_K D vwCl [(cA' sh.length, mh_ty t)] s) : mh_S nL' n0 s D ad A cA' (sh ++ [cn]) I' L' lv H1 locs ls := by
  have hq := mh_newq K.hA K.had S.hn0 S.big hP hD hz
  subst hq
  subst hx
  rw [← mh_ws_push hI hL hA] at hP hD
  refine ⟨⟨hP, hD, S.K, fun a t n r h => ?_⟩, hS, S.hlv, ?_, ?_⟩
  · by_cases ha : a < sh.length
    · rw [List.getElem?_append_left ha] at h
      have := S.KA h
      rw [hA a ha]
      exact this
    · have hl := (List.getElem?_eq_some_iff.mp h).1
      rw [List.length_append] at hl
      have ha2 : a = sh.length := by simp at hl; omega
      subst ha2
      rw [List.getElem?_append_right (Nat.le_refl _), Nat.sub_self] at h
      exact hk t n r (Option.some.inj h)
  · rw [List.length_append]; exact Nat.le_trans S.hn0 (Nat.le_add_right _ _)
  · rw [List.length_append]; simp; omega
def mh_nw (own : String) (index ci : Nat) (fs : List mh_F) : Prop :=
  ∃ (C : String) (T : u_T) (N : Nat) (ty0 : Nat → FieldType), vwCl[ci]? = some (C, T, N) ∧ (∀ w ∈ u_ws C T N, w ∈ mh_TB) ∧ (∀ k, k < N → parseFieldDescriptor (T k).2.2.1 = some (ty0 k)) ∧ Cond.classLink own index C ∈ mh_TB ∧ Cond.instantiable C N ∈ mh_TB ∧ Cond.initialized C ∈ mh_TB ∧ fs.length = N ∧ (∀ j, j < N → defaultValue (ty0 j) = vp_V (fs.map mh_d) j) ∧ ∀ f ∈ fs, f = .inl 0 ∨ f = .inl 1 ∨ f = .inr none
theorem mw_new {index ci : Nat} {fs : List mh_F} (q : mh_nw own index ci fs) (hd : decode cc pc = .ok (.new index, 3)) (hbig : sh.length < 999) (hcs : sh.length - n0 + 1 ≤ R.cells ∧ slots + fs.length ≤ R.slots)
    (kk : mh_W own cc nL rt ini R n0 mc ms Ex Φ (slots + fs.length) (sh ++ [.inl (ci, fs)]) (mh_z I sh.length) (mh_zl L sh.length) (pc + 3) lv (.ref sh.length :: st)) : mh_W own cc nL rt ini R n0 mc ms Ex Φ slots sh I L pc lv st := by
  intro p l e s m args below meth c D ad A cA H locs ls K S
  obtain ⟨C, T, N, ty0, hc, hin, hty, hcl, hinst, hini', hN, hdef, hf⟩ := q
  subst hN
  refine va_new (ci := ci) (fs := fs.map mh_d) (T := T) K.x K.b K.tb hin ty0 hty K.hown (K.tb _ hcl) (K.tb _ hinst) (K.tb _ hini') S.K S.P S.hD S.S K.new hc hdef hcs.1 hcs.2 hd (fun q H1 hP hD hS => ?_)
  refine W_szb (fun _ hz => ?_)
  have hcell : (Sum.inr (ci, fs.map mh_d) : va_E) = mh_cell ad cA (mh_z I sh.length) (mh_zl L sh.length) sh.length (.inl (ci, fs)) := by
    rw [mh_cell]
    refine congrArg (fun z => (Sum.inr (ci, z) : va_E)) ?_
    apply List.ext_getElem?
    intro j
    rw [List.getElem?_map, List.getElem?_mapIdx]
    cases h : fs[j]? with
    | none => rfl
    | some f =>
      simp only [Option.map_some]
      rcases hf f (List.mem_of_getElem? h) with rfl | rfl | rfl
      · simp [mh_d, mh_fv, mh_z]
      · simp [mh_d, mh_fv, mh_zl]
      · rfl
  have hq := mh_newq K.hA K.had S.hn0 S.big hP hD hz
  have hS1 := mh_grow (cn := .inl (ci, fs)) (cA' := cA) (I' := mh_z I sh.length) (L' := mh_zl L sh.length) K S hP hD hS hz hbig hcell (fun b hb => by simp [mh_z, Nat.ne_of_lt hb]) (fun b hb => by simp [mh_zl, Nat.ne_of_lt hb]) (fun _ _ => rfl) (fun t n r h => by cases h)
  have hk := kk p l e s m args below meth c D ad A cA H1 locs ls K hS1
  have h3 := S.hn0
  rw [List.length_append, show sh.length + [(Sum.inl (ci, fs) : mh_C)].length - n0 = sh.length - n0 + 1 by simp; omega] at hk
  rw [hq]
  exact hk
theorem mw_newa {t N : Nat} {n : Int32} {atype : ArrayType} (ht : t = 0 ∧ atype = .int ∨ t = 1 ∧ atype = .long ∨ t = 2 ∧ atype = .byte) (hw : Cond.arrayClass (newarray.typeOf atype) ∈ mh_TB) (hd : decode cc pc = .ok (.newarray atype, 2)) (hn : ¬ n < 0) (hN : n.toNatClampNeg = N) (hN2 : N ≤ 60000000) (hbig : sh.length < 999) (hcs : sh.length - n0 + 1 ≤ R.cells ∧ slots + N ≤ R.slots)
    (kk : mh_W own cc nL rt ini R n0 mc ms Ex Φ (slots + N) (sh ++ [.inr (t, N, fun _ => none)]) (mh_z I sh.length) (mh_zl L sh.length) (pc + 2) lv (.ref sh.length :: st)) : mh_W own cc nL rt ini R n0 mc ms Ex Φ slots sh I L pc lv (.int n :: st) := by
  intro p l e s m args below meth c D ad A cA H locs ls K S
  have h3 := S.hn0
  have fin : ∀ (q : Nat) (c' : ClassId) (H1 : Heap) (x : va_E), (∀ cA', cA' sh.length = c' → x = mh_cell ad cA' (mh_z I sh.length) (mh_zl L sh.length) sh.length (.inr (t, N, fun _ => none))) → va_K D vwCl [(c', mh_ty t)] s → va_P D vwCl (mh_ws ad cA sh I L ++ [(q, x)]) H1 → va_D A (mh_ws ad cA sh I L ++ [(q, x)]) → va_S A s.heap H1 locs →
      W p l e R s m args below meth c H1 locs (sh.length - n0 + 1) (slots + N) (MQ below (mh_Q D ad A n0 Φ) args s mc ms A) (F0 m (pc + 2) ls (.ref q :: st.map (mh_v ad))) := by
    intro q c' H1 x hx hKn hP hD hS
    refine W_szb (fun _ hz => ?_)
    have hq := mh_newq K.hA K.had S.hn0 S.big hP hD hz
    have hS1 := mh_grow (cn := .inr (t, N, fun _ => none)) (cA' := fun b => if b = sh.length then c' else cA b) (I' := mh_z I sh.length) (L' := mh_zl L sh.length) K S hP hD hS hz hbig (hx _ (by simp)) (fun b hb => by simp [mh_z, Nat.ne_of_lt hb]) (fun b hb => by simp [mh_zl, Nat.ne_of_lt hb]) (fun b hb => by simp [Nat.ne_of_lt hb]) (fun t2 n2 r2 h => by cases h; simp only [if_pos]; exact hKn)
    have hk := kk p l e s m args below meth c D ad A _ H1 locs ls K hS1
    rw [List.length_append, show sh.length + [(Sum.inr (t, N, fun _ => none) : mh_C)].length - n0 = sh.length - n0 + 1 by simp; omega] at hk
    rw [hq]
    exact hk
  rcases ht with ⟨rfl, rfl⟩ | ⟨rfl, rfl⟩ | ⟨rfl, rfl⟩
  · exact va_newa (atype := .int) (ty := .int) (a0 := (N, .inl (fun _ => 0))) K.x K.b (K.tb _ hw) rfl S.K S.P S.hD S.S K.new (fun _ => rfl) hn hN (by show N * 4 ≤ _; omega) hcs.1 hcs.2 hd (fun q c' H1 hKn hP hD hS => fin q c' H1 _ (fun cA' hc => by rw [mh_cell, hc]; simp [mh_z]) hKn hP hD hS)
  · exact va_newa (atype := .long) (ty := .long) (a0 := (N, .inr (.inl (fun _ => 0)))) K.x K.b (K.tb _ hw) rfl S.K S.P S.hD S.S K.new (fun _ => rfl) hn hN (by show N * 8 ≤ _; omega) hcs.1 hcs.2 hd (fun q c' H1 hKn hP hD hS => fin q c' H1 _ (fun cA' hc => by rw [mh_cell, hc]; simp [mh_zl]) hKn hP hD hS)
  · exact va_newa (atype := .byte) (ty := .byte) (a0 := (N, .inl (fun _ => 0))) K.x K.b (K.tb _ hw) rfl S.K S.P S.hD S.S K.new (fun _ => rfl) hn hN (by show N * 1 ≤ _; omega) hcs.1 hcs.2 hd (fun q c' H1 hKn hP hD hS => fin q c' H1 _ (fun cA' hc => by rw [mh_cell, hc]; simp [mh_z]) hKn hP hD hS)
theorem mw_anew {t N index : Nat} {n : Int32} {C : String} (hC : mh_ty (t + 3) = .object C) (hao : C = RX2 ∨ C = RX4) (hw : Cond.classLink own index C ∈ mh_TB) (hd : decode cc pc = .ok (.anewarray index, 3)) (hn : ¬ n < 0) (hN : n.toNatClampNeg = N) (hN2 : N ≤ 60000000) (hbig : sh.length < 999) (hcs : sh.length - n0 + 1 ≤ R.cells ∧ slots + N ≤ R.slots)
    (kk : mh_W own cc nL rt ini R n0 mc ms Ex Φ (slots + N) (sh ++ [.inr (t + 3, N, fun _ => none)]) I L (pc + 3) lv (.ref sh.length :: st)) : mh_W own cc nL rt ini R n0 mc ms Ex Φ slots sh I L pc lv (.int n :: st) := by
  intro p l e s m args below meth c D ad A cA H locs ls K S
  have h3 := S.hn0
  have hA0 : va_AO C s := by
    rcases hao with rfl | rfl
    · exact K.e.2.2.2.2.2.1
    · exact K.e.2.2.2.2.2.2.1
  refine va_newq (C := C) K.x K.b K.hown (K.tb _ hw) hA0 S.K S.P S.hD S.S K.new hn hN (by omega) hcs.1 hcs.2 hd (fun q c' H1 hKn hP hD hS => ?_)
  refine W_szb (fun _ hz => ?_)
  have hq := mh_newq K.hA K.had S.hn0 S.big hP hD hz
  have hS1 := mh_grow (cn := .inr (t + 3, N, fun _ => none)) (cA' := fun b => if b = sh.length then c' else cA b) (I' := I) (L' := L) K S hP hD hS hz hbig (by rw [mh_cell]; simp) (fun _ _ => rfl) (fun _ _ => rfl) (fun b hb => by simp [Nat.ne_of_lt hb]) (fun t2 n2 r2 h => by cases h; simp only [if_pos]; rw [hC]; exact hKn)
  have hk := kk p l e s m args below meth c D ad A _ H1 locs ls K hS1
  rw [List.length_append, show sh.length + [(Sum.inr (t + 3, N, fun _ => none) : mh_C)].length - n0 = sh.length - n0 + 1 by simp; omega] at hk
  rw [hq]
  exact hk
/-- Object's own constructor -/
theorem mw_oinit {index a : Nat} (hl : Cond.methodLink own index Lib.objectInit ∈ mh_TB ∧ Cond.instanceMethod Lib.objectInit ∈ mh_TB ∧ Cond.code Lib.objectInit ⟨#[0xb1]⟩ 1 none ∈ mh_TB) (hd : decode cc pc = .ok (.invokespecial index, 3)) (hR : 1 ≤ R.frames ∧ (st.map fun v => v.category).sum + 12 ≤ R.locals) (kk : mh_W own cc nL rt ini R n0 mc ms Ex Φ slots sh I L (pc + 3) lv st) : mh_W own cc nL rt ini R n0 mc ms Ex Φ slots sh I L pc lv (.ref a :: st) := by
  intro p l e s m args below meth c D ad A cA H locs ls K S
  refine W.objInit K.x K.b K.hown (K.tb _ hl.1) (K.tb _ hl.2.1) (K.tb _ hl.2.2) rfl (by rw [K.ml]; exact S.hlv.1) (rest := st.map (mh_v ad)) rfl hd hR.1 ?_ ?_
  · have := hR.2
    rw [mh_cats]
    show 2 * 0 + _ + 12 ≤ _
    omega
  · exact kk p l e s m args below meth c D ad A cA H locs ls K S
end MH7
end
section
/-! the String constants, and the JDK's methods that read them -/
section MH8
variable {own : String} {cc : ByteArray} {nL : Nat} {rt : Option FieldType} {ini : Bool} {R : Room} {n0 mc ms : Nat} {Ex : mh_X} {Φ : mh_P} {slots : Nat} {sh : List mh_C} {I : mh_I} {L : mh_L} {pc : Nat} {lv : List (Nat × Value)} {st : List Value}
theorem mw_ldcS {index i : Nat} (hq : (own, index, i) ∈ mh_ldc) (hd : decode cc pc = .ok (.ldc index, 2)) (kk : mh_W own cc nL rt ini R n0 mc ms Ex Φ slots sh I L (pc + 2) lv (.ref (1000 + i) :: st)) : mh_W own cc nL rt ini R n0 mc ms Ex Φ slots sh I L pc lv st := by
  intro p l e s m args below meth c D ad A cA H locs ls K S
  exact va_ldcS K.x K.b K.hown (K.e.2.1 _ hq) hd (kk p l e s m args below meth c D ad A cA H locs ls K S)
theorem mw_ldcA (ho : own = RX5) (hd : decode cc pc = .ok (.ldc 51, 2)) (kk : mh_W own cc nL rt ini R n0 mc ms Ex Φ slots sh I L (pc + 2) lv (.ref 1000 :: st)) : mh_W own cc nL rt ini R n0 mc ms Ex Φ slots sh I L pc lv st := by
  subst ho
  exact mw_ldcS (i := 0) (by simp [mh_ldc]) hd kk
theorem mw_ldcB (ho : own = RX3) (hd : decode cc pc = .ok (.ldc 84, 2)) (kk : mh_W own cc nL rt ini R n0 mc ms Ex Φ slots sh I L (pc + 2) lv (.ref 1001 :: st)) : mh_W own cc nL rt ini R n0 mc ms Ex Φ slots sh I L pc lv st := by
  subst ho
  exact mw_ldcS (i := 1) (by simp [mh_ldc]) hd kk
theorem mw_dig {index : Nat} (hl : Cond.fieldLink own index "java/lang/Integer" "DigitOnes" "[B" ∈ mh_TB) (hd : decode cc pc = .ok (.getstatic index, 3)) (kk : mh_W own cc nL rt ini R n0 mc ms Ex Φ slots sh I L (pc + 3) lv (.ref 1030 :: st)) : mh_W own cc nL rt ini R n0 mc ms Ex Φ slots sh I L pc lv st := by
  intro p l e s m args below meth c D ad A cA H locs ls K S
  exact va_gets K.x K.b K.e.2.2.2.2.2.2.2.1 S.S K.hown (K.tb _ hl) (fun _ h => h) hd (kk p l e s m args below meth c D ad A cA H locs ls K S)
theorem mw_digld {j : Int32} (hin : ¬ (j < 0 ∨ 100 ≤ j.toNatClampNeg)) (hd : decode cc pc = .ok (.baload, 1)) (kk : mh_W own cc nL rt ini R n0 mc ms Ex Φ slots sh I L (pc + 1) lv (.int (nI (48 + j.toNatClampNeg % 10)) :: st)) : mh_W own cc nL rt ini R n0 mc ms Ex Φ slots sh I L pc lv (.int j :: .ref 1030 :: st) := by
  intro p l e s m args below meth c D ad A cA H locs ls K S
  exact va_tb K.x K.b K.e.2.2.2.2.2.2.2.2 S.S hin rfl hd (kk p l e s m args below meth c D ad A cA H locs ls K S)
/-- arraycopy out of a constant String's bytes -/
theorem mw_copyt {i a1 n1' index : Nat} {r1 : Nat → Option Nat} {sp dp n : Int32} (hi : i < 5) (hl : Cond.methodLink own index arraycopyName ∈ mh_TB) (hd : decode cc pc = .ok (.invokestatic index, 3)) (hs1 : sh[a1]? = some (.inr (2, n1', r1))) (h1 : ¬ sp < 0) (h2 : ¬ dp < 0) (h3 : ¬ n < 0) (h4 : sp.toNatClampNeg + n.toNatClampNeg ≤ mh_len.getD i 0) (h5 : dp.toNatClampNeg + n.toNatClampNeg ≤ n1') (hfit : ∀ k, k < n.toNatClampNeg → fits .byte (.int ((mh_byt.getD i []).getD (sp.toNatClampNeg + k) 0)) = true)
    (hw : Cond.native arraycopyName ∈ mh_TB ∧ Cond.static arraycopyName ∈ mh_TB ∧ Cond.initialized "java/lang/System" ∈ mh_TB) (hR : 1 ≤ R.frames ∧ (st.map fun v => v.category).sum + (nativeFrameWords "java/lang/System" "arraycopy" 5 + 11) ≤ R.locals)
    (kk : mh_W own cc nL rt ini R n0 mc ms Ex Φ slots sh (fun b => if b = a1 then va_cpy (fun j => (mh_byt.getD i []).getD j 0) (I a1) sp.toNatClampNeg dp.toNatClampNeg n.toNatClampNeg else I b) L (pc + 3) lv st) : mh_W own cc nL rt ini R n0 mc ms Ex Φ slots sh I L pc lv (.int n :: .int dp :: .ref a1 :: .int sp :: .ref (1010 + i) :: st) := by
  intro p l e s m args below meth c D ad A cA H locs ls K S
  refine vk_copyt K.x K.b (K.ml.trans S.hlv.1.symm) K.hown (K.tb _ hl) (K.tb _ hw.1) (K.tb _ hw.2.1) (K.tb _ hw.2.2) (S.KA hs1) S.P S.hD S.S ((K.e.2.2.1).1 i hi).2.2.2 a1 0 (mh_ws_at hs1) rfl h1 h2 h3 h4 h5 hfit hR.1 (by rw [mh_cats]; exact hR.2) hd (fun H1 locs1 hP hD hS => ?_)
  exact kk p l e s m args below meth c D ad A cA H1 locs1 ls K (mh_arr_step hs1 (mh_set_same hs1).symm S (by rw [mh_cell]; simp) (fun b hb => by simp [hb]) (fun _ _ => rfl) hP hD hS)
theorem mw_strv {index i : Nat} (hi : i < 5) (hl : Cond.fieldLink own index "java/lang/String" "value" "[B" ∈ mh_TB) (hd : decode cc pc = .ok (.getfield index, 3)) (kk : mh_W own cc nL rt ini R n0 mc ms Ex Φ slots sh I L (pc + 3) lv (.ref (1010 + i) :: st)) : mh_W own cc nL rt ini R n0 mc ms Ex Φ slots sh I L pc lv (.ref (1000 + i) :: st) := by
  intro p l e s m args below meth c D ad A cA H locs ls K S
  exact vk_getf K.x K.b ((K.e.2.2.1).1 i hi).2.2.1 S.S K.hown (K.tb _ hl) (fun _ h => h) hd (kk p l e s m args below meth c D ad A cA H locs ls K S)
theorem mw_strc {index i : Nat} (hi : i < 5) (hl : Cond.fieldLink own index "java/lang/String" "coder" "B" ∈ mh_TB) (hd : decode cc pc = .ok (.getfield index, 3)) (kk : mh_W own cc nL rt ini R n0 mc ms Ex Φ slots sh I L (pc + 3) lv (.int 0 :: st)) : mh_W own cc nL rt ini R n0 mc ms Ex Φ slots sh I L pc lv (.ref (1000 + i) :: st) := by
  intro p l e s m args below meth c D ad A cA H locs ls K S
  exact vk_getf K.x K.b ((K.e.2.2.1).1 i hi).2.1 S.S K.hown (K.tb _ hl) (fun _ h => h) hd (kk p l e s m args below meth c D ad A cA H locs ls K S)
theorem mw_getsC {index : Nat} (hl : Cond.fieldLink own index "java/lang/String" "COMPACT_STRINGS" "Z" ∈ mh_TB) (hd : decode cc pc = .ok (.getstatic index, 3)) (kk : mh_W own cc nL rt ini R n0 mc ms Ex Φ slots sh I L (pc + 3) lv (.int 1 :: st)) : mh_W own cc nL rt ini R n0 mc ms Ex Φ slots sh I L pc lv st := by
  intro p l e s m args below meth c D ad A cA H locs ls K S
  exact va_gets K.x K.b K.e.2.2.2.1 S.S K.hown (K.tb _ hl) (fun _ h => h) hd (kk p l e s m args below meth c D ad A cA H locs ls K S)
theorem mw_getsF {index : Nat} (hl : Cond.fieldLink own index "jdk/internal/util/Preconditions" "SIOOBE_FORMATTER" "Ljava/util/function/BiFunction;" ∈ mh_TB) (hd : decode cc pc = .ok (.getstatic index, 3)) (kk : ∀ w : Value, w = .null ∨ w = .ref 1020 → mh_W own cc nL rt ini R n0 mc ms Ex Φ slots sh I L (pc + 3) lv (w :: st)) : mh_W own cc nL rt ini R n0 mc ms Ex Φ slots sh I L pc lv st := by
  intro p l e s m args below meth c D ad A cA H locs ls K S
  rcases K.e.2.2.2.2.1 with hz | hz
  · exact va_gets K.x K.b hz S.S K.hown (K.tb _ hl) (fun _ h => h) hd (kk .null (Or.inl rfl) p l e s m args below meth c D ad A cA H locs ls K S)
  · exact va_gets K.x K.b hz S.S K.hown (K.tb _ hl) (fun _ h => h) hd (kk (.ref 1020) (Or.inr rfl) p l e s m args below meth c D ad A cA H locs ls K S)
theorem mw_blen {i : Nat} (hi : i < 5) (hd : decode cc pc = .ok (.arraylength, 1)) (kk : mh_W own cc nL rt ini R n0 mc ms Ex Φ slots sh I L (pc + 1) lv (.int (nI (mh_len.getD i 0)) :: st)) : mh_W own cc nL rt ini R n0 mc ms Ex Φ slots sh I L pc lv (.ref (1010 + i) :: st) := by
  intro p l e s m args below meth c D ad A cA H locs ls K S
  exact va_tlen K.x K.b ((K.e.2.2.1).1 i hi).2.2.2 S.S rfl hd (kk p l e s m args below meth c D ad A cA H locs ls K S)
theorem mw_bald {i : Nat} {j : Int32} (hi : i < 5) (hin : ¬ (j < 0 ∨ mh_len.getD i 0 ≤ j.toNatClampNeg)) (hd : decode cc pc = .ok (.baload, 1)) (kk : mh_W own cc nL rt ini R n0 mc ms Ex Φ slots sh I L (pc + 1) lv (.int ((mh_byt.getD i []).getD j.toNatClampNeg 0) :: st)) : mh_W own cc nL rt ini R n0 mc ms Ex Φ slots sh I L pc lv (.int j :: .ref (1010 + i) :: st) := by
  intro p l e s m args below meth c D ad A cA H locs ls K S
  exact va_tb K.x K.b ((K.e.2.2.1).1 i hi).2.2.2 S.S hin rfl hd (kk p l e s m args below meth c D ad A cA H locs ls K S)
theorem mw_i2c {x : Int32} (hd : decode cc pc = .ok (.i2c, 1)) (kk : mh_W own cc nL rt ini R n0 mc ms Ex Φ slots sh I L (pc + 1) lv (.int ((x.toUInt32 % 65536).toInt32) :: st)) : mh_W own cc nL rt ini R n0 mc ms Ex Φ slots sh I L pc lv (.int x :: st) := by
  intro p l e s m args below meth c D ad A cA H locs ls K S
  exact lv_i2c K.x K.b hd rfl (kk p l e s m args below meth c D ad A cA H locs ls K S)
theorem mw_callVS {index n i : Nat} {y : MethodName} {bytes : ByteArray} {maxL : Nat} {ret : Option FieldType} {Rc : Room} {Φ' : mh_P} (hi : i < 5) (q : mh_cv own index y n) (hcode : Cond.code y bytes maxL ret ∈ mh_TB) (hd : decode cc pc = .ok (.invokevirtual index, 3)) (As : List Value) (stk : List Value) (hstk : stk = As.reverse ++ .ref (1000 + i) :: st) (hn : As.length = n) (hyc : y.cls = "java/lang/String")
    (hC : mh_CT y bytes maxL ret Rc sh I L (.ref (1000 + i) :: As) Φ') (hR : Rc.frames + 1 ≤ R.frames ∧ 8 + (maxL + 11) + Rc.locals ≤ R.locals) (hrest : (st.map fun v => v.category).sum ≤ 8) (hcs : sh.length - n0 + Rc.cells ≤ R.cells ∧ slots + Rc.slots ≤ R.slots)
    (kk : ∀ r sh1 I1 L1, Φ' r sh1 I1 L1 → sh1.length = sh.length + Rc.cells ∧ mh_W own cc nL rt ini R n0 mc ms Ex Φ (slots + Rc.slots) sh1 I1 L1 (pc + 3) lv (r.toList ++ st)) : mh_W own cc nL rt ini R n0 mc ms Ex Φ slots sh I L pc lv stk := by
  subst hstk
  intro p l e s m args below meth c D ad A cA H locs ls K S
  refine W_szb (fun hz0 hz => ?_)
  obtain ⟨had, hAA, hpre⟩ := mh_pre K S hz
  have hM := hC l D ad cA H.size S.big had
  have hrun := fun (cw : (mh_cl own index y n)) => (?_ : va_Run p l e R s m args below meth c H locs (sh.length - n0) slots Rc.cells Rc.slots (F0 m pc ls ((As.reverse ++ .ref (1000 + i) :: st).map (mh_v ad))) (st.map (mh_v ad)) (mh_Q D ad (mh_A ad sh.length H.size) sh.length Φ' (Value.ref (ad (1000 + i)) :: As.map (mh_v ad)).toArray) (mh_A ad sh.length H.size))
  · refine mh_on (hrun q.1) S.S hAA hAA (fun r cA1 sh1 I1 L1 H1 locs1 hφ hB hbig hn1 hS1 _ => ?_)
    obtain ⟨hlen, hk⟩ := kk r sh1 I1 L1 hφ
    have hk1 := hk p l e s m args below meth c D ad A cA1 H1 locs1 ls K (mh_back S hAA hB hbig hn1 hS1)
    have h3 := S.hn0
    rw [show sh1.length - n0 = sh.length - n0 + Rc.cells by omega, List.map_append] at hk1
    have e1 : r.toList.map (mh_v ad) = (r.map (mh_v ad)).toList := by cases r <;> rfl
    rw [e1] at hk1
    exact hk1
  · have hstack : (As.reverse ++ Value.ref (1000 + i) :: st).map (mh_v ad) = (As.map (mh_v ad)).reverse ++ Value.ref (ad (1000 + i)) :: st.map (mh_v ad) := by
      rw [List.map_append, List.map_reverse, List.map_cons]; rfl
    have hsum : 2 * (F0 m pc ls ((As.reverse ++ Value.ref (1000 + i) :: st).map (mh_v ad))).monitorRoom + ((st.map (mh_v ad)).map fun v => v.category).sum ≤ 8 := lv_room (by rw [mh_cats]; exact hrest)
    obtain ⟨⟨hlink, hini', hy, hdesc⟩, hinst, hsel⟩ := q
    have hpv : PreV s H y.cls (ad (1000 + i)) (va_Pc ((Value.ref (1000 + i) :: As).map (mh_v ad)) (fun U => U.heap.size = H.size ∧ mh_B D ad cA (mh_A ad sh.length H.size) sh I L U.heap U ∧ mh_E (mh_A ad sh.length H.size) ad U)) (As.map (mh_v ad)) :=
      ⟨mh_blind, by rw [hyc]; exact vk_recv (i := i) K.e.2.2.1 hi S.S, fun U hU hW => ⟨rfl, hpre U hU hW⟩⟩
    rcases hlink with hlink | ⟨host, hlink⟩
    · exact va_runV (nL := nL) (own := own) (C := y.cls) (As := As.map (mh_v ad)) ⟨K.x, K.b, K.ml, K.hown, K.tb⟩ hM ⟨callB_of n K.tb (mh_good hcode) rfl rfl rfl (K.tb _ hini') (K.tb _ hlink) ⟨hy.1, hy.2, hdesc⟩ hR, K.tb _ hinst, K.tb _ hsel⟩ hpv rfl (by rw [List.length_map]; exact hn) S.hlv.1 hstack hsum hd hcs
    · exact va_runVN (nL := nL) (own := own) (C := y.cls) (host := host) (As := As.map (mh_v ad)) ⟨K.x, K.b, K.ml, K.hown, K.tb⟩ hM ⟨va_cnB n K.tb (mh_good hcode) rfl rfl rfl (K.e.1 _ hlink) (K.tb _ hini') ⟨hy.1, hy.2, hdesc⟩ hR, K.tb _ hinst, K.tb _ hsel⟩ hpv rfl (by rw [List.length_map]; exact hn) S.hlv.1 hstack hsum hd hcs
end MH8
end
section
theorem mh_t1 {w : Cond} (h : w ∈ tables_1_1) : w ∈ tables_1 := List.mem_append_left _ h
theorem mh_t2 {w : Cond} (h : w ∈ tables_1_2) : w ∈ tables_1 := List.mem_append_right _ (List.mem_append_left _ h)
theorem mh_t3 {w : Cond} (h : w ∈ tables_1_3) : w ∈ tables_1 := List.mem_append_right _ (List.mem_append_right _ (List.mem_append_left _ h))
theorem mh_t4 {w : Cond} (h : w ∈ tables_1_4) : w ∈ tables_1 := List.mem_append_right _ (List.mem_append_right _ (List.mem_append_right _ h))
theorem mh_tb1 {w : Cond} (h : w ∈ tables_1) (g : goodWord w = true) : w ∈ mh_TB := List.mem_filter.mpr ⟨List.mem_append_right _ (List.mem_append_right _ h), g⟩
theorem mh_tb0 (k : Nat) {w : Cond} (h : (k2_sels lw_privs)[k]? = some w) (g : goodWord w = true) : w ∈ mh_TB := List.mem_filter.mpr ⟨List.mem_append_right _ (List.mem_append_left _ (List.mem_of_getElem? h)), g⟩
theorem mh_tbS (k : Nat) {w : Cond} (h : lw_sup[k]? = some w) (g : goodWord w = true) : w ∈ mh_TB := List.mem_filter.mpr ⟨List.mem_append_left _ (List.mem_of_getElem? h), g⟩
theorem mh_nw1 {w : Cond} (h : w ∈ tables_1) (g : mh_nest w = true) : w ∈ mh_NW := List.mem_filter.mpr ⟨h, g⟩
theorem mh_lay {ws : List Cond} (h1 : ∀ w ∈ ws, w ∈ lw_tbl) (h2 : ws.all goodWord = true) : ∀ w ∈ ws, w ∈ mh_TB := fun w h => List.mem_filter.mpr ⟨List.mem_append_right _ (h1 w h), List.all_eq_true.mp h2 w h⟩
theorem wd_0 : Cond.initialized RL ∈ mh_TB := mh_tb1 (mh_t1 (List.mem_of_getElem? (i := 0) rfl)) rfl
theorem wd_1 : Cond.initialized RX5 ∈ mh_TB := mh_tb1 (mh_t1 (List.mem_of_getElem? (i := 1) rfl)) rfl
theorem wd_2 : Cond.initialized RX1 ∈ mh_TB := mh_tb1 (mh_t1 (List.mem_of_getElem? (i := 2) rfl)) rfl
theorem wd_3 : Cond.initialized RX3 ∈ mh_TB := mh_tb1 (mh_t1 (List.mem_of_getElem? (i := 3) rfl)) rfl
theorem wd_4 : Cond.initialized RX0 ∈ mh_TB := mh_tb1 (mh_t1 (List.mem_of_getElem? (i := 4) rfl)) rfl
theorem wd_5 : Cond.initialized RX4 ∈ mh_TB := mh_tb1 (mh_t1 (List.mem_of_getElem? (i := 5) rfl)) rfl
theorem wd_6 : Cond.initialized RX2 ∈ mh_TB := mh_tb1 (mh_t1 (List.mem_of_getElem? (i := 6) rfl)) rfl
theorem wd_7 : Cond.initialized RJ0 ∈ mh_TB := mh_tb1 (mh_t1 (List.mem_of_getElem? (i := 7) rfl)) rfl
theorem wd_8 : Cond.initialized RJ1 ∈ mh_TB := mh_tb1 (mh_t1 (List.mem_of_getElem? (i := 8) rfl)) rfl
theorem wd_9 : Cond.initialized RJ3 ∈ mh_TB := mh_tb1 (mh_t1 (List.mem_of_getElem? (i := 9) rfl)) rfl
theorem wd_10 : Cond.initialized RJ2 ∈ mh_TB := mh_tb1 (mh_t1 (List.mem_of_getElem? (i := 10) rfl)) rfl
theorem wd_11 : Cond.initialized RJ5 ∈ mh_TB := mh_tb1 (mh_t1 (List.mem_of_getElem? (i := 11) rfl)) rfl
theorem wd_12 : Cond.initialized RJ4 ∈ mh_TB := mh_tb1 (mh_t1 (List.mem_of_getElem? (i := 12) rfl)) rfl
theorem wd_13 : Cond.initialized RJ8 ∈ mh_TB := mh_tb1 (mh_t1 (List.mem_of_getElem? (i := 13) rfl)) rfl
theorem wd_14 : Cond.initialized RJ9 ∈ mh_TB := mh_tb1 (mh_t1 (List.mem_of_getElem? (i := 14) rfl)) rfl
theorem wd_15 : Cond.initialized RJ7 ∈ mh_TB := mh_tb1 (mh_t1 (List.mem_of_getElem? (i := 15) rfl)) rfl
theorem wd_16 : Cond.initialized RJ10 ∈ mh_TB := mh_tb1 (mh_t1 (List.mem_of_getElem? (i := 16) rfl)) rfl
theorem wd_17 : Cond.initialized RJ6 ∈ mh_TB := mh_tb1 (mh_t1 (List.mem_of_getElem? (i := 17) rfl)) rfl
theorem wd_18 : Cond.initialized RJ13 ∈ mh_TB := mh_tb1 (mh_t1 (List.mem_of_getElem? (i := 18) rfl)) rfl
theorem wd_19 : Cond.methodLink RL 41 yX5_pin ∈ mh_TB := mh_tb1 (mh_t1 (List.mem_of_getElem? (i := 19) rfl)) rfl
theorem wd_20 : Cond.instanceMethod yX5_pin ∈ mh_TB := mh_tb1 (mh_t1 (List.mem_of_getElem? (i := 20) rfl)) rfl
theorem wd_21 : Cond.selects RX5 yX5_pin yX5_pin ∈ mh_TB := mh_tb1 (mh_t1 (List.mem_of_getElem? (i := 21) rfl)) rfl
theorem wd_22 : Cond.code yX5_pin cX5_pin 4 (some .int) ∈ mh_TB := mh_tb1 (mh_t1 (List.mem_of_getElem? (i := 22) rfl)) rfl
theorem wd_23 : Cond.methodLink RX5 101 yX5_isLoop ∈ mh_TB := mh_tb1 (mh_t1 (List.mem_of_getElem? (i := 23) rfl)) rfl
theorem wd_24 : Cond.static yX5_isLoop ∈ mh_TB := mh_tb1 (mh_t1 (List.mem_of_getElem? (i := 24) rfl)) rfl
theorem wd_25 : Cond.code yX5_isLoop cX5_isLoop 1 (some .boolean) ∈ mh_TB := mh_tb1 (mh_t1 (List.mem_of_getElem? (i := 25) rfl)) rfl
theorem wd_26 : Cond.methodLink RX5 97 yX5_within ∈ mh_TB := mh_tb1 (mh_t1 (List.mem_of_getElem? (i := 26) rfl)) rfl
theorem wd_27 : Cond.static yX5_within ∈ mh_TB := mh_tb1 (mh_t1 (List.mem_of_getElem? (i := 27) rfl)) rfl
theorem wd_28 : Cond.code yX5_within cX5_within 3 (some .boolean) ∈ mh_TB := mh_tb1 (mh_t1 (List.mem_of_getElem? (i := 28) rfl)) rfl
theorem wd_29 : Cond.methodLink RX5 139 yX5_hasBit ∈ mh_TB := mh_tb1 (mh_t1 (List.mem_of_getElem? (i := 29) rfl)) rfl
theorem wd_30 : Cond.static yX5_hasBit ∈ mh_TB := mh_tb1 (mh_t1 (List.mem_of_getElem? (i := 30) rfl)) rfl
theorem wd_31 : Cond.code yX5_hasBit cX5_hasBit 3 (some .boolean) ∈ mh_TB := mh_tb1 (mh_t1 (List.mem_of_getElem? (i := 31) rfl)) rfl
theorem wd_32 : Cond.methodLink RX5 143 yX5_bit ∈ mh_TB := mh_tb1 (mh_t1 (List.mem_of_getElem? (i := 32) rfl)) rfl
theorem wd_33 : Cond.static yX5_bit ∈ mh_TB := mh_tb1 (mh_t1 (List.mem_of_getElem? (i := 33) rfl)) rfl
theorem wd_34 : Cond.code yX5_bit cX5_bit 1 (some .long) ∈ mh_TB := mh_tb1 (mh_t1 (List.mem_of_getElem? (i := 34) rfl)) rfl
theorem wd_35 : Cond.constantLong RX5 147 (-1) ∈ mh_TB := mh_tb1 (mh_t1 (List.mem_of_getElem? (i := 35) rfl)) rfl
theorem wd_36 : Cond.methodLink RL 134 yX5_run ∈ mh_TB := mh_tb1 (mh_t1 (List.mem_of_getElem? (i := 36) rfl)) rfl
theorem wd_37 : Cond.instanceMethod yX5_run ∈ mh_TB := mh_tb1 (mh_t1 (List.mem_of_getElem? (i := 37) rfl)) rfl
theorem wd_38 : Cond.selects RX5 yX5_run yX5_run ∈ mh_TB := mh_tb1 (mh_t1 (List.mem_of_getElem? (i := 38) rfl)) rfl
theorem wd_39 : Cond.code yX5_run cX5_run 4 (some .int) ∈ mh_TB := mh_tb1 (mh_t1 (List.mem_of_getElem? (i := 39) rfl)) rfl
theorem wd_40 : Cond.methodLink RX5 104 yX5_isPull ∈ mh_TB := mh_tb1 (mh_t1 (List.mem_of_getElem? (i := 40) rfl)) rfl
theorem wd_41 : Cond.static yX5_isPull ∈ mh_TB := mh_tb1 (mh_t1 (List.mem_of_getElem? (i := 41) rfl)) rfl
theorem wd_42 : Cond.code yX5_isPull cX5_isPull 1 (some .boolean) ∈ mh_TB := mh_tb1 (mh_t1 (List.mem_of_getElem? (i := 42) rfl)) rfl
theorem wd_43 : Cond.methodLink RX5 163 yX5_drop ∈ mh_TB := mh_tb1 (mh_t1 (List.mem_of_getElem? (i := 43) rfl)) rfl
theorem wd_45 : Cond.instanceMethod yX5_drop ∈ mh_TB := mh_tb1 (mh_t1 (List.mem_of_getElem? (i := 45) rfl)) rfl
theorem wd_46 : Cond.instantiable RX5 9 ∈ mh_TB := mh_tb1 (mh_t1 (List.mem_of_getElem? (i := 46) rfl)) rfl
theorem wd_47 : Cond.code yX5_drop cX5_drop 3 (some .int) ∈ mh_TB := mh_tb1 (mh_t1 (List.mem_of_getElem? (i := 47) rfl)) rfl
theorem wd_48 : Cond.methodLink RX5 107 yX5_law ∈ mh_TB := mh_tb1 (mh_t1 (List.mem_of_getElem? (i := 48) rfl)) rfl
theorem wd_50 : Cond.instanceMethod yX5_law ∈ mh_TB := mh_tb1 (mh_t1 (List.mem_of_getElem? (i := 50) rfl)) rfl
theorem wd_51 : Cond.code yX5_law cX5_law 1 (some (.object RX4)) ∈ mh_TB := mh_tb1 (mh_t1 (List.mem_of_getElem? (i := 51) rfl)) rfl
theorem wd_52 : Cond.methodLinkNest RX5 182 yX0_runFrom RX5 ∈ mh_NW := mh_nw1 (mh_t1 (List.mem_of_getElem? (i := 52) rfl)) rfl
theorem wd_54 : Cond.instanceMethod yX0_runFrom ∈ mh_TB := mh_tb1 (mh_t1 (List.mem_of_getElem? (i := 54) rfl)) rfl
theorem wd_55 : Cond.instantiable RX0 3 ∈ mh_TB := mh_tb1 (mh_t1 (List.mem_of_getElem? (i := 55) rfl)) rfl
theorem wd_56 : Cond.code yX0_runFrom cX0_runFrom 13 (some .int) ∈ mh_TB := mh_tb1 (mh_t1 (List.mem_of_getElem? (i := 56) rfl)) rfl
theorem wd_57 : Cond.methodLinkNest RX0 22 yX1_over RX5 ∈ mh_NW := mh_nw1 (mh_t1 (List.mem_of_getElem? (i := 57) rfl)) rfl
theorem wd_59 : Cond.instanceMethod yX1_over ∈ mh_TB := mh_tb1 (mh_t1 (List.mem_of_getElem? (i := 59) rfl)) rfl
theorem wd_60 : Cond.instantiable RX1 5 ∈ mh_TB := mh_tb1 (mh_t1 (List.mem_of_getElem? (i := 60) rfl)) rfl
theorem wd_61 : Cond.code yX1_over cX1_over 6 (some .long) ∈ mh_TB := mh_tb1 (mh_t1 (List.mem_of_getElem? (i := 61) rfl)) rfl
theorem wd_62 : Cond.methodLinkNest RX1 39 yX5_goesThroughOwn RX5 ∈ mh_NW := mh_nw1 (mh_t1 (List.mem_of_getElem? (i := 62) rfl)) rfl
theorem wd_63 : Cond.static yX5_goesThroughOwn ∈ mh_TB := mh_tb1 (mh_t1 (List.mem_of_getElem? (i := 63) rfl)) rfl
theorem wd_64 : Cond.code yX5_goesThroughOwn cX5_goesThroughOwn 1 (some .boolean) ∈ mh_TB := mh_tb1 (mh_t1 (List.mem_of_getElem? (i := 64) rfl)) rfl
theorem wd_65 : Cond.methodLinkNest RX1 50 yX5_bit RX5 ∈ mh_NW := mh_nw1 (mh_t1 (List.mem_of_getElem? (i := 65) rfl)) rfl
theorem wd_66 : Cond.methodLinkNest RX1 43 yX5_goesThroughNext RX5 ∈ mh_NW := mh_nw1 (mh_t1 (List.mem_of_getElem? (i := 66) rfl)) rfl
theorem wd_67 : Cond.static yX5_goesThroughNext ∈ mh_TB := mh_tb1 (mh_t1 (List.mem_of_getElem? (i := 67) rfl)) rfl
theorem wd_68 : Cond.code yX5_goesThroughNext cX5_goesThroughNext 1 (some .boolean) ∈ mh_TB := mh_tb1 (mh_t1 (List.mem_of_getElem? (i := 68) rfl)) rfl
theorem wd_69 : Cond.methodLinkNest RX0 28 yX5_hasBit RX5 ∈ mh_NW := mh_nw1 (mh_t1 (List.mem_of_getElem? (i := 69) rfl)) rfl
theorem wd_70 : Cond.methodLinkNest RX0 32 yX1_keeps RX5 ∈ mh_NW := mh_nw1 (mh_t1 (List.mem_of_getElem? (i := 70) rfl)) rfl
theorem wd_72 : Cond.instanceMethod yX1_keeps ∈ mh_TB := mh_tb1 (mh_t1 (List.mem_of_getElem? (i := 72) rfl)) rfl
theorem wd_73 : Cond.code yX1_keeps cX1_keeps 2 (some .boolean) ∈ mh_TB := mh_tb1 (mh_t1 (List.mem_of_getElem? (i := 73) rfl)) rfl
theorem wd_74 : Cond.methodLinkNest RX1 35 yX5_hasBit RX5 ∈ mh_NW := mh_nw1 (mh_t1 (List.mem_of_getElem? (i := 74) rfl)) rfl
theorem wd_75 : Cond.methodLink RX0 36 yX0_restOf ∈ mh_TB := mh_tb1 (mh_t1 (List.mem_of_getElem? (i := 75) rfl)) rfl
theorem wd_77 : Cond.instanceMethod yX0_restOf ∈ mh_TB := mh_tb1 (mh_t1 (List.mem_of_getElem? (i := 77) rfl)) rfl
theorem wd_78 : Cond.code yX0_restOf cX0_restOf 9 (some .int) ∈ mh_TB := mh_tb1 (mh_t1 (List.mem_of_getElem? (i := 78) rfl)) rfl
theorem wd_79 : Cond.methodLink RX0 49 yJ9_max_7cf53 ∈ mh_TB := mh_tb1 (mh_t1 (List.mem_of_getElem? (i := 79) rfl)) rfl
theorem wd_80 : Cond.static yJ9_max_7cf53 ∈ mh_TB := mh_tb1 (mh_t1 (List.mem_of_getElem? (i := 80) rfl)) rfl
theorem wd_81 : Cond.code yJ9_max_7cf53 cJ9_max_7cf53 2 (some .int) ∈ mh_TB := mh_tb1 (mh_t1 (List.mem_of_getElem? (i := 81) rfl)) rfl
theorem wd_82 : Cond.methodLinkNest RX0 55 yX4_says RX5 ∈ mh_NW := mh_nw1 (mh_t1 (List.mem_of_getElem? (i := 82) rfl)) rfl
theorem wd_84 : Cond.instanceMethod yX4_says ∈ mh_TB := mh_tb1 (mh_t1 (List.mem_of_getElem? (i := 84) rfl)) rfl
theorem wd_85 : Cond.instantiable RX4 5 ∈ mh_TB := mh_tb1 (mh_t1 (List.mem_of_getElem? (i := 85) rfl)) rfl
theorem wd_86 : Cond.code yX4_says cX4_says 8 (some .int) ∈ mh_TB := mh_tb1 (mh_t1 (List.mem_of_getElem? (i := 86) rfl)) rfl
theorem wd_87 : Cond.methodLink RX4 28 yJ9_min_7cf53 ∈ mh_TB := mh_tb1 (mh_t1 (List.mem_of_getElem? (i := 87) rfl)) rfl
theorem wd_88 : Cond.static yJ9_min_7cf53 ∈ mh_TB := mh_tb1 (mh_t1 (List.mem_of_getElem? (i := 88) rfl)) rfl
theorem wd_89 : Cond.code yJ9_min_7cf53 cJ9_min_7cf53 2 (some .int) ∈ mh_TB := mh_tb1 (mh_t1 (List.mem_of_getElem? (i := 89) rfl)) rfl
theorem wd_90 : Cond.methodLink RX4 34 yX4_take ∈ mh_TB := mh_tb1 (mh_t1 (List.mem_of_getElem? (i := 90) rfl)) rfl
theorem wd_92 : Cond.instanceMethod yX4_take ∈ mh_TB := mh_tb1 (mh_t1 (List.mem_of_getElem? (i := 92) rfl)) rfl
theorem wd_93 : Cond.code yX4_take cX4_take 6 none ∈ mh_TB := mh_tb1 (mh_t1 (List.mem_of_getElem? (i := 93) rfl)) rfl
theorem wd_94 : Cond.methodLink RX4 45 yX4_push ∈ mh_TB := mh_tb1 (mh_t1 (List.mem_of_getElem? (i := 94) rfl)) rfl
theorem wd_96 : Cond.instanceMethod yX4_push ∈ mh_TB := mh_tb1 (mh_t1 (List.mem_of_getElem? (i := 96) rfl)) rfl
theorem wd_97 : Cond.code yX4_push cX4_push 2 none ∈ mh_TB := mh_tb1 (mh_t1 (List.mem_of_getElem? (i := 97) rfl)) rfl
theorem wd_98 : Cond.methodLinkNest RX4 57 yX5_faceOf RX5 ∈ mh_NW := mh_nw1 (mh_t1 (List.mem_of_getElem? (i := 98) rfl)) rfl
theorem wd_99 : Cond.static yX5_faceOf ∈ mh_TB := mh_tb1 (mh_t1 (List.mem_of_getElem? (i := 99) rfl)) rfl
theorem wd_100 : Cond.code yX5_faceOf cX5_faceOf 1 (some .int) ∈ mh_TB := mh_tb1 (mh_t1 (List.mem_of_getElem? (i := 100) rfl)) rfl
theorem wd_101 : Cond.methodLinkNest RX4 65 yX5_hasBit RX5 ∈ mh_NW := mh_nw1 (mh_t1 (List.mem_of_getElem? (i := 101) rfl)) rfl
theorem wd_102 : Cond.methodLink RX4 38 yX4_pop ∈ mh_TB := mh_tb1 (mh_t1 (List.mem_of_getElem? (i := 102) rfl)) rfl
theorem wd_104 : Cond.instanceMethod yX4_pop ∈ mh_TB := mh_tb1 (mh_t1 (List.mem_of_getElem? (i := 104) rfl)) rfl
theorem wd_105 : Cond.code yX4_pop cX4_pop 1 (some .int) ∈ mh_TB := mh_tb1 (mh_t1 (List.mem_of_getElem? (i := 105) rfl)) rfl
theorem wd_106 : Cond.methodLink RX4 69 yX4_joined ∈ mh_TB := mh_tb1 (mh_t1 (List.mem_of_getElem? (i := 106) rfl)) rfl
theorem wd_107 : Cond.static yX4_joined ∈ mh_TB := mh_tb1 (mh_t1 (List.mem_of_getElem? (i := 107) rfl)) rfl
theorem wd_108 : Cond.code yX4_joined cX4_joined 3 (some .int) ∈ mh_TB := mh_tb1 (mh_t1 (List.mem_of_getElem? (i := 108) rfl)) rfl
theorem wd_109 : Cond.methodLinkNest RX4 42 yX5_bounded RX5 ∈ mh_NW := mh_nw1 (mh_t1 (List.mem_of_getElem? (i := 109) rfl)) rfl
theorem wd_110 : Cond.static yX5_bounded ∈ mh_TB := mh_tb1 (mh_t1 (List.mem_of_getElem? (i := 110) rfl)) rfl
theorem wd_111 : Cond.code yX5_bounded cX5_bounded 2 (some .int) ∈ mh_TB := mh_tb1 (mh_t1 (List.mem_of_getElem? (i := 111) rfl)) rfl
theorem wd_112 : Cond.methodLink RX5 272 yJ9_min_7cf53 ∈ mh_TB := mh_tb1 (mh_t1 (List.mem_of_getElem? (i := 112) rfl)) rfl
theorem wd_113 : Cond.methodLink RX5 277 yJ9_max_7cf53 ∈ mh_TB := mh_tb1 (mh_t1 (List.mem_of_getElem? (i := 113) rfl)) rfl
theorem wd_114 : Cond.methodLinkNest RX0 67 yX5_rubOf RX5 ∈ mh_NW := mh_nw1 (mh_t1 (List.mem_of_getElem? (i := 114) rfl)) rfl
theorem wd_115 : Cond.static yX5_rubOf ∈ mh_TB := mh_tb1 (mh_t1 (List.mem_of_getElem? (i := 115) rfl)) rfl
theorem wd_116 : Cond.code yX5_rubOf cX5_rubOf 3 (some .int) ∈ mh_TB := mh_tb1 (mh_t1 (List.mem_of_getElem? (i := 116) rfl)) rfl
theorem wd_117 : Cond.methodLinkNest RX0 71 yX5_bounded RX5 ∈ mh_NW := mh_nw1 (mh_t1 (List.mem_of_getElem? (i := 117) rfl)) rfl
theorem wd_118 : Cond.methodLinkNest RX0 40 yX5_bit RX5 ∈ mh_NW := mh_nw1 (mh_t1 (List.mem_of_getElem? (i := 118) rfl)) rfl
theorem wd_119 : Cond.methodLink RX0 43 yJ13_bitCount_95d88 ∈ mh_TB := mh_tb1 (mh_t1 (List.mem_of_getElem? (i := 119) rfl)) rfl
theorem wd_120 : Cond.static yJ13_bitCount_95d88 ∈ mh_TB := mh_tb1 (mh_t1 (List.mem_of_getElem? (i := 120) rfl)) rfl
theorem wd_121 : Cond.code yJ13_bitCount_95d88 cJ13_bitCount_95d88 2 (some .int) ∈ mh_TB := mh_tb1 (mh_t1 (List.mem_of_getElem? (i := 121) rfl)) rfl
theorem wd_122 : Cond.constantLong RJ13 314 (6148914691236517205) ∈ mh_TB := mh_tb1 (mh_t1 (List.mem_of_getElem? (i := 122) rfl)) rfl
theorem wd_123 : Cond.constantLong RJ13 316 (3689348814741910323) ∈ mh_TB := mh_tb1 (mh_t1 (List.mem_of_getElem? (i := 123) rfl)) rfl
theorem wd_124 : Cond.constantLong RJ13 318 (1085102592571150095) ∈ mh_TB := mh_tb1 (mh_t1 (List.mem_of_getElem? (i := 124) rfl)) rfl
theorem wd_125 : Cond.methodLink RX5 74 yJ13_bitCount_95d88 ∈ mh_TB := mh_tb1 (mh_t1 (List.mem_of_getElem? (i := 125) rfl)) rfl
theorem wd_126 : Cond.methodLink RX5 170 yX5_lowestRow ∈ mh_TB := mh_tb1 (mh_t1 (List.mem_of_getElem? (i := 126) rfl)) rfl
theorem wd_128 : Cond.instanceMethod yX5_lowestRow ∈ mh_TB := mh_tb1 (mh_t1 (List.mem_of_getElem? (i := 128) rfl)) rfl
theorem wd_129 : Cond.code yX5_lowestRow cX5_lowestRow 1 (some .int) ∈ mh_TB := mh_tb1 (mh_t1 (List.mem_of_getElem? (i := 129) rfl)) rfl
theorem wd_130 : Cond.methodLink RX5 284 yJ13_numberOfTrailingZeros_95d88 ∈ mh_TB := mh_tb1 (mh_t1 (List.mem_of_getElem? (i := 130) rfl)) rfl
theorem wd_131 : Cond.static yJ13_numberOfTrailingZeros_95d88 ∈ mh_TB := mh_tb1 (mh_t1 (List.mem_of_getElem? (i := 131) rfl)) rfl
theorem wd_132 : Cond.code yJ13_numberOfTrailingZeros_95d88 cJ13_numberOfTrailingZeros_95d88 3 (some .int) ∈ mh_TB := mh_tb1 (mh_t1 (List.mem_of_getElem? (i := 132) rfl)) rfl
theorem wd_133 : Cond.methodLink RJ13 311 yJ6_numberOfTrailingZeros_0f7a4 ∈ mh_TB := mh_tb1 (mh_t1 (List.mem_of_getElem? (i := 133) rfl)) rfl
theorem wd_134 : Cond.static yJ6_numberOfTrailingZeros_0f7a4 ∈ mh_TB := mh_tb1 (mh_t1 (List.mem_of_getElem? (i := 134) rfl)) rfl
theorem wd_135 : Cond.code yJ6_numberOfTrailingZeros_0f7a4 cJ6_numberOfTrailingZeros_0f7a4 2 (some .int) ∈ mh_TB := mh_tb1 (mh_t1 (List.mem_of_getElem? (i := 135) rfl)) rfl
theorem wd_136 : Cond.constant RJ6 264 (65536) ∈ mh_TB := mh_tb1 (mh_t1 (List.mem_of_getElem? (i := 136) rfl)) rfl
theorem wd_137 : Cond.methodLink RX5 173 yX5_together ∈ mh_TB := mh_tb1 (mh_t1 (List.mem_of_getElem? (i := 137) rfl)) rfl
theorem wd_139 : Cond.instanceMethod yX5_together ∈ mh_TB := mh_tb1 (mh_t1 (List.mem_of_getElem? (i := 139) rfl)) rfl
theorem wd_140 : Cond.code yX5_together cX5_together 4 (some .int) ∈ mh_TB := mh_tb1 (mh_t1 (List.mem_of_getElem? (i := 140) rfl)) rfl
theorem wd_141 : Cond.methodLinkNest RX5 110 yX4_says RX5 ∈ mh_NW := mh_nw1 (mh_t1 (List.mem_of_getElem? (i := 141) rfl)) rfl
theorem wd_142 : Cond.methodLink RL 130 yX5_goes ∈ mh_TB := mh_tb1 (mh_t1 (List.mem_of_getElem? (i := 142) rfl)) rfl
theorem wd_143 : Cond.instanceMethod yX5_goes ∈ mh_TB := mh_tb1 (mh_t1 (List.mem_of_getElem? (i := 143) rfl)) rfl
theorem wd_144 : Cond.selects RX5 yX5_goes yX5_goes ∈ mh_TB := mh_tb1 (mh_t1 (List.mem_of_getElem? (i := 144) rfl)) rfl
theorem wd_145 : Cond.code yX5_goes cX5_goes 4 (some .long) ∈ mh_TB := mh_tb1 (mh_t1 (List.mem_of_getElem? (i := 145) rfl)) rfl
theorem wd_146 : Cond.constantLong RX5 149 (-4611686018427387904) ∈ mh_TB := mh_tb1 (mh_t1 (List.mem_of_getElem? (i := 146) rfl)) rfl
theorem wd_147 : Cond.methodLink RL 127 yX5_left ∈ mh_TB := mh_tb1 (mh_t1 (List.mem_of_getElem? (i := 147) rfl)) rfl
theorem wd_148 : Cond.instanceMethod yX5_left ∈ mh_TB := mh_tb1 (mh_t1 (List.mem_of_getElem? (i := 148) rfl)) rfl
theorem wd_149 : Cond.selects RX5 yX5_left yX5_left ∈ mh_TB := mh_tb1 (mh_t1 (List.mem_of_getElem? (i := 149) rfl)) rfl
theorem wd_150 : Cond.code yX5_left cX5_left 4 (some .int) ∈ mh_TB := mh_tb1 (mh_t1 (List.mem_of_getElem? (i := 150) rfl)) rfl
theorem wd_151 : Cond.methodLink RL 141 yX5_column ∈ mh_TB := mh_tb1 (mh_t1 (List.mem_of_getElem? (i := 151) rfl)) rfl
theorem wd_152 : Cond.instanceMethod yX5_column ∈ mh_TB := mh_tb1 (mh_t1 (List.mem_of_getElem? (i := 152) rfl)) rfl
theorem wd_153 : Cond.selects RX5 yX5_column yX5_column ∈ mh_TB := mh_tb1 (mh_t1 (List.mem_of_getElem? (i := 153) rfl)) rfl
theorem wd_154 : Cond.code yX5_column cX5_column 7 (some .int) ∈ mh_TB := mh_tb1 (mh_t1 (List.mem_of_getElem? (i := 154) rfl)) rfl
theorem wd_155 : Cond.methodLink RL 144 yX5_pinned ∈ mh_TB := mh_tb1 (mh_t1 (List.mem_of_getElem? (i := 155) rfl)) rfl
theorem wd_156 : Cond.instanceMethod yX5_pinned ∈ mh_TB := mh_tb1 (mh_t1 (List.mem_of_getElem? (i := 156) rfl)) rfl
theorem wd_157 : Cond.selects RX5 yX5_pinned yX5_pinned ∈ mh_TB := mh_tb1 (mh_t1 (List.mem_of_getElem? (i := 157) rfl)) rfl
theorem wd_158 : Cond.code yX5_pinned cX5_pinned 9 (some .int) ∈ mh_TB := mh_tb1 (mh_t1 (List.mem_of_getElem? (i := 158) rfl)) rfl
theorem wd_159 : Cond.methodLink RX5 209 yX5_dropPinned ∈ mh_TB := mh_tb1 (mh_t1 (List.mem_of_getElem? (i := 159) rfl)) rfl
theorem wd_161 : Cond.instanceMethod yX5_dropPinned ∈ mh_TB := mh_tb1 (mh_t1 (List.mem_of_getElem? (i := 161) rfl)) rfl
theorem wd_162 : Cond.code yX5_dropPinned cX5_dropPinned 5 (some .int) ∈ mh_TB := mh_tb1 (mh_t1 (List.mem_of_getElem? (i := 162) rfl)) rfl
theorem wd_163 : Cond.methodLink RL 138 yX5_mending ∈ mh_TB := mh_tb1 (mh_t1 (List.mem_of_getElem? (i := 163) rfl)) rfl
theorem wd_164 : Cond.instanceMethod yX5_mending ∈ mh_TB := mh_tb1 (mh_t1 (List.mem_of_getElem? (i := 164) rfl)) rfl
theorem wd_165 : Cond.selects RX5 yX5_mending yX5_mending ∈ mh_TB := mh_tb1 (mh_t1 (List.mem_of_getElem? (i := 165) rfl)) rfl
theorem wd_166 : Cond.code yX5_mending cX5_mending 8 (some .int) ∈ mh_TB := mh_tb1 (mh_t1 (List.mem_of_getElem? (i := 166) rfl)) rfl
theorem wd_167 : Cond.methodLink RL 58 yL_at ∈ mh_TB := mh_tb1 (mh_t1 (List.mem_of_getElem? (i := 167) rfl)) rfl
theorem wd_168 : Cond.static yL_at ∈ mh_TB := mh_tb1 (mh_t1 (List.mem_of_getElem? (i := 168) rfl)) rfl
theorem wd_169 : Cond.code yL_at cL_at 2 (some .int) ∈ mh_TB := mh_tb1 (mh_t1 (List.mem_of_getElem? (i := 169) rfl)) rfl
theorem wd_170 : Cond.methodLink RL 119 yL_build ∈ mh_TB := mh_tb1 (mh_t1 (List.mem_of_getElem? (i := 170) rfl)) rfl
theorem wd_171 : Cond.static yL_build ∈ mh_TB := mh_tb1 (mh_t1 (List.mem_of_getElem? (i := 171) rfl)) rfl
theorem wd_172 : Cond.code yL_build cL_build 3 (some (.object RX5)) ∈ mh_TB := mh_tb1 (mh_t1 (List.mem_of_getElem? (i := 172) rfl)) rfl
theorem wd_173 : Cond.classLink RL 18 RX5 ∈ mh_TB := mh_tb1 (mh_t1 (List.mem_of_getElem? (i := 173) rfl)) rfl
theorem wd_174 : Cond.methodLink RL 23 yX5_init ∈ mh_TB := mh_tb1 (mh_t1 (List.mem_of_getElem? (i := 174) rfl)) rfl
theorem wd_175 : Cond.instanceMethod yX5_init ∈ mh_TB := mh_tb1 (mh_t1 (List.mem_of_getElem? (i := 175) rfl)) rfl
theorem wd_176 : Cond.code yX5_init cX5_init 2 none ∈ mh_TB := mh_tb1 (mh_t1 (List.mem_of_getElem? (i := 176) rfl)) rfl
theorem wd_177 : Cond.methodLink RX5 1 Lib.objectInit ∈ mh_TB := mh_tb1 (mh_t1 (List.mem_of_getElem? (i := 177) rfl)) rfl
theorem wd_178 : Cond.instanceMethod Lib.objectInit ∈ mh_TB := mh_tb1 (mh_t1 (List.mem_of_getElem? (i := 178) rfl)) rfl
theorem wd_179 : Cond.code Lib.objectInit ⟨#[0xb1]⟩ 1 none ∈ mh_TB := mh_tb1 (mh_t1 (List.mem_of_getElem? (i := 179) rfl)) rfl
theorem wd_180 : Cond.classLink RX5 7 RX1 ∈ mh_TB := mh_tb1 (mh_t1 (List.mem_of_getElem? (i := 180) rfl)) rfl
theorem wd_181 : Cond.methodLinkNest RX5 9 yX1_init RX5 ∈ mh_NW := mh_nw1 (mh_t1 (List.mem_of_getElem? (i := 181) rfl)) rfl
theorem wd_182 : Cond.instanceMethod yX1_init ∈ mh_TB := mh_tb1 (mh_t1 (List.mem_of_getElem? (i := 182) rfl)) rfl
theorem wd_183 : Cond.code yX1_init cX1_init 1 none ∈ mh_TB := mh_tb1 (mh_t1 (List.mem_of_getElem? (i := 183) rfl)) rfl
theorem wd_184 : Cond.methodLink RX1 3 Lib.objectInit ∈ mh_TB := mh_tb1 (mh_t1 (List.mem_of_getElem? (i := 184) rfl)) rfl
theorem wd_185 : Cond.fieldLink RX1 9 RX1 "kinds" "[I" ∈ mh_TB := mh_tb1 (mh_t1 (List.mem_of_getElem? (i := 185) rfl)) rfl
theorem wd_186 : Cond.fieldLinkNest RX0 61 RX1 "kinds" "[I" RX5 ∈ mh_NW := mh_nw1 (mh_t1 (List.mem_of_getElem? (i := 186) rfl)) rfl
theorem wd_187 : Cond.fieldLinkNest RX4 54 RX1 "kinds" "[I" RX5 ∈ mh_NW := mh_nw1 (mh_t1 (List.mem_of_getElem? (i := 187) rfl)) rfl
theorem wd_188 : Cond.fieldLinkNest RX5 118 RX1 "kinds" "[I" RX5 ∈ mh_NW := mh_nw1 (mh_t1 (List.mem_of_getElem? (i := 188) rfl)) rfl
theorem wd_189 : Cond.fieldLink RX1 15 RX1 "mores" "[I" ∈ mh_TB := mh_tb1 (mh_t1 (List.mem_of_getElem? (i := 189) rfl)) rfl
theorem wd_190 : Cond.fieldLinkNest RX0 64 RX1 "mores" "[I" RX5 ∈ mh_NW := mh_nw1 (mh_t1 (List.mem_of_getElem? (i := 190) rfl)) rfl
theorem wd_191 : Cond.fieldLinkNest RX4 49 RX1 "mores" "[I" RX5 ∈ mh_NW := mh_nw1 (mh_t1 (List.mem_of_getElem? (i := 191) rfl)) rfl
theorem wd_192 : Cond.fieldLink RX1 24 RX1 "pins" "J" ∈ mh_TB := mh_tb1 (mh_t1 (List.mem_of_getElem? (i := 192) rfl)) rfl
theorem wd_193 : Cond.fieldLinkNest RX5 70 RX1 "pins" "J" RX5 ∈ mh_NW := mh_nw1 (mh_t1 (List.mem_of_getElem? (i := 193) rfl)) rfl
theorem wd_194 : Cond.fieldLinkNest RX4 61 RX1 "mends" "J" RX5 ∈ mh_NW := mh_nw1 (mh_t1 (List.mem_of_getElem? (i := 194) rfl)) rfl
theorem wd_195 : Cond.fieldLinkNest RX5 87 RX1 "law" "I" RX5 ∈ mh_NW := mh_nw1 (mh_t1 (List.mem_of_getElem? (i := 195) rfl)) rfl
theorem wd_206 : Cond.superclass RX1 "java/lang/Object" ∈ mh_TB := mh_tb1 (mh_t1 (List.mem_of_getElem? (i := 206) rfl)) rfl
theorem wd_207 : Cond.arrayClass .int ∈ mh_TB := mh_tb1 (mh_t1 (List.mem_of_getElem? (i := 207) rfl)) rfl
theorem wd_208 : Cond.classLink RX5 19 RX3 ∈ mh_TB := mh_tb1 (mh_t1 (List.mem_of_getElem? (i := 208) rfl)) rfl
theorem wd_209 : Cond.instantiable RX3 7 ∈ mh_TB := mh_tb1 (mh_t1 (List.mem_of_getElem? (i := 209) rfl)) rfl
theorem wd_210 : Cond.methodLinkNest RX5 21 yX3_init RX5 ∈ mh_NW := mh_nw1 (mh_t1 (List.mem_of_getElem? (i := 210) rfl)) rfl
theorem wd_211 : Cond.instanceMethod yX3_init ∈ mh_TB := mh_tb1 (mh_t1 (List.mem_of_getElem? (i := 211) rfl)) rfl
theorem wd_212 : Cond.code yX3_init cX3_init 1 none ∈ mh_TB := mh_tb1 (mh_t1 (List.mem_of_getElem? (i := 212) rfl)) rfl
theorem wd_213 : Cond.methodLink RX3 3 Lib.objectInit ∈ mh_TB := mh_tb1 (mh_t1 (List.mem_of_getElem? (i := 213) rfl)) rfl
theorem wd_214 : Cond.fieldLink RX3 9 RX3 "bytes" "[I" ∈ mh_TB := mh_tb1 (mh_t1 (List.mem_of_getElem? (i := 214) rfl)) rfl
theorem wd_215 : Cond.fieldLink RX3 15 RX3 "size" "I" ∈ mh_TB := mh_tb1 (mh_t1 (List.mem_of_getElem? (i := 215) rfl)) rfl
theorem wd_216 : Cond.fieldLinkNest RX5 90 RX3 "size" "I" RX5 ∈ mh_NW := mh_nw1 (mh_t1 (List.mem_of_getElem? (i := 216) rfl)) rfl
theorem wd_217 : Cond.fieldLink RX3 28 RX3 "behind" "I" ∈ mh_TB := mh_tb1 (mh_t1 (List.mem_of_getElem? (i := 217) rfl)) rfl
theorem wd_218 : Cond.fieldLink RX3 37 RX3 "start" "I" ∈ mh_TB := mh_tb1 (mh_t1 (List.mem_of_getElem? (i := 218) rfl)) rfl
theorem wd_219 : Cond.fieldLink RX3 34 RX3 "token" "I" ∈ mh_TB := mh_tb1 (mh_t1 (List.mem_of_getElem? (i := 219) rfl)) rfl
theorem wd_220 : Cond.fieldLink RX3 61 RX3 "value" "I" ∈ mh_TB := mh_tb1 (mh_t1 (List.mem_of_getElem? (i := 220) rfl)) rfl
theorem wd_221 : Cond.fieldLink RX3 19 RX3 "into" "LStitchLetFall$Text;" ∈ mh_TB := mh_tb1 (mh_t1 (List.mem_of_getElem? (i := 221) rfl)) rfl
theorem wd_236 : Cond.superclass RX3 "java/lang/Object" ∈ mh_TB := mh_tb1 (mh_t1 (List.mem_of_getElem? (i := 236) rfl)) rfl
theorem wd_237 : Cond.classLink RX5 26 RX4 ∈ mh_TB := mh_tb1 (mh_t1 (List.mem_of_getElem? (i := 237) rfl)) rfl
theorem wd_239 : Cond.classLink RX5 32 RX0 ∈ mh_TB := mh_tb1 (mh_t1 (List.mem_of_getElem? (i := 239) rfl)) rfl
theorem wd_240 : Cond.methodLinkNest RX5 34 yX0_init RX5 ∈ mh_NW := mh_nw1 (mh_t2 (List.mem_of_getElem? (i := 0) rfl)) rfl
theorem wd_241 : Cond.instanceMethod yX0_init ∈ mh_TB := mh_tb1 (mh_t2 (List.mem_of_getElem? (i := 1) rfl)) rfl
theorem wd_242 : Cond.code yX0_init cX0_init 1 none ∈ mh_TB := mh_tb1 (mh_t2 (List.mem_of_getElem? (i := 2) rfl)) rfl
theorem wd_243 : Cond.methodLink RX0 3 Lib.objectInit ∈ mh_TB := mh_tb1 (mh_t2 (List.mem_of_getElem? (i := 3) rfl)) rfl
theorem wd_244 : Cond.fieldLink RX0 9 RX0 "rests" "[I" ∈ mh_TB := mh_tb1 (mh_t2 (List.mem_of_getElem? (i := 4) rfl)) rfl
theorem wd_245 : Cond.fieldLinkNest RX5 179 RX0 "rests" "[I" RX5 ∈ mh_NW := mh_nw1 (mh_t2 (List.mem_of_getElem? (i := 5) rfl)) rfl
theorem wd_246 : Cond.fieldLink RX0 15 RX0 "gone" "J" ∈ mh_TB := mh_tb1 (mh_t2 (List.mem_of_getElem? (i := 6) rfl)) rfl
theorem wd_247 : Cond.fieldLinkNest RX5 167 RX0 "gone" "J" RX5 ∈ mh_NW := mh_nw1 (mh_t2 (List.mem_of_getElem? (i := 7) rfl)) rfl
theorem wd_248 : Cond.fieldLink RX0 19 RX0 "stops" "J" ∈ mh_TB := mh_tb1 (mh_t2 (List.mem_of_getElem? (i := 8) rfl)) rfl
theorem wd_249 : Cond.fieldLinkNest RX5 176 RX0 "stops" "J" RX5 ∈ mh_NW := mh_nw1 (mh_t2 (List.mem_of_getElem? (i := 9) rfl)) rfl
theorem wd_256 : Cond.superclass RX0 "java/lang/Object" ∈ mh_TB := mh_tb1 (mh_t2 (List.mem_of_getElem? (i := 16) rfl)) rfl
theorem wd_257 : Cond.classLink RX5 39 RX2 ∈ mh_TB := mh_tb1 (mh_t2 (List.mem_of_getElem? (i := 17) rfl)) rfl
theorem wd_259 : Cond.methodLinkNest RX5 49 yX4_init RX5 ∈ mh_NW := mh_nw1 (mh_t2 (List.mem_of_getElem? (i := 19) rfl)) rfl
theorem wd_260 : Cond.instanceMethod yX4_init ∈ mh_TB := mh_tb1 (mh_t2 (List.mem_of_getElem? (i := 20) rfl)) rfl
theorem wd_261 : Cond.code yX4_init cX4_init 1 none ∈ mh_TB := mh_tb1 (mh_t2 (List.mem_of_getElem? (i := 21) rfl)) rfl
theorem wd_262 : Cond.methodLink RX4 3 Lib.objectInit ∈ mh_TB := mh_tb1 (mh_t2 (List.mem_of_getElem? (i := 22) rfl)) rfl
theorem wd_263 : Cond.fieldLink RX4 9 RX4 "steps" "[I" ∈ mh_TB := mh_tb1 (mh_t2 (List.mem_of_getElem? (i := 23) rfl)) rfl
theorem wd_264 : Cond.fieldLink RX4 21 RX4 "size" "I" ∈ mh_TB := mh_tb1 (mh_t2 (List.mem_of_getElem? (i := 24) rfl)) rfl
theorem wd_265 : Cond.fieldLink RX4 15 RX4 "ends" "[I" ∈ mh_TB := mh_tb1 (mh_t2 (List.mem_of_getElem? (i := 25) rfl)) rfl
theorem wd_266 : Cond.fieldLink RX4 18 RX4 "stack" "[I" ∈ mh_TB := mh_tb1 (mh_t2 (List.mem_of_getElem? (i := 26) rfl)) rfl
theorem wd_267 : Cond.fieldLink RX4 25 RX4 "top" "I" ∈ mh_TB := mh_tb1 (mh_t2 (List.mem_of_getElem? (i := 27) rfl)) rfl
theorem wd_278 : Cond.superclass RX4 "java/lang/Object" ∈ mh_TB := mh_tb1 (mh_t2 (List.mem_of_getElem? (i := 38) rfl)) rfl
theorem wd_279 : Cond.arrayClass .long ∈ mh_TB := mh_tb1 (mh_t2 (List.mem_of_getElem? (i := 39) rfl)) rfl
theorem wd_280 : Cond.instantiable RX2 3 ∈ mh_TB := mh_tb1 (mh_t2 (List.mem_of_getElem? (i := 40) rfl)) rfl
theorem wd_281 : Cond.methodLinkNest RX5 50 yX2_init RX5 ∈ mh_NW := mh_nw1 (mh_t2 (List.mem_of_getElem? (i := 41) rfl)) rfl
theorem wd_282 : Cond.instanceMethod yX2_init ∈ mh_TB := mh_tb1 (mh_t2 (List.mem_of_getElem? (i := 42) rfl)) rfl
theorem wd_283 : Cond.code yX2_init cX2_init 1 none ∈ mh_TB := mh_tb1 (mh_t2 (List.mem_of_getElem? (i := 43) rfl)) rfl
theorem wd_284 : Cond.methodLink RX2 3 Lib.objectInit ∈ mh_TB := mh_tb1 (mh_t2 (List.mem_of_getElem? (i := 44) rfl)) rfl
theorem wd_285 : Cond.fieldLink RX2 9 RX2 "numbers" "[I" ∈ mh_TB := mh_tb1 (mh_t2 (List.mem_of_getElem? (i := 45) rfl)) rfl
theorem wd_286 : Cond.fieldLink RX2 15 RX2 "sort" "I" ∈ mh_TB := mh_tb1 (mh_t2 (List.mem_of_getElem? (i := 46) rfl)) rfl
theorem wd_293 : Cond.superclass RX2 "java/lang/Object" ∈ mh_TB := mh_tb1 (mh_t2 (List.mem_of_getElem? (i := 53) rfl)) rfl
theorem wd_295 : Cond.methodLink RX5 53 yJ0_length_8abf5 ∈ mh_TB := mh_tb1 (mh_t2 (List.mem_of_getElem? (i := 55) rfl)) rfl
theorem wd_296 : Cond.instanceMethod yJ0_length_8abf5 ∈ mh_TB := mh_tb1 (mh_t2 (List.mem_of_getElem? (i := 56) rfl)) rfl
theorem wd_297 : Cond.selects RJ0 yJ0_length_8abf5 yJ0_length_8abf5 ∈ mh_TB := mh_tb1 (mh_t2 (List.mem_of_getElem? (i := 57) rfl)) rfl
theorem wd_298 : Cond.code yJ0_length_8abf5 cJ0_length_8abf5 1 (some .int) ∈ mh_TB := mh_tb1 (mh_t2 (List.mem_of_getElem? (i := 58) rfl)) rfl
theorem wd_299 : Cond.methodLink RJ0 335 yJ0_coder_7d493 ∈ mh_TB := mh_tb1 (mh_t2 (List.mem_of_getElem? (i := 59) rfl)) rfl
theorem wd_300 : Cond.instanceMethod yJ0_coder_7d493 ∈ mh_TB := mh_tb1 (mh_t2 (List.mem_of_getElem? (i := 60) rfl)) rfl
theorem wd_301 : Cond.selects RJ0 yJ0_coder_7d493 yJ0_coder_7d493 ∈ mh_TB := mh_tb1 (mh_t2 (List.mem_of_getElem? (i := 61) rfl)) rfl
theorem wd_302 : Cond.code yJ0_coder_7d493 cJ0_coder_7d493 1 (some .byte) ∈ mh_TB := mh_tb1 (mh_t2 (List.mem_of_getElem? (i := 62) rfl)) rfl
theorem wd_303 : Cond.fieldLink RJ0 38 RJ0 "COMPACT_STRINGS" "Z" ∈ mh_TB := mh_tb1 (mh_t2 (List.mem_of_getElem? (i := 63) rfl)) rfl
theorem wd_305 : Cond.methodLink RX5 59 yJ0_charAt_5068e ∈ mh_TB := mh_tb1 (mh_t2 (List.mem_of_getElem? (i := 65) rfl)) rfl
theorem wd_306 : Cond.instanceMethod yJ0_charAt_5068e ∈ mh_TB := mh_tb1 (mh_t2 (List.mem_of_getElem? (i := 66) rfl)) rfl
theorem wd_307 : Cond.selects RJ0 yJ0_charAt_5068e yJ0_charAt_5068e ∈ mh_TB := mh_tb1 (mh_t2 (List.mem_of_getElem? (i := 67) rfl)) rfl
theorem wd_308 : Cond.code yJ0_charAt_5068e cJ0_charAt_5068e 2 (some .char) ∈ mh_TB := mh_tb1 (mh_t2 (List.mem_of_getElem? (i := 68) rfl)) rfl
theorem wd_309 : Cond.methodLink RJ0 492 yJ0_isLatin1_aae02 ∈ mh_TB := mh_tb1 (mh_t2 (List.mem_of_getElem? (i := 69) rfl)) rfl
theorem wd_310 : Cond.instanceMethod yJ0_isLatin1_aae02 ∈ mh_TB := mh_tb1 (mh_t2 (List.mem_of_getElem? (i := 70) rfl)) rfl
theorem wd_311 : Cond.selects RJ0 yJ0_isLatin1_aae02 yJ0_isLatin1_aae02 ∈ mh_TB := mh_tb1 (mh_t2 (List.mem_of_getElem? (i := 71) rfl)) rfl
theorem wd_312 : Cond.code yJ0_isLatin1_aae02 cJ0_isLatin1_aae02 1 (some .boolean) ∈ mh_TB := mh_tb1 (mh_t2 (List.mem_of_getElem? (i := 72) rfl)) rfl
theorem wd_313 : Cond.methodLink RJ0 495 yJ1_charAt_3b067 ∈ mh_TB := mh_tb1 (mh_t2 (List.mem_of_getElem? (i := 73) rfl)) rfl
theorem wd_314 : Cond.static yJ1_charAt_3b067 ∈ mh_TB := mh_tb1 (mh_t2 (List.mem_of_getElem? (i := 74) rfl)) rfl
theorem wd_315 : Cond.code yJ1_charAt_3b067 cJ1_charAt_3b067 2 (some .char) ∈ mh_TB := mh_tb1 (mh_t2 (List.mem_of_getElem? (i := 75) rfl)) rfl
theorem wd_316 : Cond.methodLink RJ1 9 yJ0_checkIndex_df160 ∈ mh_TB := mh_tb1 (mh_t2 (List.mem_of_getElem? (i := 76) rfl)) rfl
theorem wd_317 : Cond.static yJ0_checkIndex_df160 ∈ mh_TB := mh_tb1 (mh_t2 (List.mem_of_getElem? (i := 77) rfl)) rfl
theorem wd_318 : Cond.code yJ0_checkIndex_df160 cJ0_checkIndex_df160 2 none ∈ mh_TB := mh_tb1 (mh_t2 (List.mem_of_getElem? (i := 78) rfl)) rfl
theorem wd_319 : Cond.fieldLink RJ0 1053 RJ3 "SIOOBE_FORMATTER" "Ljava/util/function/BiFunction;" ∈ mh_TB := mh_tb1 (mh_t2 (List.mem_of_getElem? (i := 79) rfl)) rfl
theorem wd_321 : Cond.methodLink RJ0 1059 yJ3_checkIndex_8e157 ∈ mh_TB := mh_tb1 (mh_t2 (List.mem_of_getElem? (i := 81) rfl)) rfl
theorem wd_322 : Cond.static yJ3_checkIndex_8e157 ∈ mh_TB := mh_tb1 (mh_t2 (List.mem_of_getElem? (i := 82) rfl)) rfl
theorem wd_323 : Cond.code yJ3_checkIndex_8e157 cJ3_checkIndex_8e157 3 (some .int) ∈ mh_TB := mh_tb1 (mh_t2 (List.mem_of_getElem? (i := 83) rfl)) rfl
theorem wd_324 : Cond.methodLink RJ0 498 yJ2_charAt_3b067 ∈ mh_TB := mh_tb1 (mh_t2 (List.mem_of_getElem? (i := 84) rfl)) rfl
theorem wd_325 : Cond.static yJ2_charAt_3b067 ∈ mh_TB := mh_tb1 (mh_t2 (List.mem_of_getElem? (i := 85) rfl)) rfl
theorem wd_326 : Cond.code yJ2_charAt_3b067 cJ2_charAt_3b067 2 (some .char) ∈ mh_TB := mh_tb1 (mh_t2 (List.mem_of_getElem? (i := 86) rfl)) rfl
theorem wd_327 : Cond.methodLink RJ2 67 yJ2_checkIndex_2214a ∈ mh_TB := mh_tb1 (mh_t2 (List.mem_of_getElem? (i := 87) rfl)) rfl
theorem wd_328 : Cond.static yJ2_checkIndex_2214a ∈ mh_TB := mh_tb1 (mh_t2 (List.mem_of_getElem? (i := 88) rfl)) rfl
theorem wd_329 : Cond.code yJ2_checkIndex_2214a cJ2_checkIndex_2214a 2 none ∈ mh_TB := mh_tb1 (mh_t2 (List.mem_of_getElem? (i := 89) rfl)) rfl
theorem wd_330 : Cond.methodLink RJ2 48 yJ2_length_9d52b ∈ mh_TB := mh_tb1 (mh_t2 (List.mem_of_getElem? (i := 90) rfl)) rfl
theorem wd_331 : Cond.static yJ2_length_9d52b ∈ mh_TB := mh_tb1 (mh_t2 (List.mem_of_getElem? (i := 91) rfl)) rfl
theorem wd_332 : Cond.code yJ2_length_9d52b cJ2_length_9d52b 1 (some .int) ∈ mh_TB := mh_tb1 (mh_t2 (List.mem_of_getElem? (i := 92) rfl)) rfl
theorem wd_333 : Cond.methodLink RJ2 414 yJ0_checkIndex_df160 ∈ mh_TB := mh_tb1 (mh_t2 (List.mem_of_getElem? (i := 93) rfl)) rfl
theorem wd_334 : Cond.methodLink RJ2 71 yJ2_getChar_3b067 ∈ mh_TB := mh_tb1 (mh_t2 (List.mem_of_getElem? (i := 94) rfl)) rfl
theorem wd_335 : Cond.static yJ2_getChar_3b067 ∈ mh_TB := mh_tb1 (mh_t2 (List.mem_of_getElem? (i := 95) rfl)) rfl
theorem wd_336 : Cond.code yJ2_getChar_3b067 cJ2_getChar_3b067 2 (some .char) ∈ mh_TB := mh_tb1 (mh_t2 (List.mem_of_getElem? (i := 96) rfl)) rfl
theorem wd_337 : Cond.fieldLink RJ2 44 RJ2 "$assertionsDisabled" "Z" ∈ mh_TB := mh_tb1 (mh_t2 (List.mem_of_getElem? (i := 97) rfl)) rfl
theorem wd_339 : Cond.fieldLink RJ2 59 RJ2 "HI_BYTE_SHIFT" "I" ∈ mh_TB := mh_tb1 (mh_t2 (List.mem_of_getElem? (i := 99) rfl)) rfl
theorem wd_341 : Cond.fieldLink RJ2 63 RJ2 "LO_BYTE_SHIFT" "I" ∈ mh_TB := mh_tb1 (mh_t2 (List.mem_of_getElem? (i := 101) rfl)) rfl
theorem wd_343 : Cond.methodLinkNest RX5 63 yX3_add RX5 ∈ mh_NW := mh_nw1 (mh_t2 (List.mem_of_getElem? (i := 103) rfl)) rfl
theorem wd_345 : Cond.instanceMethod yX3_add ∈ mh_TB := mh_tb1 (mh_t2 (List.mem_of_getElem? (i := 105) rfl)) rfl
theorem wd_346 : Cond.code yX3_add cX3_add 2 none ∈ mh_TB := mh_tb1 (mh_t2 (List.mem_of_getElem? (i := 106) rfl)) rfl
theorem wd_347 : Cond.methodLink RX5 67 yX5_readTape ∈ mh_TB := mh_tb1 (mh_t2 (List.mem_of_getElem? (i := 107) rfl)) rfl
theorem wd_349 : Cond.instanceMethod yX5_readTape ∈ mh_TB := mh_tb1 (mh_t2 (List.mem_of_getElem? (i := 109) rfl)) rfl
theorem wd_350 : Cond.code yX5_readTape cX5_readTape 2 (some .int) ∈ mh_TB := mh_tb1 (mh_t2 (List.mem_of_getElem? (i := 110) rfl)) rfl
theorem wd_351 : Cond.methodLinkNest RX5 280 yX3_readInto RX5 ∈ mh_NW := mh_nw1 (mh_t2 (List.mem_of_getElem? (i := 111) rfl)) rfl
theorem wd_353 : Cond.instanceMethod yX3_readInto ∈ mh_TB := mh_tb1 (mh_t2 (List.mem_of_getElem? (i := 113) rfl)) rfl
theorem wd_354 : Cond.code yX3_readInto cX3_readInto 3 (some .int) ∈ mh_TB := mh_tb1 (mh_t2 (List.mem_of_getElem? (i := 114) rfl)) rfl
theorem wd_355 : Cond.methodLinkNest RX3 23 yX4_clear RX5 ∈ mh_NW := mh_nw1 (mh_t2 (List.mem_of_getElem? (i := 115) rfl)) rfl
theorem wd_357 : Cond.instanceMethod yX4_clear ∈ mh_TB := mh_tb1 (mh_t2 (List.mem_of_getElem? (i := 117) rfl)) rfl
theorem wd_358 : Cond.code yX4_clear cX4_clear 1 none ∈ mh_TB := mh_tb1 (mh_t2 (List.mem_of_getElem? (i := 118) rfl)) rfl
theorem wd_359 : Cond.methodLink RX3 31 yX3_advance ∈ mh_TB := mh_tb1 (mh_t2 (List.mem_of_getElem? (i := 119) rfl)) rfl
theorem wd_361 : Cond.instanceMethod yX3_advance ∈ mh_TB := mh_tb1 (mh_t2 (List.mem_of_getElem? (i := 121) rfl)) rfl
theorem wd_362 : Cond.code yX3_advance cX3_advance 2 none ∈ mh_TB := mh_tb1 (mh_t2 (List.mem_of_getElem? (i := 122) rfl)) rfl
theorem wd_363 : Cond.methodLink RX3 71 yX3_isLetter ∈ mh_TB := mh_tb1 (mh_t2 (List.mem_of_getElem? (i := 123) rfl)) rfl
theorem wd_364 : Cond.static yX3_isLetter ∈ mh_TB := mh_tb1 (mh_t2 (List.mem_of_getElem? (i := 124) rfl)) rfl
theorem wd_365 : Cond.code yX3_isLetter cX3_isLetter 1 (some .boolean) ∈ mh_TB := mh_tb1 (mh_t2 (List.mem_of_getElem? (i := 125) rfl)) rfl
theorem wd_366 : Cond.methodLinkNest RX3 64 yX5_within RX5 ∈ mh_NW := mh_nw1 (mh_t2 (List.mem_of_getElem? (i := 126) rfl)) rfl
theorem wd_367 : Cond.methodLink RX3 74 yX3_wordToken ∈ mh_TB := mh_tb1 (mh_t2 (List.mem_of_getElem? (i := 127) rfl)) rfl
theorem wd_369 : Cond.instanceMethod yX3_wordToken ∈ mh_TB := mh_tb1 (mh_t2 (List.mem_of_getElem? (i := 129) rfl)) rfl
theorem wd_370 : Cond.code yX3_wordToken cX3_wordToken 4 (some .int) ∈ mh_TB := mh_tb1 (mh_t2 (List.mem_of_getElem? (i := 130) rfl)) rfl
theorem wd_372 : Cond.methodLink RX3 86 yJ0_length_8abf5 ∈ mh_TB := mh_tb1 (mh_t2 (List.mem_of_getElem? (i := 132) rfl)) rfl
theorem wd_373 : Cond.methodLink RX3 92 yJ0_charAt_5068e ∈ mh_TB := mh_tb1 (mh_t2 (List.mem_of_getElem? (i := 133) rfl)) rfl
theorem wd_374 : Cond.methodLink RX3 96 yX3_standsAt ∈ mh_TB := mh_tb1 (mh_t2 (List.mem_of_getElem? (i := 134) rfl)) rfl
theorem wd_376 : Cond.instanceMethod yX3_standsAt ∈ mh_TB := mh_tb1 (mh_t2 (List.mem_of_getElem? (i := 136) rfl)) rfl
theorem wd_377 : Cond.code yX3_standsAt cX3_standsAt 5 (some .boolean) ∈ mh_TB := mh_tb1 (mh_t2 (List.mem_of_getElem? (i := 137) rfl)) rfl
theorem wd_378 : Cond.methodLink RX3 78 yX3_isDigit ∈ mh_TB := mh_tb1 (mh_t2 (List.mem_of_getElem? (i := 138) rfl)) rfl
theorem wd_379 : Cond.static yX3_isDigit ∈ mh_TB := mh_tb1 (mh_t2 (List.mem_of_getElem? (i := 139) rfl)) rfl
theorem wd_380 : Cond.code yX3_isDigit cX3_isDigit 1 (some .boolean) ∈ mh_TB := mh_tb1 (mh_t2 (List.mem_of_getElem? (i := 140) rfl)) rfl
theorem wd_381 : Cond.methodLink RX3 81 yX3_isSign ∈ mh_TB := mh_tb1 (mh_t2 (List.mem_of_getElem? (i := 141) rfl)) rfl
theorem wd_382 : Cond.static yX3_isSign ∈ mh_TB := mh_tb1 (mh_t2 (List.mem_of_getElem? (i := 142) rfl)) rfl
theorem wd_383 : Cond.code yX3_isSign cX3_isSign 1 (some .boolean) ∈ mh_TB := mh_tb1 (mh_t2 (List.mem_of_getElem? (i := 143) rfl)) rfl
theorem wd_384 : Cond.methodLink RX3 40 yX3_chain ∈ mh_TB := mh_tb1 (mh_t2 (List.mem_of_getElem? (i := 144) rfl)) rfl
theorem wd_386 : Cond.instanceMethod yX3_chain ∈ mh_TB := mh_tb1 (mh_t2 (List.mem_of_getElem? (i := 146) rfl)) rfl
theorem wd_387 : Cond.code yX3_chain cX3_chain 6 (some .boolean) ∈ mh_TB := mh_tb1 (mh_t2 (List.mem_of_getElem? (i := 147) rfl)) rfl
theorem wd_388 : Cond.methodLink RX3 48 yX3_one ∈ mh_TB := mh_tb1 (mh_t2 (List.mem_of_getElem? (i := 148) rfl)) rfl
theorem wd_390 : Cond.instanceMethod yX3_one ∈ mh_TB := mh_tb1 (mh_t2 (List.mem_of_getElem? (i := 150) rfl)) rfl
theorem wd_391 : Cond.code yX3_one cX3_one 2 (some .boolean) ∈ mh_TB := mh_tb1 (mh_t2 (List.mem_of_getElem? (i := 151) rfl)) rfl
theorem wd_392 : Cond.methodLinkNest RX3 58 yX4_add RX5 ∈ mh_NW := mh_nw1 (mh_t2 (List.mem_of_getElem? (i := 152) rfl)) rfl
theorem wd_394 : Cond.instanceMethod yX4_add ∈ mh_TB := mh_tb1 (mh_t2 (List.mem_of_getElem? (i := 154) rfl)) rfl
theorem wd_395 : Cond.code yX4_add cX4_add 2 none ∈ mh_TB := mh_tb1 (mh_t2 (List.mem_of_getElem? (i := 155) rfl)) rfl
theorem wd_396 : Cond.methodLink RX3 68 yX3_opened ∈ mh_TB := mh_tb1 (mh_t2 (List.mem_of_getElem? (i := 156) rfl)) rfl
theorem wd_398 : Cond.instanceMethod yX3_opened ∈ mh_TB := mh_tb1 (mh_t2 (List.mem_of_getElem? (i := 158) rfl)) rfl
theorem wd_399 : Cond.code yX3_opened cX3_opened 3 (some .boolean) ∈ mh_TB := mh_tb1 (mh_t2 (List.mem_of_getElem? (i := 159) rfl)) rfl
theorem wd_400 : Cond.methodLink RX3 52 yX3_negation ∈ mh_TB := mh_tb1 (mh_t2 (List.mem_of_getElem? (i := 160) rfl)) rfl
theorem wd_402 : Cond.instanceMethod yX3_negation ∈ mh_TB := mh_tb1 (mh_t2 (List.mem_of_getElem? (i := 162) rfl)) rfl
theorem wd_403 : Cond.code yX3_negation cX3_negation 2 (some .boolean) ∈ mh_TB := mh_tb1 (mh_t2 (List.mem_of_getElem? (i := 163) rfl)) rfl
theorem wd_404 : Cond.methodLink RX3 55 yX3_joins ∈ mh_TB := mh_tb1 (mh_t2 (List.mem_of_getElem? (i := 164) rfl)) rfl
theorem wd_405 : Cond.static yX3_joins ∈ mh_TB := mh_tb1 (mh_t2 (List.mem_of_getElem? (i := 165) rfl)) rfl
theorem wd_406 : Cond.code yX3_joins cX3_joins 2 (some .boolean) ∈ mh_TB := mh_tb1 (mh_t2 (List.mem_of_getElem? (i := 166) rfl)) rfl
theorem wd_407 : Cond.methodLinkNest RX3 44 yX4_endPart RX5 ∈ mh_NW := mh_nw1 (mh_t2 (List.mem_of_getElem? (i := 167) rfl)) rfl
theorem wd_409 : Cond.instanceMethod yX4_endPart ∈ mh_TB := mh_tb1 (mh_t2 (List.mem_of_getElem? (i := 169) rfl)) rfl
theorem wd_410 : Cond.code yX4_endPart cX4_endPart 2 none ∈ mh_TB := mh_tb1 (mh_t2 (List.mem_of_getElem? (i := 170) rfl)) rfl
theorem wd_411 : Cond.fieldLink RX5 10 RX5 "piece" "LStitchLetFall$Piece;" ∈ mh_TB := mh_tb1 (mh_t2 (List.mem_of_getElem? (i := 171) rfl)) rfl
theorem wd_412 : Cond.fieldLink RX5 16 RX5 "kept" "LStitchLetFall$Piece;" ∈ mh_TB := mh_tb1 (mh_t2 (List.mem_of_getElem? (i := 172) rfl)) rfl
theorem wd_413 : Cond.fieldLink RX5 22 RX5 "tape" "LStitchLetFall$Tape;" ∈ mh_TB := mh_tb1 (mh_t2 (List.mem_of_getElem? (i := 173) rfl)) rfl
theorem wd_414 : Cond.fieldLink RX5 28 RX5 "texts" "[LStitchLetFall$Text;" ∈ mh_TB := mh_tb1 (mh_t2 (List.mem_of_getElem? (i := 174) rfl)) rfl
theorem wd_415 : Cond.fieldLink RX5 83 RX5 "textCount" "I" ∈ mh_TB := mh_tb1 (mh_t2 (List.mem_of_getElem? (i := 175) rfl)) rfl
theorem wd_416 : Cond.fieldLink RX5 35 RX5 "fall" "LStitchLetFall$Fall;" ∈ mh_TB := mh_tb1 (mh_t2 (List.mem_of_getElem? (i := 176) rfl)) rfl
theorem wd_417 : Cond.fieldLink RX5 41 RX5 "sheets" "[LStitchLetFall$Sheet;" ∈ mh_TB := mh_tb1 (mh_t2 (List.mem_of_getElem? (i := 177) rfl)) rfl
theorem wd_418 : Cond.fieldLink RX5 45 RX5 "goneAlone" "[J" ∈ mh_TB := mh_tb1 (mh_t2 (List.mem_of_getElem? (i := 178) rfl)) rfl
theorem wd_437 : Cond.superclass RX5 "java/lang/Object" ∈ mh_TB := mh_tb1 (mh_t2 (List.mem_of_getElem? (i := 197) rfl)) rfl
theorem wd_438 : Cond.arrayClass .byte ∈ mh_TB := mh_tb1 (mh_t2 (List.mem_of_getElem? (i := 198) rfl)) rfl
theorem wd_439 : Cond.methodLink RL 24 yL_kind ∈ mh_TB := mh_tb1 (mh_t2 (List.mem_of_getElem? (i := 199) rfl)) rfl
theorem wd_440 : Cond.static yL_kind ∈ mh_TB := mh_tb1 (mh_t2 (List.mem_of_getElem? (i := 200) rfl)) rfl
theorem wd_441 : Cond.code yL_kind cL_kind 3 (some .int) ∈ mh_TB := mh_tb1 (mh_t2 (List.mem_of_getElem? (i := 201) rfl)) rfl
theorem wd_442 : Cond.methodLink RL 30 yL_more ∈ mh_TB := mh_tb1 (mh_t2 (List.mem_of_getElem? (i := 202) rfl)) rfl
theorem wd_443 : Cond.static yL_more ∈ mh_TB := mh_tb1 (mh_t2 (List.mem_of_getElem? (i := 203) rfl)) rfl
theorem wd_444 : Cond.code yL_more cL_more 2 (some .int) ∈ mh_TB := mh_tb1 (mh_t2 (List.mem_of_getElem? (i := 204) rfl)) rfl
theorem wd_445 : Cond.methodLink RL 33 yX5_knit ∈ mh_TB := mh_tb1 (mh_t2 (List.mem_of_getElem? (i := 205) rfl)) rfl
theorem wd_446 : Cond.instanceMethod yX5_knit ∈ mh_TB := mh_tb1 (mh_t2 (List.mem_of_getElem? (i := 206) rfl)) rfl
theorem wd_447 : Cond.selects RX5 yX5_knit yX5_knit ∈ mh_TB := mh_tb1 (mh_t2 (List.mem_of_getElem? (i := 207) rfl)) rfl
theorem wd_448 : Cond.code yX5_knit cX5_knit 5 (some .int) ∈ mh_TB := mh_tb1 (mh_t2 (List.mem_of_getElem? (i := 208) rfl)) rfl
theorem wd_449 : Cond.methodLink RX5 114 yX5_isKnit ∈ mh_TB := mh_tb1 (mh_t2 (List.mem_of_getElem? (i := 209) rfl)) rfl
theorem wd_450 : Cond.static yX5_isKnit ∈ mh_TB := mh_tb1 (mh_t2 (List.mem_of_getElem? (i := 210) rfl)) rfl
theorem wd_451 : Cond.code yX5_isKnit cX5_isKnit 2 (some .boolean) ∈ mh_TB := mh_tb1 (mh_t2 (List.mem_of_getElem? (i := 211) rfl)) rfl
theorem wd_452 : Cond.methodLinkNest RX5 122 yX1_become RX5 ∈ mh_NW := mh_nw1 (mh_t2 (List.mem_of_getElem? (i := 212) rfl)) rfl
theorem wd_454 : Cond.instanceMethod yX1_become ∈ mh_TB := mh_tb1 (mh_t2 (List.mem_of_getElem? (i := 214) rfl)) rfl
theorem wd_455 : Cond.code yX1_become cX1_become 4 none ∈ mh_TB := mh_tb1 (mh_t2 (List.mem_of_getElem? (i := 215) rfl)) rfl
theorem wd_456 : Cond.methodLink RL 37 yL_pinned ∈ mh_TB := mh_tb1 (mh_t2 (List.mem_of_getElem? (i := 216) rfl)) rfl
theorem wd_457 : Cond.static yL_pinned ∈ mh_TB := mh_tb1 (mh_t2 (List.mem_of_getElem? (i := 217) rfl)) rfl
theorem wd_458 : Cond.code yL_pinned cL_pinned 2 (some .boolean) ∈ mh_TB := mh_tb1 (mh_t2 (List.mem_of_getElem? (i := 218) rfl)) rfl
theorem wd_459 : Cond.methodLink RL 45 yL_plain ∈ mh_TB := mh_tb1 (mh_t2 (List.mem_of_getElem? (i := 219) rfl)) rfl
theorem wd_460 : Cond.static yL_plain ∈ mh_TB := mh_tb1 (mh_t2 (List.mem_of_getElem? (i := 220) rfl)) rfl
theorem wd_461 : Cond.code yL_plain cL_plain 1 (some .boolean) ∈ mh_TB := mh_tb1 (mh_t2 (List.mem_of_getElem? (i := 221) rfl)) rfl
theorem wd_462 : Cond.classLink RL 49 RJ4 ∈ mh_TB := mh_tb1 (mh_t2 (List.mem_of_getElem? (i := 222) rfl)) rfl
theorem wd_463 : Cond.instantiable RJ4 4 ∈ mh_TB := mh_tb1 (mh_t2 (List.mem_of_getElem? (i := 223) rfl)) rfl
theorem wd_464 : Cond.methodLink RL 51 yJ4_init_da8c8 ∈ mh_TB := mh_tb1 (mh_t2 (List.mem_of_getElem? (i := 224) rfl)) rfl
theorem wd_465 : Cond.instanceMethod yJ4_init_da8c8 ∈ mh_TB := mh_tb1 (mh_t2 (List.mem_of_getElem? (i := 225) rfl)) rfl
theorem wd_466 : Cond.code yJ4_init_da8c8 cJ4_init_da8c8 1 none ∈ mh_TB := mh_tb1 (mh_t2 (List.mem_of_getElem? (i := 226) rfl)) rfl
theorem wd_467 : Cond.methodLink RJ4 1 yJ5_init_d00df ∈ mh_TB := mh_tb1 (mh_t2 (List.mem_of_getElem? (i := 227) rfl)) rfl
theorem wd_468 : Cond.instanceMethod yJ5_init_d00df ∈ mh_TB := mh_tb1 (mh_t2 (List.mem_of_getElem? (i := 228) rfl)) rfl
theorem wd_469 : Cond.code yJ5_init_d00df cJ5_init_d00df 2 none ∈ mh_TB := mh_tb1 (mh_t2 (List.mem_of_getElem? (i := 229) rfl)) rfl
theorem wd_470 : Cond.methodLink RJ5 3 Lib.objectInit ∈ mh_TB := mh_tb1 (mh_t2 (List.mem_of_getElem? (i := 230) rfl)) rfl
theorem wd_471 : Cond.fieldLink RJ5 18 RJ0 "COMPACT_STRINGS" "Z" ∈ mh_TB := mh_tb1 (mh_t2 (List.mem_of_getElem? (i := 231) rfl)) rfl
theorem wd_472 : Cond.methodLink RJ5 26 yJ2_newBytesFor_77867 ∈ mh_TB := mh_tb1 (mh_t2 (List.mem_of_getElem? (i := 232) rfl)) rfl
theorem wd_473 : Cond.static yJ2_newBytesFor_77867 ∈ mh_TB := mh_tb1 (mh_t2 (List.mem_of_getElem? (i := 233) rfl)) rfl
theorem wd_474 : Cond.code yJ2_newBytesFor_77867 cJ2_newBytesFor_77867 1 (some (.array .byte)) ∈ mh_TB := mh_tb1 (mh_t2 (List.mem_of_getElem? (i := 234) rfl)) rfl
theorem wd_475 : Cond.methodLink RJ2 11 yJ2_newBytesLength_0f7a4 ∈ mh_TB := mh_tb1 (mh_t2 (List.mem_of_getElem? (i := 235) rfl)) rfl
theorem wd_476 : Cond.static yJ2_newBytesLength_0f7a4 ∈ mh_TB := mh_tb1 (mh_t2 (List.mem_of_getElem? (i := 236) rfl)) rfl
theorem wd_477 : Cond.code yJ2_newBytesLength_0f7a4 cJ2_newBytesLength_0f7a4 1 (some .int) ∈ mh_TB := mh_tb1 (mh_t2 (List.mem_of_getElem? (i := 237) rfl)) rfl
theorem wd_478 : Cond.constant RJ2 20 (1073741823) ∈ mh_TB := mh_tb1 (mh_t2 (List.mem_of_getElem? (i := 238) rfl)) rfl
theorem wd_479 : Cond.fieldLink RJ5 15 RJ5 "value" "[B" ∈ mh_TB := mh_tb1 (mh_t2 (List.mem_of_getElem? (i := 239) rfl)) rfl
theorem wd_480 : Cond.fieldLink RJ5 22 RJ5 "coder" "B" ∈ mh_TB := mh_tb1 (mh_t3 (List.mem_of_getElem? (i := 0) rfl)) rfl
theorem wd_481 : Cond.fieldLink RJ0 1048 RJ5 "maybeLatin1" "Z" ∈ mh_TB := mh_tb1 (mh_t3 (List.mem_of_getElem? (i := 1) rfl)) rfl
theorem wd_482 : Cond.fieldLink RJ5 79 RJ5 "count" "I" ∈ mh_TB := mh_tb1 (mh_t3 (List.mem_of_getElem? (i := 2) rfl)) rfl
theorem wd_491 : Cond.superclass RJ4 RJ5 ∈ mh_TB := mh_tb1 (mh_t3 (List.mem_of_getElem? (i := 11) rfl)) rfl
theorem wd_493 : Cond.methodLink RL 54 yJ4_append_15ec4 ∈ mh_TB := mh_tb1 (mh_t3 (List.mem_of_getElem? (i := 13) rfl)) rfl
theorem wd_494 : Cond.instanceMethod yJ4_append_15ec4 ∈ mh_TB := mh_tb1 (mh_t3 (List.mem_of_getElem? (i := 14) rfl)) rfl
theorem wd_495 : Cond.selects RJ4 yJ4_append_15ec4 yJ4_append_15ec4 ∈ mh_TB := mh_tb1 (mh_t3 (List.mem_of_getElem? (i := 15) rfl)) rfl
theorem wd_496 : Cond.code yJ4_append_15ec4 cJ4_append_15ec4 2 (some (.object RJ4)) ∈ mh_TB := mh_tb1 (mh_t3 (List.mem_of_getElem? (i := 16) rfl)) rfl
theorem wd_497 : Cond.methodLink RJ4 29 yJ5_append_cf1ce ∈ mh_TB := mh_tb1 (mh_t3 (List.mem_of_getElem? (i := 17) rfl)) rfl
theorem wd_498 : Cond.instanceMethod yJ5_append_cf1ce ∈ mh_TB := mh_tb1 (mh_t3 (List.mem_of_getElem? (i := 18) rfl)) rfl
theorem wd_499 : Cond.code yJ5_append_cf1ce cJ5_append_cf1ce 3 (some (.object RJ5)) ∈ mh_TB := mh_tb1 (mh_t3 (List.mem_of_getElem? (i := 19) rfl)) rfl
theorem wd_500 : Cond.methodLink RJ5 204 yJ5_appendNull_278bc ∈ mh_TB := mh_tb1 (mh_t3 (List.mem_of_getElem? (i := 20) rfl)) rfl
theorem wd_502 : Cond.instanceMethod yJ5_appendNull_278bc ∈ mh_TB := mh_tb1 (mh_t3 (List.mem_of_getElem? (i := 22) rfl)) rfl
theorem wd_503 : Cond.code yJ5_appendNull_278bc cJ5_appendNull_278bc 3 (some (.object RJ5)) ∈ mh_TB := mh_tb1 (mh_t3 (List.mem_of_getElem? (i := 23) rfl)) rfl
theorem wd_504 : Cond.methodLink RJ5 100 yJ5_ensureCapacityInternal_d00df ∈ mh_TB := mh_tb1 (mh_t3 (List.mem_of_getElem? (i := 24) rfl)) rfl
theorem wd_506 : Cond.instanceMethod yJ5_ensureCapacityInternal_d00df ∈ mh_TB := mh_tb1 (mh_t3 (List.mem_of_getElem? (i := 26) rfl)) rfl
theorem wd_507 : Cond.code yJ5_ensureCapacityInternal_d00df cJ5_ensureCapacityInternal_d00df 3 none ∈ mh_TB := mh_tb1 (mh_t3 (List.mem_of_getElem? (i := 27) rfl)) rfl
theorem wd_508 : Cond.methodLink RJ5 104 yJ5_newCapacity_0f7a4 ∈ mh_TB := mh_tb1 (mh_t3 (List.mem_of_getElem? (i := 28) rfl)) rfl
theorem wd_510 : Cond.instanceMethod yJ5_newCapacity_0f7a4 ∈ mh_TB := mh_tb1 (mh_t3 (List.mem_of_getElem? (i := 30) rfl)) rfl
theorem wd_511 : Cond.code yJ5_newCapacity_0f7a4 cJ5_newCapacity_0f7a4 6 (some .int) ∈ mh_TB := mh_tb1 (mh_t3 (List.mem_of_getElem? (i := 31) rfl)) rfl
theorem wd_512 : Cond.methodLink RJ5 114 yJ8_newLength_cabcc ∈ mh_TB := mh_tb1 (mh_t3 (List.mem_of_getElem? (i := 32) rfl)) rfl
theorem wd_513 : Cond.static yJ8_newLength_cabcc ∈ mh_TB := mh_tb1 (mh_t3 (List.mem_of_getElem? (i := 33) rfl)) rfl
theorem wd_514 : Cond.code yJ8_newLength_cabcc cJ8_newLength_cabcc 4 (some .int) ∈ mh_TB := mh_tb1 (mh_t3 (List.mem_of_getElem? (i := 34) rfl)) rfl
theorem wd_515 : Cond.methodLink RJ8 194 yJ9_max_7cf53 ∈ mh_TB := mh_tb1 (mh_t3 (List.mem_of_getElem? (i := 35) rfl)) rfl
theorem wd_516 : Cond.constant RJ8 200 (2147483639) ∈ mh_TB := mh_tb1 (mh_t3 (List.mem_of_getElem? (i := 36) rfl)) rfl
theorem wd_517 : Cond.methodLink RJ8 201 yJ8_hugeLength_7cf53 ∈ mh_TB := mh_tb1 (mh_t3 (List.mem_of_getElem? (i := 37) rfl)) rfl
theorem wd_518 : Cond.static yJ8_hugeLength_7cf53 ∈ mh_TB := mh_tb1 (mh_t3 (List.mem_of_getElem? (i := 38) rfl)) rfl
theorem wd_519 : Cond.code yJ8_hugeLength_7cf53 cJ8_hugeLength_7cf53 3 (some .int) ∈ mh_TB := mh_tb1 (mh_t3 (List.mem_of_getElem? (i := 39) rfl)) rfl
theorem wd_520 : Cond.constant RJ5 39 (2147483647) ∈ mh_TB := mh_tb1 (mh_t3 (List.mem_of_getElem? (i := 40) rfl)) rfl
theorem wd_521 : Cond.methodLink RJ5 108 yJ7_copyOf_9075b ∈ mh_TB := mh_tb1 (mh_t3 (List.mem_of_getElem? (i := 41) rfl)) rfl
theorem wd_522 : Cond.static yJ7_copyOf_9075b ∈ mh_TB := mh_tb1 (mh_t3 (List.mem_of_getElem? (i := 42) rfl)) rfl
theorem wd_523 : Cond.code yJ7_copyOf_9075b cJ7_copyOf_9075b 3 (some (.array .byte)) ∈ mh_TB := mh_tb1 (mh_t3 (List.mem_of_getElem? (i := 43) rfl)) rfl
theorem wd_525 : Cond.sameMethod "[B" "java/lang/Object" "clone" "()Ljava/lang/Object;" ∈ mh_TB := mh_tb1 (mh_t3 (List.mem_of_getElem? (i := 45) rfl)) rfl
theorem wd_530 : Cond.classLink RJ7 311 "[B" ∈ mh_TB := mh_tb1 (mh_t3 (List.mem_of_getElem? (i := 50) rfl)) rfl
theorem wd_531 : Cond.methodLink RJ7 304 yJ9_min_7cf53 ∈ mh_TB := mh_tb1 (mh_t3 (List.mem_of_getElem? (i := 51) rfl)) rfl
theorem wd_532 : Cond.methodLink RJ7 150 arraycopyName ∈ mh_TB := mh_tb1 (mh_t3 (List.mem_of_getElem? (i := 52) rfl)) rfl
theorem wd_533 : Cond.static arraycopyName ∈ mh_TB := mh_tb1 (mh_t3 (List.mem_of_getElem? (i := 53) rfl)) rfl
theorem wd_534 : Cond.native arraycopyName ∈ mh_TB := mh_tb1 (mh_t3 (List.mem_of_getElem? (i := 54) rfl)) rfl
theorem wd_535 : Cond.methodLink RJ5 83 yJ5_isLatin1_aae02 ∈ mh_TB := mh_tb1 (mh_t3 (List.mem_of_getElem? (i := 55) rfl)) rfl
theorem wd_536 : Cond.instanceMethod yJ5_isLatin1_aae02 ∈ mh_TB := mh_tb1 (mh_t3 (List.mem_of_getElem? (i := 56) rfl)) rfl
theorem wd_537 : Cond.sameMethod RJ5 RJ5 "isLatin1" "()Z" ∈ mh_TB := mh_tb1 (mh_t3 (List.mem_of_getElem? (i := 57) rfl)) rfl
theorem wd_538 : Cond.selects RJ4 yJ5_isLatin1_aae02 yJ5_isLatin1_aae02 ∈ mh_TB := mh_tb1 (mh_t3 (List.mem_of_getElem? (i := 58) rfl)) rfl
theorem wd_539 : Cond.code yJ5_isLatin1_aae02 cJ5_isLatin1_aae02 1 (some .boolean) ∈ mh_TB := mh_tb1 (mh_t3 (List.mem_of_getElem? (i := 59) rfl)) rfl
theorem wd_540 : Cond.methodLink RJ5 226 yJ2_putCharsAt_cd4e5 ∈ mh_TB := mh_tb1 (mh_t3 (List.mem_of_getElem? (i := 60) rfl)) rfl
theorem wd_541 : Cond.static yJ2_putCharsAt_cd4e5 ∈ mh_TB := mh_tb1 (mh_t3 (List.mem_of_getElem? (i := 61) rfl)) rfl
theorem wd_542 : Cond.code yJ2_putCharsAt_cd4e5 cJ2_putCharsAt_cd4e5 7 (some .int) ∈ mh_TB := mh_tb1 (mh_t3 (List.mem_of_getElem? (i := 62) rfl)) rfl
theorem wd_543 : Cond.methodLink RJ2 96 yJ2_checkBoundsBeginEnd_d044e ∈ mh_TB := mh_tb1 (mh_t3 (List.mem_of_getElem? (i := 63) rfl)) rfl
theorem wd_544 : Cond.static yJ2_checkBoundsBeginEnd_d044e ∈ mh_TB := mh_tb1 (mh_t3 (List.mem_of_getElem? (i := 64) rfl)) rfl
theorem wd_545 : Cond.code yJ2_checkBoundsBeginEnd_d044e cJ2_checkBoundsBeginEnd_d044e 3 none ∈ mh_TB := mh_tb1 (mh_t3 (List.mem_of_getElem? (i := 65) rfl)) rfl
theorem wd_546 : Cond.methodLink RJ2 241 yJ0_checkBoundsBeginEnd_23922 ∈ mh_TB := mh_tb1 (mh_t3 (List.mem_of_getElem? (i := 66) rfl)) rfl
theorem wd_547 : Cond.static yJ0_checkBoundsBeginEnd_23922 ∈ mh_TB := mh_tb1 (mh_t3 (List.mem_of_getElem? (i := 67) rfl)) rfl
theorem wd_548 : Cond.code yJ0_checkBoundsBeginEnd_23922 cJ0_checkBoundsBeginEnd_23922 3 none ∈ mh_TB := mh_tb1 (mh_t3 (List.mem_of_getElem? (i := 68) rfl)) rfl
theorem wd_549 : Cond.methodLink RJ0 1062 yJ3_checkFromToIndex_8c36e ∈ mh_TB := mh_tb1 (mh_t3 (List.mem_of_getElem? (i := 69) rfl)) rfl
theorem wd_550 : Cond.static yJ3_checkFromToIndex_8c36e ∈ mh_TB := mh_tb1 (mh_t3 (List.mem_of_getElem? (i := 70) rfl)) rfl
theorem wd_551 : Cond.code yJ3_checkFromToIndex_8c36e cJ3_checkFromToIndex_8c36e 4 (some .int) ∈ mh_TB := mh_tb1 (mh_t3 (List.mem_of_getElem? (i := 71) rfl)) rfl
theorem wd_552 : Cond.methodLink RJ2 111 yJ2_putChar_b72d1 ∈ mh_TB := mh_tb1 (mh_t3 (List.mem_of_getElem? (i := 72) rfl)) rfl
theorem wd_553 : Cond.static yJ2_putChar_b72d1 ∈ mh_TB := mh_tb1 (mh_t3 (List.mem_of_getElem? (i := 73) rfl)) rfl
theorem wd_554 : Cond.code yJ2_putChar_b72d1 cJ2_putChar_b72d1 3 none ∈ mh_TB := mh_tb1 (mh_t3 (List.mem_of_getElem? (i := 74) rfl)) rfl
theorem wd_555 : Cond.methodLink RJ5 32 yJ0_length_8abf5 ∈ mh_TB := mh_tb1 (mh_t3 (List.mem_of_getElem? (i := 75) rfl)) rfl
theorem wd_556 : Cond.methodLink RJ5 208 yJ5_putStringAt_47b60 ∈ mh_TB := mh_tb1 (mh_t3 (List.mem_of_getElem? (i := 76) rfl)) rfl
theorem wd_558 : Cond.instanceMethod yJ5_putStringAt_47b60 ∈ mh_TB := mh_tb1 (mh_t3 (List.mem_of_getElem? (i := 78) rfl)) rfl
theorem wd_559 : Cond.code yJ5_putStringAt_47b60 cJ5_putStringAt_47b60 3 none ∈ mh_TB := mh_tb1 (mh_t3 (List.mem_of_getElem? (i := 79) rfl)) rfl
theorem wd_560 : Cond.methodLink RJ5 397 yJ5_inflateIfNeededFor_a7421 ∈ mh_TB := mh_tb1 (mh_t3 (List.mem_of_getElem? (i := 80) rfl)) rfl
theorem wd_562 : Cond.instanceMethod yJ5_inflateIfNeededFor_a7421 ∈ mh_TB := mh_tb1 (mh_t3 (List.mem_of_getElem? (i := 82) rfl)) rfl
theorem wd_563 : Cond.code yJ5_inflateIfNeededFor_a7421 cJ5_inflateIfNeededFor_a7421 2 none ∈ mh_TB := mh_tb1 (mh_t3 (List.mem_of_getElem? (i := 83) rfl)) rfl
theorem wd_564 : Cond.methodLink RJ5 40 yJ0_coder_7d493 ∈ mh_TB := mh_tb1 (mh_t3 (List.mem_of_getElem? (i := 84) rfl)) rfl
theorem wd_565 : Cond.methodLink RJ5 195 yJ5_inflate_da8c8 ∈ mh_TB := mh_tb1 (mh_t3 (List.mem_of_getElem? (i := 85) rfl)) rfl
theorem wd_567 : Cond.instanceMethod yJ5_inflate_da8c8 ∈ mh_TB := mh_tb1 (mh_t3 (List.mem_of_getElem? (i := 87) rfl)) rfl
theorem wd_568 : Cond.code yJ5_inflate_da8c8 cJ5_inflate_da8c8 2 none ∈ mh_TB := mh_tb1 (mh_t3 (List.mem_of_getElem? (i := 88) rfl)) rfl
theorem wd_569 : Cond.methodLink RJ5 125 yJ1_inflate_0e8fd ∈ mh_TB := mh_tb1 (mh_t3 (List.mem_of_getElem? (i := 89) rfl)) rfl
theorem wd_570 : Cond.static yJ1_inflate_0e8fd ∈ mh_TB := mh_tb1 (mh_t3 (List.mem_of_getElem? (i := 90) rfl)) rfl
theorem wd_571 : Cond.code yJ1_inflate_0e8fd cJ1_inflate_0e8fd 5 none ∈ mh_TB := mh_tb1 (mh_t3 (List.mem_of_getElem? (i := 91) rfl)) rfl
theorem wd_572 : Cond.methodLink RJ1 240 yJ2_inflate_0e8fd ∈ mh_TB := mh_tb1 (mh_t3 (List.mem_of_getElem? (i := 92) rfl)) rfl
theorem wd_573 : Cond.static yJ2_inflate_0e8fd ∈ mh_TB := mh_tb1 (mh_t3 (List.mem_of_getElem? (i := 93) rfl)) rfl
theorem wd_574 : Cond.code yJ2_inflate_0e8fd cJ2_inflate_0e8fd 6 none ∈ mh_TB := mh_tb1 (mh_t3 (List.mem_of_getElem? (i := 94) rfl)) rfl
theorem wd_575 : Cond.methodLink RJ2 173 yJ2_checkBoundsOffCount_d044e ∈ mh_TB := mh_tb1 (mh_t3 (List.mem_of_getElem? (i := 95) rfl)) rfl
theorem wd_576 : Cond.static yJ2_checkBoundsOffCount_d044e ∈ mh_TB := mh_tb1 (mh_t3 (List.mem_of_getElem? (i := 96) rfl)) rfl
theorem wd_577 : Cond.code yJ2_checkBoundsOffCount_d044e cJ2_checkBoundsOffCount_d044e 3 none ∈ mh_TB := mh_tb1 (mh_t3 (List.mem_of_getElem? (i := 97) rfl)) rfl
theorem wd_578 : Cond.methodLink RJ2 419 yJ0_checkBoundsOffCount_cabcc ∈ mh_TB := mh_tb1 (mh_t3 (List.mem_of_getElem? (i := 98) rfl)) rfl
theorem wd_579 : Cond.static yJ0_checkBoundsOffCount_cabcc ∈ mh_TB := mh_tb1 (mh_t3 (List.mem_of_getElem? (i := 99) rfl)) rfl
theorem wd_580 : Cond.code yJ0_checkBoundsOffCount_cabcc cJ0_checkBoundsOffCount_cabcc 3 (some .int) ∈ mh_TB := mh_tb1 (mh_t3 (List.mem_of_getElem? (i := 100) rfl)) rfl
theorem wd_581 : Cond.methodLink RJ0 1065 yJ3_checkFromIndexSize_8c36e ∈ mh_TB := mh_tb1 (mh_t3 (List.mem_of_getElem? (i := 101) rfl)) rfl
theorem wd_582 : Cond.static yJ3_checkFromIndexSize_8c36e ∈ mh_TB := mh_tb1 (mh_t3 (List.mem_of_getElem? (i := 102) rfl)) rfl
theorem wd_583 : Cond.code yJ3_checkFromIndexSize_8c36e cJ3_checkFromIndexSize_8c36e 4 (some .int) ∈ mh_TB := mh_tb1 (mh_t3 (List.mem_of_getElem? (i := 103) rfl)) rfl
theorem wd_584 : Cond.methodLink RJ5 399 yJ0_getBytes_840e7 ∈ mh_TB := mh_tb1 (mh_t3 (List.mem_of_getElem? (i := 104) rfl)) rfl
theorem wd_585 : Cond.instanceMethod yJ0_getBytes_840e7 ∈ mh_TB := mh_tb1 (mh_t3 (List.mem_of_getElem? (i := 105) rfl)) rfl
theorem wd_586 : Cond.selects RJ0 yJ0_getBytes_840e7 yJ0_getBytes_840e7 ∈ mh_TB := mh_tb1 (mh_t3 (List.mem_of_getElem? (i := 106) rfl)) rfl
theorem wd_587 : Cond.code yJ0_getBytes_840e7 cJ0_getBytes_840e7 4 none ∈ mh_TB := mh_tb1 (mh_t3 (List.mem_of_getElem? (i := 107) rfl)) rfl
theorem wd_588 : Cond.methodLink RJ0 212 arraycopyName ∈ mh_TB := mh_tb1 (mh_t3 (List.mem_of_getElem? (i := 108) rfl)) rfl
theorem wd_589 : Cond.methodLink RJ0 106 yJ1_inflate_0e8fd ∈ mh_TB := mh_tb1 (mh_t3 (List.mem_of_getElem? (i := 109) rfl)) rfl
theorem wd_590 : Cond.methodLink RL 61 yJ4_append_bf812 ∈ mh_TB := mh_tb1 (mh_t3 (List.mem_of_getElem? (i := 110) rfl)) rfl
theorem wd_591 : Cond.instanceMethod yJ4_append_bf812 ∈ mh_TB := mh_tb1 (mh_t3 (List.mem_of_getElem? (i := 111) rfl)) rfl
theorem wd_592 : Cond.selects RJ4 yJ4_append_bf812 yJ4_append_bf812 ∈ mh_TB := mh_tb1 (mh_t3 (List.mem_of_getElem? (i := 112) rfl)) rfl
theorem wd_593 : Cond.code yJ4_append_bf812 cJ4_append_bf812 2 (some (.object RJ4)) ∈ mh_TB := mh_tb1 (mh_t3 (List.mem_of_getElem? (i := 113) rfl)) rfl
theorem wd_594 : Cond.methodLink RJ4 53 yJ5_append_c97b9 ∈ mh_TB := mh_tb1 (mh_t3 (List.mem_of_getElem? (i := 114) rfl)) rfl
theorem wd_595 : Cond.instanceMethod yJ5_append_c97b9 ∈ mh_TB := mh_tb1 (mh_t3 (List.mem_of_getElem? (i := 115) rfl)) rfl
theorem wd_596 : Cond.code yJ5_append_c97b9 cJ5_append_c97b9 4 (some (.object RJ5)) ∈ mh_TB := mh_tb1 (mh_t3 (List.mem_of_getElem? (i := 116) rfl)) rfl
theorem wd_597 : Cond.methodLink RJ5 245 yJ6_stringSize_0f7a4 ∈ mh_TB := mh_tb1 (mh_t3 (List.mem_of_getElem? (i := 117) rfl)) rfl
theorem wd_598 : Cond.static yJ6_stringSize_0f7a4 ∈ mh_TB := mh_tb1 (mh_t3 (List.mem_of_getElem? (i := 118) rfl)) rfl
theorem wd_599 : Cond.code yJ6_stringSize_0f7a4 cJ6_stringSize_0f7a4 4 (some .int) ∈ mh_TB := mh_tb1 (mh_t3 (List.mem_of_getElem? (i := 119) rfl)) rfl
theorem wd_600 : Cond.methodLink RJ5 248 yJ6_getChars_ba4f3 ∈ mh_TB := mh_tb1 (mh_t3 (List.mem_of_getElem? (i := 120) rfl)) rfl
theorem wd_601 : Cond.static yJ6_getChars_ba4f3 ∈ mh_TB := mh_tb1 (mh_t3 (List.mem_of_getElem? (i := 121) rfl)) rfl
theorem wd_602 : Cond.code yJ6_getChars_ba4f3 cJ6_getChars_ba4f3 7 (some .int) ∈ mh_TB := mh_tb1 (mh_t3 (List.mem_of_getElem? (i := 122) rfl)) rfl
theorem wd_603 : Cond.fieldLink RJ6 83 RJ6 "DigitOnes" "[B" ∈ mh_TB := mh_tb1 (mh_t3 (List.mem_of_getElem? (i := 123) rfl)) rfl
theorem wd_605 : Cond.fieldLink RJ6 87 RJ6 "DigitTens" "[B" ∈ mh_TB := mh_tb1 (mh_t3 (List.mem_of_getElem? (i := 125) rfl)) rfl
theorem wd_607 : Cond.methodLink RJ5 251 yJ2_getChars_46870 ∈ mh_TB := mh_tb1 (mh_t3 (List.mem_of_getElem? (i := 127) rfl)) rfl
theorem wd_608 : Cond.static yJ2_getChars_46870 ∈ mh_TB := mh_tb1 (mh_t3 (List.mem_of_getElem? (i := 128) rfl)) rfl
theorem wd_609 : Cond.code yJ2_getChars_46870 cJ2_getChars_46870 5 (some .int) ∈ mh_TB := mh_tb1 (mh_t3 (List.mem_of_getElem? (i := 129) rfl)) rfl
theorem wd_610 : Cond.methodLink RJ2 393 yJ2_getChars_ba4f3 ∈ mh_TB := mh_tb1 (mh_t3 (List.mem_of_getElem? (i := 130) rfl)) rfl
theorem wd_611 : Cond.static yJ2_getChars_ba4f3 ∈ mh_TB := mh_tb1 (mh_t3 (List.mem_of_getElem? (i := 131) rfl)) rfl
theorem wd_612 : Cond.code yJ2_getChars_ba4f3 cJ2_getChars_ba4f3 7 (some .int) ∈ mh_TB := mh_tb1 (mh_t3 (List.mem_of_getElem? (i := 132) rfl)) rfl
theorem wd_613 : Cond.fieldLink RJ2 403 RJ6 "DigitOnes" "[B" ∈ mh_TB := mh_tb1 (mh_t3 (List.mem_of_getElem? (i := 133) rfl)) rfl
theorem wd_614 : Cond.fieldLink RJ2 407 RJ6 "DigitTens" "[B" ∈ mh_TB := mh_tb1 (mh_t3 (List.mem_of_getElem? (i := 134) rfl)) rfl
theorem wd_617 : Cond.methodLink RL 68 yJ4_toString_0e30d ∈ mh_TB := mh_tb1 (mh_t3 (List.mem_of_getElem? (i := 137) rfl)) rfl
theorem wd_618 : Cond.instanceMethod yJ4_toString_0e30d ∈ mh_TB := mh_tb1 (mh_t3 (List.mem_of_getElem? (i := 138) rfl)) rfl
theorem wd_619 : Cond.selects RJ4 yJ4_toString_0e30d yJ4_toString_0e30d ∈ mh_TB := mh_tb1 (mh_t3 (List.mem_of_getElem? (i := 139) rfl)) rfl
theorem wd_620 : Cond.code yJ4_toString_0e30d cJ4_toString_0e30d 1 (some (.object RJ0)) ∈ mh_TB := mh_tb1 (mh_t3 (List.mem_of_getElem? (i := 140) rfl)) rfl
theorem wd_621 : Cond.classLink RJ4 18 RJ0 ∈ mh_TB := mh_tb1 (mh_t3 (List.mem_of_getElem? (i := 141) rfl)) rfl
theorem wd_622 : Cond.instantiable RJ0 4 ∈ mh_TB := mh_tb1 (mh_t3 (List.mem_of_getElem? (i := 142) rfl)) rfl
theorem wd_623 : Cond.methodLink RJ4 137 yJ0_init_81219 ∈ mh_TB := mh_tb1 (mh_t3 (List.mem_of_getElem? (i := 143) rfl)) rfl
theorem wd_624 : Cond.instanceMethod yJ0_init_81219 ∈ mh_TB := mh_tb1 (mh_t3 (List.mem_of_getElem? (i := 144) rfl)) rfl
theorem wd_625 : Cond.code yJ0_init_81219 cJ0_init_81219 2 none ∈ mh_TB := mh_tb1 (mh_t3 (List.mem_of_getElem? (i := 145) rfl)) rfl
theorem wd_626 : Cond.methodLink RJ0 489 yJ0_init_db425 ∈ mh_TB := mh_tb1 (mh_t3 (List.mem_of_getElem? (i := 146) rfl)) rfl
theorem wd_627 : Cond.instanceMethod yJ0_init_db425 ∈ mh_TB := mh_tb1 (mh_t3 (List.mem_of_getElem? (i := 147) rfl)) rfl
theorem wd_628 : Cond.code yJ0_init_db425 cJ0_init_db425 5 none ∈ mh_TB := mh_tb1 (mh_t3 (List.mem_of_getElem? (i := 148) rfl)) rfl
theorem wd_629 : Cond.methodLink RJ0 1 Lib.objectInit ∈ mh_TB := mh_tb1 (mh_t3 (List.mem_of_getElem? (i := 149) rfl)) rfl
theorem wd_630 : Cond.methodLink RJ0 552 yJ5_getValue_6d5f1 ∈ mh_TB := mh_tb1 (mh_t3 (List.mem_of_getElem? (i := 150) rfl)) rfl
theorem wd_631 : Cond.instanceMethod yJ5_getValue_6d5f1 ∈ mh_TB := mh_tb1 (mh_t3 (List.mem_of_getElem? (i := 151) rfl)) rfl
theorem wd_632 : Cond.sameMethod RJ5 RJ5 "getValue" "()[B" ∈ mh_TB := mh_tb1 (mh_t3 (List.mem_of_getElem? (i := 152) rfl)) rfl
theorem wd_633 : Cond.selects RJ4 yJ5_getValue_6d5f1 yJ5_getValue_6d5f1 ∈ mh_TB := mh_tb1 (mh_t3 (List.mem_of_getElem? (i := 153) rfl)) rfl
theorem wd_634 : Cond.code yJ5_getValue_6d5f1 cJ5_getValue_6d5f1 1 (some (.array .byte)) ∈ mh_TB := mh_tb1 (mh_t3 (List.mem_of_getElem? (i := 154) rfl)) rfl
theorem wd_635 : Cond.methodLink RJ0 549 yJ5_length_8abf5 ∈ mh_TB := mh_tb1 (mh_t3 (List.mem_of_getElem? (i := 155) rfl)) rfl
theorem wd_636 : Cond.instanceMethod yJ5_length_8abf5 ∈ mh_TB := mh_tb1 (mh_t3 (List.mem_of_getElem? (i := 156) rfl)) rfl
theorem wd_637 : Cond.sameMethod RJ5 RJ5 "length" "()I" ∈ mh_TB := mh_tb1 (mh_t3 (List.mem_of_getElem? (i := 157) rfl)) rfl
theorem wd_638 : Cond.selects RJ4 yJ5_length_8abf5 yJ4_length_8abf5 ∈ mh_TB := mh_tb1 (mh_t3 (List.mem_of_getElem? (i := 158) rfl)) rfl
theorem wd_639 : Cond.instanceMethod yJ4_length_8abf5 ∈ mh_TB := mh_tb1 (mh_t3 (List.mem_of_getElem? (i := 159) rfl)) rfl
theorem wd_640 : Cond.code yJ4_length_8abf5 cJ4_length_8abf5 1 (some .int) ∈ mh_TB := mh_tb1 (mh_t3 (List.mem_of_getElem? (i := 160) rfl)) rfl
theorem wd_641 : Cond.methodLink RJ4 343 yJ5_length_8abf5 ∈ mh_TB := mh_tb1 (mh_t3 (List.mem_of_getElem? (i := 161) rfl)) rfl
theorem wd_642 : Cond.code yJ5_length_8abf5 cJ5_length_8abf5 1 (some .int) ∈ mh_TB := mh_tb1 (mh_t3 (List.mem_of_getElem? (i := 162) rfl)) rfl
theorem wd_643 : Cond.methodLink RJ0 1047 yJ5_isLatin1_aae02 ∈ mh_TB := mh_tb1 (mh_t3 (List.mem_of_getElem? (i := 163) rfl)) rfl
theorem wd_644 : Cond.methodLink RJ0 54 yJ7_copyOfRange_39247 ∈ mh_TB := mh_tb1 (mh_t3 (List.mem_of_getElem? (i := 164) rfl)) rfl
theorem wd_645 : Cond.static yJ7_copyOfRange_39247 ∈ mh_TB := mh_tb1 (mh_t3 (List.mem_of_getElem? (i := 165) rfl)) rfl
theorem wd_646 : Cond.code yJ7_copyOfRange_39247 cJ7_copyOfRange_39247 3 (some (.array .byte)) ∈ mh_TB := mh_tb1 (mh_t3 (List.mem_of_getElem? (i := 166) rfl)) rfl
theorem wd_647 : Cond.methodLink RJ7 339 yJ7_copyOfRangeByte_39247 ∈ mh_TB := mh_tb1 (mh_t3 (List.mem_of_getElem? (i := 167) rfl)) rfl
theorem wd_648 : Cond.static yJ7_copyOfRangeByte_39247 ∈ mh_TB := mh_tb1 (mh_t3 (List.mem_of_getElem? (i := 168) rfl)) rfl
theorem wd_649 : Cond.code yJ7_copyOfRangeByte_39247 cJ7_copyOfRangeByte_39247 5 (some (.array .byte)) ∈ mh_TB := mh_tb1 (mh_t3 (List.mem_of_getElem? (i := 169) rfl)) rfl
theorem wd_650 : Cond.methodLink RJ7 343 yJ7_checkLength_df160 ∈ mh_TB := mh_tb1 (mh_t3 (List.mem_of_getElem? (i := 170) rfl)) rfl
theorem wd_651 : Cond.static yJ7_checkLength_df160 ∈ mh_TB := mh_tb1 (mh_t3 (List.mem_of_getElem? (i := 171) rfl)) rfl
theorem wd_652 : Cond.code yJ7_checkLength_df160 cJ7_checkLength_df160 2 none ∈ mh_TB := mh_tb1 (mh_t3 (List.mem_of_getElem? (i := 172) rfl)) rfl
theorem wd_653 : Cond.methodLink RJ0 1051 yJ2_compress_39247 ∈ mh_TB := mh_tb1 (mh_t3 (List.mem_of_getElem? (i := 173) rfl)) rfl
theorem wd_654 : Cond.static yJ2_compress_39247 ∈ mh_TB := mh_tb1 (mh_t3 (List.mem_of_getElem? (i := 174) rfl)) rfl
theorem wd_655 : Cond.code yJ2_compress_39247 cJ2_compress_39247 6 (some (.array .byte)) ∈ mh_TB := mh_tb1 (mh_t3 (List.mem_of_getElem? (i := 175) rfl)) rfl
theorem wd_656 : Cond.methodLink RJ2 123 yJ2_compress_5af95 ∈ mh_TB := mh_tb1 (mh_t3 (List.mem_of_getElem? (i := 176) rfl)) rfl
theorem wd_657 : Cond.static yJ2_compress_5af95 ∈ mh_TB := mh_tb1 (mh_t3 (List.mem_of_getElem? (i := 177) rfl)) rfl
theorem wd_658 : Cond.code yJ2_compress_5af95 cJ2_compress_5af95 7 (some .int) ∈ mh_TB := mh_tb1 (mh_t3 (List.mem_of_getElem? (i := 178) rfl)) rfl
theorem wd_659 : Cond.methodLink RJ2 126 yJ7_copyOfRange_39247 ∈ mh_TB := mh_tb1 (mh_t3 (List.mem_of_getElem? (i := 179) rfl)) rfl
theorem wd_660 : Cond.methodLink RJ0 47 yJ2_coderFromArrayLen_85cad ∈ mh_TB := mh_tb1 (mh_t3 (List.mem_of_getElem? (i := 180) rfl)) rfl
theorem wd_661 : Cond.static yJ2_coderFromArrayLen_85cad ∈ mh_TB := mh_tb1 (mh_t3 (List.mem_of_getElem? (i := 181) rfl)) rfl
theorem wd_662 : Cond.code yJ2_coderFromArrayLen_85cad cJ2_coderFromArrayLen_85cad 2 (some .byte) ∈ mh_TB := mh_tb1 (mh_t3 (List.mem_of_getElem? (i := 182) rfl)) rfl
theorem wd_663 : Cond.fieldLink RJ0 9 RJ0 "value" "[B" ∈ mh_TB := mh_tb1 (mh_t3 (List.mem_of_getElem? (i := 183) rfl)) rfl
theorem wd_664 : Cond.fieldLink RJ0 15 RJ0 "coder" "B" ∈ mh_TB := mh_tb1 (mh_t3 (List.mem_of_getElem? (i := 184) rfl)) rfl
theorem wd_673 : Cond.superclass RJ0 "java/lang/Object" ∈ mh_TB := mh_tb1 (mh_t3 (List.mem_of_getElem? (i := 193) rfl)) rfl
theorem wd_674 : Cond.methodLink RL 72 yL_text ∈ mh_TB := mh_tb1 (mh_t3 (List.mem_of_getElem? (i := 194) rfl)) rfl
theorem wd_675 : Cond.static yL_text ∈ mh_TB := mh_tb1 (mh_t3 (List.mem_of_getElem? (i := 195) rfl)) rfl
theorem wd_676 : Cond.code yL_text cL_text 3 none ∈ mh_TB := mh_tb1 (mh_t3 (List.mem_of_getElem? (i := 196) rfl)) rfl
theorem wd_677 : Cond.methodLink RL 7 yJ0_length_8abf5 ∈ mh_TB := mh_tb1 (mh_t3 (List.mem_of_getElem? (i := 197) rfl)) rfl
theorem wd_678 : Cond.methodLink RL 13 yJ0_charAt_5068e ∈ mh_TB := mh_tb1 (mh_t3 (List.mem_of_getElem? (i := 198) rfl)) rfl
theorem wd_679 : Cond.methodLink RL 17 yX5_feed ∈ mh_TB := mh_tb1 (mh_t3 (List.mem_of_getElem? (i := 199) rfl)) rfl
theorem wd_680 : Cond.instanceMethod yX5_feed ∈ mh_TB := mh_tb1 (mh_t3 (List.mem_of_getElem? (i := 200) rfl)) rfl
theorem wd_681 : Cond.selects RX5 yX5_feed yX5_feed ∈ mh_TB := mh_tb1 (mh_t3 (List.mem_of_getElem? (i := 201) rfl)) rfl
theorem wd_682 : Cond.code yX5_feed cX5_feed 8 (some .int) ∈ mh_TB := mh_tb1 (mh_t3 (List.mem_of_getElem? (i := 202) rfl)) rfl
theorem wd_683 : Cond.methodLink RX5 93 yX5_isByte ∈ mh_TB := mh_tb1 (mh_t3 (List.mem_of_getElem? (i := 203) rfl)) rfl
theorem wd_684 : Cond.static yX5_isByte ∈ mh_TB := mh_tb1 (mh_t3 (List.mem_of_getElem? (i := 204) rfl)) rfl
theorem wd_685 : Cond.code yX5_isByte cX5_isByte 1 (some .boolean) ∈ mh_TB := mh_tb1 (mh_t3 (List.mem_of_getElem? (i := 205) rfl)) rfl
theorem wd_686 : Cond.methodLink RL 76 yX5_text ∈ mh_TB := mh_tb1 (mh_t3 (List.mem_of_getElem? (i := 206) rfl)) rfl
theorem wd_687 : Cond.instanceMethod yX5_text ∈ mh_TB := mh_tb1 (mh_t3 (List.mem_of_getElem? (i := 207) rfl)) rfl
theorem wd_688 : Cond.selects RX5 yX5_text yX5_text ∈ mh_TB := mh_tb1 (mh_t3 (List.mem_of_getElem? (i := 208) rfl)) rfl
theorem wd_689 : Cond.code yX5_text cX5_text 1 (some .int) ∈ mh_TB := mh_tb1 (mh_t3 (List.mem_of_getElem? (i := 209) rfl)) rfl
theorem wd_690 : Cond.methodLink RL 78 yX5_force ∈ mh_TB := mh_tb1 (mh_t3 (List.mem_of_getElem? (i := 210) rfl)) rfl
theorem wd_691 : Cond.instanceMethod yX5_force ∈ mh_TB := mh_tb1 (mh_t3 (List.mem_of_getElem? (i := 211) rfl)) rfl
theorem wd_692 : Cond.selects RX5 yX5_force yX5_force ∈ mh_TB := mh_tb1 (mh_t3 (List.mem_of_getElem? (i := 212) rfl)) rfl
theorem wd_693 : Cond.code yX5_force cX5_force 3 (some .int) ∈ mh_TB := mh_tb1 (mh_t3 (List.mem_of_getElem? (i := 213) rfl)) rfl
theorem wd_694 : Cond.methodLink RL 96 yL_asks ∈ mh_TB := mh_tb1 (mh_t3 (List.mem_of_getElem? (i := 214) rfl)) rfl
theorem wd_695 : Cond.static yL_asks ∈ mh_TB := mh_tb1 (mh_t3 (List.mem_of_getElem? (i := 215) rfl)) rfl
theorem wd_696 : Cond.code yL_asks cL_asks 6 (some .int) ∈ mh_TB := mh_tb1 (mh_t3 (List.mem_of_getElem? (i := 216) rfl)) rfl
theorem wd_697 : Cond.methodLink RL 90 yL_face ∈ mh_TB := mh_tb1 (mh_t3 (List.mem_of_getElem? (i := 217) rfl)) rfl
theorem wd_698 : Cond.static yL_face ∈ mh_TB := mh_tb1 (mh_t3 (List.mem_of_getElem? (i := 218) rfl)) rfl
theorem wd_699 : Cond.code yL_face cL_face 2 (some .int) ∈ mh_TB := mh_tb1 (mh_t3 (List.mem_of_getElem? (i := 219) rfl)) rfl
theorem wd_700 : Cond.methodLink RL 93 yL_held ∈ mh_TB := mh_tb1 (mh_t3 (List.mem_of_getElem? (i := 220) rfl)) rfl
theorem wd_701 : Cond.static yL_held ∈ mh_TB := mh_tb1 (mh_t3 (List.mem_of_getElem? (i := 221) rfl)) rfl
theorem wd_702 : Cond.code yL_held cL_held 2 (some .int) ∈ mh_TB := mh_tb1 (mh_t3 (List.mem_of_getElem? (i := 222) rfl)) rfl
theorem wd_703 : Cond.methodLink RL 82 yJ9_min_7cf53 ∈ mh_TB := mh_tb1 (mh_t3 (List.mem_of_getElem? (i := 223) rfl)) rfl
theorem wd_704 : Cond.methodLink RL 87 yJ9_max_7cf53 ∈ mh_TB := mh_tb1 (mh_t3 (List.mem_of_getElem? (i := 224) rfl)) rfl
theorem wd_705 : Cond.methodLink RL 123 yL_run ∈ mh_TB := mh_tb1 (mh_t3 (List.mem_of_getElem? (i := 225) rfl)) rfl
theorem wd_706 : Cond.static yL_run ∈ mh_TB := mh_tb1 (mh_t3 (List.mem_of_getElem? (i := 226) rfl)) rfl
theorem wd_707 : Cond.code yL_run cL_run 11 none ∈ mh_TB := mh_tb1 (mh_t3 (List.mem_of_getElem? (i := 227) rfl)) rfl
theorem wd_708 : Cond.constantLong RL 100 (-1) ∈ mh_TB := mh_tb1 (mh_t3 (List.mem_of_getElem? (i := 228) rfl)) rfl
theorem wd_709 : Cond.methodLink RL 102 yL_keeps ∈ mh_TB := mh_tb1 (mh_t3 (List.mem_of_getElem? (i := 229) rfl)) rfl
theorem wd_710 : Cond.static yL_keeps ∈ mh_TB := mh_tb1 (mh_t3 (List.mem_of_getElem? (i := 230) rfl)) rfl
theorem wd_711 : Cond.code yL_keeps cL_keeps 2 (some .boolean) ∈ mh_TB := mh_tb1 (mh_t3 (List.mem_of_getElem? (i := 231) rfl)) rfl
theorem wd_712 : Cond.methodLink RL 105 yL_come ∈ mh_TB := mh_tb1 (mh_t3 (List.mem_of_getElem? (i := 232) rfl)) rfl
theorem wd_713 : Cond.static yL_come ∈ mh_TB := mh_tb1 (mh_t3 (List.mem_of_getElem? (i := 233) rfl)) rfl
theorem wd_714 : Cond.code yL_come cL_come 6 (some .long) ∈ mh_TB := mh_tb1 (mh_t3 (List.mem_of_getElem? (i := 234) rfl)) rfl
theorem wd_715 : Cond.methodLink RL 113 yL_through ∈ mh_TB := mh_tb1 (mh_t3 (List.mem_of_getElem? (i := 235) rfl)) rfl
theorem wd_716 : Cond.static yL_through ∈ mh_TB := mh_tb1 (mh_t3 (List.mem_of_getElem? (i := 236) rfl)) rfl
theorem wd_717 : Cond.code yL_through cL_through 4 (some .int) ∈ mh_TB := mh_tb1 (mh_t3 (List.mem_of_getElem? (i := 237) rfl)) rfl
theorem wd_718 : Cond.methodLink RL 116 yJ9_max_f86c9 ∈ mh_TB := mh_tb1 (mh_t3 (List.mem_of_getElem? (i := 238) rfl)) rfl
theorem wd_719 : Cond.static yJ9_max_f86c9 ∈ mh_TB := mh_tb1 (mh_t3 (List.mem_of_getElem? (i := 239) rfl)) rfl
theorem wd_720 : Cond.code yJ9_max_f86c9 cJ9_max_f86c9 4 (some .long) ∈ mh_TB := mh_tb1 (mh_t4 (List.mem_of_getElem? (i := 0) rfl)) rfl
theorem wd_721 : Cond.methodLink RL 109 yL_rubs ∈ mh_TB := mh_tb1 (mh_t4 (List.mem_of_getElem? (i := 1) rfl)) rfl
theorem wd_722 : Cond.static yL_rubs ∈ mh_TB := mh_tb1 (mh_t4 (List.mem_of_getElem? (i := 2) rfl)) rfl
theorem wd_723 : Cond.code yL_rubs cL_rubs 5 (some .int) ∈ mh_TB := mh_tb1 (mh_t4 (List.mem_of_getElem? (i := 3) rfl)) rfl
theorem wd_724 : Cond.constantLong RL 136 (50) ∈ mh_TB := mh_tb1 (mh_t4 (List.mem_of_getElem? (i := 4) rfl)) rfl
theorem wd_725 : Cond.constantLong RL 147 (-4611686018427387904) ∈ mh_TB := mh_tb1 (mh_t4 (List.mem_of_getElem? (i := 5) rfl)) rfl
theorem wd_726 : Cond.sameMethod RJ5 RJ5 "append" "(Ljava/lang/String;)Ljava/lang/AbstractStringBuilder;" ∈ mh_TB := mh_tb1 (mh_t4 (List.mem_of_getElem? (i := 6) rfl)) rfl
theorem wd_727 : Cond.sameMethod RJ5 RJ5 "appendNull" "()Ljava/lang/AbstractStringBuilder;" ∈ mh_TB := mh_tb1 (mh_t4 (List.mem_of_getElem? (i := 7) rfl)) rfl
theorem wd_728 : Cond.sameMethod RJ5 RJ5 "ensureCapacityInternal" "(I)V" ∈ mh_TB := mh_tb1 (mh_t4 (List.mem_of_getElem? (i := 8) rfl)) rfl
theorem wd_729 : Cond.sameMethod RJ5 RJ5 "newCapacity" "(I)I" ∈ mh_TB := mh_tb1 (mh_t4 (List.mem_of_getElem? (i := 9) rfl)) rfl
theorem wd_730 : Cond.sameMethod RJ5 RJ5 "putStringAt" "(ILjava/lang/String;)V" ∈ mh_TB := mh_tb1 (mh_t4 (List.mem_of_getElem? (i := 10) rfl)) rfl
theorem wd_731 : Cond.sameMethod RJ5 RJ5 "inflateIfNeededFor" "(Ljava/lang/String;)V" ∈ mh_TB := mh_tb1 (mh_t4 (List.mem_of_getElem? (i := 11) rfl)) rfl
theorem wd_732 : Cond.sameMethod RJ5 RJ5 "inflate" "()V" ∈ mh_TB := mh_tb1 (mh_t4 (List.mem_of_getElem? (i := 12) rfl)) rfl
theorem wd_733 : Cond.sameMethod RJ5 RJ5 "append" "(I)Ljava/lang/AbstractStringBuilder;" ∈ mh_TB := mh_tb1 (mh_t4 (List.mem_of_getElem? (i := 13) rfl)) rfl
theorem ws_0 : Cond.selects yX5_drop.cls yX5_drop yX5_drop ∈ mh_TB := mh_tb0 0 rfl rfl
theorem ws_1 : Cond.selects yX5_law.cls yX5_law yX5_law ∈ mh_TB := mh_tb0 1 rfl rfl
theorem ws_2 : Cond.selects yX0_runFrom.cls yX0_runFrom yX0_runFrom ∈ mh_TB := mh_tb0 2 rfl rfl
theorem ws_3 : Cond.selects yX1_over.cls yX1_over yX1_over ∈ mh_TB := mh_tb0 3 rfl rfl
theorem ws_4 : Cond.selects yX1_keeps.cls yX1_keeps yX1_keeps ∈ mh_TB := mh_tb0 4 rfl rfl
theorem ws_5 : Cond.selects yX0_restOf.cls yX0_restOf yX0_restOf ∈ mh_TB := mh_tb0 5 rfl rfl
theorem ws_6 : Cond.selects yX4_says.cls yX4_says yX4_says ∈ mh_TB := mh_tb0 6 rfl rfl
theorem ws_7 : Cond.selects yX4_take.cls yX4_take yX4_take ∈ mh_TB := mh_tb0 7 rfl rfl
theorem ws_8 : Cond.selects yX4_push.cls yX4_push yX4_push ∈ mh_TB := mh_tb0 8 rfl rfl
theorem ws_9 : Cond.selects yX4_pop.cls yX4_pop yX4_pop ∈ mh_TB := mh_tb0 9 rfl rfl
theorem ws_10 : Cond.selects yX5_lowestRow.cls yX5_lowestRow yX5_lowestRow ∈ mh_TB := mh_tb0 10 rfl rfl
theorem ws_11 : Cond.selects yX5_together.cls yX5_together yX5_together ∈ mh_TB := mh_tb0 11 rfl rfl
theorem ws_12 : Cond.selects yX5_dropPinned.cls yX5_dropPinned yX5_dropPinned ∈ mh_TB := mh_tb0 12 rfl rfl
theorem ws_13 : Cond.selects yX3_add.cls yX3_add yX3_add ∈ mh_TB := mh_tb0 13 rfl rfl
theorem ws_14 : Cond.selects yX5_readTape.cls yX5_readTape yX5_readTape ∈ mh_TB := mh_tb0 14 rfl rfl
theorem ws_15 : Cond.selects yX3_readInto.cls yX3_readInto yX3_readInto ∈ mh_TB := mh_tb0 15 rfl rfl
theorem ws_16 : Cond.selects yX4_clear.cls yX4_clear yX4_clear ∈ mh_TB := mh_tb0 16 rfl rfl
theorem ws_17 : Cond.selects yX3_advance.cls yX3_advance yX3_advance ∈ mh_TB := mh_tb0 17 rfl rfl
theorem ws_18 : Cond.selects yX3_wordToken.cls yX3_wordToken yX3_wordToken ∈ mh_TB := mh_tb0 18 rfl rfl
theorem ws_19 : Cond.selects yX3_standsAt.cls yX3_standsAt yX3_standsAt ∈ mh_TB := mh_tb0 19 rfl rfl
theorem ws_20 : Cond.selects yX3_chain.cls yX3_chain yX3_chain ∈ mh_TB := mh_tb0 20 rfl rfl
theorem ws_21 : Cond.selects yX3_one.cls yX3_one yX3_one ∈ mh_TB := mh_tb0 21 rfl rfl
theorem ws_22 : Cond.selects yX4_add.cls yX4_add yX4_add ∈ mh_TB := mh_tb0 22 rfl rfl
theorem ws_23 : Cond.selects yX3_opened.cls yX3_opened yX3_opened ∈ mh_TB := mh_tb0 23 rfl rfl
theorem ws_24 : Cond.selects yX3_negation.cls yX3_negation yX3_negation ∈ mh_TB := mh_tb0 24 rfl rfl
theorem ws_25 : Cond.selects yX4_endPart.cls yX4_endPart yX4_endPart ∈ mh_TB := mh_tb0 25 rfl rfl
theorem ws_26 : Cond.selects yX1_become.cls yX1_become yX1_become ∈ mh_TB := mh_tb0 26 rfl rfl
theorem wsS_0 : Cond.selects RJ4 yJ5_ensureCapacityInternal_d00df yJ5_ensureCapacityInternal_d00df ∈ mh_TB := mh_tbS 0 rfl rfl
theorem wsS_1 : Cond.selects RJ4 yJ5_newCapacity_0f7a4 yJ5_newCapacity_0f7a4 ∈ mh_TB := mh_tbS 1 rfl rfl
theorem wsS_2 : Cond.selects RJ4 yJ5_putStringAt_47b60 yJ5_putStringAt_47b60 ∈ mh_TB := mh_tbS 2 rfl rfl
theorem wsS_3 : Cond.selects RJ4 yJ5_inflateIfNeededFor_a7421 yJ5_inflateIfNeededFor_a7421 ∈ mh_TB := mh_tbS 3 rfl rfl
theorem in_X0 : ∀ w ∈ u_ws RX0 TX0 3, w ∈ mh_TB := mh_lay (by decide +kernel) (by decide +kernel)
theorem in_X1 : ∀ w ∈ u_ws RX1 TX1 5, w ∈ mh_TB := mh_lay (by decide +kernel) (by decide +kernel)
theorem in_X2 : ∀ w ∈ u_ws RX2 TX2 3, w ∈ mh_TB := mh_lay (by decide +kernel) (by decide +kernel)
theorem in_X3 : ∀ w ∈ u_ws RX3 TX3 7, w ∈ mh_TB := mh_lay (by decide +kernel) (by decide +kernel)
theorem in_X4 : ∀ w ∈ u_ws RX4 TX4 5, w ∈ mh_TB := mh_lay (by decide +kernel) (by decide +kernel)
theorem in_X5 : ∀ w ∈ u_ws RX5 TX5 9, w ∈ mh_TB := mh_lay (by decide +kernel) (by decide +kernel)
theorem in_J0 : ∀ w ∈ u_ws RJ0 TJ0 4, w ∈ mh_TB := mh_lay (by decide +kernel) (by decide +kernel)
theorem in_J4 : ∀ w ∈ u_ws RJ4 TJ4 4, w ∈ mh_TB := mh_lay (by decide +kernel) (by decide +kernel)
end
section
theorem cv_L_41 : mh_cv RL 41 yX5_pin 2 := ⟨⟨Or.inl wd_19, wd_1, ⟨by decide, by decide⟩, by decide +kernel⟩, wd_20, wd_21⟩
theorem cs_X5_101 : mh_cs RX5 101 yX5_isLoop 1 := ⟨⟨Or.inl wd_23, wd_1, ⟨by decide, by decide⟩, by decide +kernel⟩, wd_24⟩
theorem cs_X5_97 : mh_cs RX5 97 yX5_within 3 := ⟨⟨Or.inl wd_26, wd_1, ⟨by decide, by decide⟩, by decide +kernel⟩, wd_27⟩
theorem cs_X5_139 : mh_cs RX5 139 yX5_hasBit 2 := ⟨⟨Or.inl wd_29, wd_1, ⟨by decide, by decide⟩, by decide +kernel⟩, wd_30⟩
theorem cs_X5_143 : mh_cs RX5 143 yX5_bit 1 := ⟨⟨Or.inl wd_32, wd_1, ⟨by decide, by decide⟩, by decide +kernel⟩, wd_33⟩
theorem cv_L_134 : mh_cv RL 134 yX5_run 3 := ⟨⟨Or.inl wd_36, wd_1, ⟨by decide, by decide⟩, by decide +kernel⟩, wd_37, wd_38⟩
theorem cs_X5_104 : mh_cs RX5 104 yX5_isPull 1 := ⟨⟨Or.inl wd_40, wd_1, ⟨by decide, by decide⟩, by decide +kernel⟩, wd_41⟩
theorem cv_X5_163 : mh_cv RX5 163 yX5_drop 2 := ⟨⟨Or.inl wd_43, wd_1, ⟨by decide, by decide⟩, by decide +kernel⟩, wd_45, ws_0⟩
theorem cv_X5_107 : mh_cv RX5 107 yX5_law 0 := ⟨⟨Or.inl wd_48, wd_1, ⟨by decide, by decide⟩, by decide +kernel⟩, wd_50, ws_1⟩
theorem cv_X5_182 : mh_cv RX5 182 yX0_runFrom 5 := ⟨⟨Or.inr ⟨_, wd_52⟩, wd_4, ⟨by decide, by decide⟩, by decide +kernel⟩, wd_54, ws_2⟩
theorem cv_X0_22 : mh_cv RX0 22 yX1_over 1 := ⟨⟨Or.inr ⟨_, wd_57⟩, wd_2, ⟨by decide, by decide⟩, by decide +kernel⟩, wd_59, ws_3⟩
theorem cs_X1_39 : mh_cs RX1 39 yX5_goesThroughOwn 1 := ⟨⟨Or.inr ⟨_, wd_62⟩, wd_1, ⟨by decide, by decide⟩, by decide +kernel⟩, wd_63⟩
theorem cs_X1_50 : mh_cs RX1 50 yX5_bit 1 := ⟨⟨Or.inr ⟨_, wd_65⟩, wd_1, ⟨by decide, by decide⟩, by decide +kernel⟩, wd_33⟩
theorem cs_X1_43 : mh_cs RX1 43 yX5_goesThroughNext 1 := ⟨⟨Or.inr ⟨_, wd_66⟩, wd_1, ⟨by decide, by decide⟩, by decide +kernel⟩, wd_67⟩
theorem cs_X0_28 : mh_cs RX0 28 yX5_hasBit 2 := ⟨⟨Or.inr ⟨_, wd_69⟩, wd_1, ⟨by decide, by decide⟩, by decide +kernel⟩, wd_30⟩
theorem cv_X0_32 : mh_cv RX0 32 yX1_keeps 1 := ⟨⟨Or.inr ⟨_, wd_70⟩, wd_2, ⟨by decide, by decide⟩, by decide +kernel⟩, wd_72, ws_4⟩
theorem cs_X1_35 : mh_cs RX1 35 yX5_hasBit 2 := ⟨⟨Or.inr ⟨_, wd_74⟩, wd_1, ⟨by decide, by decide⟩, by decide +kernel⟩, wd_30⟩
theorem cv_X0_36 : mh_cv RX0 36 yX0_restOf 4 := ⟨⟨Or.inl wd_75, wd_4, ⟨by decide, by decide⟩, by decide +kernel⟩, wd_77, ws_5⟩
theorem cs_X0_49 : mh_cs RX0 49 yJ9_max_7cf53 2 := ⟨⟨Or.inl wd_79, wd_14, ⟨by decide, by decide⟩, by decide +kernel⟩, wd_80⟩
theorem cv_X0_55 : mh_cv RX0 55 yX4_says 4 := ⟨⟨Or.inr ⟨_, wd_82⟩, wd_5, ⟨by decide, by decide⟩, by decide +kernel⟩, wd_84, ws_6⟩
theorem cs_X4_28 : mh_cs RX4 28 yJ9_min_7cf53 2 := ⟨⟨Or.inl wd_87, wd_14, ⟨by decide, by decide⟩, by decide +kernel⟩, wd_88⟩
theorem cv_X4_34 : mh_cv RX4 34 yX4_take 4 := ⟨⟨Or.inl wd_90, wd_5, ⟨by decide, by decide⟩, by decide +kernel⟩, wd_92, ws_7⟩
theorem cv_X4_45 : mh_cv RX4 45 yX4_push 1 := ⟨⟨Or.inl wd_94, wd_5, ⟨by decide, by decide⟩, by decide +kernel⟩, wd_96, ws_8⟩
theorem cs_X4_57 : mh_cs RX4 57 yX5_faceOf 1 := ⟨⟨Or.inr ⟨_, wd_98⟩, wd_1, ⟨by decide, by decide⟩, by decide +kernel⟩, wd_99⟩
theorem cs_X4_65 : mh_cs RX4 65 yX5_hasBit 2 := ⟨⟨Or.inr ⟨_, wd_101⟩, wd_1, ⟨by decide, by decide⟩, by decide +kernel⟩, wd_30⟩
theorem cv_X4_38 : mh_cv RX4 38 yX4_pop 0 := ⟨⟨Or.inl wd_102, wd_5, ⟨by decide, by decide⟩, by decide +kernel⟩, wd_104, ws_9⟩
theorem cs_X4_69 : mh_cs RX4 69 yX4_joined 3 := ⟨⟨Or.inl wd_106, wd_5, ⟨by decide, by decide⟩, by decide +kernel⟩, wd_107⟩
theorem cs_X4_42 : mh_cs RX4 42 yX5_bounded 2 := ⟨⟨Or.inr ⟨_, wd_109⟩, wd_1, ⟨by decide, by decide⟩, by decide +kernel⟩, wd_110⟩
theorem cs_X5_272 : mh_cs RX5 272 yJ9_min_7cf53 2 := ⟨⟨Or.inl wd_112, wd_14, ⟨by decide, by decide⟩, by decide +kernel⟩, wd_88⟩
theorem cs_X5_277 : mh_cs RX5 277 yJ9_max_7cf53 2 := ⟨⟨Or.inl wd_113, wd_14, ⟨by decide, by decide⟩, by decide +kernel⟩, wd_80⟩
theorem cs_X0_67 : mh_cs RX0 67 yX5_rubOf 3 := ⟨⟨Or.inr ⟨_, wd_114⟩, wd_1, ⟨by decide, by decide⟩, by decide +kernel⟩, wd_115⟩
theorem cs_X0_71 : mh_cs RX0 71 yX5_bounded 2 := ⟨⟨Or.inr ⟨_, wd_117⟩, wd_1, ⟨by decide, by decide⟩, by decide +kernel⟩, wd_110⟩
theorem cs_X0_40 : mh_cs RX0 40 yX5_bit 1 := ⟨⟨Or.inr ⟨_, wd_118⟩, wd_1, ⟨by decide, by decide⟩, by decide +kernel⟩, wd_33⟩
theorem cs_X0_43 : mh_cs RX0 43 yJ13_bitCount_95d88 1 := ⟨⟨Or.inl wd_119, wd_18, ⟨by decide, by decide⟩, by decide +kernel⟩, wd_120⟩
theorem cs_X5_74 : mh_cs RX5 74 yJ13_bitCount_95d88 1 := ⟨⟨Or.inl wd_125, wd_18, ⟨by decide, by decide⟩, by decide +kernel⟩, wd_120⟩
theorem cv_X5_170 : mh_cv RX5 170 yX5_lowestRow 0 := ⟨⟨Or.inl wd_126, wd_1, ⟨by decide, by decide⟩, by decide +kernel⟩, wd_128, ws_10⟩
theorem cs_X5_284 : mh_cs RX5 284 yJ13_numberOfTrailingZeros_95d88 1 := ⟨⟨Or.inl wd_130, wd_18, ⟨by decide, by decide⟩, by decide +kernel⟩, wd_131⟩
theorem cs_J13_311 : mh_cs RJ13 311 yJ6_numberOfTrailingZeros_0f7a4 1 := ⟨⟨Or.inl wd_133, wd_17, ⟨by decide, by decide⟩, by decide +kernel⟩, wd_134⟩
theorem cv_X5_173 : mh_cv RX5 173 yX5_together 1 := ⟨⟨Or.inl wd_137, wd_1, ⟨by decide, by decide⟩, by decide +kernel⟩, wd_139, ws_11⟩
theorem cv_X5_110 : mh_cv RX5 110 yX4_says 4 := ⟨⟨Or.inr ⟨_, wd_141⟩, wd_5, ⟨by decide, by decide⟩, by decide +kernel⟩, wd_84, ws_6⟩
theorem cv_L_130 : mh_cv RL 130 yX5_goes 3 := ⟨⟨Or.inl wd_142, wd_1, ⟨by decide, by decide⟩, by decide +kernel⟩, wd_143, wd_144⟩
theorem cv_L_127 : mh_cv RL 127 yX5_left 3 := ⟨⟨Or.inl wd_147, wd_1, ⟨by decide, by decide⟩, by decide +kernel⟩, wd_148, wd_149⟩
theorem cv_L_141 : mh_cv RL 141 yX5_column 3 := ⟨⟨Or.inl wd_151, wd_1, ⟨by decide, by decide⟩, by decide +kernel⟩, wd_152, wd_153⟩
theorem cv_L_144 : mh_cv RL 144 yX5_pinned 4 := ⟨⟨Or.inl wd_155, wd_1, ⟨by decide, by decide⟩, by decide +kernel⟩, wd_156, wd_157⟩
theorem cv_X5_209 : mh_cv RX5 209 yX5_dropPinned 3 := ⟨⟨Or.inl wd_159, wd_1, ⟨by decide, by decide⟩, by decide +kernel⟩, wd_161, ws_12⟩
theorem cv_L_138 : mh_cv RL 138 yX5_mending 3 := ⟨⟨Or.inl wd_163, wd_1, ⟨by decide, by decide⟩, by decide +kernel⟩, wd_164, wd_165⟩
theorem cs_L_58 : mh_cs RL 58 yL_at 2 := ⟨⟨Or.inl wd_167, wd_0, ⟨by decide, by decide⟩, by decide +kernel⟩, wd_168⟩
theorem cs_L_119 : mh_cs RL 119 yL_build 1 := ⟨⟨Or.inl wd_170, wd_0, ⟨by decide, by decide⟩, by decide +kernel⟩, wd_171⟩
theorem ci_L_23 : mh_ci RL 23 yX5_init 0 := ⟨⟨Or.inl wd_174, wd_1, ⟨by decide, by decide⟩, by decide +kernel⟩, wd_175, rfl⟩
theorem ci_X5_9 : mh_ci RX5 9 yX1_init 0 := ⟨⟨Or.inr ⟨_, wd_181⟩, wd_2, ⟨by decide, by decide⟩, by decide +kernel⟩, wd_182, rfl⟩
theorem gf_X1_9 : mh_fl RX1 9 1 0 := ⟨RX1, TX1, 5, rfl, in_X1, by decide, rfl, Or.inl wd_185⟩
theorem pf_X1_9 : mh_fp RX1 9 1 0 (.array .int) true := ⟨RX1, TX1, 5, tyX1, rfl, in_X1, by decide, rfl, Or.inl wd_185, tyX1_ok, nmX1, rfl, by decide +kernel, fun _ => rfl⟩
theorem gf_X0_61 : mh_fl RX0 61 1 0 := ⟨RX1, TX1, 5, rfl, in_X1, by decide, rfl, Or.inr ⟨_, wd_186⟩⟩
theorem gf_X4_54 : mh_fl RX4 54 1 0 := ⟨RX1, TX1, 5, rfl, in_X1, by decide, rfl, Or.inr ⟨_, wd_187⟩⟩
theorem gf_X5_118 : mh_fl RX5 118 1 0 := ⟨RX1, TX1, 5, rfl, in_X1, by decide, rfl, Or.inr ⟨_, wd_188⟩⟩
theorem gf_X1_15 : mh_fl RX1 15 1 1 := ⟨RX1, TX1, 5, rfl, in_X1, by decide, rfl, Or.inl wd_189⟩
theorem pf_X1_15 : mh_fp RX1 15 1 1 (.array .int) true := ⟨RX1, TX1, 5, tyX1, rfl, in_X1, by decide, rfl, Or.inl wd_189, tyX1_ok, nmX1, rfl, by decide +kernel, fun _ => rfl⟩
theorem gf_X0_64 : mh_fl RX0 64 1 1 := ⟨RX1, TX1, 5, rfl, in_X1, by decide, rfl, Or.inr ⟨_, wd_190⟩⟩
theorem gf_X4_49 : mh_fl RX4 49 1 1 := ⟨RX1, TX1, 5, rfl, in_X1, by decide, rfl, Or.inr ⟨_, wd_191⟩⟩
theorem gf_X1_24 : mh_fl RX1 24 1 2 := ⟨RX1, TX1, 5, rfl, in_X1, by decide, rfl, Or.inl wd_192⟩
theorem pf_X1_24 : mh_fp RX1 24 1 2 .long false := ⟨RX1, TX1, 5, tyX1, rfl, in_X1, by decide, rfl, Or.inl wd_192, tyX1_ok, nmX1, rfl, by decide +kernel, fun _ => rfl⟩
theorem gf_X5_70 : mh_fl RX5 70 1 2 := ⟨RX1, TX1, 5, rfl, in_X1, by decide, rfl, Or.inr ⟨_, wd_193⟩⟩
theorem pf_X5_70 : mh_fp RX5 70 1 2 .long false := ⟨RX1, TX1, 5, tyX1, rfl, in_X1, by decide, rfl, Or.inr ⟨rfl, _, wd_193⟩, tyX1_ok, nmX1, rfl, by decide +kernel, fun h => by cases h⟩
theorem gf_X4_61 : mh_fl RX4 61 1 3 := ⟨RX1, TX1, 5, rfl, in_X1, by decide, rfl, Or.inr ⟨_, wd_194⟩⟩
theorem pf_X4_61 : mh_fp RX4 61 1 3 .long false := ⟨RX1, TX1, 5, tyX1, rfl, in_X1, by decide, rfl, Or.inr ⟨rfl, _, wd_194⟩, tyX1_ok, nmX1, rfl, by decide +kernel, fun h => by cases h⟩
theorem gf_X5_87 : mh_fl RX5 87 1 4 := ⟨RX1, TX1, 5, rfl, in_X1, by decide, rfl, Or.inr ⟨_, wd_195⟩⟩
theorem pf_X5_87 : mh_fp RX5 87 1 4 .int false := ⟨RX1, TX1, 5, tyX1, rfl, in_X1, by decide, rfl, Or.inr ⟨rfl, _, wd_195⟩, tyX1_ok, nmX1, rfl, by decide +kernel, fun h => by cases h⟩
theorem ci_X5_21 : mh_ci RX5 21 yX3_init 0 := ⟨⟨Or.inr ⟨_, wd_210⟩, wd_3, ⟨by decide, by decide⟩, by decide +kernel⟩, wd_211, rfl⟩
theorem gf_X3_9 : mh_fl RX3 9 3 0 := ⟨RX3, TX3, 7, rfl, in_X3, by decide, rfl, Or.inl wd_214⟩
theorem pf_X3_9 : mh_fp RX3 9 3 0 (.array .int) true := ⟨RX3, TX3, 7, tyX3, rfl, in_X3, by decide, rfl, Or.inl wd_214, tyX3_ok, nmX3, rfl, by decide +kernel, fun _ => rfl⟩
theorem gf_X3_15 : mh_fl RX3 15 3 1 := ⟨RX3, TX3, 7, rfl, in_X3, by decide, rfl, Or.inl wd_215⟩
theorem pf_X3_15 : mh_fp RX3 15 3 1 .int false := ⟨RX3, TX3, 7, tyX3, rfl, in_X3, by decide, rfl, Or.inl wd_215, tyX3_ok, nmX3, rfl, by decide +kernel, fun _ => rfl⟩
theorem gf_X5_90 : mh_fl RX5 90 3 1 := ⟨RX3, TX3, 7, rfl, in_X3, by decide, rfl, Or.inr ⟨_, wd_216⟩⟩
theorem pf_X5_90 : mh_fp RX5 90 3 1 .int false := ⟨RX3, TX3, 7, tyX3, rfl, in_X3, by decide, rfl, Or.inr ⟨rfl, _, wd_216⟩, tyX3_ok, nmX3, rfl, by decide +kernel, fun h => by cases h⟩
theorem gf_X3_28 : mh_fl RX3 28 3 2 := ⟨RX3, TX3, 7, rfl, in_X3, by decide, rfl, Or.inl wd_217⟩
theorem pf_X3_28 : mh_fp RX3 28 3 2 .int false := ⟨RX3, TX3, 7, tyX3, rfl, in_X3, by decide, rfl, Or.inl wd_217, tyX3_ok, nmX3, rfl, by decide +kernel, fun _ => rfl⟩
theorem gf_X3_37 : mh_fl RX3 37 3 3 := ⟨RX3, TX3, 7, rfl, in_X3, by decide, rfl, Or.inl wd_218⟩
theorem pf_X3_37 : mh_fp RX3 37 3 3 .int false := ⟨RX3, TX3, 7, tyX3, rfl, in_X3, by decide, rfl, Or.inl wd_218, tyX3_ok, nmX3, rfl, by decide +kernel, fun _ => rfl⟩
theorem gf_X3_34 : mh_fl RX3 34 3 4 := ⟨RX3, TX3, 7, rfl, in_X3, by decide, rfl, Or.inl wd_219⟩
theorem pf_X3_34 : mh_fp RX3 34 3 4 .int false := ⟨RX3, TX3, 7, tyX3, rfl, in_X3, by decide, rfl, Or.inl wd_219, tyX3_ok, nmX3, rfl, by decide +kernel, fun _ => rfl⟩
theorem gf_X3_61 : mh_fl RX3 61 3 5 := ⟨RX3, TX3, 7, rfl, in_X3, by decide, rfl, Or.inl wd_220⟩
theorem pf_X3_61 : mh_fp RX3 61 3 5 .int false := ⟨RX3, TX3, 7, tyX3, rfl, in_X3, by decide, rfl, Or.inl wd_220, tyX3_ok, nmX3, rfl, by decide +kernel, fun _ => rfl⟩
theorem gf_X3_19 : mh_fl RX3 19 3 6 := ⟨RX3, TX3, 7, rfl, in_X3, by decide, rfl, Or.inl wd_221⟩
theorem pf_X3_19 : mh_fp RX3 19 3 6 (.object RX4) false := ⟨RX3, TX3, 7, tyX3, rfl, in_X3, by decide, rfl, Or.inl wd_221, tyX3_ok, nmX3, rfl, by decide +kernel, fun _ => rfl⟩
theorem ci_X5_34 : mh_ci RX5 34 yX0_init 0 := ⟨⟨Or.inr ⟨_, wd_240⟩, wd_4, ⟨by decide, by decide⟩, by decide +kernel⟩, wd_241, rfl⟩
theorem gf_X0_9 : mh_fl RX0 9 0 0 := ⟨RX0, TX0, 3, rfl, in_X0, by decide, rfl, Or.inl wd_244⟩
theorem pf_X0_9 : mh_fp RX0 9 0 0 (.array .int) true := ⟨RX0, TX0, 3, tyX0, rfl, in_X0, by decide, rfl, Or.inl wd_244, tyX0_ok, nmX0, rfl, by decide +kernel, fun _ => rfl⟩
theorem gf_X5_179 : mh_fl RX5 179 0 0 := ⟨RX0, TX0, 3, rfl, in_X0, by decide, rfl, Or.inr ⟨_, wd_245⟩⟩
theorem gf_X0_15 : mh_fl RX0 15 0 1 := ⟨RX0, TX0, 3, rfl, in_X0, by decide, rfl, Or.inl wd_246⟩
theorem pf_X0_15 : mh_fp RX0 15 0 1 .long false := ⟨RX0, TX0, 3, tyX0, rfl, in_X0, by decide, rfl, Or.inl wd_246, tyX0_ok, nmX0, rfl, by decide +kernel, fun _ => rfl⟩
theorem gf_X5_167 : mh_fl RX5 167 0 1 := ⟨RX0, TX0, 3, rfl, in_X0, by decide, rfl, Or.inr ⟨_, wd_247⟩⟩
theorem pf_X5_167 : mh_fp RX5 167 0 1 .long false := ⟨RX0, TX0, 3, tyX0, rfl, in_X0, by decide, rfl, Or.inr ⟨rfl, _, wd_247⟩, tyX0_ok, nmX0, rfl, by decide +kernel, fun h => by cases h⟩
theorem gf_X0_19 : mh_fl RX0 19 0 2 := ⟨RX0, TX0, 3, rfl, in_X0, by decide, rfl, Or.inl wd_248⟩
theorem pf_X0_19 : mh_fp RX0 19 0 2 .long false := ⟨RX0, TX0, 3, tyX0, rfl, in_X0, by decide, rfl, Or.inl wd_248, tyX0_ok, nmX0, rfl, by decide +kernel, fun _ => rfl⟩
theorem gf_X5_176 : mh_fl RX5 176 0 2 := ⟨RX0, TX0, 3, rfl, in_X0, by decide, rfl, Or.inr ⟨_, wd_249⟩⟩
theorem pf_X5_176 : mh_fp RX5 176 0 2 .long false := ⟨RX0, TX0, 3, tyX0, rfl, in_X0, by decide, rfl, Or.inr ⟨rfl, _, wd_249⟩, tyX0_ok, nmX0, rfl, by decide +kernel, fun h => by cases h⟩
theorem ci_X5_49 : mh_ci RX5 49 yX4_init 0 := ⟨⟨Or.inr ⟨_, wd_259⟩, wd_5, ⟨by decide, by decide⟩, by decide +kernel⟩, wd_260, rfl⟩
theorem gf_X4_9 : mh_fl RX4 9 4 0 := ⟨RX4, TX4, 5, rfl, in_X4, by decide, rfl, Or.inl wd_263⟩
theorem pf_X4_9 : mh_fp RX4 9 4 0 (.array .int) true := ⟨RX4, TX4, 5, tyX4, rfl, in_X4, by decide, rfl, Or.inl wd_263, tyX4_ok, nmX4, rfl, by decide +kernel, fun _ => rfl⟩
theorem gf_X4_21 : mh_fl RX4 21 4 1 := ⟨RX4, TX4, 5, rfl, in_X4, by decide, rfl, Or.inl wd_264⟩
theorem pf_X4_21 : mh_fp RX4 21 4 1 .int false := ⟨RX4, TX4, 5, tyX4, rfl, in_X4, by decide, rfl, Or.inl wd_264, tyX4_ok, nmX4, rfl, by decide +kernel, fun _ => rfl⟩
theorem gf_X4_15 : mh_fl RX4 15 4 2 := ⟨RX4, TX4, 5, rfl, in_X4, by decide, rfl, Or.inl wd_265⟩
theorem pf_X4_15 : mh_fp RX4 15 4 2 (.array .int) true := ⟨RX4, TX4, 5, tyX4, rfl, in_X4, by decide, rfl, Or.inl wd_265, tyX4_ok, nmX4, rfl, by decide +kernel, fun _ => rfl⟩
theorem gf_X4_18 : mh_fl RX4 18 4 3 := ⟨RX4, TX4, 5, rfl, in_X4, by decide, rfl, Or.inl wd_266⟩
theorem pf_X4_18 : mh_fp RX4 18 4 3 (.array .int) true := ⟨RX4, TX4, 5, tyX4, rfl, in_X4, by decide, rfl, Or.inl wd_266, tyX4_ok, nmX4, rfl, by decide +kernel, fun _ => rfl⟩
theorem gf_X4_25 : mh_fl RX4 25 4 4 := ⟨RX4, TX4, 5, rfl, in_X4, by decide, rfl, Or.inl wd_267⟩
theorem pf_X4_25 : mh_fp RX4 25 4 4 .int false := ⟨RX4, TX4, 5, tyX4, rfl, in_X4, by decide, rfl, Or.inl wd_267, tyX4_ok, nmX4, rfl, by decide +kernel, fun _ => rfl⟩
theorem ci_X5_50 : mh_ci RX5 50 yX2_init 0 := ⟨⟨Or.inr ⟨_, wd_281⟩, wd_6, ⟨by decide, by decide⟩, by decide +kernel⟩, wd_282, rfl⟩
theorem gf_X2_9 : mh_fl RX2 9 2 0 := ⟨RX2, TX2, 3, rfl, in_X2, by decide, rfl, Or.inl wd_285⟩
theorem pf_X2_9 : mh_fp RX2 9 2 0 (.array .int) true := ⟨RX2, TX2, 3, tyX2, rfl, in_X2, by decide, rfl, Or.inl wd_285, tyX2_ok, nmX2, rfl, by decide +kernel, fun _ => rfl⟩
theorem gf_X2_15 : mh_fl RX2 15 2 1 := ⟨RX2, TX2, 3, rfl, in_X2, by decide, rfl, Or.inl wd_286⟩
theorem pf_X2_15 : mh_fp RX2 15 2 1 .int false := ⟨RX2, TX2, 3, tyX2, rfl, in_X2, by decide, rfl, Or.inl wd_286, tyX2_ok, nmX2, rfl, by decide +kernel, fun _ => rfl⟩
theorem cv_X5_53 : mh_cv RX5 53 yJ0_length_8abf5 0 := ⟨⟨Or.inl wd_295, wd_7, ⟨by decide, by decide⟩, by decide +kernel⟩, wd_296, wd_297⟩
theorem cv_J0_335 : mh_cv RJ0 335 yJ0_coder_7d493 0 := ⟨⟨Or.inl wd_299, wd_7, ⟨by decide, by decide⟩, by decide +kernel⟩, wd_300, wd_301⟩
theorem cv_X5_59 : mh_cv RX5 59 yJ0_charAt_5068e 1 := ⟨⟨Or.inl wd_305, wd_7, ⟨by decide, by decide⟩, by decide +kernel⟩, wd_306, wd_307⟩
theorem cv_J0_492 : mh_cv RJ0 492 yJ0_isLatin1_aae02 0 := ⟨⟨Or.inl wd_309, wd_7, ⟨by decide, by decide⟩, by decide +kernel⟩, wd_310, wd_311⟩
theorem cs_J0_495 : mh_cs RJ0 495 yJ1_charAt_3b067 2 := ⟨⟨Or.inl wd_313, wd_8, ⟨by decide, by decide⟩, by decide +kernel⟩, wd_314⟩
theorem cs_J1_9 : mh_cs RJ1 9 yJ0_checkIndex_df160 2 := ⟨⟨Or.inl wd_316, wd_7, ⟨by decide, by decide⟩, by decide +kernel⟩, wd_317⟩
theorem cs_J0_1059 : mh_cs RJ0 1059 yJ3_checkIndex_8e157 3 := ⟨⟨Or.inl wd_321, wd_9, ⟨by decide, by decide⟩, by decide +kernel⟩, wd_322⟩
theorem cs_J0_498 : mh_cs RJ0 498 yJ2_charAt_3b067 2 := ⟨⟨Or.inl wd_324, wd_10, ⟨by decide, by decide⟩, by decide +kernel⟩, wd_325⟩
theorem cs_J2_67 : mh_cs RJ2 67 yJ2_checkIndex_2214a 2 := ⟨⟨Or.inl wd_327, wd_10, ⟨by decide, by decide⟩, by decide +kernel⟩, wd_328⟩
theorem cs_J2_48 : mh_cs RJ2 48 yJ2_length_9d52b 1 := ⟨⟨Or.inl wd_330, wd_10, ⟨by decide, by decide⟩, by decide +kernel⟩, wd_331⟩
theorem cs_J2_414 : mh_cs RJ2 414 yJ0_checkIndex_df160 2 := ⟨⟨Or.inl wd_333, wd_7, ⟨by decide, by decide⟩, by decide +kernel⟩, wd_317⟩
theorem cs_J2_71 : mh_cs RJ2 71 yJ2_getChar_3b067 2 := ⟨⟨Or.inl wd_334, wd_10, ⟨by decide, by decide⟩, by decide +kernel⟩, wd_335⟩
theorem cv_X5_63 : mh_cv RX5 63 yX3_add 1 := ⟨⟨Or.inr ⟨_, wd_343⟩, wd_3, ⟨by decide, by decide⟩, by decide +kernel⟩, wd_345, ws_13⟩
theorem cv_X5_67 : mh_cv RX5 67 yX5_readTape 0 := ⟨⟨Or.inl wd_347, wd_1, ⟨by decide, by decide⟩, by decide +kernel⟩, wd_349, ws_14⟩
theorem cv_X5_280 : mh_cv RX5 280 yX3_readInto 1 := ⟨⟨Or.inr ⟨_, wd_351⟩, wd_3, ⟨by decide, by decide⟩, by decide +kernel⟩, wd_353, ws_15⟩
theorem cv_X3_23 : mh_cv RX3 23 yX4_clear 0 := ⟨⟨Or.inr ⟨_, wd_355⟩, wd_5, ⟨by decide, by decide⟩, by decide +kernel⟩, wd_357, ws_16⟩
theorem cv_X3_31 : mh_cv RX3 31 yX3_advance 0 := ⟨⟨Or.inl wd_359, wd_3, ⟨by decide, by decide⟩, by decide +kernel⟩, wd_361, ws_17⟩
theorem cs_X3_71 : mh_cs RX3 71 yX3_isLetter 1 := ⟨⟨Or.inl wd_363, wd_3, ⟨by decide, by decide⟩, by decide +kernel⟩, wd_364⟩
theorem cs_X3_64 : mh_cs RX3 64 yX5_within 3 := ⟨⟨Or.inr ⟨_, wd_366⟩, wd_1, ⟨by decide, by decide⟩, by decide +kernel⟩, wd_27⟩
theorem cv_X3_74 : mh_cv RX3 74 yX3_wordToken 1 := ⟨⟨Or.inl wd_367, wd_3, ⟨by decide, by decide⟩, by decide +kernel⟩, wd_369, ws_18⟩
theorem cv_X3_86 : mh_cv RX3 86 yJ0_length_8abf5 0 := ⟨⟨Or.inl wd_372, wd_7, ⟨by decide, by decide⟩, by decide +kernel⟩, wd_296, wd_297⟩
theorem cv_X3_92 : mh_cv RX3 92 yJ0_charAt_5068e 1 := ⟨⟨Or.inl wd_373, wd_7, ⟨by decide, by decide⟩, by decide +kernel⟩, wd_306, wd_307⟩
theorem cv_X3_96 : mh_cv RX3 96 yX3_standsAt 2 := ⟨⟨Or.inl wd_374, wd_3, ⟨by decide, by decide⟩, by decide +kernel⟩, wd_376, ws_19⟩
theorem cs_X3_78 : mh_cs RX3 78 yX3_isDigit 1 := ⟨⟨Or.inl wd_378, wd_3, ⟨by decide, by decide⟩, by decide +kernel⟩, wd_379⟩
theorem cs_X3_81 : mh_cs RX3 81 yX3_isSign 1 := ⟨⟨Or.inl wd_381, wd_3, ⟨by decide, by decide⟩, by decide +kernel⟩, wd_382⟩
theorem cv_X3_40 : mh_cv RX3 40 yX3_chain 2 := ⟨⟨Or.inl wd_384, wd_3, ⟨by decide, by decide⟩, by decide +kernel⟩, wd_386, ws_20⟩
theorem cv_X3_48 : mh_cv RX3 48 yX3_one 1 := ⟨⟨Or.inl wd_388, wd_3, ⟨by decide, by decide⟩, by decide +kernel⟩, wd_390, ws_21⟩
theorem cv_X3_58 : mh_cv RX3 58 yX4_add 1 := ⟨⟨Or.inr ⟨_, wd_392⟩, wd_5, ⟨by decide, by decide⟩, by decide +kernel⟩, wd_394, ws_22⟩
theorem cv_X3_68 : mh_cv RX3 68 yX3_opened 1 := ⟨⟨Or.inl wd_396, wd_3, ⟨by decide, by decide⟩, by decide +kernel⟩, wd_398, ws_23⟩
theorem cv_X3_52 : mh_cv RX3 52 yX3_negation 1 := ⟨⟨Or.inl wd_400, wd_3, ⟨by decide, by decide⟩, by decide +kernel⟩, wd_402, ws_24⟩
theorem cs_X3_55 : mh_cs RX3 55 yX3_joins 2 := ⟨⟨Or.inl wd_404, wd_3, ⟨by decide, by decide⟩, by decide +kernel⟩, wd_405⟩
theorem cv_X3_44 : mh_cv RX3 44 yX4_endPart 1 := ⟨⟨Or.inr ⟨_, wd_407⟩, wd_5, ⟨by decide, by decide⟩, by decide +kernel⟩, wd_409, ws_25⟩
theorem gf_X5_10 : mh_fl RX5 10 5 0 := ⟨RX5, TX5, 9, rfl, in_X5, by decide, rfl, Or.inl wd_411⟩
theorem pf_X5_10 : mh_fp RX5 10 5 0 (.object RX1) true := ⟨RX5, TX5, 9, tyX5, rfl, in_X5, by decide, rfl, Or.inl wd_411, tyX5_ok, nmX5, rfl, by decide +kernel, fun _ => rfl⟩
theorem gf_X5_16 : mh_fl RX5 16 5 1 := ⟨RX5, TX5, 9, rfl, in_X5, by decide, rfl, Or.inl wd_412⟩
theorem pf_X5_16 : mh_fp RX5 16 5 1 (.object RX1) true := ⟨RX5, TX5, 9, tyX5, rfl, in_X5, by decide, rfl, Or.inl wd_412, tyX5_ok, nmX5, rfl, by decide +kernel, fun _ => rfl⟩
theorem gf_X5_22 : mh_fl RX5 22 5 3 := ⟨RX5, TX5, 9, rfl, in_X5, by decide, rfl, Or.inl wd_413⟩
theorem pf_X5_22 : mh_fp RX5 22 5 3 (.object RX3) true := ⟨RX5, TX5, 9, tyX5, rfl, in_X5, by decide, rfl, Or.inl wd_413, tyX5_ok, nmX5, rfl, by decide +kernel, fun _ => rfl⟩
theorem gf_X5_28 : mh_fl RX5 28 5 4 := ⟨RX5, TX5, 9, rfl, in_X5, by decide, rfl, Or.inl wd_414⟩
theorem pf_X5_28 : mh_fp RX5 28 5 4 (.array (.object RX4)) true := ⟨RX5, TX5, 9, tyX5, rfl, in_X5, by decide, rfl, Or.inl wd_414, tyX5_ok, nmX5, rfl, by decide +kernel, fun _ => rfl⟩
theorem gf_X5_83 : mh_fl RX5 83 5 5 := ⟨RX5, TX5, 9, rfl, in_X5, by decide, rfl, Or.inl wd_415⟩
theorem pf_X5_83 : mh_fp RX5 83 5 5 .int false := ⟨RX5, TX5, 9, tyX5, rfl, in_X5, by decide, rfl, Or.inl wd_415, tyX5_ok, nmX5, rfl, by decide +kernel, fun _ => rfl⟩
theorem gf_X5_35 : mh_fl RX5 35 5 6 := ⟨RX5, TX5, 9, rfl, in_X5, by decide, rfl, Or.inl wd_416⟩
theorem pf_X5_35 : mh_fp RX5 35 5 6 (.object RX0) true := ⟨RX5, TX5, 9, tyX5, rfl, in_X5, by decide, rfl, Or.inl wd_416, tyX5_ok, nmX5, rfl, by decide +kernel, fun _ => rfl⟩
theorem gf_X5_41 : mh_fl RX5 41 5 7 := ⟨RX5, TX5, 9, rfl, in_X5, by decide, rfl, Or.inl wd_417⟩
theorem pf_X5_41 : mh_fp RX5 41 5 7 (.array (.object RX2)) true := ⟨RX5, TX5, 9, tyX5, rfl, in_X5, by decide, rfl, Or.inl wd_417, tyX5_ok, nmX5, rfl, by decide +kernel, fun _ => rfl⟩
theorem gf_X5_45 : mh_fl RX5 45 5 8 := ⟨RX5, TX5, 9, rfl, in_X5, by decide, rfl, Or.inl wd_418⟩
theorem pf_X5_45 : mh_fp RX5 45 5 8 (.array .long) true := ⟨RX5, TX5, 9, tyX5, rfl, in_X5, by decide, rfl, Or.inl wd_418, tyX5_ok, nmX5, rfl, by decide +kernel, fun _ => rfl⟩
theorem cs_L_24 : mh_cs RL 24 yL_kind 2 := ⟨⟨Or.inl wd_439, wd_0, ⟨by decide, by decide⟩, by decide +kernel⟩, wd_440⟩
theorem cs_L_30 : mh_cs RL 30 yL_more 2 := ⟨⟨Or.inl wd_442, wd_0, ⟨by decide, by decide⟩, by decide +kernel⟩, wd_443⟩
theorem cv_L_33 : mh_cv RL 33 yX5_knit 3 := ⟨⟨Or.inl wd_445, wd_1, ⟨by decide, by decide⟩, by decide +kernel⟩, wd_446, wd_447⟩
theorem cs_X5_114 : mh_cs RX5 114 yX5_isKnit 2 := ⟨⟨Or.inl wd_449, wd_1, ⟨by decide, by decide⟩, by decide +kernel⟩, wd_450⟩
theorem cv_X5_122 : mh_cv RX5 122 yX1_become 3 := ⟨⟨Or.inr ⟨_, wd_452⟩, wd_2, ⟨by decide, by decide⟩, by decide +kernel⟩, wd_454, ws_26⟩
theorem cs_L_37 : mh_cs RL 37 yL_pinned 2 := ⟨⟨Or.inl wd_456, wd_0, ⟨by decide, by decide⟩, by decide +kernel⟩, wd_457⟩
theorem cs_L_45 : mh_cs RL 45 yL_plain 1 := ⟨⟨Or.inl wd_459, wd_0, ⟨by decide, by decide⟩, by decide +kernel⟩, wd_460⟩
theorem ci_L_51 : mh_ci RL 51 yJ4_init_da8c8 0 := ⟨⟨Or.inl wd_464, wd_12, ⟨by decide, by decide⟩, by decide +kernel⟩, wd_465, rfl⟩
theorem ci_J4_1 : mh_ci RJ4 1 yJ5_init_d00df 1 := ⟨⟨Or.inl wd_467, wd_11, ⟨by decide, by decide⟩, by decide +kernel⟩, wd_468, rfl⟩
theorem cs_J5_26 : mh_cs RJ5 26 yJ2_newBytesFor_77867 1 := ⟨⟨Or.inl wd_472, wd_10, ⟨by decide, by decide⟩, by decide +kernel⟩, wd_473⟩
theorem cs_J2_11 : mh_cs RJ2 11 yJ2_newBytesLength_0f7a4 1 := ⟨⟨Or.inl wd_475, wd_10, ⟨by decide, by decide⟩, by decide +kernel⟩, wd_476⟩
theorem gf_J5_15 : mh_fl RJ5 15 7 0 := ⟨RJ4, TJ4, 4, rfl, in_J4, by decide, rfl, Or.inl wd_479⟩
theorem pf_J5_15 : mh_fp RJ5 15 7 0 (.array .byte) false := ⟨RJ4, TJ4, 4, tyJ4, rfl, in_J4, by decide, rfl, Or.inl wd_479, tyJ4_ok, nmJ4, rfl, by decide +kernel, fun _ => rfl⟩
theorem gf_J5_22 : mh_fl RJ5 22 7 1 := ⟨RJ4, TJ4, 4, rfl, in_J4, by decide, rfl, Or.inl wd_480⟩
theorem pf_J5_22 : mh_fp RJ5 22 7 1 .byte false := ⟨RJ4, TJ4, 4, tyJ4, rfl, in_J4, by decide, rfl, Or.inl wd_480, tyJ4_ok, nmJ4, rfl, by decide +kernel, fun _ => rfl⟩
theorem gf_J0_1048 : mh_fl RJ0 1048 7 2 := ⟨RJ4, TJ4, 4, rfl, in_J4, by decide, rfl, Or.inl wd_481⟩
theorem pf_J0_1048 : mh_fp RJ0 1048 7 2 .boolean false := ⟨RJ4, TJ4, 4, tyJ4, rfl, in_J4, by decide, rfl, Or.inl wd_481, tyJ4_ok, nmJ4, rfl, by decide +kernel, fun h => by cases h⟩
theorem gf_J5_79 : mh_fl RJ5 79 7 3 := ⟨RJ4, TJ4, 4, rfl, in_J4, by decide, rfl, Or.inl wd_482⟩
theorem pf_J5_79 : mh_fp RJ5 79 7 3 .int false := ⟨RJ4, TJ4, 4, tyJ4, rfl, in_J4, by decide, rfl, Or.inl wd_482, tyJ4_ok, nmJ4, rfl, by decide +kernel, fun _ => rfl⟩
theorem cv_L_54 : mh_cv RL 54 yJ4_append_15ec4 1 := ⟨⟨Or.inl wd_493, wd_12, ⟨by decide, by decide⟩, by decide +kernel⟩, wd_494, wd_495⟩
theorem cC_J5_100 : mh_cvC RJ4 RJ5 100 yJ5_ensureCapacityInternal_d00df 1 := ⟨⟨Or.inl wd_504, wd_11, ⟨by decide, by decide⟩, by decide +kernel⟩, wd_506, wsS_0⟩
theorem cC_J5_104 : mh_cvC RJ4 RJ5 104 yJ5_newCapacity_0f7a4 1 := ⟨⟨Or.inl wd_508, wd_11, ⟨by decide, by decide⟩, by decide +kernel⟩, wd_510, wsS_1⟩
theorem cs_J5_114 : mh_cs RJ5 114 yJ8_newLength_cabcc 3 := ⟨⟨Or.inl wd_512, wd_13, ⟨by decide, by decide⟩, by decide +kernel⟩, wd_513⟩
theorem cs_J8_194 : mh_cs RJ8 194 yJ9_max_7cf53 2 := ⟨⟨Or.inl wd_515, wd_14, ⟨by decide, by decide⟩, by decide +kernel⟩, wd_80⟩
theorem cs_J8_201 : mh_cs RJ8 201 yJ8_hugeLength_7cf53 2 := ⟨⟨Or.inl wd_517, wd_13, ⟨by decide, by decide⟩, by decide +kernel⟩, wd_518⟩
theorem cs_J5_108 : mh_cs RJ5 108 yJ7_copyOf_9075b 2 := ⟨⟨Or.inl wd_521, wd_15, ⟨by decide, by decide⟩, by decide +kernel⟩, wd_522⟩
theorem cs_J7_304 : mh_cs RJ7 304 yJ9_min_7cf53 2 := ⟨⟨Or.inl wd_531, wd_14, ⟨by decide, by decide⟩, by decide +kernel⟩, wd_88⟩
theorem cC_J5_83 : mh_cvC RJ4 RJ5 83 yJ5_isLatin1_aae02 0 := ⟨⟨Or.inl wd_535, wd_11, ⟨by decide, by decide⟩, by decide +kernel⟩, wd_536, wd_538⟩
theorem cs_J5_226 : mh_cs RJ5 226 yJ2_putCharsAt_cd4e5 6 := ⟨⟨Or.inl wd_540, wd_10, ⟨by decide, by decide⟩, by decide +kernel⟩, wd_541⟩
theorem cs_J2_96 : mh_cs RJ2 96 yJ2_checkBoundsBeginEnd_d044e 3 := ⟨⟨Or.inl wd_543, wd_10, ⟨by decide, by decide⟩, by decide +kernel⟩, wd_544⟩
theorem cs_J2_241 : mh_cs RJ2 241 yJ0_checkBoundsBeginEnd_23922 3 := ⟨⟨Or.inl wd_546, wd_7, ⟨by decide, by decide⟩, by decide +kernel⟩, wd_547⟩
theorem cs_J0_1062 : mh_cs RJ0 1062 yJ3_checkFromToIndex_8c36e 4 := ⟨⟨Or.inl wd_549, wd_9, ⟨by decide, by decide⟩, by decide +kernel⟩, wd_550⟩
theorem cs_J2_111 : mh_cs RJ2 111 yJ2_putChar_b72d1 3 := ⟨⟨Or.inl wd_552, wd_10, ⟨by decide, by decide⟩, by decide +kernel⟩, wd_553⟩
theorem cv_J5_32 : mh_cv RJ5 32 yJ0_length_8abf5 0 := ⟨⟨Or.inl wd_555, wd_7, ⟨by decide, by decide⟩, by decide +kernel⟩, wd_296, wd_297⟩
theorem cC_J5_208 : mh_cvC RJ4 RJ5 208 yJ5_putStringAt_47b60 2 := ⟨⟨Or.inl wd_556, wd_11, ⟨by decide, by decide⟩, by decide +kernel⟩, wd_558, wsS_2⟩
theorem cC_J5_397 : mh_cvC RJ4 RJ5 397 yJ5_inflateIfNeededFor_a7421 1 := ⟨⟨Or.inl wd_560, wd_11, ⟨by decide, by decide⟩, by decide +kernel⟩, wd_562, wsS_3⟩
theorem cv_J5_40 : mh_cv RJ5 40 yJ0_coder_7d493 0 := ⟨⟨Or.inl wd_564, wd_7, ⟨by decide, by decide⟩, by decide +kernel⟩, wd_300, wd_301⟩
theorem cs_J5_125 : mh_cs RJ5 125 yJ1_inflate_0e8fd 5 := ⟨⟨Or.inl wd_569, wd_8, ⟨by decide, by decide⟩, by decide +kernel⟩, wd_570⟩
theorem cs_J1_240 : mh_cs RJ1 240 yJ2_inflate_0e8fd 5 := ⟨⟨Or.inl wd_572, wd_10, ⟨by decide, by decide⟩, by decide +kernel⟩, wd_573⟩
theorem cs_J2_173 : mh_cs RJ2 173 yJ2_checkBoundsOffCount_d044e 3 := ⟨⟨Or.inl wd_575, wd_10, ⟨by decide, by decide⟩, by decide +kernel⟩, wd_576⟩
theorem cs_J2_419 : mh_cs RJ2 419 yJ0_checkBoundsOffCount_cabcc 3 := ⟨⟨Or.inl wd_578, wd_7, ⟨by decide, by decide⟩, by decide +kernel⟩, wd_579⟩
theorem cs_J0_1065 : mh_cs RJ0 1065 yJ3_checkFromIndexSize_8c36e 4 := ⟨⟨Or.inl wd_581, wd_9, ⟨by decide, by decide⟩, by decide +kernel⟩, wd_582⟩
theorem cv_J5_399 : mh_cv RJ5 399 yJ0_getBytes_840e7 3 := ⟨⟨Or.inl wd_584, wd_7, ⟨by decide, by decide⟩, by decide +kernel⟩, wd_585, wd_586⟩
theorem cs_J0_106 : mh_cs RJ0 106 yJ1_inflate_0e8fd 5 := ⟨⟨Or.inl wd_589, wd_8, ⟨by decide, by decide⟩, by decide +kernel⟩, wd_570⟩
theorem cv_L_61 : mh_cv RL 61 yJ4_append_bf812 1 := ⟨⟨Or.inl wd_590, wd_12, ⟨by decide, by decide⟩, by decide +kernel⟩, wd_591, wd_592⟩
theorem cs_J5_245 : mh_cs RJ5 245 yJ6_stringSize_0f7a4 1 := ⟨⟨Or.inl wd_597, wd_17, ⟨by decide, by decide⟩, by decide +kernel⟩, wd_598⟩
theorem cs_J5_248 : mh_cs RJ5 248 yJ6_getChars_ba4f3 3 := ⟨⟨Or.inl wd_600, wd_17, ⟨by decide, by decide⟩, by decide +kernel⟩, wd_601⟩
theorem cs_J5_251 : mh_cs RJ5 251 yJ2_getChars_46870 4 := ⟨⟨Or.inl wd_607, wd_10, ⟨by decide, by decide⟩, by decide +kernel⟩, wd_608⟩
theorem cs_J2_393 : mh_cs RJ2 393 yJ2_getChars_ba4f3 3 := ⟨⟨Or.inl wd_610, wd_10, ⟨by decide, by decide⟩, by decide +kernel⟩, wd_611⟩
theorem cv_L_68 : mh_cv RL 68 yJ4_toString_0e30d 0 := ⟨⟨Or.inl wd_617, wd_12, ⟨by decide, by decide⟩, by decide +kernel⟩, wd_618, wd_619⟩
theorem ci_J4_137 : mh_ci RJ4 137 yJ0_init_81219 1 := ⟨⟨Or.inl wd_623, wd_7, ⟨by decide, by decide⟩, by decide +kernel⟩, wd_624, rfl⟩
theorem ci_J0_489 : mh_ci RJ0 489 yJ0_init_db425 2 := ⟨⟨Or.inl wd_626, wd_7, ⟨by decide, by decide⟩, by decide +kernel⟩, wd_627, rfl⟩
theorem cC_J0_552 : mh_cvC RJ4 RJ0 552 yJ5_getValue_6d5f1 0 := ⟨⟨Or.inl wd_630, wd_11, ⟨by decide, by decide⟩, by decide +kernel⟩, wd_631, wd_633⟩
theorem cC_J0_1047 : mh_cvC RJ4 RJ0 1047 yJ5_isLatin1_aae02 0 := ⟨⟨Or.inl wd_643, wd_11, ⟨by decide, by decide⟩, by decide +kernel⟩, wd_536, wd_538⟩
theorem cs_J0_54 : mh_cs RJ0 54 yJ7_copyOfRange_39247 3 := ⟨⟨Or.inl wd_644, wd_15, ⟨by decide, by decide⟩, by decide +kernel⟩, wd_645⟩
theorem cs_J7_339 : mh_cs RJ7 339 yJ7_copyOfRangeByte_39247 3 := ⟨⟨Or.inl wd_647, wd_15, ⟨by decide, by decide⟩, by decide +kernel⟩, wd_648⟩
theorem cs_J7_343 : mh_cs RJ7 343 yJ7_checkLength_df160 2 := ⟨⟨Or.inl wd_650, wd_15, ⟨by decide, by decide⟩, by decide +kernel⟩, wd_651⟩
theorem cs_J0_1051 : mh_cs RJ0 1051 yJ2_compress_39247 3 := ⟨⟨Or.inl wd_653, wd_10, ⟨by decide, by decide⟩, by decide +kernel⟩, wd_654⟩
theorem cs_J2_123 : mh_cs RJ2 123 yJ2_compress_5af95 5 := ⟨⟨Or.inl wd_656, wd_10, ⟨by decide, by decide⟩, by decide +kernel⟩, wd_657⟩
theorem cs_J2_126 : mh_cs RJ2 126 yJ7_copyOfRange_39247 3 := ⟨⟨Or.inl wd_659, wd_15, ⟨by decide, by decide⟩, by decide +kernel⟩, wd_645⟩
theorem cs_J0_47 : mh_cs RJ0 47 yJ2_coderFromArrayLen_85cad 2 := ⟨⟨Or.inl wd_660, wd_10, ⟨by decide, by decide⟩, by decide +kernel⟩, wd_661⟩
theorem gf_J0_9 : mh_fl RJ0 9 6 0 := ⟨RJ0, TJ0, 4, rfl, in_J0, by decide, rfl, Or.inl wd_663⟩
theorem pf_J0_9 : mh_fp RJ0 9 6 0 (.array .byte) true := ⟨RJ0, TJ0, 4, tyJ0, rfl, in_J0, by decide, rfl, Or.inl wd_663, tyJ0_ok, nmJ0, rfl, by decide +kernel, fun _ => rfl⟩
theorem gf_J0_15 : mh_fl RJ0 15 6 1 := ⟨RJ0, TJ0, 4, rfl, in_J0, by decide, rfl, Or.inl wd_664⟩
theorem pf_J0_15 : mh_fp RJ0 15 6 1 .byte true := ⟨RJ0, TJ0, 4, tyJ0, rfl, in_J0, by decide, rfl, Or.inl wd_664, tyJ0_ok, nmJ0, rfl, by decide +kernel, fun _ => rfl⟩
theorem cs_L_72 : mh_cs RL 72 yL_text 2 := ⟨⟨Or.inl wd_674, wd_0, ⟨by decide, by decide⟩, by decide +kernel⟩, wd_675⟩
theorem cv_L_7 : mh_cv RL 7 yJ0_length_8abf5 0 := ⟨⟨Or.inl wd_677, wd_7, ⟨by decide, by decide⟩, by decide +kernel⟩, wd_296, wd_297⟩
theorem cv_L_13 : mh_cv RL 13 yJ0_charAt_5068e 1 := ⟨⟨Or.inl wd_678, wd_7, ⟨by decide, by decide⟩, by decide +kernel⟩, wd_306, wd_307⟩
theorem cv_L_17 : mh_cv RL 17 yX5_feed 6 := ⟨⟨Or.inl wd_679, wd_1, ⟨by decide, by decide⟩, by decide +kernel⟩, wd_680, wd_681⟩
theorem cs_X5_93 : mh_cs RX5 93 yX5_isByte 1 := ⟨⟨Or.inl wd_683, wd_1, ⟨by decide, by decide⟩, by decide +kernel⟩, wd_684⟩
theorem cv_L_76 : mh_cv RL 76 yX5_text 0 := ⟨⟨Or.inl wd_686, wd_1, ⟨by decide, by decide⟩, by decide +kernel⟩, wd_687, wd_688⟩
theorem cv_L_78 : mh_cv RL 78 yX5_force 1 := ⟨⟨Or.inl wd_690, wd_1, ⟨by decide, by decide⟩, by decide +kernel⟩, wd_691, wd_692⟩
theorem cs_L_96 : mh_cs RL 96 yL_asks 5 := ⟨⟨Or.inl wd_694, wd_0, ⟨by decide, by decide⟩, by decide +kernel⟩, wd_695⟩
theorem cs_L_90 : mh_cs RL 90 yL_face 2 := ⟨⟨Or.inl wd_697, wd_0, ⟨by decide, by decide⟩, by decide +kernel⟩, wd_698⟩
theorem cs_L_93 : mh_cs RL 93 yL_held 2 := ⟨⟨Or.inl wd_700, wd_0, ⟨by decide, by decide⟩, by decide +kernel⟩, wd_701⟩
theorem cs_L_82 : mh_cs RL 82 yJ9_min_7cf53 2 := ⟨⟨Or.inl wd_703, wd_14, ⟨by decide, by decide⟩, by decide +kernel⟩, wd_88⟩
theorem cs_L_87 : mh_cs RL 87 yJ9_max_7cf53 2 := ⟨⟨Or.inl wd_704, wd_14, ⟨by decide, by decide⟩, by decide +kernel⟩, wd_80⟩
theorem cs_L_123 : mh_cs RL 123 yL_run 5 := ⟨⟨Or.inl wd_705, wd_0, ⟨by decide, by decide⟩, by decide +kernel⟩, wd_706⟩
theorem cs_L_102 : mh_cs RL 102 yL_keeps 2 := ⟨⟨Or.inl wd_709, wd_0, ⟨by decide, by decide⟩, by decide +kernel⟩, wd_710⟩
theorem cs_L_105 : mh_cs RL 105 yL_come 3 := ⟨⟨Or.inl wd_712, wd_0, ⟨by decide, by decide⟩, by decide +kernel⟩, wd_713⟩
theorem cs_L_113 : mh_cs RL 113 yL_through 2 := ⟨⟨Or.inl wd_715, wd_0, ⟨by decide, by decide⟩, by decide +kernel⟩, wd_716⟩
theorem cs_L_116 : mh_cs RL 116 yJ9_max_f86c9 2 := ⟨⟨Or.inl wd_718, wd_14, ⟨by decide, by decide⟩, by decide +kernel⟩, wd_719⟩
theorem cs_L_109 : mh_cs RL 109 yL_rubs 3 := ⟨⟨Or.inl wd_721, wd_0, ⟨by decide, by decide⟩, by decide +kernel⟩, wd_722⟩
end
section
/-! what the written functions are made of: a test, an index, a divisor, a name, a joint; the rooms; calls that make no cell -/
def mh_ix {α : Type} (i : Int32) (n : Nat) (f : Nat → Option α) : Option α := if i < 0 ∨ n ≤ i.toNatClampNeg then none else f i.toNatClampNeg
def mh_dv {α : Type} (y : Int32) (f : Option α) : Option α := if y = 0 then none else f
def mh_dvl {α : Type} (y : Int64) (f : Option α) : Option α := if y = 0 then none else f
def mh_b {α β : Type} (x : α) (f : α → β) : β := f x
def mh_j {τ β : Type} (f : τ) (g : τ → β) : β := g f
def mh_fuel : Nat := 100000
abbrev mh_rem (x y : Int32) : Int32 := x - x / y * y
abbrev mh_reml (x y : Int64) : Int64 := x - x / y * y
abbrev mh_ushr (x y : Int32) : Int32 := (x.toUInt32 >>> (y.toUInt32 &&& Int32.toUInt32 31)).toInt32
abbrev mh_ushrl (x : Int64) (y : Int32) : Int64 := (x.toUInt64 >>> (y.toInt64.toUInt64 &&& Int64.toUInt64 63)).toInt64
theorem mh_ix_some {α : Type} {i : Int32} {n : Nat} {f : Nat → Option α} {r : α} (h : mh_ix i n f = some r) : ∃ k : Nat, k = i.toNatClampNeg ∧ ¬ (i < 0 ∨ n ≤ i.toNatClampNeg) ∧ k < n ∧ f k = some r := by
  unfold mh_ix at h
  by_cases hc : i < 0 ∨ n ≤ i.toNatClampNeg
  · rw [if_pos hc] at h; cases h
  · rw [if_neg hc] at h
    exact ⟨_, rfl, hc, by omega, h⟩
theorem mh_dv_some {α : Type} {y : Int32} {f : Option α} {r : α} (h : mh_dv y f = some r) : ¬ y = 0 ∧ f = some r := by
  unfold mh_dv at h
  by_cases hc : y = 0
  · rw [if_pos hc] at h; cases h
  · rw [if_neg hc] at h; exact ⟨hc, h⟩
theorem mh_dvl_some {α : Type} {y : Int64} {f : Option α} {r : α} (h : mh_dvl y f = some r) : ¬ y = 0 ∧ f = some r := by
  unfold mh_dvl at h
  by_cases hc : y = 0
  · rw [if_pos hc] at h; cases h
  · rw [if_neg hc] at h; exact ⟨hc, h⟩
theorem mh_b_some {α β : Type} {x : α} {f : α → Option β} {r : β} (h : mh_b x f = some r) : ∃ y, x = y ∧ f y = some r := ⟨x, rfl, h⟩
theorem mh_bind {α β : Type} {o : Option α} {f : α → Option β} {r : β} (h : o.bind f = some r) : ∃ q, o = some q ∧ f q = some r := by
  cases o with
  | none => cases h
  | some q => exact ⟨q, rfl, h⟩
theorem mh_ifp {α : Type} {c : Prop} {_ : Decidable c} {a b : Option α} {r : α} (hc : c) (h : (if c then a else b) = some r) : a = some r := by rw [if_pos hc] at h; exact h
theorem mh_ifn {α : Type} {c : Prop} {_ : Decidable c} {a b : Option α} {r : α} (hc : ¬ c) (h : (if c then a else b) = some r) : b = some r := by rw [if_neg hc] at h; exact h
theorem mh_jw {τ β : Type} {f : τ} {g : τ → Option β} {r : β} {Goal : Prop} (P : τ → Prop) (h : mh_j f g = some r) (hf : P f) (k : ∀ J, P J → g J = some r → Goal) : Goal := k f hf h
theorem mh_ne {x v : Int32} {n : Int} (h : ¬ x = v) (hv : v.toInt = n) : x.toInt ≠ n := fun e => h (Int32.toInt_inj.mp (e.trans hv.symm))
def mh_rm (d : Nat) : Room := { frames := d, cells := 0, slots := 0, locals := 40 * d }
def mh_ret (r : Option Value) (sh : List mh_C) (I : mh_I) (L : mh_L) : mh_P := fun r1 s1 I1 L1 => r1 = r ∧ s1 = sh ∧ I1 = I ∧ L1 = L
def mh_retz (q : Int32) (sh : List mh_C) (I : mh_I) (L : mh_L) : mh_P := fun r1 s1 I1 L1 => (r1 = some (.int q) ∧ s1 = sh ∧ I1 = I ∧ L1 = L) ∧ (q = 0 ∨ q = 1)
theorem mh_nz {q : Int32} (h : q = 0 ∨ q = 1) : narrow .boolean (.int q) = .int q := by
  rcases h with rfl | rfl <;> rfl
def mh_cpy (I : mh_I) (a0 a1 sp dp n : Nat) : mh_I := fun b => if b = a1 then va_cpy (I a0) (I a1) sp dp n else I b
section MH9
variable {own : String} {cc : ByteArray} {nL : Nat} {rt : Option FieldType} {ini : Bool} {R : Room} {n0 mc ms : Nat} {Ex : mh_X} {Φ : mh_P} {slots : Nat} {sh : List mh_C} {I : mh_I} {L : mh_L} {pc : Nat} {lv : List (Nat × Value)} {st : List Value}
theorem mw_lsub {x y : Int64} (hd : decode cc pc = .ok (.lsub, 1)) (k : mh_W own cc nL rt ini R n0 mc ms Ex Φ slots sh I L (pc + 1) lv (.long (x - y) :: st)) : mh_W own cc nL rt ini R n0 mc ms Ex Φ slots sh I L pc lv (.long y :: .long x :: st) := by
  intro p l e s m args below meth c D ad A cA H locs ls K S
  exact lv_lsub K.x K.b hd (k p l e s m args below meth c D ad A cA H locs ls K S)
theorem mw_iushr {x y : Int32} (hd : decode cc pc = .ok (.iushr, 1)) (k : mh_W own cc nL rt ini R n0 mc ms Ex Φ slots sh I L (pc + 1) lv (.int (mh_ushr x y) :: st)) : mh_W own cc nL rt ini R n0 mc ms Ex Φ slots sh I L pc lv (.int y :: .int x :: st) := by
  intro p l e s m args below meth c D ad A cA H locs ls K S
  exact lv_iushr K.x K.b hd rfl (k p l e s m args below meth c D ad A cA H locs ls K S)
theorem mw_lushr {x : Int64} {y : Int32} (hd : decode cc pc = .ok (.lushr, 1)) (k : mh_W own cc nL rt ini R n0 mc ms Ex Φ slots sh I L (pc + 1) lv (.long (mh_ushrl x y) :: st)) : mh_W own cc nL rt ini R n0 mc ms Ex Φ slots sh I L pc lv (.int y :: .long x :: st) := by
  intro p l e s m args below meth c D ad A cA H locs ls K S
  exact lv_lushr K.x K.b hd rfl (k p l e s m args below meth c D ad A cA H locs ls K S)
theorem mw_l2i {x : Int64} (hd : decode cc pc = .ok (.l2i, 1)) (k : mh_W own cc nL rt ini R n0 mc ms Ex Φ slots sh I L (pc + 1) lv (.int (x.toInt32) :: st)) : mh_W own cc nL rt ini R n0 mc ms Ex Φ slots sh I L pc lv (.long x :: st) := by
  intro p l e s m args below meth c D ad A cA H locs ls K S
  exact lv_l2i K.x K.b hd rfl (k p l e s m args below meth c D ad A cA H locs ls K S)
theorem mw_ldcw {index : Nat} {v : Int32} (hd : decode cc pc = .ok (.ldc_w index, 3)) (hw : Cond.constant own index v ∈ mh_TB) (k : mh_W own cc nL rt ini R n0 mc ms Ex Φ slots sh I L (pc + 3) lv (.int v :: st)) : mh_W own cc nL rt ini R n0 mc ms Ex Φ slots sh I L pc lv st := by
  intro p l e s m args below meth c D ad A cA H locs ls K S
  exact lv_ldcw K.x K.b K.hown (K.tb _ hw) hd (k p l e s m args below meth c D ad A cA H locs ls K S)
/-- a name for what lies on top -/
theorem mw_nmi {x v : Int32} (e : x = v) (k : mh_W own cc nL rt ini R n0 mc ms Ex Φ slots sh I L pc lv (.int v :: st)) : mh_W own cc nL rt ini R n0 mc ms Ex Φ slots sh I L pc lv (.int x :: st) := e ▸ k
theorem mw_nml {x v : Int64} (e : x = v) (k : mh_W own cc nL rt ini R n0 mc ms Ex Φ slots sh I L pc lv (.long v :: st)) : mh_W own cc nL rt ini R n0 mc ms Ex Φ slots sh I L pc lv (.long x :: st) := e ▸ k
theorem mw_xiald {a n kx : Nat} {r : Nat → Option Nat} {i : Int32} (hd : decode cc pc = .ok (.iaload, 1)) (hs : sh[a]? = some (.inr (0, n, r))) (hk : kx = i.toNatClampNeg) (hin : ¬ (i < 0 ∨ n ≤ i.toNatClampNeg)) (kk : mh_W own cc nL rt ini R n0 mc ms Ex Φ slots sh I L (pc + 1) lv (.int (I a kx) :: st)) : mh_W own cc nL rt ini R n0 mc ms Ex Φ slots sh I L pc lv (.int i :: .ref a :: st) := by
  subst hk; exact mw_iald hd hs hin kk
theorem mw_xlald {a n kx : Nat} {r : Nat → Option Nat} {i : Int32} (hd : decode cc pc = .ok (.laload, 1)) (hs : sh[a]? = some (.inr (1, n, r))) (hk : kx = i.toNatClampNeg) (hin : ¬ (i < 0 ∨ n ≤ i.toNatClampNeg)) (kk : mh_W own cc nL rt ini R n0 mc ms Ex Φ slots sh I L (pc + 1) lv (.long (L a kx) :: st)) : mh_W own cc nL rt ini R n0 mc ms Ex Φ slots sh I L pc lv (.int i :: .ref a :: st) := by
  subst hk; exact mw_lald hd hs hin kk
theorem mw_xiast {a n kx : Nat} {r : Nat → Option Nat} {i x : Int32} (hd : decode cc pc = .ok (.iastore, 1)) (hs : sh[a]? = some (.inr (0, n, r))) (hk : kx = i.toNatClampNeg) (hin : ¬ (i < 0 ∨ n ≤ i.toNatClampNeg)) (kk : mh_W own cc nL rt ini R n0 mc ms Ex Φ slots sh (mh_u I a kx x) L (pc + 1) lv st) : mh_W own cc nL rt ini R n0 mc ms Ex Φ slots sh I L pc lv (.int x :: .int i :: .ref a :: st) := by
  subst hk; exact mw_iast hd hs hin kk
theorem mw_xlast {a n kx : Nat} {r : Nat → Option Nat} {i : Int32} {x : Int64} (hd : decode cc pc = .ok (.lastore, 1)) (hs : sh[a]? = some (.inr (1, n, r))) (hk : kx = i.toNatClampNeg) (hin : ¬ (i < 0 ∨ n ≤ i.toNatClampNeg)) (kk : mh_W own cc nL rt ini R n0 mc ms Ex Φ slots sh I (mh_ul L a kx x) (pc + 1) lv st) : mh_W own cc nL rt ini R n0 mc ms Ex Φ slots sh I L pc lv (.long x :: .int i :: .ref a :: st) := by
  subst hk; exact mw_last hd hs hin kk
theorem mw_xaald {a n t b kx : Nat} {r : Nat → Option Nat} {i : Int32} (hd : decode cc pc = .ok (.aaload, 1)) (hs : sh[a]? = some (.inr (t + 3, n, r))) (hk : kx = i.toNatClampNeg) (hin : ¬ (i < 0 ∨ n ≤ i.toNatClampNeg)) (hb : r kx = some b) (kk : mh_W own cc nL rt ini R n0 mc ms Ex Φ slots sh I L (pc + 1) lv (.ref b :: st)) : mh_W own cc nL rt ini R n0 mc ms Ex Φ slots sh I L pc lv (.int i :: .ref a :: st) := by
  subst hk; exact mw_aald hd hs hin hb kk
variable {d dc index n ci b : Nat} {y : MethodName} {bytes : ByteArray} {maxL : Nat} {ret : Option FieldType} {fs : List mh_F} {T : u_T} {N : Nat} {sh1 : List mh_C} {I1 : mh_I} {L1 : mh_L}
theorem mh_rm_ok (h : dc < d ∧ maxL ≤ 21) : (mh_rm dc).frames + 1 ≤ (mh_rm d).frames ∧ 8 + (maxL + 11) + (mh_rm dc).locals ≤ (mh_rm d).locals := by
  have h1 := h.1
  have h2 := h.2
  refine ⟨h1, ?_⟩
  show 8 + (maxL + 11) + 40 * dc ≤ 40 * d
  omega
theorem mw_vr {v : Value} (q : mh_cv own index y n) (hcode : Cond.code y bytes maxL ret ∈ mh_TB) (hd : decode cc pc = .ok (.invokevirtual index, 3)) (As : List Value) (stk : List Value) (hstk : stk = As.reverse ++ .ref b :: st) (hn : As.length = n) (hs : sh[b]? = some (.inl (ci, fs))) (hci : vwCl[ci]? = some (y.cls, T, N))
    (hC : mh_CT y bytes maxL ret (mh_rm dc) sh I L (.ref b :: As) (mh_ret (some v) sh1 I1 L1)) (hR : dc < d ∧ maxL ≤ 21) (hrest : (st.map fun v => v.category).sum ≤ 8) (hz : sh.length = n0 ∧ sh1.length = n0) (kk : mh_W own cc nL rt ini (mh_rm d) n0 0 0 Ex Φ 0 sh1 I1 L1 (pc + 3) lv (v :: st)) : mh_W own cc nL rt ini (mh_rm d) n0 0 0 Ex Φ 0 sh I L pc lv stk :=
  mw_callV q hcode hd As stk hstk hn hs hci hC (mh_rm_ok hR) hrest ⟨by rw [hz.1, Nat.sub_self]; exact Nat.le_refl 0, Nat.le_refl 0⟩ (fun r s1 J1 K1 hφ => by obtain ⟨rfl, rfl, rfl, rfl⟩ := hφ; exact ⟨by rw [hz.1, hz.2]; rfl, kk⟩)
theorem mw_vv (q : mh_cv own index y n) (hcode : Cond.code y bytes maxL ret ∈ mh_TB) (hd : decode cc pc = .ok (.invokevirtual index, 3)) (As : List Value) (stk : List Value) (hstk : stk = As.reverse ++ .ref b :: st) (hn : As.length = n) (hs : sh[b]? = some (.inl (ci, fs))) (hci : vwCl[ci]? = some (y.cls, T, N))
    (hC : mh_CT y bytes maxL ret (mh_rm dc) sh I L (.ref b :: As) (mh_ret none sh1 I1 L1)) (hR : dc < d ∧ maxL ≤ 21) (hrest : (st.map fun v => v.category).sum ≤ 8) (hz : sh.length = n0 ∧ sh1.length = n0) (kk : mh_W own cc nL rt ini (mh_rm d) n0 0 0 Ex Φ 0 sh1 I1 L1 (pc + 3) lv st) : mh_W own cc nL rt ini (mh_rm d) n0 0 0 Ex Φ 0 sh I L pc lv stk :=
  mw_callV q hcode hd As stk hstk hn hs hci hC (mh_rm_ok hR) hrest ⟨by rw [hz.1, Nat.sub_self]; exact Nat.le_refl 0, Nat.le_refl 0⟩ (fun r s1 J1 K1 hφ => by obtain ⟨rfl, rfl, rfl, rfl⟩ := hφ; exact ⟨by rw [hz.1, hz.2]; rfl, kk⟩)
theorem mw_vz {v : Int32} (q : mh_cv own index y n) (hcode : Cond.code y bytes maxL ret ∈ mh_TB) (hd : decode cc pc = .ok (.invokevirtual index, 3)) (As : List Value) (stk : List Value) (hstk : stk = As.reverse ++ .ref b :: st) (hn : As.length = n) (hs : sh[b]? = some (.inl (ci, fs))) (hci : vwCl[ci]? = some (y.cls, T, N))
    (hC : mh_CT y bytes maxL ret (mh_rm dc) sh I L (.ref b :: As) (mh_retz v sh1 I1 L1)) (hR : dc < d ∧ maxL ≤ 21) (hrest : (st.map fun v => v.category).sum ≤ 8) (hz : sh.length = n0 ∧ sh1.length = n0) (kk : (v = 0 ∨ v = 1) → mh_W own cc nL rt ini (mh_rm d) n0 0 0 Ex Φ 0 sh1 I1 L1 (pc + 3) lv (.int v :: st)) : mh_W own cc nL rt ini (mh_rm d) n0 0 0 Ex Φ 0 sh I L pc lv stk :=
  mw_callV q hcode hd As stk hstk hn hs hci hC (mh_rm_ok hR) hrest ⟨by rw [hz.1, Nat.sub_self]; exact Nat.le_refl 0, Nat.le_refl 0⟩ (fun r s1 J1 K1 hφ => by obtain ⟨⟨rfl, rfl, rfl, rfl⟩, hv⟩ := hφ; exact ⟨by rw [hz.1, hz.2]; rfl, kk hv⟩)
theorem mw_sr {v : Value} (q : mh_cs own index y n) (hcode : Cond.code y bytes maxL ret ∈ mh_TB) (hd : decode cc pc = .ok (.invokestatic index, 3)) (As : List Value) (stk : List Value) (hstk : stk = As.reverse ++ st) (hn : As.length = n)
    (hC : mh_CT y bytes maxL ret (mh_rm dc) sh I L As (mh_ret (some v) sh1 I1 L1)) (hR : dc < d ∧ maxL ≤ 21) (hrest : (st.map fun v => v.category).sum ≤ 8) (hz : sh.length = n0 ∧ sh1.length = n0) (kk : mh_W own cc nL rt ini (mh_rm d) n0 0 0 Ex Φ 0 sh1 I1 L1 (pc + 3) lv (v :: st)) : mh_W own cc nL rt ini (mh_rm d) n0 0 0 Ex Φ 0 sh I L pc lv stk :=
  mw_callS q hcode hd As stk hstk hn hC (mh_rm_ok hR) hrest ⟨by rw [hz.1, Nat.sub_self]; exact Nat.le_refl 0, Nat.le_refl 0⟩ (fun r s1 J1 K1 hφ => by obtain ⟨rfl, rfl, rfl, rfl⟩ := hφ; exact ⟨by rw [hz.1, hz.2]; rfl, kk⟩)
theorem mw_sv (q : mh_cs own index y n) (hcode : Cond.code y bytes maxL ret ∈ mh_TB) (hd : decode cc pc = .ok (.invokestatic index, 3)) (As : List Value) (stk : List Value) (hstk : stk = As.reverse ++ st) (hn : As.length = n)
    (hC : mh_CT y bytes maxL ret (mh_rm dc) sh I L As (mh_ret none sh1 I1 L1)) (hR : dc < d ∧ maxL ≤ 21) (hrest : (st.map fun v => v.category).sum ≤ 8) (hz : sh.length = n0 ∧ sh1.length = n0) (kk : mh_W own cc nL rt ini (mh_rm d) n0 0 0 Ex Φ 0 sh1 I1 L1 (pc + 3) lv st) : mh_W own cc nL rt ini (mh_rm d) n0 0 0 Ex Φ 0 sh I L pc lv stk :=
  mw_callS q hcode hd As stk hstk hn hC (mh_rm_ok hR) hrest ⟨by rw [hz.1, Nat.sub_self]; exact Nat.le_refl 0, Nat.le_refl 0⟩ (fun r s1 J1 K1 hφ => by obtain ⟨rfl, rfl, rfl, rfl⟩ := hφ; exact ⟨by rw [hz.1, hz.2]; rfl, kk⟩)
theorem mw_sz {v : Int32} (q : mh_cs own index y n) (hcode : Cond.code y bytes maxL ret ∈ mh_TB) (hd : decode cc pc = .ok (.invokestatic index, 3)) (As : List Value) (stk : List Value) (hstk : stk = As.reverse ++ st) (hn : As.length = n)
    (hC : mh_CT y bytes maxL ret (mh_rm dc) sh I L As (mh_retz v sh1 I1 L1)) (hR : dc < d ∧ maxL ≤ 21) (hrest : (st.map fun v => v.category).sum ≤ 8) (hz : sh.length = n0 ∧ sh1.length = n0) (kk : (v = 0 ∨ v = 1) → mh_W own cc nL rt ini (mh_rm d) n0 0 0 Ex Φ 0 sh1 I1 L1 (pc + 3) lv (.int v :: st)) : mh_W own cc nL rt ini (mh_rm d) n0 0 0 Ex Φ 0 sh I L pc lv stk :=
  mw_callS q hcode hd As stk hstk hn hC (mh_rm_ok hR) hrest ⟨by rw [hz.1, Nat.sub_self]; exact Nat.le_refl 0, Nat.le_refl 0⟩ (fun r s1 J1 K1 hφ => by obtain ⟨⟨rfl, rfl, rfl, rfl⟩, hv⟩ := hφ; exact ⟨by rw [hz.1, hz.2]; rfl, kk hv⟩)
theorem mw_tr {v : Value} {i : Nat} (hi : i < 5) (q : mh_cv own index y n) (hcode : Cond.code y bytes maxL ret ∈ mh_TB) (hd : decode cc pc = .ok (.invokevirtual index, 3)) (As : List Value) (stk : List Value) (hstk : stk = As.reverse ++ .ref (1000 + i) :: st) (hn : As.length = n) (hyc : y.cls = "java/lang/String")
    (hC : mh_CT y bytes maxL ret (mh_rm dc) sh I L (.ref (1000 + i) :: As) (mh_ret (some v) sh1 I1 L1)) (hR : dc < d ∧ maxL ≤ 21) (hrest : (st.map fun v => v.category).sum ≤ 8) (hz : sh.length = n0 ∧ sh1.length = n0) (kk : mh_W own cc nL rt ini (mh_rm d) n0 0 0 Ex Φ 0 sh1 I1 L1 (pc + 3) lv (v :: st)) : mh_W own cc nL rt ini (mh_rm d) n0 0 0 Ex Φ 0 sh I L pc lv stk :=
  mw_callVS hi q hcode hd As stk hstk hn hyc hC (mh_rm_ok hR) hrest ⟨by rw [hz.1, Nat.sub_self]; exact Nat.le_refl 0, Nat.le_refl 0⟩ (fun r s1 J1 K1 hφ => by obtain ⟨rfl, rfl, rfl, rfl⟩ := hφ; exact ⟨by rw [hz.1, hz.2]; rfl, kk⟩)
theorem mw_tz {v : Int32} {i : Nat} (hi : i < 5) (q : mh_cv own index y n) (hcode : Cond.code y bytes maxL ret ∈ mh_TB) (hd : decode cc pc = .ok (.invokevirtual index, 3)) (As : List Value) (stk : List Value) (hstk : stk = As.reverse ++ .ref (1000 + i) :: st) (hn : As.length = n) (hyc : y.cls = "java/lang/String")
    (hC : mh_CT y bytes maxL ret (mh_rm dc) sh I L (.ref (1000 + i) :: As) (mh_retz v sh1 I1 L1)) (hR : dc < d ∧ maxL ≤ 21) (hrest : (st.map fun v => v.category).sum ≤ 8) (hz : sh.length = n0 ∧ sh1.length = n0) (kk : (v = 0 ∨ v = 1) → mh_W own cc nL rt ini (mh_rm d) n0 0 0 Ex Φ 0 sh1 I1 L1 (pc + 3) lv (.int v :: st)) : mh_W own cc nL rt ini (mh_rm d) n0 0 0 Ex Φ 0 sh I L pc lv stk :=
  mw_callVS hi q hcode hd As stk hstk hn hyc hC (mh_rm_ok hR) hrest ⟨by rw [hz.1, Nat.sub_self]; exact Nat.le_refl 0, Nat.le_refl 0⟩ (fun r s1 J1 K1 hφ => by obtain ⟨⟨rfl, rfl, rfl, rfl⟩, hv⟩ := hφ; exact ⟨by rw [hz.1, hz.2]; rfl, kk hv⟩)
theorem mw_zret {v : Int32} (hd : decode cc pc = .ok (.ireturn, 1)) (hr : rt = some .boolean) (hv : v = 0 ∨ v = 1) (hc : sh.length - n0 ≤ mc) (hsl : slots ≤ ms) (hq : Φ (some (.int v)) sh I L) : mh_W own cc nL rt ini R n0 mc ms Ex Φ slots sh I L pc lv [.int v] := mw_iret hd hr (mh_nz hv) hc hsl hq
end MH9
/-! the shapes of the two objects with all that they hold -/
def mh_n : Nat → Option Nat := fun _ => none
abbrev fsX0 (a : Nat) : List mh_F := [.inr (some (a + 1)), .inl 1, .inl 1]
abbrev fsX1 (a : Nat) : List mh_F := [.inr (some (a + 1)), .inr (some (a + 2)), .inl 1, .inl 1, .inl 0]
abbrev fsX2 (a : Nat) : List mh_F := [.inr (some (a + 1)), .inl 0, .inl 0]
abbrev fsX3 (a : Nat) (into : Option Nat) : List mh_F := [.inr (some (a + 1)), .inl 0, .inl 0, .inl 0, .inl 0, .inl 0, .inr into]
abbrev fsX4 (a : Nat) : List mh_F := [.inr (some (a + 1)), .inl 0, .inr (some (a + 2)), .inr (some (a + 3)), .inl 0]
abbrev fsX5 : List mh_F := [.inr (some 1), .inr (some 4), .inl 0, .inr (some 7), .inr (some 9), .inl 0, .inr (some 10), .inr (some 12), .inr (some 13)]
abbrev mh_row (n : Nat) : mh_C := .inr (0, n, mh_n)
def mh_rT : Nat → Option Nat := fun k => if k < 6 then some (14 + 4 * k) else none
def mh_rS : Nat → Option Nat := fun k => if k < 4 then some (38 + 2 * k) else none
abbrev mh_tx4 (a : Nat) : List mh_C := [.inl (4, fsX4 a), mh_row 160, mh_row 3, mh_row 40]
abbrev mh_sh2 (a : Nat) : List mh_C := [.inl (2, fsX2 a), mh_row 48]
def SHX (into : Option Nat) : List mh_C :=
  [.inl (5, fsX5), .inl (1, fsX1 1), mh_row 48, mh_row 48, .inl (1, fsX1 4), mh_row 48, mh_row 48, .inl (3, fsX3 7 into), mh_row 160, .inr (4, 6, mh_rT), .inl (0, fsX0 10), mh_row 48, .inr (3, 4, mh_rS), .inr (1, 48, mh_n),
   .inl (4, fsX4 14), mh_row 160, mh_row 3, mh_row 40, .inl (4, fsX4 18), mh_row 160, mh_row 3, mh_row 40, .inl (4, fsX4 22), mh_row 160, mh_row 3, mh_row 40, .inl (4, fsX4 26), mh_row 160, mh_row 3, mh_row 40, .inl (4, fsX4 30), mh_row 160, mh_row 3, mh_row 40, .inl (4, fsX4 34), mh_row 160, mh_row 3, mh_row 40,
   .inl (2, fsX2 38), mh_row 48, .inl (2, fsX2 40), mh_row 48, .inl (2, fsX2 42), mh_row 48, .inl (2, fsX2 44), mh_row 48]
theorem SHX_len (into : Option Nat) : (SHX into).length = 46 := rfl
def hs_X0 (sh : List mh_C) (a : Nat) : Prop := sh[a]? = some (.inl (0, fsX0 a)) ∧ sh[a + 1]? = some (mh_row 48)
def hs_X1 (sh : List mh_C) (a : Nat) : Prop := sh[a]? = some (.inl (1, fsX1 a)) ∧ sh[a + 1]? = some (mh_row 48) ∧ sh[a + 2]? = some (mh_row 48)
def hs_X2 (sh : List mh_C) (a : Nat) : Prop := sh[a]? = some (.inl (2, fsX2 a)) ∧ sh[a + 1]? = some (mh_row 48)
def hs_X4 (sh : List mh_C) (a : Nat) : Prop := sh[a]? = some (.inl (4, fsX4 a)) ∧ sh[a + 1]? = some (mh_row 160) ∧ sh[a + 2]? = some (mh_row 3) ∧ sh[a + 3]? = some (mh_row 40)
theorem sx_fall (into : Option Nat) : hs_X0 (SHX into) 10 := ⟨rfl, rfl⟩
theorem sx_piece (into : Option Nat) : hs_X1 (SHX into) 1 := ⟨rfl, rfl, rfl⟩
theorem sx_kept (into : Option Nat) : hs_X1 (SHX into) 4 := ⟨rfl, rfl, rfl⟩
theorem sx_text (into : Option Nat) {k : Nat} (h : k < 6) : hs_X4 (SHX into) (14 + 4 * k) := by
  rcases (show k = 0 ∨ k = 1 ∨ k = 2 ∨ k = 3 ∨ k = 4 ∨ k = 5 by omega) with rfl | rfl | rfl | rfl | rfl | rfl <;> exact ⟨rfl, rfl, rfl, rfl⟩
theorem sx_sheet (into : Option Nat) {k : Nat} (h : k < 4) : hs_X2 (SHX into) (38 + 2 * k) := by
  rcases (show k = 0 ∨ k = 1 ∨ k = 2 ∨ k = 3 by omega) with rfl | rfl | rfl | rfl <;> exact ⟨rfl, rfl⟩
theorem sx_rT {k : Nat} (h : k < 6) : mh_rT k = some (14 + 4 * k) := if_pos h
theorem sx_rS {k : Nat} (h : k < 4) : mh_rS k = some (38 + 2 * k) := if_pos h
theorem mh_ret_rfl {r : Option Value} {sh : List mh_C} {I : mh_I} {L : mh_L} : mh_ret r sh I L r sh I L := ⟨rfl, rfl, rfl, rfl⟩
theorem mh_retz_rfl {q : Int32} {sh : List mh_C} {I : mh_I} {L : mh_L} (h : q = 0 ∨ q = 1) : mh_retz q sh I L (some (.int q)) sh I L := ⟨⟨rfl, rfl, rfl, rfl⟩, h⟩
theorem sx_T4 {T1 T2 : Option Nat} {a : Nat} (h : hs_X4 (SHX T1) a) : hs_X4 (SHX T2) a := by
  have key : ∀ (b : Nat) (x : mh_C), (SHX T1)[b]? = some x → (∀ fs, x ≠ .inl (3, fs)) → (SHX T2)[b]? = some x := by
    intro b x hb hx
    have e : SHX T2 = (SHX T1).set 7 (.inl (3, fsX3 7 T2)) := rfl
    by_cases h7 : b = 7
    · subst h7
      have : (SHX T1)[7]? = some (.inl (3, fsX3 7 T1)) := rfl
      rw [this] at hb
      exact absurd (Option.some.inj hb).symm (hx _)
    · rw [e, List.getElem?_set_ne (Ne.symm h7)]
      exact hb
  exact ⟨key _ _ h.1 (fun fs e => by cases e), key _ _ h.2.1 (fun fs e => by cases e), key _ _ h.2.2.1 (fun fs e => by cases e), key _ _ h.2.2.2 (fun fs e => by cases e)⟩
def mh_max (x y : Int32) : Int32 := if x < y then y else x
def mh_min (x y : Int32) : Int32 := if y < x then y else x
section MH10
variable {own : String} {cc : ByteArray} {nL : Nat} {rt : Option FieldType} {ini : Bool} {n0 : Nat} {Ex : mh_X} {Φ : mh_P} {sh : List mh_C} {I : mh_I} {L : mh_L} {pc : Nat} {lv : List (Nat × Value)} {st : List Value} {d index : Nat} {x y : Int32}
theorem mw_mmax (hl : Cond.methodLink own index yJ9_max_7cf53 ∈ mh_TB) (hw : Cond.static yJ9_max_7cf53 ∈ mh_TB ∧ Cond.initialized RJ9 ∈ mh_TB ∧ Cond.code yJ9_max_7cf53 cJ9_max_7cf53 2 (some .int) ∈ mh_TB) (hd : decode cc pc = .ok (.invokestatic index, 3)) (h1 : 0 < d) (hrest : (st.map fun v => v.category).sum ≤ 8) (hz : sh.length - n0 ≤ 0) (kk : mh_W own cc nL rt ini (mh_rm d) n0 0 0 Ex Φ 0 sh I L (pc + 3) lv (.int (mh_max x y) :: st)) : mh_W own cc nL rt ini (mh_rm d) n0 0 0 Ex Φ 0 sh I L pc lv (.int y :: .int x :: st) := by
  intro p l e s m args below meth c D ad A cA H locs ls K S
  exact va_mmax K.x K.b (K.ml.trans S.hlv.1.symm) K.hown (K.tb _ hl) (K.tb _ hw.1) (K.tb _ hw.2.1) (K.tb _ hw.2.2) (R := mh_rm d) (show 1 ≤ d from h1) (by rw [mh_cats]; show _ + 13 ≤ 40 * d; omega) hz (Nat.le_refl 0) hd (kk p l e s m args below meth c D ad A cA H locs ls K S)
theorem mw_mmin (hl : Cond.methodLink own index yJ9_min_7cf53 ∈ mh_TB) (hw : Cond.static yJ9_min_7cf53 ∈ mh_TB ∧ Cond.initialized RJ9 ∈ mh_TB ∧ Cond.code yJ9_min_7cf53 cJ9_min_7cf53 2 (some .int) ∈ mh_TB) (hd : decode cc pc = .ok (.invokestatic index, 3)) (h1 : 0 < d) (hrest : (st.map fun v => v.category).sum ≤ 8) (hz : sh.length - n0 ≤ 0) (kk : mh_W own cc nL rt ini (mh_rm d) n0 0 0 Ex Φ 0 sh I L (pc + 3) lv (.int (mh_min x y) :: st)) : mh_W own cc nL rt ini (mh_rm d) n0 0 0 Ex Φ 0 sh I L pc lv (.int y :: .int x :: st) := by
  intro p l e s m args below meth c D ad A cA H locs ls K S
  exact va_mmin K.x K.b (K.ml.trans S.hlv.1.symm) K.hown (K.tb _ hl) (K.tb _ hw.1) (K.tb _ hw.2.1) (K.tb _ hw.2.2) (R := mh_rm d) (show 1 ≤ d from h1) (by rw [mh_cats]; show _ + 13 ≤ 40 * d; omega) hz (Nat.le_refl 0) hd (kk p l e s m args below meth c D ad A cA H locs ls K S)
end MH10
end
