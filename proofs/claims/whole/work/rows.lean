section
-- ===== PART A: goes FIRST, ahead of the names: the tables' words, and 'selects' of the private methods out of them =====
/-- a private method of a class that the tables say can be made, by its rows of tables_1 -/
def lw_okq (q : MethodName × Nat) : Prop := (q.1.cls ≠ "java/lang/invoke/MethodHandle" ∧ q.1.cls ≠ "java/lang/invoke/VarHandle") ∧ Cond.instantiable q.1.cls q.2 ∈ tables_1 ∧ Cond.privateMethod q.1 ∈ tables_1 ∧ Cond.instanceMethod q.1 ∈ tables_1
theorem lw_p0 : lw_okq (⟨"StitchLetFall$Tape", "add", "(I)V"⟩, 7) := ⟨⟨by decide +kernel, by decide +kernel⟩, List.mem_of_getElem? (i := 58) (by decide +kernel), List.mem_of_getElem? (i := 199) (by decide +kernel), List.mem_of_getElem? (i := 200) (by decide +kernel)⟩
theorem lw_p1 : lw_okq (⟨"StitchLetFall", "readTape", "()I"⟩, 9) := ⟨⟨by decide +kernel, by decide +kernel⟩, List.mem_of_getElem? (i := 17) (by decide +kernel), List.mem_of_getElem? (i := 203) (by decide +kernel), List.mem_of_getElem? (i := 204) (by decide +kernel)⟩
theorem lw_p2 : lw_okq (⟨"StitchLetFall$Tape", "readInto", "(LStitchLetFall$Text;)I"⟩, 7) := ⟨⟨by decide +kernel, by decide +kernel⟩, List.mem_of_getElem? (i := 58) (by decide +kernel), List.mem_of_getElem? (i := 207) (by decide +kernel), List.mem_of_getElem? (i := 208) (by decide +kernel)⟩
theorem lw_p3 : lw_okq (⟨"StitchLetFall$Text", "clear", "()V"⟩, 5) := ⟨⟨by decide +kernel, by decide +kernel⟩, List.mem_of_getElem? (i := 109) (by decide +kernel), List.mem_of_getElem? (i := 211) (by decide +kernel), List.mem_of_getElem? (i := 212) (by decide +kernel)⟩
theorem lw_p4 : lw_okq (⟨"StitchLetFall$Tape", "advance", "()V"⟩, 7) := ⟨⟨by decide +kernel, by decide +kernel⟩, List.mem_of_getElem? (i := 58) (by decide +kernel), List.mem_of_getElem? (i := 215) (by decide +kernel), List.mem_of_getElem? (i := 216) (by decide +kernel)⟩
theorem lw_p5 : lw_okq (⟨"StitchLetFall$Tape", "wordToken", "(I)I"⟩, 7) := ⟨⟨by decide +kernel, by decide +kernel⟩, List.mem_of_getElem? (i := 58) (by decide +kernel), List.mem_of_getElem? (i := 225) (by decide +kernel), List.mem_of_getElem? (i := 226) (by decide +kernel)⟩
theorem lw_p6 : lw_okq (⟨"StitchLetFall$Tape", "standsAt", "(II)Z"⟩, 7) := ⟨⟨by decide +kernel, by decide +kernel⟩, List.mem_of_getElem? (i := 58) (by decide +kernel), List.mem_of_getElem? (i := 232) (by decide +kernel), List.mem_of_getElem? (i := 233) (by decide +kernel)⟩
theorem lw_p7 : lw_okq (⟨"StitchLetFall$Tape", "chain", "(II)Z"⟩, 7) := ⟨⟨by decide +kernel, by decide +kernel⟩, List.mem_of_getElem? (i := 58) (by decide +kernel), List.mem_of_getElem? (i := 242) (by decide +kernel), List.mem_of_getElem? (i := 243) (by decide +kernel)⟩
theorem lw_p8 : lw_okq (⟨"StitchLetFall$Tape", "one", "(I)Z"⟩, 7) := ⟨⟨by decide +kernel, by decide +kernel⟩, List.mem_of_getElem? (i := 58) (by decide +kernel), List.mem_of_getElem? (i := 246) (by decide +kernel), List.mem_of_getElem? (i := 247) (by decide +kernel)⟩
theorem lw_p9 : lw_okq (⟨"StitchLetFall$Text", "add", "(I)V"⟩, 5) := ⟨⟨by decide +kernel, by decide +kernel⟩, List.mem_of_getElem? (i := 109) (by decide +kernel), List.mem_of_getElem? (i := 250) (by decide +kernel), List.mem_of_getElem? (i := 251) (by decide +kernel)⟩
theorem lw_p10 : lw_okq (⟨"StitchLetFall$Tape", "opened", "(I)Z"⟩, 7) := ⟨⟨by decide +kernel, by decide +kernel⟩, List.mem_of_getElem? (i := 58) (by decide +kernel), List.mem_of_getElem? (i := 254) (by decide +kernel), List.mem_of_getElem? (i := 255) (by decide +kernel)⟩
theorem lw_p11 : lw_okq (⟨"StitchLetFall$Tape", "negation", "(I)Z"⟩, 7) := ⟨⟨by decide +kernel, by decide +kernel⟩, List.mem_of_getElem? (i := 58) (by decide +kernel), List.mem_of_getElem? (i := 258) (by decide +kernel), List.mem_of_getElem? (i := 259) (by decide +kernel)⟩
theorem lw_p12 : lw_okq (⟨"StitchLetFall$Text", "endPart", "(I)V"⟩, 5) := ⟨⟨by decide +kernel, by decide +kernel⟩, List.mem_of_getElem? (i := 109) (by decide +kernel), List.mem_of_getElem? (i := 265) (by decide +kernel), List.mem_of_getElem? (i := 266) (by decide +kernel)⟩
theorem lw_p13 : lw_okq (⟨"StitchLetFall", "law", "()LStitchLetFall$Text;"⟩, 9) := ⟨⟨by decide +kernel, by decide +kernel⟩, List.mem_of_getElem? (i := 17) (by decide +kernel), List.mem_of_getElem? (i := 334) (by decide +kernel), List.mem_of_getElem? (i := 335) (by decide +kernel)⟩
theorem lw_p14 : lw_okq (⟨"StitchLetFall$Text", "says", "(ILStitchLetFall$Piece;II)I"⟩, 5) := ⟨⟨by decide +kernel, by decide +kernel⟩, List.mem_of_getElem? (i := 109) (by decide +kernel), List.mem_of_getElem? (i := 338) (by decide +kernel), List.mem_of_getElem? (i := 339) (by decide +kernel)⟩
theorem lw_p15 : lw_okq (⟨"StitchLetFall$Text", "take", "(ILStitchLetFall$Piece;II)V"⟩, 5) := ⟨⟨by decide +kernel, by decide +kernel⟩, List.mem_of_getElem? (i := 109) (by decide +kernel), List.mem_of_getElem? (i := 345) (by decide +kernel), List.mem_of_getElem? (i := 346) (by decide +kernel)⟩
def lw_privs_1 : List (MethodName × Nat) := [(⟨"StitchLetFall$Tape", "add", "(I)V"⟩, 7), (⟨"StitchLetFall", "readTape", "()I"⟩, 9), (⟨"StitchLetFall$Tape", "readInto", "(LStitchLetFall$Text;)I"⟩, 7), (⟨"StitchLetFall$Text", "clear", "()V"⟩, 5), (⟨"StitchLetFall$Tape", "advance", "()V"⟩, 7), (⟨"StitchLetFall$Tape", "wordToken", "(I)I"⟩, 7), (⟨"StitchLetFall$Tape", "standsAt", "(II)Z"⟩, 7), (⟨"StitchLetFall$Tape", "chain", "(II)Z"⟩, 7), (⟨"StitchLetFall$Tape", "one", "(I)Z"⟩, 7), (⟨"StitchLetFall$Text", "add", "(I)V"⟩, 5), (⟨"StitchLetFall$Tape", "opened", "(I)Z"⟩, 7), (⟨"StitchLetFall$Tape", "negation", "(I)Z"⟩, 7), (⟨"StitchLetFall$Text", "endPart", "(I)V"⟩, 5), (⟨"StitchLetFall", "law", "()LStitchLetFall$Text;"⟩, 9), (⟨"StitchLetFall$Text", "says", "(ILStitchLetFall$Piece;II)I"⟩, 5), (⟨"StitchLetFall$Text", "take", "(ILStitchLetFall$Piece;II)V"⟩, 5)]
theorem lw_r1 : ∀ q ∈ lw_privs_1, lw_okq q := List.forall_mem_cons.mpr ⟨lw_p0, List.forall_mem_cons.mpr ⟨lw_p1, List.forall_mem_cons.mpr ⟨lw_p2, List.forall_mem_cons.mpr ⟨lw_p3, List.forall_mem_cons.mpr ⟨lw_p4, List.forall_mem_cons.mpr ⟨lw_p5, List.forall_mem_cons.mpr ⟨lw_p6, List.forall_mem_cons.mpr ⟨lw_p7, List.forall_mem_cons.mpr ⟨lw_p8, List.forall_mem_cons.mpr ⟨lw_p9, List.forall_mem_cons.mpr ⟨lw_p10, List.forall_mem_cons.mpr ⟨lw_p11, List.forall_mem_cons.mpr ⟨lw_p12, List.forall_mem_cons.mpr ⟨lw_p13, List.forall_mem_cons.mpr ⟨lw_p14, List.forall_mem_cons.mpr ⟨lw_p15, fun _ h => absurd h List.not_mem_nil⟩⟩⟩⟩⟩⟩⟩⟩⟩⟩⟩⟩⟩⟩⟩⟩
theorem lw_p16 : lw_okq (⟨"StitchLetFall$Text", "push", "(I)V"⟩, 5) := ⟨⟨by decide +kernel, by decide +kernel⟩, List.mem_of_getElem? (i := 109) (by decide +kernel), List.mem_of_getElem? (i := 349) (by decide +kernel), List.mem_of_getElem? (i := 350) (by decide +kernel)⟩
theorem lw_p17 : lw_okq (⟨"StitchLetFall$Text", "pop", "()I"⟩, 5) := ⟨⟨by decide +kernel, by decide +kernel⟩, List.mem_of_getElem? (i := 109) (by decide +kernel), List.mem_of_getElem? (i := 359) (by decide +kernel), List.mem_of_getElem? (i := 360) (by decide +kernel)⟩
theorem lw_p18 : lw_okq (⟨"StitchLetFall$Piece", "become", "(III)V"⟩, 5) := ⟨⟨by decide +kernel, by decide +kernel⟩, List.mem_of_getElem? (i := 25) (by decide +kernel), List.mem_of_getElem? (i := 380) (by decide +kernel), List.mem_of_getElem? (i := 381) (by decide +kernel)⟩
theorem lw_p19 : lw_okq (⟨"StitchLetFall$Piece", "placesBelow", "(I)I"⟩, 5) := ⟨⟨by decide +kernel, by decide +kernel⟩, List.mem_of_getElem? (i := 25) (by decide +kernel), List.mem_of_getElem? (i := 395) (by decide +kernel), List.mem_of_getElem? (i := 396) (by decide +kernel)⟩
theorem lw_p20 : lw_okq (⟨"StitchLetFall$Piece", "over", "(I)J"⟩, 5) := ⟨⟨by decide +kernel, by decide +kernel⟩, List.mem_of_getElem? (i := 25) (by decide +kernel), List.mem_of_getElem? (i := 420) (by decide +kernel), List.mem_of_getElem? (i := 421) (by decide +kernel)⟩
theorem lw_p21 : lw_okq (⟨"StitchLetFall", "hangingOn", "(I)J"⟩, 9) := ⟨⟨by decide +kernel, by decide +kernel⟩, List.mem_of_getElem? (i := 17) (by decide +kernel), List.mem_of_getElem? (i := 425) (by decide +kernel), List.mem_of_getElem? (i := 426) (by decide +kernel)⟩
theorem lw_p22 : lw_okq (⟨"StitchLetFall$Piece", "under", "(I)J"⟩, 5) := ⟨⟨by decide +kernel, by decide +kernel⟩, List.mem_of_getElem? (i := 25) (by decide +kernel), List.mem_of_getElem? (i := 429) (by decide +kernel), List.mem_of_getElem? (i := 430) (by decide +kernel)⟩
theorem lw_p23 : lw_okq (⟨"StitchLetFall", "bearing", "(I)J"⟩, 9) := ⟨⟨by decide +kernel, by decide +kernel⟩, List.mem_of_getElem? (i := 17) (by decide +kernel), List.mem_of_getElem? (i := 434) (by decide +kernel), List.mem_of_getElem? (i := 435) (by decide +kernel)⟩
theorem lw_p24 : lw_okq (⟨"StitchLetFall$Piece", "keeps", "(I)Z"⟩, 5) := ⟨⟨by decide +kernel, by decide +kernel⟩, List.mem_of_getElem? (i := 25) (by decide +kernel), List.mem_of_getElem? (i := 442) (by decide +kernel), List.mem_of_getElem? (i := 443) (by decide +kernel)⟩
theorem lw_p25 : lw_okq (⟨"StitchLetFall", "drop", "(II)I"⟩, 9) := ⟨⟨by decide +kernel, by decide +kernel⟩, List.mem_of_getElem? (i := 17) (by decide +kernel), List.mem_of_getElem? (i := 455) (by decide +kernel), List.mem_of_getElem? (i := 456) (by decide +kernel)⟩
theorem lw_p26 : lw_okq (⟨"StitchLetFall$Fall", "runFrom", "(LStitchLetFall$Piece;LStitchLetFall$Text;JJI)I"⟩, 3) := ⟨⟨by decide +kernel, by decide +kernel⟩, List.mem_of_getElem? (i := 89) (by decide +kernel), List.mem_of_getElem? (i := 459) (by decide +kernel), List.mem_of_getElem? (i := 460) (by decide +kernel)⟩
theorem lw_p27 : lw_okq (⟨"StitchLetFall$Fall", "restOf", "(LStitchLetFall$Piece;LStitchLetFall$Text;IJ)I"⟩, 3) := ⟨⟨by decide +kernel, by decide +kernel⟩, List.mem_of_getElem? (i := 89) (by decide +kernel), List.mem_of_getElem? (i := 466) (by decide +kernel), List.mem_of_getElem? (i := 467) (by decide +kernel)⟩
theorem lw_p28 : lw_okq (⟨"StitchLetFall", "lowestRow", "()I"⟩, 9) := ⟨⟨by decide +kernel, by decide +kernel⟩, List.mem_of_getElem? (i := 17) (by decide +kernel), List.mem_of_getElem? (i := 478) (by decide +kernel), List.mem_of_getElem? (i := 479) (by decide +kernel)⟩
theorem lw_p29 : lw_okq (⟨"StitchLetFall", "together", "(I)I"⟩, 9) := ⟨⟨by decide +kernel, by decide +kernel⟩, List.mem_of_getElem? (i := 17) (by decide +kernel), List.mem_of_getElem? (i := 489) (by decide +kernel), List.mem_of_getElem? (i := 490) (by decide +kernel)⟩
theorem lw_p30 : lw_okq (⟨"StitchLetFall", "dropBoth", "(III)I"⟩, 9) := ⟨⟨by decide +kernel, by decide +kernel⟩, List.mem_of_getElem? (i := 17) (by decide +kernel), List.mem_of_getElem? (i := 521) (by decide +kernel), List.mem_of_getElem? (i := 522) (by decide +kernel)⟩
theorem lw_p31 : lw_okq (⟨"StitchLetFall", "borneOf", "(I)I"⟩, 9) := ⟨⟨by decide +kernel, by decide +kernel⟩, List.mem_of_getElem? (i := 17) (by decide +kernel), List.mem_of_getElem? (i := 533) (by decide +kernel), List.mem_of_getElem? (i := 534) (by decide +kernel)⟩
def lw_privs_2 : List (MethodName × Nat) := [(⟨"StitchLetFall$Text", "push", "(I)V"⟩, 5), (⟨"StitchLetFall$Text", "pop", "()I"⟩, 5), (⟨"StitchLetFall$Piece", "become", "(III)V"⟩, 5), (⟨"StitchLetFall$Piece", "placesBelow", "(I)I"⟩, 5), (⟨"StitchLetFall$Piece", "over", "(I)J"⟩, 5), (⟨"StitchLetFall", "hangingOn", "(I)J"⟩, 9), (⟨"StitchLetFall$Piece", "under", "(I)J"⟩, 5), (⟨"StitchLetFall", "bearing", "(I)J"⟩, 9), (⟨"StitchLetFall$Piece", "keeps", "(I)Z"⟩, 5), (⟨"StitchLetFall", "drop", "(II)I"⟩, 9), (⟨"StitchLetFall$Fall", "runFrom", "(LStitchLetFall$Piece;LStitchLetFall$Text;JJI)I"⟩, 3), (⟨"StitchLetFall$Fall", "restOf", "(LStitchLetFall$Piece;LStitchLetFall$Text;IJ)I"⟩, 3), (⟨"StitchLetFall", "lowestRow", "()I"⟩, 9), (⟨"StitchLetFall", "together", "(I)I"⟩, 9), (⟨"StitchLetFall", "dropBoth", "(III)I"⟩, 9), (⟨"StitchLetFall", "borneOf", "(I)I"⟩, 9)]
theorem lw_r2 : ∀ q ∈ lw_privs_2, lw_okq q := List.forall_mem_cons.mpr ⟨lw_p16, List.forall_mem_cons.mpr ⟨lw_p17, List.forall_mem_cons.mpr ⟨lw_p18, List.forall_mem_cons.mpr ⟨lw_p19, List.forall_mem_cons.mpr ⟨lw_p20, List.forall_mem_cons.mpr ⟨lw_p21, List.forall_mem_cons.mpr ⟨lw_p22, List.forall_mem_cons.mpr ⟨lw_p23, List.forall_mem_cons.mpr ⟨lw_p24, List.forall_mem_cons.mpr ⟨lw_p25, List.forall_mem_cons.mpr ⟨lw_p26, List.forall_mem_cons.mpr ⟨lw_p27, List.forall_mem_cons.mpr ⟨lw_p28, List.forall_mem_cons.mpr ⟨lw_p29, List.forall_mem_cons.mpr ⟨lw_p30, List.forall_mem_cons.mpr ⟨lw_p31, fun _ h => absurd h List.not_mem_nil⟩⟩⟩⟩⟩⟩⟩⟩⟩⟩⟩⟩⟩⟩⟩⟩
theorem lw_p32 : lw_okq (⟨"StitchLetFall", "placesUnder", "(I)I"⟩, 9) := ⟨⟨by decide +kernel, by decide +kernel⟩, List.mem_of_getElem? (i := 17) (by decide +kernel), List.mem_of_getElem? (i := 537) (by decide +kernel), List.mem_of_getElem? (i := 538) (by decide +kernel)⟩
theorem lw_p33 : lw_okq (⟨"StitchLetFall", "unevenOf", "(I)I"⟩, 9) := ⟨⟨by decide +kernel, by decide +kernel⟩, List.mem_of_getElem? (i := 17) (by decide +kernel), List.mem_of_getElem? (i := 547) (by decide +kernel), List.mem_of_getElem? (i := 548) (by decide +kernel)⟩
theorem lw_p34 : lw_okq (⟨"StitchLetFall", "sheetRefusal", "(II)I"⟩, 9) := ⟨⟨by decide +kernel, by decide +kernel⟩, List.mem_of_getElem? (i := 17) (by decide +kernel), List.mem_of_getElem? (i := 555) (by decide +kernel), List.mem_of_getElem? (i := 556) (by decide +kernel)⟩
theorem lw_p35 : lw_okq (⟨"StitchLetFall$Sheet", "isMissing", "()Z"⟩, 3) := ⟨⟨by decide +kernel, by decide +kernel⟩, List.mem_of_getElem? (i := 131) (by decide +kernel), List.mem_of_getElem? (i := 562) (by decide +kernel), List.mem_of_getElem? (i := 563) (by decide +kernel)⟩
theorem lw_p36 : lw_okq (⟨"StitchLetFall", "dropPinned", "(IIJ)I"⟩, 9) := ⟨⟨by decide +kernel, by decide +kernel⟩, List.mem_of_getElem? (i := 17) (by decide +kernel), List.mem_of_getElem? (i := 575) (by decide +kernel), List.mem_of_getElem? (i := 576) (by decide +kernel)⟩
theorem lw_p37 : lw_okq (⟨"StitchLetFall", "isUnlikeThoseBeside", "(I)Z"⟩, 9) := ⟨⟨by decide +kernel, by decide +kernel⟩, List.mem_of_getElem? (i := 17) (by decide +kernel), List.mem_of_getElem? (i := 595) (by decide +kernel), List.mem_of_getElem? (i := 596) (by decide +kernel)⟩
theorem lw_p38 : lw_okq (⟨"StitchLetFall", "ragRefusal", "(II)I"⟩, 9) := ⟨⟨by decide +kernel, by decide +kernel⟩, List.mem_of_getElem? (i := 17) (by decide +kernel), List.mem_of_getElem? (i := 607) (by decide +kernel), List.mem_of_getElem? (i := 608) (by decide +kernel)⟩
theorem lw_p39 : lw_okq (⟨"StitchLetFall$Sheet", "firstUnlike", "(J)I"⟩, 3) := ⟨⟨by decide +kernel, by decide +kernel⟩, List.mem_of_getElem? (i := 131) (by decide +kernel), List.mem_of_getElem? (i := 611) (by decide +kernel), List.mem_of_getElem? (i := 612) (by decide +kernel)⟩
theorem lw_p40 : lw_okq (⟨"StitchLetFall$Sheet", "become", "(II)V"⟩, 3) := ⟨⟨by decide +kernel, by decide +kernel⟩, List.mem_of_getElem? (i := 131) (by decide +kernel), List.mem_of_getElem? (i := 632) (by decide +kernel), List.mem_of_getElem? (i := 633) (by decide +kernel)⟩
theorem lw_p41 : lw_okq (⟨"StitchLetFall$Sheet", "put", "(II)V"⟩, 3) := ⟨⟨by decide +kernel, by decide +kernel⟩, List.mem_of_getElem? (i := 131) (by decide +kernel), List.mem_of_getElem? (i := 636) (by decide +kernel), List.mem_of_getElem? (i := 637) (by decide +kernel)⟩
theorem lw_p42 : lw_okq (⟨"StitchLetFall", "missed", "(II)I"⟩, 9) := ⟨⟨by decide +kernel, by decide +kernel⟩, List.mem_of_getElem? (i := 17) (by decide +kernel), List.mem_of_getElem? (i := 645) (by decide +kernel), List.mem_of_getElem? (i := 646) (by decide +kernel)⟩
theorem lw_p43 : lw_okq (⟨"StitchLetFall$Piece", "takeFrom", "(LStitchLetFall$Piece;)V"⟩, 5) := ⟨⟨by decide +kernel, by decide +kernel⟩, List.mem_of_getElem? (i := 25) (by decide +kernel), List.mem_of_getElem? (i := 663) (by decide +kernel), List.mem_of_getElem? (i := 664) (by decide +kernel)⟩
theorem lw_p44 : lw_okq (⟨"StitchLetFall$Sheet", "hasRoom", "(II)Z"⟩, 3) := ⟨⟨by decide +kernel, by decide +kernel⟩, List.mem_of_getElem? (i := 131) (by decide +kernel), List.mem_of_getElem? (i := 686) (by decide +kernel), List.mem_of_getElem? (i := 687) (by decide +kernel)⟩
theorem lw_p45 : lw_okq (⟨"StitchLetFall", "pinnedPlaces", "(I)I"⟩, 9) := ⟨⟨by decide +kernel, by decide +kernel⟩, List.mem_of_getElem? (i := 17) (by decide +kernel), List.mem_of_getElem? (i := 703) (by decide +kernel), List.mem_of_getElem? (i := 704) (by decide +kernel)⟩
theorem lw_p46 : lw_okq (⟨"StitchLetFallModel", "next", "()V"⟩, 30) := ⟨⟨by decide +kernel, by decide +kernel⟩, List.mem_of_getElem? (i := 707) (by decide +kernel), List.mem_of_getElem? (i := 717) (by decide +kernel), List.mem_of_getElem? (i := 718) (by decide +kernel)⟩
theorem lw_p47 : lw_okq (⟨"StitchLetFallModel", "wordFrom", "(II)I"⟩, 30) := ⟨⟨by decide +kernel, by decide +kernel⟩, List.mem_of_getElem? (i := 707) (by decide +kernel), List.mem_of_getElem? (i := 724) (by decide +kernel), List.mem_of_getElem? (i := 725) (by decide +kernel)⟩
def lw_privs_3 : List (MethodName × Nat) := [(⟨"StitchLetFall", "placesUnder", "(I)I"⟩, 9), (⟨"StitchLetFall", "unevenOf", "(I)I"⟩, 9), (⟨"StitchLetFall", "sheetRefusal", "(II)I"⟩, 9), (⟨"StitchLetFall$Sheet", "isMissing", "()Z"⟩, 3), (⟨"StitchLetFall", "dropPinned", "(IIJ)I"⟩, 9), (⟨"StitchLetFall", "isUnlikeThoseBeside", "(I)Z"⟩, 9), (⟨"StitchLetFall", "ragRefusal", "(II)I"⟩, 9), (⟨"StitchLetFall$Sheet", "firstUnlike", "(J)I"⟩, 3), (⟨"StitchLetFall$Sheet", "become", "(II)V"⟩, 3), (⟨"StitchLetFall$Sheet", "put", "(II)V"⟩, 3), (⟨"StitchLetFall", "missed", "(II)I"⟩, 9), (⟨"StitchLetFall$Piece", "takeFrom", "(LStitchLetFall$Piece;)V"⟩, 5), (⟨"StitchLetFall$Sheet", "hasRoom", "(II)Z"⟩, 3), (⟨"StitchLetFall", "pinnedPlaces", "(I)I"⟩, 9), (⟨"StitchLetFallModel", "next", "()V"⟩, 30), (⟨"StitchLetFallModel", "wordFrom", "(II)I"⟩, 30)]
theorem lw_r3 : ∀ q ∈ lw_privs_3, lw_okq q := List.forall_mem_cons.mpr ⟨lw_p32, List.forall_mem_cons.mpr ⟨lw_p33, List.forall_mem_cons.mpr ⟨lw_p34, List.forall_mem_cons.mpr ⟨lw_p35, List.forall_mem_cons.mpr ⟨lw_p36, List.forall_mem_cons.mpr ⟨lw_p37, List.forall_mem_cons.mpr ⟨lw_p38, List.forall_mem_cons.mpr ⟨lw_p39, List.forall_mem_cons.mpr ⟨lw_p40, List.forall_mem_cons.mpr ⟨lw_p41, List.forall_mem_cons.mpr ⟨lw_p42, List.forall_mem_cons.mpr ⟨lw_p43, List.forall_mem_cons.mpr ⟨lw_p44, List.forall_mem_cons.mpr ⟨lw_p45, List.forall_mem_cons.mpr ⟨lw_p46, List.forall_mem_cons.mpr ⟨lw_p47, fun _ h => absurd h List.not_mem_nil⟩⟩⟩⟩⟩⟩⟩⟩⟩⟩⟩⟩⟩⟩⟩⟩
theorem lw_p48 : lw_okq (⟨"StitchLetFallModel", "eRead", "()Z"⟩, 30) := ⟨⟨by decide +kernel, by decide +kernel⟩, List.mem_of_getElem? (i := 707) (by decide +kernel), List.mem_of_getElem? (i := 728) (by decide +kernel), List.mem_of_getElem? (i := 729) (by decide +kernel)⟩
theorem lw_p49 : lw_okq (⟨"StitchLetFallModel", "puts", "(I)V"⟩, 30) := ⟨⟨by decide +kernel, by decide +kernel⟩, List.mem_of_getElem? (i := 707) (by decide +kernel), List.mem_of_getElem? (i := 733) (by decide +kernel), List.mem_of_getElem? (i := 734) (by decide +kernel)⟩
theorem lw_p50 : lw_okq (⟨"StitchLetFallModel", "unwinds", "(I)V"⟩, 30) := ⟨⟨by decide +kernel, by decide +kernel⟩, List.mem_of_getElem? (i := 707) (by decide +kernel), List.mem_of_getElem? (i := 737) (by decide +kernel), List.mem_of_getElem? (i := 738) (by decide +kernel)⟩
theorem lw_p51 : lw_okq (⟨"StitchLetFallModel", "opensOne", "(I)Z"⟩, 30) := ⟨⟨by decide +kernel, by decide +kernel⟩, List.mem_of_getElem? (i := 707) (by decide +kernel), List.mem_of_getElem? (i := 744) (by decide +kernel), List.mem_of_getElem? (i := 745) (by decide +kernel)⟩
theorem lw_p52 : lw_okq (⟨"StitchLetFallModel", "holds", "(I)V"⟩, 30) := ⟨⟨by decide +kernel, by decide +kernel⟩, List.mem_of_getElem? (i := 707) (by decide +kernel), List.mem_of_getElem? (i := 748) (by decide +kernel), List.mem_of_getElem? (i := 749) (by decide +kernel)⟩
theorem lw_p53 : lw_okq (⟨"StitchLetFallModel", "signOf", "()I"⟩, 30) := ⟨⟨by decide +kernel, by decide +kernel⟩, List.mem_of_getElem? (i := 707) (by decide +kernel), List.mem_of_getElem? (i := 752) (by decide +kernel), List.mem_of_getElem? (i := 753) (by decide +kernel)⟩
theorem lw_p54 : lw_okq (⟨"StitchLetFallModel", "between", "(I)Z"⟩, 30) := ⟨⟨by decide +kernel, by decide +kernel⟩, List.mem_of_getElem? (i := 707) (by decide +kernel), List.mem_of_getElem? (i := 756) (by decide +kernel), List.mem_of_getElem? (i := 757) (by decide +kernel)⟩
theorem lw_p55 : lw_okq (⟨"StitchLetFallModel", "manyIn", "(I)I"⟩, 30) := ⟨⟨by decide +kernel, by decide +kernel⟩, List.mem_of_getElem? (i := 707) (by decide +kernel), List.mem_of_getElem? (i := 855) (by decide +kernel), List.mem_of_getElem? (i := 856) (by decide +kernel)⟩
theorem lw_p56 : lw_okq (⟨"StitchLetFallModel", "asksOf", "(III)I"⟩, 30) := ⟨⟨by decide +kernel, by decide +kernel⟩, List.mem_of_getElem? (i := 707) (by decide +kernel), List.mem_of_getElem? (i := 881) (by decide +kernel), List.mem_of_getElem? (i := 882) (by decide +kernel)⟩
theorem lw_p57 : lw_okq (⟨"StitchLetFallModel", "worth", "(I)I"⟩, 30) := ⟨⟨by decide +kernel, by decide +kernel⟩, List.mem_of_getElem? (i := 707) (by decide +kernel), List.mem_of_getElem? (i := 888) (by decide +kernel), List.mem_of_getElem? (i := 889) (by decide +kernel)⟩
theorem lw_p58 : lw_okq (⟨"StitchLetFallModel", "through", "(I)I"⟩, 30) := ⟨⟨by decide +kernel, by decide +kernel⟩, List.mem_of_getElem? (i := 707) (by decide +kernel), List.mem_of_getElem? (i := 914) (by decide +kernel), List.mem_of_getElem? (i := 915) (by decide +kernel)⟩
theorem lw_p59 : lw_okq (⟨"StitchLetFallModel", "hanging", "(I)J"⟩, 30) := ⟨⟨by decide +kernel, by decide +kernel⟩, List.mem_of_getElem? (i := 707) (by decide +kernel), List.mem_of_getElem? (i := 927) (by decide +kernel), List.mem_of_getElem? (i := 928) (by decide +kernel)⟩
theorem lw_p60 : lw_okq (⟨"StitchLetFallModel", "uppers", "(I)J"⟩, 30) := ⟨⟨by decide +kernel, by decide +kernel⟩, List.mem_of_getElem? (i := 707) (by decide +kernel), List.mem_of_getElem? (i := 931) (by decide +kernel), List.mem_of_getElem? (i := 932) (by decide +kernel)⟩
theorem lw_p61 : lw_okq (⟨"StitchLetFallModel", "goesThrough", "(II)Z"⟩, 30) := ⟨⟨by decide +kernel, by decide +kernel⟩, List.mem_of_getElem? (i := 707) (by decide +kernel), List.mem_of_getElem? (i := 935) (by decide +kernel), List.mem_of_getElem? (i := 936) (by decide +kernel)⟩
theorem lw_p62 : lw_okq (⟨"StitchLetFallModel", "isLoose", "(I)Z"⟩, 30) := ⟨⟨by decide +kernel, by decide +kernel⟩, List.mem_of_getElem? (i := 707) (by decide +kernel), List.mem_of_getElem? (i := 943) (by decide +kernel), List.mem_of_getElem? (i := 944) (by decide +kernel)⟩
theorem lw_p63 : lw_okq (⟨"StitchLetFallModel", "keeps", "(I)Z"⟩, 30) := ⟨⟨by decide +kernel, by decide +kernel⟩, List.mem_of_getElem? (i := 707) (by decide +kernel), List.mem_of_getElem? (i := 947) (by decide +kernel), List.mem_of_getElem? (i := 948) (by decide +kernel)⟩
def lw_privs_4 : List (MethodName × Nat) := [(⟨"StitchLetFallModel", "eRead", "()Z"⟩, 30), (⟨"StitchLetFallModel", "puts", "(I)V"⟩, 30), (⟨"StitchLetFallModel", "unwinds", "(I)V"⟩, 30), (⟨"StitchLetFallModel", "opensOne", "(I)Z"⟩, 30), (⟨"StitchLetFallModel", "holds", "(I)V"⟩, 30), (⟨"StitchLetFallModel", "signOf", "()I"⟩, 30), (⟨"StitchLetFallModel", "between", "(I)Z"⟩, 30), (⟨"StitchLetFallModel", "manyIn", "(I)I"⟩, 30), (⟨"StitchLetFallModel", "asksOf", "(III)I"⟩, 30), (⟨"StitchLetFallModel", "worth", "(I)I"⟩, 30), (⟨"StitchLetFallModel", "through", "(I)I"⟩, 30), (⟨"StitchLetFallModel", "hanging", "(I)J"⟩, 30), (⟨"StitchLetFallModel", "uppers", "(I)J"⟩, 30), (⟨"StitchLetFallModel", "goesThrough", "(II)Z"⟩, 30), (⟨"StitchLetFallModel", "isLoose", "(I)Z"⟩, 30), (⟨"StitchLetFallModel", "keeps", "(I)Z"⟩, 30)]
theorem lw_r4 : ∀ q ∈ lw_privs_4, lw_okq q := List.forall_mem_cons.mpr ⟨lw_p48, List.forall_mem_cons.mpr ⟨lw_p49, List.forall_mem_cons.mpr ⟨lw_p50, List.forall_mem_cons.mpr ⟨lw_p51, List.forall_mem_cons.mpr ⟨lw_p52, List.forall_mem_cons.mpr ⟨lw_p53, List.forall_mem_cons.mpr ⟨lw_p54, List.forall_mem_cons.mpr ⟨lw_p55, List.forall_mem_cons.mpr ⟨lw_p56, List.forall_mem_cons.mpr ⟨lw_p57, List.forall_mem_cons.mpr ⟨lw_p58, List.forall_mem_cons.mpr ⟨lw_p59, List.forall_mem_cons.mpr ⟨lw_p60, List.forall_mem_cons.mpr ⟨lw_p61, List.forall_mem_cons.mpr ⟨lw_p62, List.forall_mem_cons.mpr ⟨lw_p63, fun _ h => absurd h List.not_mem_nil⟩⟩⟩⟩⟩⟩⟩⟩⟩⟩⟩⟩⟩⟩⟩⟩
theorem lw_p64 : lw_okq (⟨"StitchLetFallModel", "runsFrom", "(II)V"⟩, 30) := ⟨⟨by decide +kernel, by decide +kernel⟩, List.mem_of_getElem? (i := 707) (by decide +kernel), List.mem_of_getElem? (i := 962) (by decide +kernel), List.mem_of_getElem? (i := 963) (by decide +kernel)⟩
theorem lw_p65 : lw_okq (⟨"StitchLetFallModel", "runs", "(JI)V"⟩, 30) := ⟨⟨by decide +kernel, by decide +kernel⟩, List.mem_of_getElem? (i := 707) (by decide +kernel), List.mem_of_getElem? (i := 966) (by decide +kernel), List.mem_of_getElem? (i := 967) (by decide +kernel)⟩
theorem lw_p66 : lw_okq (⟨"StitchLetFallModel", "leftOf", "(IZI)I"⟩, 30) := ⟨⟨by decide +kernel, by decide +kernel⟩, List.mem_of_getElem? (i := 707) (by decide +kernel), List.mem_of_getElem? (i := 970) (by decide +kernel), List.mem_of_getElem? (i := 971) (by decide +kernel)⟩
theorem lw_p67 : lw_okq (⟨"StitchLetFallModel", "allGone", "(I)I"⟩, 30) := ⟨⟨by decide +kernel, by decide +kernel⟩, List.mem_of_getElem? (i := 707) (by decide +kernel), List.mem_of_getElem? (i := 974) (by decide +kernel), List.mem_of_getElem? (i := 975) (by decide +kernel)⟩
theorem lw_p68 : lw_okq (⟨"StitchLetFallModel", "rubs", "(II)I"⟩, 30) := ⟨⟨by decide +kernel, by decide +kernel⟩, List.mem_of_getElem? (i := 707) (by decide +kernel), List.mem_of_getElem? (i := 978) (by decide +kernel), List.mem_of_getElem? (i := 979) (by decide +kernel)⟩
theorem lw_p69 : lw_okq (⟨"StitchLetFallModel", "lowest", "()I"⟩, 30) := ⟨⟨by decide +kernel, by decide +kernel⟩, List.mem_of_getElem? (i := 707) (by decide +kernel), List.mem_of_getElem? (i := 982) (by decide +kernel), List.mem_of_getElem? (i := 983) (by decide +kernel)⟩
theorem lw_p70 : lw_okq (⟨"StitchLetFallModel", "sumOf", "(I)I"⟩, 30) := ⟨⟨by decide +kernel, by decide +kernel⟩, List.mem_of_getElem? (i := 707) (by decide +kernel), List.mem_of_getElem? (i := 986) (by decide +kernel), List.mem_of_getElem? (i := 987) (by decide +kernel)⟩
theorem lw_p71 : lw_okq (⟨"StitchLetFallModel", "alone", "(III)I"⟩, 30) := ⟨⟨by decide +kernel, by decide +kernel⟩, List.mem_of_getElem? (i := 707) (by decide +kernel), List.mem_of_getElem? (i := 1018) (by decide +kernel), List.mem_of_getElem? (i := 1019) (by decide +kernel)⟩
theorem lw_p72 : lw_okq (⟨"StitchLetFallModel", "went", "()J"⟩, 30) := ⟨⟨by decide +kernel, by decide +kernel⟩, List.mem_of_getElem? (i := 707) (by decide +kernel), List.mem_of_getElem? (i := 1022) (by decide +kernel), List.mem_of_getElem? (i := 1023) (by decide +kernel)⟩
theorem lw_p73 : lw_okq (⟨"StitchLetFallModel", "countIn", "(II)I"⟩, 30) := ⟨⟨by decide +kernel, by decide +kernel⟩, List.mem_of_getElem? (i := 707) (by decide +kernel), List.mem_of_getElem? (i := 1034) (by decide +kernel), List.mem_of_getElem? (i := 1035) (by decide +kernel)⟩
theorem lw_p74 : lw_okq (⟨"StitchLetFallModel", "sheetWrong", "(II)I"⟩, 30) := ⟨⟨by decide +kernel, by decide +kernel⟩, List.mem_of_getElem? (i := 707) (by decide +kernel), List.mem_of_getElem? (i := 1042) (by decide +kernel), List.mem_of_getElem? (i := 1043) (by decide +kernel)⟩
theorem lw_p75 : lw_okq (⟨"StitchLetFallModel", "isHeld", "(III)Z"⟩, 30) := ⟨⟨by decide +kernel, by decide +kernel⟩, List.mem_of_getElem? (i := 707) (by decide +kernel), List.mem_of_getElem? (i := 1054) (by decide +kernel), List.mem_of_getElem? (i := 1055) (by decide +kernel)⟩
theorem lw_p76 : lw_okq (⟨"StitchLetFallModel", "pinsFor", "(IIIZ)I"⟩, 30) := ⟨⟨by decide +kernel, by decide +kernel⟩, List.mem_of_getElem? (i := 707) (by decide +kernel), List.mem_of_getElem? (i := 1058) (by decide +kernel), List.mem_of_getElem? (i := 1059) (by decide +kernel)⟩
theorem lw_p77 : lw_okq (⟨"StitchLetFallModel", "ragWrong", "(III)I"⟩, 30) := ⟨⟨by decide +kernel, by decide +kernel⟩, List.mem_of_getElem? (i := 707) (by decide +kernel), List.mem_of_getElem? (i := 1086) (by decide +kernel), List.mem_of_getElem? (i := 1087) (by decide +kernel)⟩
theorem lw_p78 : lw_okq (⟨"StitchLetFallModel", "unlike", "(I)I"⟩, 30) := ⟨⟨by decide +kernel, by decide +kernel⟩, List.mem_of_getElem? (i := 707) (by decide +kernel), List.mem_of_getElem? (i := 1090) (by decide +kernel), List.mem_of_getElem? (i := 1091) (by decide +kernel)⟩
theorem lw_p79 : lw_okq (⟨"StitchLetFallModel", "missed", "(II)I"⟩, 30) := ⟨⟨by decide +kernel, by decide +kernel⟩, List.mem_of_getElem? (i := 707) (by decide +kernel), List.mem_of_getElem? (i := 1118) (by decide +kernel), List.mem_of_getElem? (i := 1119) (by decide +kernel)⟩
def lw_privs_5 : List (MethodName × Nat) := [(⟨"StitchLetFallModel", "runsFrom", "(II)V"⟩, 30), (⟨"StitchLetFallModel", "runs", "(JI)V"⟩, 30), (⟨"StitchLetFallModel", "leftOf", "(IZI)I"⟩, 30), (⟨"StitchLetFallModel", "allGone", "(I)I"⟩, 30), (⟨"StitchLetFallModel", "rubs", "(II)I"⟩, 30), (⟨"StitchLetFallModel", "lowest", "()I"⟩, 30), (⟨"StitchLetFallModel", "sumOf", "(I)I"⟩, 30), (⟨"StitchLetFallModel", "alone", "(III)I"⟩, 30), (⟨"StitchLetFallModel", "went", "()J"⟩, 30), (⟨"StitchLetFallModel", "countIn", "(II)I"⟩, 30), (⟨"StitchLetFallModel", "sheetWrong", "(II)I"⟩, 30), (⟨"StitchLetFallModel", "isHeld", "(III)Z"⟩, 30), (⟨"StitchLetFallModel", "pinsFor", "(IIIZ)I"⟩, 30), (⟨"StitchLetFallModel", "ragWrong", "(III)I"⟩, 30), (⟨"StitchLetFallModel", "unlike", "(I)I"⟩, 30), (⟨"StitchLetFallModel", "missed", "(II)I"⟩, 30)]
theorem lw_r5 : ∀ q ∈ lw_privs_5, lw_okq q := List.forall_mem_cons.mpr ⟨lw_p64, List.forall_mem_cons.mpr ⟨lw_p65, List.forall_mem_cons.mpr ⟨lw_p66, List.forall_mem_cons.mpr ⟨lw_p67, List.forall_mem_cons.mpr ⟨lw_p68, List.forall_mem_cons.mpr ⟨lw_p69, List.forall_mem_cons.mpr ⟨lw_p70, List.forall_mem_cons.mpr ⟨lw_p71, List.forall_mem_cons.mpr ⟨lw_p72, List.forall_mem_cons.mpr ⟨lw_p73, List.forall_mem_cons.mpr ⟨lw_p74, List.forall_mem_cons.mpr ⟨lw_p75, List.forall_mem_cons.mpr ⟨lw_p76, List.forall_mem_cons.mpr ⟨lw_p77, List.forall_mem_cons.mpr ⟨lw_p78, List.forall_mem_cons.mpr ⟨lw_p79, fun _ h => absurd h List.not_mem_nil⟩⟩⟩⟩⟩⟩⟩⟩⟩⟩⟩⟩⟩⟩⟩⟩
theorem lw_p80 : lw_okq (⟨"StitchLetFallModel", "pinsIn", "(I)I"⟩, 30) := ⟨⟨by decide +kernel, by decide +kernel⟩, List.mem_of_getElem? (i := 707) (by decide +kernel), List.mem_of_getElem? (i := 1163) (by decide +kernel), List.mem_of_getElem? (i := 1164) (by decide +kernel)⟩
def lw_privs_6 : List (MethodName × Nat) := [(⟨"StitchLetFallModel", "pinsIn", "(I)I"⟩, 30)]
theorem lw_r6 : ∀ q ∈ lw_privs_6, lw_okq q := List.forall_mem_cons.mpr ⟨lw_p80, fun _ h => absurd h List.not_mem_nil⟩
def lw_privs : List (MethodName × Nat) := lw_privs_1 ++ (lw_privs_2 ++ (lw_privs_3 ++ (lw_privs_4 ++ (lw_privs_5 ++ (lw_privs_6)))))
def lw_tbl : List Cond := k2_sels lw_privs ++ tables_1
theorem lw_privs_ok : ∀ q ∈ lw_privs, lw_okq q := by
  show ∀ q ∈ lw_privs_1 ++ (lw_privs_2 ++ (lw_privs_3 ++ (lw_privs_4 ++ (lw_privs_5 ++ (lw_privs_6))))), lw_okq q
  exact List.forall_mem_append.mpr ⟨lw_r1, List.forall_mem_append.mpr ⟨lw_r2, List.forall_mem_append.mpr ⟨lw_r3, List.forall_mem_append.mpr ⟨lw_r4, List.forall_mem_append.mpr ⟨lw_r5, lw_r6⟩⟩⟩⟩⟩
end
section
def RX0 : String := "StitchLetFall$Fall"
def TX0 : u_T := fun k => match k with
  | 0 => ("StitchLetFall$Fall", "rests", "[I", true)
  | 1 => ("StitchLetFall$Fall", "gone", "J", false)
  | _ => ("StitchLetFall$Fall", "stops", "J", false)
def tyX0 : Nat → FieldType := fun k => match k with
  | 0 => .array .int
  | 1 => .long
  | _ => .long
abbrev wsX00 : List Cond := u_ws RX0 TX0 3
theorem nmX0 : ∀ a, a < 3 → ∀ b, b < 3 → a ≠ b → (TX0 a).2.1 ≠ (TX0 b).2.1 := by decide +kernel
theorem tyX0_ok : ∀ k, k < 3 → parseFieldDescriptor (TX0 k).2.2.1 = some (tyX0 k) := by decide +kernel
abbrev cX0_init : ByteArray := prog_2_method_1_code
def yX0_init : MethodName := ⟨RX0, "<init>", "()V"⟩
abbrev cX0_runFrom : ByteArray := prog_2_method_2_code
def yX0_runFrom : MethodName := ⟨RX0, "runFrom", "(LStitchLetFall$Piece;LStitchLetFall$Text;JJI)I"⟩
abbrev cX0_restOf : ByteArray := prog_2_method_3_code
def yX0_restOf : MethodName := ⟨RX0, "restOf", "(LStitchLetFall$Piece;LStitchLetFall$Text;IJ)I"⟩
def RX1 : String := "StitchLetFall$Piece"
def TX1 : u_T := fun k => match k with
  | 0 => ("StitchLetFall$Piece", "kinds", "[I", true)
  | 1 => ("StitchLetFall$Piece", "mores", "[I", true)
  | 2 => ("StitchLetFall$Piece", "pins", "J", false)
  | 3 => ("StitchLetFall$Piece", "mends", "J", false)
  | _ => ("StitchLetFall$Piece", "law", "I", false)
def tyX1 : Nat → FieldType := fun k => match k with
  | 0 => .array .int
  | 1 => .array .int
  | 2 => .long
  | 3 => .long
  | _ => .int
abbrev wsX10 : List Cond := u_ws RX1 TX1 5
theorem nmX1 : ∀ a, a < 5 → ∀ b, b < 5 → a ≠ b → (TX1 a).2.1 ≠ (TX1 b).2.1 := by decide +kernel
theorem tyX1_ok : ∀ k, k < 5 → parseFieldDescriptor (TX1 k).2.2.1 = some (tyX1 k) := by decide +kernel
abbrev cX1_init : ByteArray := prog_3_method_1_code
def yX1_init : MethodName := ⟨RX1, "<init>", "()V"⟩
abbrev cX1_become : ByteArray := prog_3_method_2_code
def yX1_become : MethodName := ⟨RX1, "become", "(III)V"⟩
abbrev cX1_takeFrom : ByteArray := prog_3_method_3_code
def yX1_takeFrom : MethodName := ⟨RX1, "takeFrom", "(LStitchLetFall$Piece;)V"⟩
abbrev cX1_keeps : ByteArray := prog_3_method_4_code
def yX1_keeps : MethodName := ⟨RX1, "keeps", "(I)Z"⟩
abbrev cX1_placesBelow : ByteArray := prog_3_method_5_code
def yX1_placesBelow : MethodName := ⟨RX1, "placesBelow", "(I)I"⟩
abbrev cX1_under : ByteArray := prog_3_method_6_code
def yX1_under : MethodName := ⟨RX1, "under", "(I)J"⟩
abbrev cX1_over : ByteArray := prog_3_method_7_code
def yX1_over : MethodName := ⟨RX1, "over", "(I)J"⟩
def RX2 : String := "StitchLetFall$Sheet"
def TX2 : u_T := fun k => match k with
  | 0 => ("StitchLetFall$Sheet", "numbers", "[I", true)
  | 1 => ("StitchLetFall$Sheet", "sort", "I", false)
  | _ => ("StitchLetFall$Sheet", "size", "I", false)
def tyX2 : Nat → FieldType := fun k => match k with
  | 0 => .array .int
  | 1 => .int
  | _ => .int
abbrev wsX20 : List Cond := u_ws RX2 TX2 3
theorem nmX2 : ∀ a, a < 3 → ∀ b, b < 3 → a ≠ b → (TX2 a).2.1 ≠ (TX2 b).2.1 := by decide +kernel
theorem tyX2_ok : ∀ k, k < 3 → parseFieldDescriptor (TX2 k).2.2.1 = some (tyX2 k) := by decide +kernel
abbrev cX2_init : ByteArray := prog_4_method_1_code
def yX2_init : MethodName := ⟨RX2, "<init>", "()V"⟩
abbrev cX2_isMissing : ByteArray := prog_4_method_2_code
def yX2_isMissing : MethodName := ⟨RX2, "isMissing", "()Z"⟩
abbrev cX2_become : ByteArray := prog_4_method_3_code
def yX2_become : MethodName := ⟨RX2, "become", "(II)V"⟩
abbrev cX2_put : ByteArray := prog_4_method_4_code
def yX2_put : MethodName := ⟨RX2, "put", "(II)V"⟩
abbrev cX2_hasRoom : ByteArray := prog_4_method_5_code
def yX2_hasRoom : MethodName := ⟨RX2, "hasRoom", "(II)Z"⟩
abbrev cX2_firstUnlike : ByteArray := prog_4_method_6_code
def yX2_firstUnlike : MethodName := ⟨RX2, "firstUnlike", "(J)I"⟩
def RX3 : String := "StitchLetFall$Tape"
def TX3 : u_T := fun k => match k with
  | 0 => ("StitchLetFall$Tape", "bytes", "[I", true)
  | 1 => ("StitchLetFall$Tape", "size", "I", false)
  | 2 => ("StitchLetFall$Tape", "behind", "I", false)
  | 3 => ("StitchLetFall$Tape", "start", "I", false)
  | 4 => ("StitchLetFall$Tape", "token", "I", false)
  | 5 => ("StitchLetFall$Tape", "value", "I", false)
  | _ => ("StitchLetFall$Tape", "into", "LStitchLetFall$Text;", false)
def tyX3 : Nat → FieldType := fun k => match k with
  | 0 => .array .int
  | 1 => .int
  | 2 => .int
  | 3 => .int
  | 4 => .int
  | 5 => .int
  | _ => .object "StitchLetFall$Text"
abbrev wsX30 : List Cond := u_ws RX3 TX3 7
theorem nmX3 : ∀ a, a < 7 → ∀ b, b < 7 → a ≠ b → (TX3 a).2.1 ≠ (TX3 b).2.1 := by decide +kernel
theorem tyX3_ok : ∀ k, k < 7 → parseFieldDescriptor (TX3 k).2.2.1 = some (tyX3 k) := by decide +kernel
abbrev cX3_init : ByteArray := prog_5_method_1_code
def yX3_init : MethodName := ⟨RX3, "<init>", "()V"⟩
abbrev cX3_add : ByteArray := prog_5_method_2_code
def yX3_add : MethodName := ⟨RX3, "add", "(I)V"⟩
abbrev cX3_readInto : ByteArray := prog_5_method_3_code
def yX3_readInto : MethodName := ⟨RX3, "readInto", "(LStitchLetFall$Text;)I"⟩
abbrev cX3_chain : ByteArray := prog_5_method_4_code
def yX3_chain : MethodName := ⟨RX3, "chain", "(II)Z"⟩
abbrev cX3_joins : ByteArray := prog_5_method_5_code
def yX3_joins : MethodName := ⟨RX3, "joins", "(II)Z"⟩
abbrev cX3_negation : ByteArray := prog_5_method_6_code
def yX3_negation : MethodName := ⟨RX3, "negation", "(I)Z"⟩
abbrev cX3_one : ByteArray := prog_5_method_7_code
def yX3_one : MethodName := ⟨RX3, "one", "(I)Z"⟩
abbrev cX3_opened : ByteArray := prog_5_method_8_code
def yX3_opened : MethodName := ⟨RX3, "opened", "(I)Z"⟩
abbrev cX3_advance : ByteArray := prog_5_method_9_code
def yX3_advance : MethodName := ⟨RX3, "advance", "()V"⟩
abbrev cX3_isLetter : ByteArray := prog_5_method_10_code
def yX3_isLetter : MethodName := ⟨RX3, "isLetter", "(I)Z"⟩
abbrev cX3_isDigit : ByteArray := prog_5_method_11_code
def yX3_isDigit : MethodName := ⟨RX3, "isDigit", "(I)Z"⟩
abbrev cX3_isSign : ByteArray := prog_5_method_12_code
def yX3_isSign : MethodName := ⟨RX3, "isSign", "(I)Z"⟩
abbrev cX3_wordToken : ByteArray := prog_5_method_13_code
def yX3_wordToken : MethodName := ⟨RX3, "wordToken", "(I)I"⟩
abbrev cX3_standsAt : ByteArray := prog_5_method_14_code
def yX3_standsAt : MethodName := ⟨RX3, "standsAt", "(II)Z"⟩
def RX4 : String := "StitchLetFall$Text"
def TX4 : u_T := fun k => match k with
  | 0 => ("StitchLetFall$Text", "steps", "[I", true)
  | 1 => ("StitchLetFall$Text", "size", "I", false)
  | 2 => ("StitchLetFall$Text", "ends", "[I", true)
  | 3 => ("StitchLetFall$Text", "stack", "[I", true)
  | _ => ("StitchLetFall$Text", "top", "I", false)
def tyX4 : Nat → FieldType := fun k => match k with
  | 0 => .array .int
  | 1 => .int
  | 2 => .array .int
  | 3 => .array .int
  | _ => .int
abbrev wsX40 : List Cond := u_ws RX4 TX4 5
theorem nmX4 : ∀ a, a < 5 → ∀ b, b < 5 → a ≠ b → (TX4 a).2.1 ≠ (TX4 b).2.1 := by decide +kernel
theorem tyX4_ok : ∀ k, k < 5 → parseFieldDescriptor (TX4 k).2.2.1 = some (tyX4 k) := by decide +kernel
abbrev cX4_init : ByteArray := prog_6_method_1_code
def yX4_init : MethodName := ⟨RX4, "<init>", "()V"⟩
abbrev cX4_clear : ByteArray := prog_6_method_2_code
def yX4_clear : MethodName := ⟨RX4, "clear", "()V"⟩
abbrev cX4_add : ByteArray := prog_6_method_3_code
def yX4_add : MethodName := ⟨RX4, "add", "(I)V"⟩
abbrev cX4_endPart : ByteArray := prog_6_method_4_code
def yX4_endPart : MethodName := ⟨RX4, "endPart", "(I)V"⟩
abbrev cX4_says : ByteArray := prog_6_method_5_code
def yX4_says : MethodName := ⟨RX4, "says", "(ILStitchLetFall$Piece;II)I"⟩
abbrev cX4_take : ByteArray := prog_6_method_6_code
def yX4_take : MethodName := ⟨RX4, "take", "(ILStitchLetFall$Piece;II)V"⟩
abbrev cX4_joined : ByteArray := prog_6_method_7_code
def yX4_joined : MethodName := ⟨RX4, "joined", "(III)I"⟩
abbrev cX4_push : ByteArray := prog_6_method_8_code
def yX4_push : MethodName := ⟨RX4, "push", "(I)V"⟩
abbrev cX4_pop : ByteArray := prog_6_method_9_code
def yX4_pop : MethodName := ⟨RX4, "pop", "()I"⟩
def RX5 : String := "StitchLetFall"
def TX5 : u_T := fun k => match k with
  | 0 => ("StitchLetFall", "piece", "LStitchLetFall$Piece;", true)
  | 1 => ("StitchLetFall", "kept", "LStitchLetFall$Piece;", true)
  | 2 => ("StitchLetFall", "isKept", "Z", false)
  | 3 => ("StitchLetFall", "tape", "LStitchLetFall$Tape;", true)
  | 4 => ("StitchLetFall", "texts", "[LStitchLetFall$Text;", true)
  | 5 => ("StitchLetFall", "textCount", "I", false)
  | 6 => ("StitchLetFall", "fall", "LStitchLetFall$Fall;", true)
  | 7 => ("StitchLetFall", "sheets", "[LStitchLetFall$Sheet;", true)
  | _ => ("StitchLetFall", "goneAlone", "[J", true)
def tyX5 : Nat → FieldType := fun k => match k with
  | 0 => .object "StitchLetFall$Piece"
  | 1 => .object "StitchLetFall$Piece"
  | 2 => .boolean
  | 3 => .object "StitchLetFall$Tape"
  | 4 => .array (.object "StitchLetFall$Text")
  | 5 => .int
  | 6 => .object "StitchLetFall$Fall"
  | 7 => .array (.object "StitchLetFall$Sheet")
  | _ => .array .long
abbrev wsX50 : List Cond := u_ws RX5 TX5 9
theorem nmX5 : ∀ a, a < 9 → ∀ b, b < 9 → a ≠ b → (TX5 a).2.1 ≠ (TX5 b).2.1 := by decide +kernel
theorem tyX5_ok : ∀ k, k < 9 → parseFieldDescriptor (TX5 k).2.2.1 = some (tyX5 k) := by decide +kernel
abbrev cX5_init : ByteArray := prog_1_method_1_code
def yX5_init : MethodName := ⟨RX5, "<init>", "()V"⟩
abbrev cX5_count : ByteArray := prog_1_method_2_code
def yX5_count : MethodName := ⟨RX5, "count", "(I)I"⟩
abbrev cX5_feed : ByteArray := prog_1_method_3_code
def yX5_feed : MethodName := ⟨RX5, "feed", "(IIIIII)I"⟩
abbrev cX5_text : ByteArray := prog_1_method_4_code
def yX5_text : MethodName := ⟨RX5, "text", "()I"⟩
abbrev cX5_force : ByteArray := prog_1_method_5_code
def yX5_force : MethodName := ⟨RX5, "force", "(I)I"⟩
abbrev cX5_asks : ByteArray := prog_1_method_6_code
def yX5_asks : MethodName := ⟨RX5, "asks", "(III)I"⟩
abbrev cX5_knit : ByteArray := prog_1_method_7_code
def yX5_knit : MethodName := ⟨RX5, "knit", "(III)I"⟩
abbrev cX5_row : ByteArray := prog_1_method_8_code
def yX5_row : MethodName := ⟨RX5, "row", "(III)I"⟩
abbrev cX5_told : ByteArray := prog_1_method_9_code
def yX5_told : MethodName := ⟨RX5, "told", "(II)I"⟩
abbrev cX5_pin : ByteArray := prog_1_method_10_code
def yX5_pin : MethodName := ⟨RX5, "pin", "(II)I"⟩
abbrev cX5_hangs : ByteArray := prog_1_method_11_code
def yX5_hangs : MethodName := ⟨RX5, "hangs", "(II)J"⟩
abbrev cX5_loose : ByteArray := prog_1_method_12_code
def yX5_loose : MethodName := ⟨RX5, "loose", "()J"⟩
abbrev cX5_back : ByteArray := prog_1_method_13_code
def yX5_back : MethodName := ⟨RX5, "back", "(I)I"⟩
abbrev cX5_run : ByteArray := prog_1_method_14_code
def yX5_run : MethodName := ⟨RX5, "run", "(III)I"⟩
abbrev cX5_goes : ByteArray := prog_1_method_15_code
def yX5_goes : MethodName := ⟨RX5, "goes", "(III)J"⟩
abbrev cX5_left : ByteArray := prog_1_method_16_code
def yX5_left : MethodName := ⟨RX5, "left", "(III)I"⟩
abbrev cX5_most : ByteArray := prog_1_method_17_code
def yX5_most : MethodName := ⟨RX5, "most", "(II)I"⟩
abbrev cX5_column : ByteArray := prog_1_method_18_code
def yX5_column : MethodName := ⟨RX5, "column", "(III)I"⟩
abbrev cX5_line : ByteArray := prog_1_method_19_code
def yX5_line : MethodName := ⟨RX5, "line", "(II)I"⟩
abbrev cX5_reach : ByteArray := prog_1_method_20_code
def yX5_reach : MethodName := ⟨RX5, "reach", "(II)I"⟩
abbrev cX5_two : ByteArray := prog_1_method_21_code
def yX5_two : MethodName := ⟨RX5, "two", "(II)I"⟩
abbrev cX5_all : ByteArray := prog_1_method_22_code
def yX5_all : MethodName := ⟨RX5, "all", "(I)I"⟩
abbrev cX5_counts : ByteArray := prog_1_method_23_code
def yX5_counts : MethodName := ⟨RX5, "counts", "(II)I"⟩
abbrev cX5_slip : ByteArray := prog_1_method_24_code
def yX5_slip : MethodName := ⟨RX5, "slip", "(I)I"⟩
abbrev cX5_wrong : ByteArray := prog_1_method_25_code
def yX5_wrong : MethodName := ⟨RX5, "wrong", "()I"⟩
abbrev cX5_pinned : ByteArray := prog_1_method_26_code
def yX5_pinned : MethodName := ⟨RX5, "pinned", "(IIII)I"⟩
abbrev cX5_mending : ByteArray := prog_1_method_27_code
def yX5_mending : MethodName := ⟨RX5, "mending", "(III)I"⟩
abbrev cX5_mend : ByteArray := prog_1_method_28_code
def yX5_mend : MethodName := ⟨RX5, "mend", "(II)I"⟩
abbrev cX5_block : ByteArray := prog_1_method_29_code
def yX5_block : MethodName := ⟨RX5, "block", "()I"⟩
abbrev cX5_seen : ByteArray := prog_1_method_30_code
def yX5_seen : MethodName := ⟨RX5, "seen", "()J"⟩
abbrev cX5_slack : ByteArray := prog_1_method_31_code
def yX5_slack : MethodName := ⟨RX5, "slack", "(II)I"⟩
abbrev cX5_judge : ByteArray := prog_1_method_32_code
def yX5_judge : MethodName := ⟨RX5, "judge", "(III)I"⟩
abbrev cX5_which : ByteArray := prog_1_method_33_code
def yX5_which : MethodName := ⟨RX5, "which", "(II)J"⟩
abbrev cX5_span : ByteArray := prog_1_method_34_code
def yX5_span : MethodName := ⟨RX5, "span", "(III)I"⟩
abbrev cX5_laws : ByteArray := prog_1_method_35_code
def yX5_laws : MethodName := ⟨RX5, "laws", "(III)I"⟩
abbrev cX5_film : ByteArray := prog_1_method_36_code
def yX5_film : MethodName := ⟨RX5, "film", "(III)I"⟩
abbrev cX5_slips : ByteArray := prog_1_method_37_code
def yX5_slips : MethodName := ⟨RX5, "slips", "(IIII)I"⟩
abbrev cX5_odds : ByteArray := prog_1_method_38_code
def yX5_odds : MethodName := ⟨RX5, "odds", "(IIIIII)J"⟩
abbrev cX5_image : ByteArray := prog_1_method_39_code
def yX5_image : MethodName := ⟨RX5, "image", "()I"⟩
abbrev cX5_restore : ByteArray := prog_1_method_40_code
def yX5_restore : MethodName := ⟨RX5, "restore", "()I"⟩
abbrev cX5_sheet : ByteArray := prog_1_method_41_code
def yX5_sheet : MethodName := ⟨RX5, "sheet", "(III)I"⟩
abbrev cX5_cell : ByteArray := prog_1_method_42_code
def yX5_cell : MethodName := ⟨RX5, "cell", "(III)I"⟩
abbrev cX5_copy : ByteArray := prog_1_method_43_code
def yX5_copy : MethodName := ⟨RX5, "copy", "(IIIII)I"⟩
abbrev cX5_knits : ByteArray := prog_1_method_44_code
def yX5_knits : MethodName := ⟨RX5, "knits", "(IIII)I"⟩
abbrev cX5_taken : ByteArray := prog_1_method_45_code
def yX5_taken : MethodName := ⟨RX5, "taken", "(II)I"⟩
abbrev cX5_goesThroughOwn : ByteArray := prog_1_method_46_code
def yX5_goesThroughOwn : MethodName := ⟨RX5, "goesThroughOwn", "(I)Z"⟩
abbrev cX5_goesThroughNext : ByteArray := prog_1_method_47_code
def yX5_goesThroughNext : MethodName := ⟨RX5, "goesThroughNext", "(I)Z"⟩
abbrev cX5_faceOf : ByteArray := prog_1_method_48_code
def yX5_faceOf : MethodName := ⟨RX5, "faceOf", "(I)I"⟩
abbrev cX5_rubOf : ByteArray := prog_1_method_49_code
def yX5_rubOf : MethodName := ⟨RX5, "rubOf", "(III)I"⟩
abbrev cX5_isOne : ByteArray := prog_1_method_50_code
def yX5_isOne : MethodName := ⟨RX5, "isOne", "(II)Z"⟩
abbrev cX5_within : ByteArray := prog_1_method_51_code
def yX5_within : MethodName := ⟨RX5, "within", "(III)Z"⟩
abbrev cX5_isLoop : ByteArray := prog_1_method_52_code
def yX5_isLoop : MethodName := ⟨RX5, "isLoop", "(I)Z"⟩
abbrev cX5_isRow : ByteArray := prog_1_method_53_code
def yX5_isRow : MethodName := ⟨RX5, "isRow", "(I)Z"⟩
abbrev cX5_isPull : ByteArray := prog_1_method_54_code
def yX5_isPull : MethodName := ⟨RX5, "isPull", "(I)Z"⟩
abbrev cX5_isByte : ByteArray := prog_1_method_55_code
def yX5_isByte : MethodName := ⟨RX5, "isByte", "(I)Z"⟩
abbrev cX5_isSheet : ByteArray := prog_1_method_56_code
def yX5_isSheet : MethodName := ⟨RX5, "isSheet", "(I)Z"⟩
abbrev cX5_isKnit : ByteArray := prog_1_method_57_code
def yX5_isKnit : MethodName := ⟨RX5, "isKnit", "(II)Z"⟩
abbrev cX5_bit : ByteArray := prog_1_method_58_code
def yX5_bit : MethodName := ⟨RX5, "bit", "(I)J"⟩
abbrev cX5_hasBit : ByteArray := prog_1_method_59_code
def yX5_hasBit : MethodName := ⟨RX5, "hasBit", "(JI)Z"⟩
abbrev cX5_bounded : ByteArray := prog_1_method_60_code
def yX5_bounded : MethodName := ⟨RX5, "bounded", "(II)I"⟩
abbrev cX5_commonDivisor : ByteArray := prog_1_method_61_code
def yX5_commonDivisor : MethodName := ⟨RX5, "commonDivisor", "(II)I"⟩
abbrev cX5_law : ByteArray := prog_1_method_62_code
def yX5_law : MethodName := ⟨RX5, "law", "()LStitchLetFall$Text;"⟩
abbrev cX5_readTape : ByteArray := prog_1_method_63_code
def yX5_readTape : MethodName := ⟨RX5, "readTape", "()I"⟩
abbrev cX5_drop : ByteArray := prog_1_method_64_code
def yX5_drop : MethodName := ⟨RX5, "drop", "(II)I"⟩
abbrev cX5_dropPinned : ByteArray := prog_1_method_65_code
def yX5_dropPinned : MethodName := ⟨RX5, "dropPinned", "(IIJ)I"⟩
abbrev cX5_dropBoth : ByteArray := prog_1_method_66_code
def yX5_dropBoth : MethodName := ⟨RX5, "dropBoth", "(III)I"⟩
abbrev cX5_lowestRow : ByteArray := prog_1_method_67_code
def yX5_lowestRow : MethodName := ⟨RX5, "lowestRow", "()I"⟩
abbrev cX5_together : ByteArray := prog_1_method_68_code
def yX5_together : MethodName := ⟨RX5, "together", "(I)I"⟩
abbrev cX5_hangingOn : ByteArray := prog_1_method_69_code
def yX5_hangingOn : MethodName := ⟨RX5, "hangingOn", "(I)J"⟩
abbrev cX5_bearing : ByteArray := prog_1_method_70_code
def yX5_bearing : MethodName := ⟨RX5, "bearing", "(I)J"⟩
abbrev cX5_borneOf : ByteArray := prog_1_method_71_code
def yX5_borneOf : MethodName := ⟨RX5, "borneOf", "(I)I"⟩
abbrev cX5_placesUnder : ByteArray := prog_1_method_72_code
def yX5_placesUnder : MethodName := ⟨RX5, "placesUnder", "(I)I"⟩
abbrev cX5_unevenOf : ByteArray := prog_1_method_73_code
def yX5_unevenOf : MethodName := ⟨RX5, "unevenOf", "(I)I"⟩
abbrev cX5_pinnedPlaces : ByteArray := prog_1_method_74_code
def yX5_pinnedPlaces : MethodName := ⟨RX5, "pinnedPlaces", "(I)I"⟩
abbrev cX5_isUnlikeThoseBeside : ByteArray := prog_1_method_75_code
def yX5_isUnlikeThoseBeside : MethodName := ⟨RX5, "isUnlikeThoseBeside", "(I)Z"⟩
abbrev cX5_missed : ByteArray := prog_1_method_76_code
def yX5_missed : MethodName := ⟨RX5, "missed", "(II)I"⟩
abbrev cX5_sheetRefusal : ByteArray := prog_1_method_77_code
def yX5_sheetRefusal : MethodName := ⟨RX5, "sheetRefusal", "(II)I"⟩
abbrev cX5_ragRefusal : ByteArray := prog_1_method_78_code
def yX5_ragRefusal : MethodName := ⟨RX5, "ragRefusal", "(II)I"⟩
def RX6 : String := "StitchLetFallModel"
def TX6 : u_T := fun k => match k with
  | 0 => ("StitchLetFallModel", "kind", "[I", true)
  | 1 => ("StitchLetFallModel", "more", "[I", true)
  | 2 => ("StitchLetFallModel", "pins", "[I", true)
  | 3 => ("StitchLetFallModel", "mended", "[I", true)
  | 4 => ("StitchLetFallModel", "tape", "[I", true)
  | 5 => ("StitchLetFallModel", "taped", "I", false)
  | 6 => ("StitchLetFallModel", "codes", "[I", true)
  | 7 => ("StitchLetFallModel", "starts", "[I", true)
  | 8 => ("StitchLetFallModel", "texts", "I", false)
  | 9 => ("StitchLetFallModel", "rule", "I", false)
  | 10 => ("StitchLetFallModel", "hasImage", "Z", false)
  | 11 => ("StitchLetFallModel", "imageRule", "I", false)
  | 12 => ("StitchLetFallModel", "imageRows", "[I", true)
  | 13 => ("StitchLetFallModel", "sheetSort", "[I", true)
  | 14 => ("StitchLetFallModel", "sheetSize", "[I", true)
  | 15 => ("StitchLetFallModel", "cells", "[I", true)
  | 16 => ("StitchLetFallModel", "law", "[I", true)
  | 17 => ("StitchLetFallModel", "at", "I", false)
  | 18 => ("StitchLetFallModel", "begun", "I", false)
  | 19 => ("StitchLetFallModel", "token", "I", false)
  | 20 => ("StitchLetFallModel", "value", "I", false)
  | 21 => ("StitchLetFallModel", "words", "[I", true)
  | 22 => ("StitchLetFallModel", "held", "[I", true)
  | 23 => ("StitchLetFallModel", "heldMany", "I", false)
  | 24 => ("StitchLetFallModel", "opens", "I", false)
  | 25 => ("StitchLetFallModel", "out", "I", false)
  | 26 => ("StitchLetFallModel", "stack", "[I", true)
  | 27 => ("StitchLetFallModel", "named", "[I", true)
  | 28 => ("StitchLetFallModel", "lefts", "[I", true)
  | _ => ("StitchLetFallModel", "wentMany", "I", false)
def tyX6 : Nat → FieldType := fun k => match k with
  | 0 => .array .int
  | 1 => .array .int
  | 2 => .array .int
  | 3 => .array .int
  | 4 => .array .int
  | 5 => .int
  | 6 => .array .int
  | 7 => .array .int
  | 8 => .int
  | 9 => .int
  | 10 => .boolean
  | 11 => .int
  | 12 => .array .int
  | 13 => .array .int
  | 14 => .array .int
  | 15 => .array .int
  | 16 => .array .int
  | 17 => .int
  | 18 => .int
  | 19 => .int
  | 20 => .int
  | 21 => .array .int
  | 22 => .array .int
  | 23 => .int
  | 24 => .int
  | 25 => .int
  | 26 => .array .int
  | 27 => .array .int
  | 28 => .array .int
  | _ => .int
abbrev wsX60 : List Cond := u_ws RX6 TX6 30
theorem nmX6 : ∀ a, a < 30 → ∀ b, b < 30 → a ≠ b → (TX6 a).2.1 ≠ (TX6 b).2.1 := by decide +kernel
theorem tyX6_ok : ∀ k, k < 30 → parseFieldDescriptor (TX6 k).2.2.1 = some (tyX6 k) := by decide +kernel
abbrev cX6_init : ByteArray := prog_8_method_1_code
def yX6_init : MethodName := ⟨RX6, "<init>", "()V"⟩
abbrev cX6_in : ByteArray := prog_8_method_3_code
def yX6_in : MethodName := ⟨RX6, "in", "(III)Z"⟩
abbrev cX6_within : ByteArray := prog_8_method_4_code
def yX6_within : MethodName := ⟨RX6, "within", "(III)I"⟩
abbrev cX6_isLoop : ByteArray := prog_8_method_5_code
def yX6_isLoop : MethodName := ⟨RX6, "isLoop", "(I)Z"⟩
abbrev cX6_isPull : ByteArray := prog_8_method_6_code
def yX6_isPull : MethodName := ⟨RX6, "isPull", "(I)Z"⟩
abbrev cX6_manyIn : ByteArray := prog_8_method_7_code
def yX6_manyIn : MethodName := ⟨RX6, "manyIn", "(I)I"⟩
abbrev cX6_count : ByteArray := prog_8_method_8_code
def yX6_count : MethodName := ⟨RX6, "count", "(I)I"⟩
abbrev cX6_isByte : ByteArray := prog_8_method_9_code
def yX6_isByte : MethodName := ⟨RX6, "isByte", "(I)Z"⟩
abbrev cX6_feed : ByteArray := prog_8_method_10_code
def yX6_feed : MethodName := ⟨RX6, "feed", "(IIIIII)I"⟩
abbrev cX6_wordFrom : ByteArray := prog_8_method_11_code
def yX6_wordFrom : MethodName := ⟨RX6, "wordFrom", "(II)I"⟩
abbrev cX6_next : ByteArray := prog_8_method_12_code
def yX6_next : MethodName := ⟨RX6, "next", "()V"⟩
abbrev cX6_rank : ByteArray := prog_8_method_13_code
def yX6_rank : MethodName := ⟨RX6, "rank", "(I)I"⟩
abbrev cX6_puts : ByteArray := prog_8_method_14_code
def yX6_puts : MethodName := ⟨RX6, "puts", "(I)V"⟩
abbrev cX6_unwinds : ByteArray := prog_8_method_15_code
def yX6_unwinds : MethodName := ⟨RX6, "unwinds", "(I)V"⟩
abbrev cX6_holds : ByteArray := prog_8_method_16_code
def yX6_holds : MethodName := ⟨RX6, "holds", "(I)V"⟩
abbrev cX6_opensOne : ByteArray := prog_8_method_17_code
def yX6_opensOne : MethodName := ⟨RX6, "opensOne", "(I)Z"⟩
abbrev cX6_between : ByteArray := prog_8_method_18_code
def yX6_between : MethodName := ⟨RX6, "between", "(I)Z"⟩
abbrev cX6_signOf : ByteArray := prog_8_method_19_code
def yX6_signOf : MethodName := ⟨RX6, "signOf", "()I"⟩
abbrev cX6_eRead : ByteArray := prog_8_method_20_code
def yX6_eRead : MethodName := ⟨RX6, "eRead", "()Z"⟩
abbrev cX6_text : ByteArray := prog_8_method_21_code
def yX6_text : MethodName := ⟨RX6, "text", "()I"⟩
abbrev cX6_two : ByteArray := prog_8_method_22_code
def yX6_two : MethodName := ⟨RX6, "two", "(III)I"⟩
abbrev cX6_worth : ByteArray := prog_8_method_23_code
def yX6_worth : MethodName := ⟨RX6, "worth", "(I)I"⟩
abbrev cX6_force : ByteArray := prog_8_method_24_code
def yX6_force : MethodName := ⟨RX6, "force", "(I)I"⟩
abbrev cX6_faceOf : ByteArray := prog_8_method_25_code
def yX6_faceOf : MethodName := ⟨RX6, "faceOf", "(I)I"⟩
abbrev cX6_asksOf : ByteArray := prog_8_method_26_code
def yX6_asksOf : MethodName := ⟨RX6, "asksOf", "(III)I"⟩
abbrev cX6_asks : ByteArray := prog_8_method_27_code
def yX6_asks : MethodName := ⟨RX6, "asks", "(III)I"⟩
abbrev cX6_rubs : ByteArray := prog_8_method_28_code
def yX6_rubs : MethodName := ⟨RX6, "rubs", "(II)I"⟩
abbrev cX6_through : ByteArray := prog_8_method_29_code
def yX6_through : MethodName := ⟨RX6, "through", "(I)I"⟩
abbrev cX6_isKnit : ByteArray := prog_8_method_30_code
def yX6_isKnit : MethodName := ⟨RX6, "isKnit", "(II)Z"⟩
abbrev cX6_knit : ByteArray := prog_8_method_31_code
def yX6_knit : MethodName := ⟨RX6, "knit", "(III)I"⟩
abbrev cX6_row : ByteArray := prog_8_method_32_code
def yX6_row : MethodName := ⟨RX6, "row", "(III)I"⟩
abbrev cX6_told : ByteArray := prog_8_method_33_code
def yX6_told : MethodName := ⟨RX6, "told", "(II)I"⟩
abbrev cX6_pin : ByteArray := prog_8_method_34_code
def yX6_pin : MethodName := ⟨RX6, "pin", "(II)I"⟩
abbrev cX6_keeps : ByteArray := prog_8_method_35_code
def yX6_keeps : MethodName := ⟨RX6, "keeps", "(I)Z"⟩
abbrev cX6_goesThrough : ByteArray := prog_8_method_36_code
def yX6_goesThrough : MethodName := ⟨RX6, "goesThrough", "(II)Z"⟩
abbrev cX6_uppers : ByteArray := prog_8_method_37_code
def yX6_uppers : MethodName := ⟨RX6, "uppers", "(I)J"⟩
abbrev cX6_hanging : ByteArray := prog_8_method_38_code
def yX6_hanging : MethodName := ⟨RX6, "hanging", "(I)J"⟩
abbrev cX6_hangs : ByteArray := prog_8_method_39_code
def yX6_hangs : MethodName := ⟨RX6, "hangs", "(II)J"⟩
abbrev cX6_bitsOf : ByteArray := prog_8_method_40_code
def yX6_bitsOf : MethodName := ⟨RX6, "bitsOf", "(J)I"⟩
abbrev cX6_isLoose : ByteArray := prog_8_method_41_code
def yX6_isLoose : MethodName := ⟨RX6, "isLoose", "(I)Z"⟩
abbrev cX6_loose : ByteArray := prog_8_method_42_code
def yX6_loose : MethodName := ⟨RX6, "loose", "()J"⟩
abbrev cX6_back : ByteArray := prog_8_method_43_code
def yX6_back : MethodName := ⟨RX6, "back", "(I)I"⟩
abbrev cX6_leftOf : ByteArray := prog_8_method_44_code
def yX6_leftOf : MethodName := ⟨RX6, "leftOf", "(IZI)I"⟩
abbrev cX6_allGone : ByteArray := prog_8_method_45_code
def yX6_allGone : MethodName := ⟨RX6, "allGone", "(I)I"⟩
abbrev cX6_runs : ByteArray := prog_8_method_46_code
def yX6_runs : MethodName := ⟨RX6, "runs", "(JI)V"⟩
abbrev cX6_runsFrom : ByteArray := prog_8_method_47_code
def yX6_runsFrom : MethodName := ⟨RX6, "runsFrom", "(II)V"⟩
abbrev cX6_lowest : ByteArray := prog_8_method_48_code
def yX6_lowest : MethodName := ⟨RX6, "lowest", "()I"⟩
abbrev cX6_sumOf : ByteArray := prog_8_method_49_code
def yX6_sumOf : MethodName := ⟨RX6, "sumOf", "(I)I"⟩
abbrev cX6_run : ByteArray := prog_8_method_50_code
def yX6_run : MethodName := ⟨RX6, "run", "(III)I"⟩
abbrev cX6_goes : ByteArray := prog_8_method_51_code
def yX6_goes : MethodName := ⟨RX6, "goes", "(III)J"⟩
abbrev cX6_left : ByteArray := prog_8_method_52_code
def yX6_left : MethodName := ⟨RX6, "left", "(III)I"⟩
abbrev cX6_most : ByteArray := prog_8_method_53_code
def yX6_most : MethodName := ⟨RX6, "most", "(II)I"⟩
abbrev cX6_column : ByteArray := prog_8_method_54_code
def yX6_column : MethodName := ⟨RX6, "column", "(III)I"⟩
abbrev cX6_line : ByteArray := prog_8_method_55_code
def yX6_line : MethodName := ⟨RX6, "line", "(II)I"⟩
abbrev cX6_reach : ByteArray := prog_8_method_56_code
def yX6_reach : MethodName := ⟨RX6, "reach", "(II)I"⟩
abbrev cX6_went : ByteArray := prog_8_method_57_code
def yX6_went : MethodName := ⟨RX6, "went", "()J"⟩
abbrev cX6_alone : ByteArray := prog_8_method_58_code
def yX6_alone : MethodName := ⟨RX6, "alone", "(III)I"⟩
abbrev cX6_two_ : ByteArray := prog_8_method_59_code
def yX6_two_ : MethodName := ⟨RX6, "two", "(II)I"⟩
abbrev cX6_all : ByteArray := prog_8_method_60_code
def yX6_all : MethodName := ⟨RX6, "all", "(I)I"⟩
abbrev cX6_countIn : ByteArray := prog_8_method_61_code
def yX6_countIn : MethodName := ⟨RX6, "countIn", "(II)I"⟩
abbrev cX6_counts : ByteArray := prog_8_method_62_code
def yX6_counts : MethodName := ⟨RX6, "counts", "(II)I"⟩
abbrev cX6_sheetWrong : ByteArray := prog_8_method_63_code
def yX6_sheetWrong : MethodName := ⟨RX6, "sheetWrong", "(II)I"⟩
abbrev cX6_slip : ByteArray := prog_8_method_64_code
def yX6_slip : MethodName := ⟨RX6, "slip", "(I)I"⟩
abbrev cX6_wrong : ByteArray := prog_8_method_65_code
def yX6_wrong : MethodName := ⟨RX6, "wrong", "()I"⟩
abbrev cX6_isHeld : ByteArray := prog_8_method_66_code
def yX6_isHeld : MethodName := ⟨RX6, "isHeld", "(III)Z"⟩
abbrev cX6_pinsFor : ByteArray := prog_8_method_67_code
def yX6_pinsFor : MethodName := ⟨RX6, "pinsFor", "(IIIZ)I"⟩
abbrev cX6_pinned : ByteArray := prog_8_method_68_code
def yX6_pinned : MethodName := ⟨RX6, "pinned", "(IIII)I"⟩
abbrev cX6_mending : ByteArray := prog_8_method_69_code
def yX6_mending : MethodName := ⟨RX6, "mending", "(III)I"⟩
abbrev cX6_mend : ByteArray := prog_8_method_70_code
def yX6_mend : MethodName := ⟨RX6, "mend", "(II)I"⟩
abbrev cX6_block : ByteArray := prog_8_method_71_code
def yX6_block : MethodName := ⟨RX6, "block", "()I"⟩
abbrev cX6_seen : ByteArray := prog_8_method_72_code
def yX6_seen : MethodName := ⟨RX6, "seen", "()J"⟩
abbrev cX6_slack : ByteArray := prog_8_method_73_code
def yX6_slack : MethodName := ⟨RX6, "slack", "(II)I"⟩
abbrev cX6_unlike : ByteArray := prog_8_method_74_code
def yX6_unlike : MethodName := ⟨RX6, "unlike", "(I)I"⟩
abbrev cX6_ragWrong : ByteArray := prog_8_method_75_code
def yX6_ragWrong : MethodName := ⟨RX6, "ragWrong", "(III)I"⟩
abbrev cX6_judge : ByteArray := prog_8_method_76_code
def yX6_judge : MethodName := ⟨RX6, "judge", "(III)I"⟩
abbrev cX6_which : ByteArray := prog_8_method_77_code
def yX6_which : MethodName := ⟨RX6, "which", "(II)J"⟩
abbrev cX6_span : ByteArray := prog_8_method_78_code
def yX6_span : MethodName := ⟨RX6, "span", "(III)I"⟩
abbrev cX6_laws : ByteArray := prog_8_method_79_code
def yX6_laws : MethodName := ⟨RX6, "laws", "(III)I"⟩
abbrev cX6_film : ByteArray := prog_8_method_80_code
def yX6_film : MethodName := ⟨RX6, "film", "(III)I"⟩
abbrev cX6_missed : ByteArray := prog_8_method_81_code
def yX6_missed : MethodName := ⟨RX6, "missed", "(II)I"⟩
abbrev cX6_isSeed : ByteArray := prog_8_method_82_code
def yX6_isSeed : MethodName := ⟨RX6, "isSeed", "(I)Z"⟩
abbrev cX6_slips : ByteArray := prog_8_method_83_code
def yX6_slips : MethodName := ⟨RX6, "slips", "(IIII)I"⟩
abbrev cX6_lowest_ : ByteArray := prog_8_method_84_code
def yX6_lowest_ : MethodName := ⟨RX6, "lowest", "(JJI)J"⟩
abbrev cX6_odds : ByteArray := prog_8_method_85_code
def yX6_odds : MethodName := ⟨RX6, "odds", "(IIIIII)J"⟩
abbrev cX6_image : ByteArray := prog_8_method_86_code
def yX6_image : MethodName := ⟨RX6, "image", "()I"⟩
abbrev cX6_restore : ByteArray := prog_8_method_87_code
def yX6_restore : MethodName := ⟨RX6, "restore", "()I"⟩
abbrev cX6_sheet : ByteArray := prog_8_method_88_code
def yX6_sheet : MethodName := ⟨RX6, "sheet", "(III)I"⟩
abbrev cX6_cell : ByteArray := prog_8_method_89_code
def yX6_cell : MethodName := ⟨RX6, "cell", "(III)I"⟩
abbrev cX6_copy : ByteArray := prog_8_method_90_code
def yX6_copy : MethodName := ⟨RX6, "copy", "(IIIII)I"⟩
abbrev cX6_knits : ByteArray := prog_8_method_91_code
def yX6_knits : MethodName := ⟨RX6, "knits", "(IIII)I"⟩
abbrev cX6_isUnder : ByteArray := prog_8_method_92_code
def yX6_isUnder : MethodName := ⟨RX6, "isUnder", "(II)Z"⟩
abbrev cX6_pinsIn : ByteArray := prog_8_method_93_code
def yX6_pinsIn : MethodName := ⟨RX6, "pinsIn", "(I)I"⟩
abbrev cX6_taken : ByteArray := prog_8_method_94_code
def yX6_taken : MethodName := ⟨RX6, "taken", "(II)I"⟩
def RJ6 : String := "java/lang/Integer"
def TJ6 : u_T := fun k => match k with
  | _ => ("", "", "", false)
def tyJ6 : Nat → FieldType := fun k => match k with
  | _ => .int
abbrev wsJ60 : List Cond := u_ws RJ6 TJ6 0
theorem nmJ6 : ∀ a, a < 0 → ∀ b, b < 0 → a ≠ b → (TJ6 a).2.1 ≠ (TJ6 b).2.1 := by decide +kernel
theorem tyJ6_ok : ∀ k, k < 0 → parseFieldDescriptor (TJ6 k).2.2.1 = some (tyJ6 k) := by decide +kernel
abbrev cJ6_numberOfTrailingZeros_0f7a4 : ByteArray := prog_9_method_48_code
def yJ6_numberOfTrailingZeros_0f7a4 : MethodName := ⟨RJ6, "numberOfTrailingZeros", "(I)I"⟩
abbrev cJ6_bitCount_0f7a4 : ByteArray := prog_9_method_49_code
def yJ6_bitCount_0f7a4 : MethodName := ⟨RJ6, "bitCount", "(I)I"⟩
def RJ13 : String := "java/lang/Long"
def TJ13 : u_T := fun k => match k with
  | _ => ("", "", "", false)
def tyJ13 : Nat → FieldType := fun k => match k with
  | _ => .int
abbrev wsJ130 : List Cond := u_ws RJ13 TJ13 0
theorem nmJ13 : ∀ a, a < 0 → ∀ b, b < 0 → a ≠ b → (TJ13 a).2.1 ≠ (TJ13 b).2.1 := by decide +kernel
theorem tyJ13_ok : ∀ k, k < 0 → parseFieldDescriptor (TJ13 k).2.2.1 = some (tyJ13 k) := by decide +kernel
abbrev cJ13_numberOfTrailingZeros_95d88 : ByteArray := prog_10_method_49_code
def yJ13_numberOfTrailingZeros_95d88 : MethodName := ⟨RJ13, "numberOfTrailingZeros", "(J)I"⟩
abbrev cJ13_bitCount_95d88 : ByteArray := prog_10_method_50_code
def yJ13_bitCount_95d88 : MethodName := ⟨RJ13, "bitCount", "(J)I"⟩
def RJ9 : String := "java/lang/Math"
def TJ9 : u_T := fun k => match k with
  | _ => ("", "", "", false)
def tyJ9 : Nat → FieldType := fun k => match k with
  | _ => .int
abbrev wsJ90 : List Cond := u_ws RJ9 TJ9 0
theorem nmJ9 : ∀ a, a < 0 → ∀ b, b < 0 → a ≠ b → (TJ9 a).2.1 ≠ (TJ9 b).2.1 := by decide +kernel
theorem tyJ9_ok : ∀ k, k < 0 → parseFieldDescriptor (TJ9 k).2.2.1 = some (tyJ9 k) := by decide +kernel
abbrev cJ9_max_7cf53 : ByteArray := prog_11_method_65_code
def yJ9_max_7cf53 : MethodName := ⟨RJ9, "max", "(II)I"⟩
abbrev cJ9_min_7cf53 : ByteArray := prog_11_method_69_code
def yJ9_min_7cf53 : MethodName := ⟨RJ9, "min", "(II)I"⟩
def RJ0 : String := "java/lang/String"
def TJ0 : u_T := fun k => match k with
  | _ => ("", "", "", false)
def tyJ0 : Nat → FieldType := fun k => match k with
  | _ => .int
abbrev wsJ00 : List Cond := u_ws RJ0 TJ0 0
theorem nmJ0 : ∀ a, a < 0 → ∀ b, b < 0 → a ≠ b → (TJ0 a).2.1 ≠ (TJ0 b).2.1 := by decide +kernel
theorem tyJ0_ok : ∀ k, k < 0 → parseFieldDescriptor (TJ0 k).2.2.1 = some (tyJ0 k) := by decide +kernel
abbrev cJ0_length_8abf5 : ByteArray := prog_12_method_54_code
def yJ0_length_8abf5 : MethodName := ⟨RJ0, "length", "()I"⟩
abbrev cJ0_charAt_5068e : ByteArray := prog_12_method_56_code
def yJ0_charAt_5068e : MethodName := ⟨RJ0, "charAt", "(I)C"⟩
abbrev cJ0_coder_7d493 : ByteArray := prog_12_method_152_code
def yJ0_coder_7d493 : MethodName := ⟨RJ0, "coder", "()B"⟩
abbrev cJ0_isLatin1_aae02 : ByteArray := prog_12_method_154_code
def yJ0_isLatin1_aae02 : MethodName := ⟨RJ0, "isLatin1", "()Z"⟩
abbrev cJ0_checkIndex_df160 : ByteArray := prog_12_method_155_code
def yJ0_checkIndex_df160 : MethodName := ⟨RJ0, "checkIndex", "(II)V"⟩
def RJ1 : String := "java/lang/StringLatin1"
def TJ1 : u_T := fun k => match k with
  | _ => ("", "", "", false)
def tyJ1 : Nat → FieldType := fun k => match k with
  | _ => .int
abbrev wsJ10 : List Cond := u_ws RJ1 TJ1 0
theorem nmJ1 : ∀ a, a < 0 → ∀ b, b < 0 → a ≠ b → (TJ1 a).2.1 ≠ (TJ1 b).2.1 := by decide +kernel
theorem tyJ1_ok : ∀ k, k < 0 → parseFieldDescriptor (TJ1 k).2.2.1 = some (tyJ1 k) := by decide +kernel
abbrev cJ1_charAt_3b067 : ByteArray := prog_13_method_2_code
def yJ1_charAt_3b067 : MethodName := ⟨RJ1, "charAt", "([BI)C"⟩
def RJ2 : String := "java/lang/StringUTF16"
def TJ2 : u_T := fun k => match k with
  | _ => ("", "", "", false)
def tyJ2 : Nat → FieldType := fun k => match k with
  | _ => .int
abbrev wsJ20 : List Cond := u_ws RJ2 TJ2 0
theorem nmJ2 : ∀ a, a < 0 → ∀ b, b < 0 → a ≠ b → (TJ2 a).2.1 ≠ (TJ2 b).2.1 := by decide +kernel
theorem tyJ2_ok : ∀ k, k < 0 → parseFieldDescriptor (TJ2 k).2.2.1 = some (tyJ2 k) := by decide +kernel
abbrev cJ2_getChar_3b067 : ByteArray := prog_14_method_5_code
def yJ2_getChar_3b067 : MethodName := ⟨RJ2, "getChar", "([BI)C"⟩
abbrev cJ2_length_9d52b : ByteArray := prog_14_method_6_code
def yJ2_length_9d52b : MethodName := ⟨RJ2, "length", "([B)I"⟩
abbrev cJ2_charAt_3b067 : ByteArray := prog_14_method_83_code
def yJ2_charAt_3b067 : MethodName := ⟨RJ2, "charAt", "([BI)C"⟩
abbrev cJ2_checkIndex_2214a : ByteArray := prog_14_method_91_code
def yJ2_checkIndex_2214a : MethodName := ⟨RJ2, "checkIndex", "(I[B)V"⟩
def RJ10 : String := "java/lang/System"
def TJ10 : u_T := fun k => match k with
  | _ => ("", "", "", false)
def tyJ10 : Nat → FieldType := fun k => match k with
  | _ => .int
abbrev wsJ100 : List Cond := u_ws RJ10 TJ10 0
theorem nmJ10 : ∀ a, a < 0 → ∀ b, b < 0 → a ≠ b → (TJ10 a).2.1 ≠ (TJ10 b).2.1 := by decide +kernel
theorem tyJ10_ok : ∀ k, k < 0 → parseFieldDescriptor (TJ10 k).2.2.1 = some (tyJ10 k) := by decide +kernel
def RJ3 : String := "jdk/internal/util/Preconditions"
def TJ3 : u_T := fun k => match k with
  | _ => ("", "", "", false)
def tyJ3 : Nat → FieldType := fun k => match k with
  | _ => .int
abbrev wsJ30 : List Cond := u_ws RJ3 TJ3 0
theorem nmJ3 : ∀ a, a < 0 → ∀ b, b < 0 → a ≠ b → (TJ3 a).2.1 ≠ (TJ3 b).2.1 := by decide +kernel
theorem tyJ3_ok : ∀ k, k < 0 → parseFieldDescriptor (TJ3 k).2.2.1 = some (tyJ3 k) := by decide +kernel
abbrev cJ3_checkIndex_8e157 : ByteArray := prog_16_method_11_code
def yJ3_checkIndex_8e157 : MethodName := ⟨RJ3, "checkIndex", "(IILjava/util/function/BiFunction;)I"⟩
def RL : String := "StitchLetFallLaw"
abbrev cL_law : ByteArray := code
def yL_law : MethodName := ⟨RL, "law", "([I)Z"⟩
abbrev vwCl : List vw_C := [(RX0, TX0, 3), (RX1, TX1, 5), (RX2, TX2, 3), (RX3, TX3, 7), (RX4, TX4, 5), (RX5, TX5, 9), (RX6, TX6, 30)]
end
section
theorem dX0_init_0 : decode cX0_init 0 = .ok (.aload_n 0, 1) := by decide +kernel
theorem dX0_init_1 : decode cX0_init 1 = .ok (.invokespecial 3, 3) := by decide +kernel
theorem dX0_init_4 : decode cX0_init 4 = .ok (.aload_n 0, 1) := by decide +kernel
theorem dX0_init_5 : decode cX0_init 5 = .ok (.bipush 48, 2) := by decide +kernel
theorem dX0_init_7 : decode cX0_init 7 = .ok (.newarray .int, 2) := by decide +kernel
theorem dX0_init_9 : decode cX0_init 9 = .ok (.putfield 9, 3) := by decide +kernel
theorem dX0_init_12 : decode cX0_init 12 = .ok (.return_, 1) := by decide +kernel
theorem dX0_runFrom_0 : decode cX0_runFrom 0 = .ok (.aload_n 0, 1) := by decide +kernel
theorem dX0_runFrom_1 : decode cX0_runFrom 1 = .ok (.lconst 0, 1) := by decide +kernel
theorem dX0_runFrom_2 : decode cX0_runFrom 2 = .ok (.putfield 15, 3) := by decide +kernel
theorem dX0_runFrom_5 : decode cX0_runFrom 5 = .ok (.aload_n 0, 1) := by decide +kernel
theorem dX0_runFrom_6 : decode cX0_runFrom 6 = .ok (.lconst 0, 1) := by decide +kernel
theorem dX0_runFrom_7 : decode cX0_runFrom 7 = .ok (.putfield 19, 3) := by decide +kernel
theorem dX0_runFrom_10 : decode cX0_runFrom 10 = .ok (.bipush 47, 2) := by decide +kernel
theorem dX0_runFrom_12 : decode cX0_runFrom 12 = .ok (.istore 8, 2) := by decide +kernel
theorem dX0_runFrom_14 : decode cX0_runFrom 14 = .ok (.iload 8, 2) := by decide +kernel
theorem dX0_runFrom_16 : decode cX0_runFrom 16 = .ok (.ifCond .lt 162, 3) := by decide +kernel
theorem dX0_runFrom_19 : decode cX0_runFrom 19 = .ok (.aload_n 0, 1) := by decide +kernel
theorem dX0_runFrom_20 : decode cX0_runFrom 20 = .ok (.getfield 15, 3) := by decide +kernel
theorem dX0_runFrom_23 : decode cX0_runFrom 23 = .ok (.lconst 0, 1) := by decide +kernel
theorem dX0_runFrom_24 : decode cX0_runFrom 24 = .ok (.lcmp, 1) := by decide +kernel
theorem dX0_runFrom_25 : decode cX0_runFrom 25 = .ok (.ifCond .ne 7, 3) := by decide +kernel
theorem dX0_runFrom_28 : decode cX0_runFrom 28 = .ok (.lconst 0, 1) := by decide +kernel
theorem dX0_runFrom_29 : decode cX0_runFrom 29 = .ok (.goto 9, 3) := by decide +kernel
theorem dX0_runFrom_32 : decode cX0_runFrom 32 = .ok (.aload_n 1, 1) := by decide +kernel
theorem dX0_runFrom_33 : decode cX0_runFrom 33 = .ok (.iload 8, 2) := by decide +kernel
theorem dX0_runFrom_35 : decode cX0_runFrom 35 = .ok (.invokevirtual 22, 3) := by decide +kernel
theorem dX0_runFrom_38 : decode cX0_runFrom 38 = .ok (.lstore 9, 2) := by decide +kernel
theorem dX0_runFrom_40 : decode cX0_runFrom 40 = .ok (.lload 9, 2) := by decide +kernel
theorem dX0_runFrom_42 : decode cX0_runFrom 42 = .ok (.lconst 0, 1) := by decide +kernel
theorem dX0_runFrom_43 : decode cX0_runFrom 43 = .ok (.lcmp, 1) := by decide +kernel
theorem dX0_runFrom_44 : decode cX0_runFrom 44 = .ok (.ifCond .eq 20, 3) := by decide +kernel
theorem dX0_runFrom_47 : decode cX0_runFrom 47 = .ok (.lload 9, 2) := by decide +kernel
theorem dX0_runFrom_49 : decode cX0_runFrom 49 = .ok (.aload_n 0, 1) := by decide +kernel
theorem dX0_runFrom_50 : decode cX0_runFrom 50 = .ok (.getfield 15, 3) := by decide +kernel
theorem dX0_runFrom_53 : decode cX0_runFrom 53 = .ok (.land, 1) := by decide +kernel
theorem dX0_runFrom_54 : decode cX0_runFrom 54 = .ok (.lload 9, 2) := by decide +kernel
theorem dX0_runFrom_56 : decode cX0_runFrom 56 = .ok (.lcmp, 1) := by decide +kernel
theorem dX0_runFrom_57 : decode cX0_runFrom 57 = .ok (.ifCond .ne 7, 3) := by decide +kernel
theorem dX0_runFrom_60 : decode cX0_runFrom 60 = .ok (.iconst 1, 1) := by decide +kernel
theorem dX0_runFrom_61 : decode cX0_runFrom 61 = .ok (.goto 4, 3) := by decide +kernel
theorem dX0_runFrom_64 : decode cX0_runFrom 64 = .ok (.iconst 0, 1) := by decide +kernel
theorem dX0_runFrom_65 : decode cX0_runFrom 65 = .ok (.istore 11, 2) := by decide +kernel
theorem dX0_runFrom_67 : decode cX0_runFrom 67 = .ok (.iconst (-1), 1) := by decide +kernel
theorem dX0_runFrom_68 : decode cX0_runFrom 68 = .ok (.istore 12, 2) := by decide +kernel
theorem dX0_runFrom_70 : decode cX0_runFrom 70 = .ok (.lload 5, 2) := by decide +kernel
theorem dX0_runFrom_72 : decode cX0_runFrom 72 = .ok (.iload 8, 2) := by decide +kernel
theorem dX0_runFrom_74 : decode cX0_runFrom 74 = .ok (.invokestatic 28, 3) := by decide +kernel
theorem dX0_runFrom_77 : decode cX0_runFrom 77 = .ok (.ifCond .ne 45, 3) := by decide +kernel
theorem dX0_runFrom_80 : decode cX0_runFrom 80 = .ok (.aload_n 1, 1) := by decide +kernel
theorem dX0_runFrom_81 : decode cX0_runFrom 81 = .ok (.iload 8, 2) := by decide +kernel
theorem dX0_runFrom_83 : decode cX0_runFrom 83 = .ok (.invokevirtual 32, 3) := by decide +kernel
theorem dX0_runFrom_86 : decode cX0_runFrom 86 = .ok (.ifCond .ne 36, 3) := by decide +kernel
theorem dX0_runFrom_89 : decode cX0_runFrom 89 = .ok (.lload_n 3, 1) := by decide +kernel
theorem dX0_runFrom_90 : decode cX0_runFrom 90 = .ok (.iload 8, 2) := by decide +kernel
theorem dX0_runFrom_92 : decode cX0_runFrom 92 = .ok (.invokestatic 28, 3) := by decide +kernel
theorem dX0_runFrom_95 : decode cX0_runFrom 95 = .ok (.ifCond .eq 10, 3) := by decide +kernel
theorem dX0_runFrom_98 : decode cX0_runFrom 98 = .ok (.iload 7, 2) := by decide +kernel
theorem dX0_runFrom_100 : decode cX0_runFrom 100 = .ok (.istore 12, 2) := by decide +kernel
theorem dX0_runFrom_102 : decode cX0_runFrom 102 = .ok (.goto 20, 3) := by decide +kernel
theorem dX0_runFrom_105 : decode cX0_runFrom 105 = .ok (.iload 11, 2) := by decide +kernel
theorem dX0_runFrom_107 : decode cX0_runFrom 107 = .ok (.ifCond .eq 15, 3) := by decide +kernel
theorem dX0_runFrom_110 : decode cX0_runFrom 110 = .ok (.aload_n 0, 1) := by decide +kernel
theorem dX0_runFrom_111 : decode cX0_runFrom 111 = .ok (.aload_n 1, 1) := by decide +kernel
theorem dX0_runFrom_112 : decode cX0_runFrom 112 = .ok (.aload_n 2, 1) := by decide +kernel
theorem dX0_runFrom_113 : decode cX0_runFrom 113 = .ok (.iload 8, 2) := by decide +kernel
theorem dX0_runFrom_115 : decode cX0_runFrom 115 = .ok (.lload 9, 2) := by decide +kernel
theorem dX0_runFrom_117 : decode cX0_runFrom 117 = .ok (.invokevirtual 36, 3) := by decide +kernel
theorem dX0_runFrom_120 : decode cX0_runFrom 120 = .ok (.istore 12, 2) := by decide +kernel
theorem dX0_runFrom_122 : decode cX0_runFrom 122 = .ok (.aload_n 0, 1) := by decide +kernel
theorem dX0_runFrom_123 : decode cX0_runFrom 123 = .ok (.getfield 9, 3) := by decide +kernel
theorem dX0_runFrom_126 : decode cX0_runFrom 126 = .ok (.iload 8, 2) := by decide +kernel
theorem dX0_runFrom_128 : decode cX0_runFrom 128 = .ok (.iload 12, 2) := by decide +kernel
theorem dX0_runFrom_130 : decode cX0_runFrom 130 = .ok (.iastore, 1) := by decide +kernel
theorem dX0_runFrom_131 : decode cX0_runFrom 131 = .ok (.iload 12, 2) := by decide +kernel
theorem dX0_runFrom_133 : decode cX0_runFrom 133 = .ok (.ifCond .lt 20, 3) := by decide +kernel
theorem dX0_runFrom_136 : decode cX0_runFrom 136 = .ok (.aload_n 0, 1) := by decide +kernel
theorem dX0_runFrom_137 : decode cX0_runFrom 137 = .ok (.dup, 1) := by decide +kernel
theorem dX0_runFrom_138 : decode cX0_runFrom 138 = .ok (.getfield 15, 3) := by decide +kernel
theorem dX0_runFrom_141 : decode cX0_runFrom 141 = .ok (.iload 8, 2) := by decide +kernel
theorem dX0_runFrom_143 : decode cX0_runFrom 143 = .ok (.invokestatic 40, 3) := by decide +kernel
theorem dX0_runFrom_146 : decode cX0_runFrom 146 = .ok (.lor, 1) := by decide +kernel
theorem dX0_runFrom_147 : decode cX0_runFrom 147 = .ok (.putfield 15, 3) := by decide +kernel
theorem dX0_runFrom_150 : decode cX0_runFrom 150 = .ok (.goto 22, 3) := by decide +kernel
theorem dX0_runFrom_153 : decode cX0_runFrom 153 = .ok (.iload 11, 2) := by decide +kernel
theorem dX0_runFrom_155 : decode cX0_runFrom 155 = .ok (.ifCond .eq 17, 3) := by decide +kernel
theorem dX0_runFrom_158 : decode cX0_runFrom 158 = .ok (.aload_n 0, 1) := by decide +kernel
theorem dX0_runFrom_159 : decode cX0_runFrom 159 = .ok (.dup, 1) := by decide +kernel
theorem dX0_runFrom_160 : decode cX0_runFrom 160 = .ok (.getfield 19, 3) := by decide +kernel
theorem dX0_runFrom_163 : decode cX0_runFrom 163 = .ok (.iload 8, 2) := by decide +kernel
theorem dX0_runFrom_165 : decode cX0_runFrom 165 = .ok (.invokestatic 40, 3) := by decide +kernel
theorem dX0_runFrom_168 : decode cX0_runFrom 168 = .ok (.lor, 1) := by decide +kernel
theorem dX0_runFrom_169 : decode cX0_runFrom 169 = .ok (.putfield 19, 3) := by decide +kernel
theorem dX0_runFrom_172 : decode cX0_runFrom 172 = .ok (.iinc 8 (-1), 3) := by decide +kernel
theorem dX0_runFrom_175 : decode cX0_runFrom 175 = .ok (.goto (-161), 3) := by decide +kernel
theorem dX0_runFrom_178 : decode cX0_runFrom 178 = .ok (.aload_n 0, 1) := by decide +kernel
theorem dX0_runFrom_179 : decode cX0_runFrom 179 = .ok (.getfield 15, 3) := by decide +kernel
theorem dX0_runFrom_182 : decode cX0_runFrom 182 = .ok (.invokestatic 43, 3) := by decide +kernel
theorem dX0_runFrom_185 : decode cX0_runFrom 185 = .ok (.ireturn, 1) := by decide +kernel
theorem dX0_restOf_0 : decode cX0_restOf 0 = .ok (.iconst 0, 1) := by decide +kernel
theorem dX0_restOf_1 : decode cX0_restOf 1 = .ok (.istore 6, 2) := by decide +kernel
theorem dX0_restOf_3 : decode cX0_restOf 3 = .ok (.iload_n 3, 1) := by decide +kernel
theorem dX0_restOf_4 : decode cX0_restOf 4 = .ok (.bipush 6, 2) := by decide +kernel
theorem dX0_restOf_6 : decode cX0_restOf 6 = .ok (.iadd, 1) := by decide +kernel
theorem dX0_restOf_7 : decode cX0_restOf 7 = .ok (.iconst 1, 1) := by decide +kernel
theorem dX0_restOf_8 : decode cX0_restOf 8 = .ok (.isub, 1) := by decide +kernel
theorem dX0_restOf_9 : decode cX0_restOf 9 = .ok (.istore 7, 2) := by decide +kernel
theorem dX0_restOf_11 : decode cX0_restOf 11 = .ok (.iload 7, 2) := by decide +kernel
theorem dX0_restOf_13 : decode cX0_restOf 13 = .ok (.bipush 48, 2) := by decide +kernel
theorem dX0_restOf_15 : decode cX0_restOf 15 = .ok (.if_icmp .ge 44, 3) := by decide +kernel
theorem dX0_restOf_18 : decode cX0_restOf 18 = .ok (.iload 7, 2) := by decide +kernel
theorem dX0_restOf_20 : decode cX0_restOf 20 = .ok (.iload_n 3, 1) := by decide +kernel
theorem dX0_restOf_21 : decode cX0_restOf 21 = .ok (.bipush 6, 2) := by decide +kernel
theorem dX0_restOf_23 : decode cX0_restOf 23 = .ok (.iadd, 1) := by decide +kernel
theorem dX0_restOf_24 : decode cX0_restOf 24 = .ok (.iconst 1, 1) := by decide +kernel
theorem dX0_restOf_25 : decode cX0_restOf 25 = .ok (.iadd, 1) := by decide +kernel
theorem dX0_restOf_26 : decode cX0_restOf 26 = .ok (.if_icmp .gt 33, 3) := by decide +kernel
theorem dX0_restOf_29 : decode cX0_restOf 29 = .ok (.lload 4, 2) := by decide +kernel
theorem dX0_restOf_31 : decode cX0_restOf 31 = .ok (.iload 7, 2) := by decide +kernel
theorem dX0_restOf_33 : decode cX0_restOf 33 = .ok (.invokestatic 28, 3) := by decide +kernel
theorem dX0_restOf_36 : decode cX0_restOf 36 = .ok (.ifCond .eq 17, 3) := by decide +kernel
theorem dX0_restOf_39 : decode cX0_restOf 39 = .ok (.iload 6, 2) := by decide +kernel
theorem dX0_restOf_41 : decode cX0_restOf 41 = .ok (.aload_n 0, 1) := by decide +kernel
theorem dX0_restOf_42 : decode cX0_restOf 42 = .ok (.getfield 9, 3) := by decide +kernel
theorem dX0_restOf_45 : decode cX0_restOf 45 = .ok (.iload 7, 2) := by decide +kernel
theorem dX0_restOf_47 : decode cX0_restOf 47 = .ok (.iaload, 1) := by decide +kernel
theorem dX0_restOf_48 : decode cX0_restOf 48 = .ok (.invokestatic 49, 3) := by decide +kernel
theorem dX0_restOf_51 : decode cX0_restOf 51 = .ok (.istore 6, 2) := by decide +kernel
theorem dX0_restOf_53 : decode cX0_restOf 53 = .ok (.iinc 7 1, 3) := by decide +kernel
theorem dX0_restOf_56 : decode cX0_restOf 56 = .ok (.goto (-45), 3) := by decide +kernel
theorem dX0_restOf_59 : decode cX0_restOf 59 = .ok (.aload_n 2, 1) := by decide +kernel
theorem dX0_restOf_60 : decode cX0_restOf 60 = .ok (.iconst 0, 1) := by decide +kernel
theorem dX0_restOf_61 : decode cX0_restOf 61 = .ok (.aload_n 1, 1) := by decide +kernel
theorem dX0_restOf_62 : decode cX0_restOf 62 = .ok (.iload_n 3, 1) := by decide +kernel
theorem dX0_restOf_63 : decode cX0_restOf 63 = .ok (.iload 6, 2) := by decide +kernel
theorem dX0_restOf_65 : decode cX0_restOf 65 = .ok (.invokevirtual 55, 3) := by decide +kernel
theorem dX0_restOf_68 : decode cX0_restOf 68 = .ok (.istore 7, 2) := by decide +kernel
theorem dX0_restOf_70 : decode cX0_restOf 70 = .ok (.aload_n 1, 1) := by decide +kernel
theorem dX0_restOf_71 : decode cX0_restOf 71 = .ok (.getfield 61, 3) := by decide +kernel
theorem dX0_restOf_74 : decode cX0_restOf 74 = .ok (.iload_n 3, 1) := by decide +kernel
theorem dX0_restOf_75 : decode cX0_restOf 75 = .ok (.iaload, 1) := by decide +kernel
theorem dX0_restOf_76 : decode cX0_restOf 76 = .ok (.iload 7, 2) := by decide +kernel
theorem dX0_restOf_78 : decode cX0_restOf 78 = .ok (.aload_n 1, 1) := by decide +kernel
theorem dX0_restOf_79 : decode cX0_restOf 79 = .ok (.getfield 64, 3) := by decide +kernel
theorem dX0_restOf_82 : decode cX0_restOf 82 = .ok (.iload_n 3, 1) := by decide +kernel
theorem dX0_restOf_83 : decode cX0_restOf 83 = .ok (.iaload, 1) := by decide +kernel
theorem dX0_restOf_84 : decode cX0_restOf 84 = .ok (.invokestatic 67, 3) := by decide +kernel
theorem dX0_restOf_87 : decode cX0_restOf 87 = .ok (.sipush 999, 3) := by decide +kernel
theorem dX0_restOf_90 : decode cX0_restOf 90 = .ok (.invokestatic 71, 3) := by decide +kernel
theorem dX0_restOf_93 : decode cX0_restOf 93 = .ok (.istore 8, 2) := by decide +kernel
theorem dX0_restOf_95 : decode cX0_restOf 95 = .ok (.iload 6, 2) := by decide +kernel
theorem dX0_restOf_97 : decode cX0_restOf 97 = .ok (.iload 8, 2) := by decide +kernel
theorem dX0_restOf_99 : decode cX0_restOf 99 = .ok (.if_icmp .le 11, 3) := by decide +kernel
theorem dX0_restOf_102 : decode cX0_restOf 102 = .ok (.iload 6, 2) := by decide +kernel
theorem dX0_restOf_104 : decode cX0_restOf 104 = .ok (.iload 8, 2) := by decide +kernel
theorem dX0_restOf_106 : decode cX0_restOf 106 = .ok (.isub, 1) := by decide +kernel
theorem dX0_restOf_107 : decode cX0_restOf 107 = .ok (.goto 4, 3) := by decide +kernel
theorem dX0_restOf_110 : decode cX0_restOf 110 = .ok (.iconst (-1), 1) := by decide +kernel
theorem dX0_restOf_111 : decode cX0_restOf 111 = .ok (.ireturn, 1) := by decide +kernel
theorem dX1_init_0 : decode cX1_init 0 = .ok (.aload_n 0, 1) := by decide +kernel
theorem dX1_init_1 : decode cX1_init 1 = .ok (.invokespecial 3, 3) := by decide +kernel
theorem dX1_init_4 : decode cX1_init 4 = .ok (.aload_n 0, 1) := by decide +kernel
theorem dX1_init_5 : decode cX1_init 5 = .ok (.bipush 48, 2) := by decide +kernel
theorem dX1_init_7 : decode cX1_init 7 = .ok (.newarray .int, 2) := by decide +kernel
theorem dX1_init_9 : decode cX1_init 9 = .ok (.putfield 9, 3) := by decide +kernel
theorem dX1_init_12 : decode cX1_init 12 = .ok (.aload_n 0, 1) := by decide +kernel
theorem dX1_init_13 : decode cX1_init 13 = .ok (.bipush 48, 2) := by decide +kernel
theorem dX1_init_15 : decode cX1_init 15 = .ok (.newarray .int, 2) := by decide +kernel
theorem dX1_init_17 : decode cX1_init 17 = .ok (.putfield 15, 3) := by decide +kernel
theorem dX1_init_20 : decode cX1_init 20 = .ok (.return_, 1) := by decide +kernel
theorem dX1_become_0 : decode cX1_become 0 = .ok (.aload_n 0, 1) := by decide +kernel
theorem dX1_become_1 : decode cX1_become 1 = .ok (.getfield 9, 3) := by decide +kernel
theorem dX1_become_4 : decode cX1_become 4 = .ok (.iload_n 1, 1) := by decide +kernel
theorem dX1_become_5 : decode cX1_become 5 = .ok (.iload_n 2, 1) := by decide +kernel
theorem dX1_become_6 : decode cX1_become 6 = .ok (.iastore, 1) := by decide +kernel
theorem dX1_become_7 : decode cX1_become 7 = .ok (.aload_n 0, 1) := by decide +kernel
theorem dX1_become_8 : decode cX1_become 8 = .ok (.getfield 15, 3) := by decide +kernel
theorem dX1_become_11 : decode cX1_become 11 = .ok (.iload_n 1, 1) := by decide +kernel
theorem dX1_become_12 : decode cX1_become 12 = .ok (.iload_n 3, 1) := by decide +kernel
theorem dX1_become_13 : decode cX1_become 13 = .ok (.iastore, 1) := by decide +kernel
theorem dX1_become_14 : decode cX1_become 14 = .ok (.return_, 1) := by decide +kernel
theorem dX1_takeFrom_0 : decode cX1_takeFrom 0 = .ok (.aload_n 1, 1) := by decide +kernel
theorem dX1_takeFrom_1 : decode cX1_takeFrom 1 = .ok (.getfield 9, 3) := by decide +kernel
theorem dX1_takeFrom_4 : decode cX1_takeFrom 4 = .ok (.iconst 0, 1) := by decide +kernel
theorem dX1_takeFrom_5 : decode cX1_takeFrom 5 = .ok (.aload_n 0, 1) := by decide +kernel
theorem dX1_takeFrom_6 : decode cX1_takeFrom 6 = .ok (.getfield 9, 3) := by decide +kernel
theorem dX1_takeFrom_9 : decode cX1_takeFrom 9 = .ok (.iconst 0, 1) := by decide +kernel
theorem dX1_takeFrom_10 : decode cX1_takeFrom 10 = .ok (.bipush 48, 2) := by decide +kernel
theorem dX1_takeFrom_12 : decode cX1_takeFrom 12 = .ok (.invokestatic 18, 3) := by decide +kernel
theorem dX1_takeFrom_15 : decode cX1_takeFrom 15 = .ok (.aload_n 1, 1) := by decide +kernel
theorem dX1_takeFrom_16 : decode cX1_takeFrom 16 = .ok (.getfield 15, 3) := by decide +kernel
theorem dX1_takeFrom_19 : decode cX1_takeFrom 19 = .ok (.iconst 0, 1) := by decide +kernel
theorem dX1_takeFrom_20 : decode cX1_takeFrom 20 = .ok (.aload_n 0, 1) := by decide +kernel
theorem dX1_takeFrom_21 : decode cX1_takeFrom 21 = .ok (.getfield 15, 3) := by decide +kernel
theorem dX1_takeFrom_24 : decode cX1_takeFrom 24 = .ok (.iconst 0, 1) := by decide +kernel
theorem dX1_takeFrom_25 : decode cX1_takeFrom 25 = .ok (.bipush 48, 2) := by decide +kernel
theorem dX1_takeFrom_27 : decode cX1_takeFrom 27 = .ok (.invokestatic 18, 3) := by decide +kernel
theorem dX1_takeFrom_30 : decode cX1_takeFrom 30 = .ok (.aload_n 0, 1) := by decide +kernel
theorem dX1_takeFrom_31 : decode cX1_takeFrom 31 = .ok (.aload_n 1, 1) := by decide +kernel
theorem dX1_takeFrom_32 : decode cX1_takeFrom 32 = .ok (.getfield 24, 3) := by decide +kernel
theorem dX1_takeFrom_35 : decode cX1_takeFrom 35 = .ok (.putfield 24, 3) := by decide +kernel
theorem dX1_takeFrom_38 : decode cX1_takeFrom 38 = .ok (.aload_n 0, 1) := by decide +kernel
theorem dX1_takeFrom_39 : decode cX1_takeFrom 39 = .ok (.aload_n 1, 1) := by decide +kernel
theorem dX1_takeFrom_40 : decode cX1_takeFrom 40 = .ok (.getfield 28, 3) := by decide +kernel
theorem dX1_takeFrom_43 : decode cX1_takeFrom 43 = .ok (.putfield 28, 3) := by decide +kernel
theorem dX1_takeFrom_46 : decode cX1_takeFrom 46 = .ok (.aload_n 0, 1) := by decide +kernel
theorem dX1_takeFrom_47 : decode cX1_takeFrom 47 = .ok (.aload_n 1, 1) := by decide +kernel
theorem dX1_takeFrom_48 : decode cX1_takeFrom 48 = .ok (.getfield 31, 3) := by decide +kernel
theorem dX1_takeFrom_51 : decode cX1_takeFrom 51 = .ok (.putfield 31, 3) := by decide +kernel
theorem dX1_takeFrom_54 : decode cX1_takeFrom 54 = .ok (.return_, 1) := by decide +kernel
theorem dX1_keeps_0 : decode cX1_keeps 0 = .ok (.aload_n 0, 1) := by decide +kernel
theorem dX1_keeps_1 : decode cX1_keeps 1 = .ok (.getfield 9, 3) := by decide +kernel
theorem dX1_keeps_4 : decode cX1_keeps 4 = .ok (.iload_n 1, 1) := by decide +kernel
theorem dX1_keeps_5 : decode cX1_keeps 5 = .ok (.iaload, 1) := by decide +kernel
theorem dX1_keeps_6 : decode cX1_keeps 6 = .ok (.iconst 5, 1) := by decide +kernel
theorem dX1_keeps_7 : decode cX1_keeps 7 = .ok (.if_icmp .eq 14, 3) := by decide +kernel
theorem dX1_keeps_10 : decode cX1_keeps 10 = .ok (.aload_n 0, 1) := by decide +kernel
theorem dX1_keeps_11 : decode cX1_keeps 11 = .ok (.getfield 24, 3) := by decide +kernel
theorem dX1_keeps_14 : decode cX1_keeps 14 = .ok (.iload_n 1, 1) := by decide +kernel
theorem dX1_keeps_15 : decode cX1_keeps 15 = .ok (.invokestatic 35, 3) := by decide +kernel
theorem dX1_keeps_18 : decode cX1_keeps 18 = .ok (.ifCond .eq 7, 3) := by decide +kernel
theorem dX1_keeps_21 : decode cX1_keeps 21 = .ok (.iconst 1, 1) := by decide +kernel
theorem dX1_keeps_22 : decode cX1_keeps 22 = .ok (.goto 4, 3) := by decide +kernel
theorem dX1_keeps_25 : decode cX1_keeps 25 = .ok (.iconst 0, 1) := by decide +kernel
theorem dX1_keeps_26 : decode cX1_keeps 26 = .ok (.ireturn, 1) := by decide +kernel
theorem dX1_placesBelow_0 : decode cX1_placesBelow 0 = .ok (.iload_n 1, 1) := by decide +kernel
theorem dX1_placesBelow_1 : decode cX1_placesBelow 1 = .ok (.bipush 6, 2) := by decide +kernel
theorem dX1_placesBelow_3 : decode cX1_placesBelow 3 = .ok (.irem, 1) := by decide +kernel
theorem dX1_placesBelow_4 : decode cX1_placesBelow 4 = .ok (.istore_n 2, 1) := by decide +kernel
theorem dX1_placesBelow_5 : decode cX1_placesBelow 5 = .ok (.aload_n 0, 1) := by decide +kernel
theorem dX1_placesBelow_6 : decode cX1_placesBelow 6 = .ok (.getfield 9, 3) := by decide +kernel
theorem dX1_placesBelow_9 : decode cX1_placesBelow 9 = .ok (.iload_n 1, 1) := by decide +kernel
theorem dX1_placesBelow_10 : decode cX1_placesBelow 10 = .ok (.iaload, 1) := by decide +kernel
theorem dX1_placesBelow_11 : decode cX1_placesBelow 11 = .ok (.invokestatic 39, 3) := by decide +kernel
theorem dX1_placesBelow_14 : decode cX1_placesBelow 14 = .ok (.ifCond .eq 9, 3) := by decide +kernel
theorem dX1_placesBelow_17 : decode cX1_placesBelow 17 = .ok (.iconst 1, 1) := by decide +kernel
theorem dX1_placesBelow_18 : decode cX1_placesBelow 18 = .ok (.iload_n 2, 1) := by decide +kernel
theorem dX1_placesBelow_19 : decode cX1_placesBelow 19 = .ok (.ishl, 1) := by decide +kernel
theorem dX1_placesBelow_20 : decode cX1_placesBelow 20 = .ok (.goto 4, 3) := by decide +kernel
theorem dX1_placesBelow_23 : decode cX1_placesBelow 23 = .ok (.iconst 0, 1) := by decide +kernel
theorem dX1_placesBelow_24 : decode cX1_placesBelow 24 = .ok (.istore_n 3, 1) := by decide +kernel
theorem dX1_placesBelow_25 : decode cX1_placesBelow 25 = .ok (.aload_n 0, 1) := by decide +kernel
theorem dX1_placesBelow_26 : decode cX1_placesBelow 26 = .ok (.getfield 9, 3) := by decide +kernel
theorem dX1_placesBelow_29 : decode cX1_placesBelow 29 = .ok (.iload_n 1, 1) := by decide +kernel
theorem dX1_placesBelow_30 : decode cX1_placesBelow 30 = .ok (.iaload, 1) := by decide +kernel
theorem dX1_placesBelow_31 : decode cX1_placesBelow 31 = .ok (.invokestatic 43, 3) := by decide +kernel
theorem dX1_placesBelow_34 : decode cX1_placesBelow 34 = .ok (.ifCond .eq 13, 3) := by decide +kernel
theorem dX1_placesBelow_37 : decode cX1_placesBelow 37 = .ok (.iload_n 3, 1) := by decide +kernel
theorem dX1_placesBelow_38 : decode cX1_placesBelow 38 = .ok (.iconst 1, 1) := by decide +kernel
theorem dX1_placesBelow_39 : decode cX1_placesBelow 39 = .ok (.iload_n 2, 1) := by decide +kernel
theorem dX1_placesBelow_40 : decode cX1_placesBelow 40 = .ok (.iconst 1, 1) := by decide +kernel
theorem dX1_placesBelow_41 : decode cX1_placesBelow 41 = .ok (.ixor, 1) := by decide +kernel
theorem dX1_placesBelow_42 : decode cX1_placesBelow 42 = .ok (.ishl, 1) := by decide +kernel
theorem dX1_placesBelow_43 : decode cX1_placesBelow 43 = .ok (.ior, 1) := by decide +kernel
theorem dX1_placesBelow_44 : decode cX1_placesBelow 44 = .ok (.goto 4, 3) := by decide +kernel
theorem dX1_placesBelow_47 : decode cX1_placesBelow 47 = .ok (.iload_n 3, 1) := by decide +kernel
theorem dX1_placesBelow_48 : decode cX1_placesBelow 48 = .ok (.ireturn, 1) := by decide +kernel
theorem dX1_under_0 : decode cX1_under 0 = .ok (.aload_n 0, 1) := by decide +kernel
theorem dX1_under_1 : decode cX1_under 1 = .ok (.iload_n 1, 1) := by decide +kernel
theorem dX1_under_2 : decode cX1_under 2 = .ok (.invokevirtual 46, 3) := by decide +kernel
theorem dX1_under_5 : decode cX1_under 5 = .ok (.i2l, 1) := by decide +kernel
theorem dX1_under_6 : decode cX1_under 6 = .ok (.lstore_n 2, 1) := by decide +kernel
theorem dX1_under_7 : decode cX1_under 7 = .ok (.iload_n 1, 1) := by decide +kernel
theorem dX1_under_8 : decode cX1_under 8 = .ok (.bipush 6, 2) := by decide +kernel
theorem dX1_under_10 : decode cX1_under 10 = .ok (.if_icmp .ge 7, 3) := by decide +kernel
theorem dX1_under_13 : decode cX1_under 13 = .ok (.lconst 0, 1) := by decide +kernel
theorem dX1_under_14 : decode cX1_under 14 = .ok (.goto 14, 3) := by decide +kernel
theorem dX1_under_17 : decode cX1_under 17 = .ok (.lload_n 2, 1) := by decide +kernel
theorem dX1_under_18 : decode cX1_under 18 = .ok (.iload_n 1, 1) := by decide +kernel
theorem dX1_under_19 : decode cX1_under 19 = .ok (.bipush 6, 2) := by decide +kernel
theorem dX1_under_21 : decode cX1_under 21 = .ok (.idiv, 1) := by decide +kernel
theorem dX1_under_22 : decode cX1_under 22 = .ok (.iconst 1, 1) := by decide +kernel
theorem dX1_under_23 : decode cX1_under 23 = .ok (.isub, 1) := by decide +kernel
theorem dX1_under_24 : decode cX1_under 24 = .ok (.bipush 6, 2) := by decide +kernel
theorem dX1_under_26 : decode cX1_under 26 = .ok (.imul, 1) := by decide +kernel
theorem dX1_under_27 : decode cX1_under 27 = .ok (.lshl, 1) := by decide +kernel
theorem dX1_under_28 : decode cX1_under 28 = .ok (.lreturn, 1) := by decide +kernel
theorem dX1_over_0 : decode cX1_over 0 = .ok (.iload_n 1, 1) := by decide +kernel
theorem dX1_over_1 : decode cX1_over 1 = .ok (.bipush 6, 2) := by decide +kernel
theorem dX1_over_3 : decode cX1_over 3 = .ok (.iadd, 1) := by decide +kernel
theorem dX1_over_4 : decode cX1_over 4 = .ok (.istore_n 2, 1) := by decide +kernel
theorem dX1_over_5 : decode cX1_over 5 = .ok (.iload_n 2, 1) := by decide +kernel
theorem dX1_over_6 : decode cX1_over 6 = .ok (.bipush 48, 2) := by decide +kernel
theorem dX1_over_8 : decode cX1_over 8 = .ok (.if_icmp .lt 5, 3) := by decide +kernel
theorem dX1_over_11 : decode cX1_over 11 = .ok (.lconst 0, 1) := by decide +kernel
theorem dX1_over_12 : decode cX1_over 12 = .ok (.lreturn, 1) := by decide +kernel
theorem dX1_over_13 : decode cX1_over 13 = .ok (.iload_n 2, 1) := by decide +kernel
theorem dX1_over_14 : decode cX1_over 14 = .ok (.iconst 1, 1) := by decide +kernel
theorem dX1_over_15 : decode cX1_over 15 = .ok (.ixor, 1) := by decide +kernel
theorem dX1_over_16 : decode cX1_over 16 = .ok (.istore_n 3, 1) := by decide +kernel
theorem dX1_over_17 : decode cX1_over 17 = .ok (.aload_n 0, 1) := by decide +kernel
theorem dX1_over_18 : decode cX1_over 18 = .ok (.getfield 9, 3) := by decide +kernel
theorem dX1_over_21 : decode cX1_over 21 = .ok (.iload_n 2, 1) := by decide +kernel
theorem dX1_over_22 : decode cX1_over 22 = .ok (.iaload, 1) := by decide +kernel
theorem dX1_over_23 : decode cX1_over 23 = .ok (.invokestatic 39, 3) := by decide +kernel
theorem dX1_over_26 : decode cX1_over 26 = .ok (.ifCond .eq 10, 3) := by decide +kernel
theorem dX1_over_29 : decode cX1_over 29 = .ok (.iload_n 2, 1) := by decide +kernel
theorem dX1_over_30 : decode cX1_over 30 = .ok (.invokestatic 50, 3) := by decide +kernel
theorem dX1_over_33 : decode cX1_over 33 = .ok (.goto 4, 3) := by decide +kernel
theorem dX1_over_36 : decode cX1_over 36 = .ok (.lconst 0, 1) := by decide +kernel
theorem dX1_over_37 : decode cX1_over 37 = .ok (.lstore 4, 2) := by decide +kernel
theorem dX1_over_39 : decode cX1_over 39 = .ok (.aload_n 0, 1) := by decide +kernel
theorem dX1_over_40 : decode cX1_over 40 = .ok (.getfield 9, 3) := by decide +kernel
theorem dX1_over_43 : decode cX1_over 43 = .ok (.iload_n 3, 1) := by decide +kernel
theorem dX1_over_44 : decode cX1_over 44 = .ok (.iaload, 1) := by decide +kernel
theorem dX1_over_45 : decode cX1_over 45 = .ok (.invokestatic 43, 3) := by decide +kernel
theorem dX1_over_48 : decode cX1_over 48 = .ok (.ifCond .eq 13, 3) := by decide +kernel
theorem dX1_over_51 : decode cX1_over 51 = .ok (.lload 4, 2) := by decide +kernel
theorem dX1_over_53 : decode cX1_over 53 = .ok (.iload_n 3, 1) := by decide +kernel
theorem dX1_over_54 : decode cX1_over 54 = .ok (.invokestatic 50, 3) := by decide +kernel
theorem dX1_over_57 : decode cX1_over 57 = .ok (.lor, 1) := by decide +kernel
theorem dX1_over_58 : decode cX1_over 58 = .ok (.goto 5, 3) := by decide +kernel
theorem dX1_over_61 : decode cX1_over 61 = .ok (.lload 4, 2) := by decide +kernel
theorem dX1_over_63 : decode cX1_over 63 = .ok (.lreturn, 1) := by decide +kernel
theorem dX2_init_0 : decode cX2_init 0 = .ok (.aload_n 0, 1) := by decide +kernel
theorem dX2_init_1 : decode cX2_init 1 = .ok (.invokespecial 3, 3) := by decide +kernel
theorem dX2_init_4 : decode cX2_init 4 = .ok (.aload_n 0, 1) := by decide +kernel
theorem dX2_init_5 : decode cX2_init 5 = .ok (.bipush 48, 2) := by decide +kernel
theorem dX2_init_7 : decode cX2_init 7 = .ok (.newarray .int, 2) := by decide +kernel
theorem dX2_init_9 : decode cX2_init 9 = .ok (.putfield 9, 3) := by decide +kernel
theorem dX2_init_12 : decode cX2_init 12 = .ok (.aload_n 0, 1) := by decide +kernel
theorem dX2_init_13 : decode cX2_init 13 = .ok (.iconst (-1), 1) := by decide +kernel
theorem dX2_init_14 : decode cX2_init 14 = .ok (.putfield 15, 3) := by decide +kernel
theorem dX2_init_17 : decode cX2_init 17 = .ok (.return_, 1) := by decide +kernel
theorem dX2_isMissing_0 : decode cX2_isMissing 0 = .ok (.aload_n 0, 1) := by decide +kernel
theorem dX2_isMissing_1 : decode cX2_isMissing 1 = .ok (.getfield 15, 3) := by decide +kernel
theorem dX2_isMissing_4 : decode cX2_isMissing 4 = .ok (.iconst (-1), 1) := by decide +kernel
theorem dX2_isMissing_5 : decode cX2_isMissing 5 = .ok (.if_icmp .ne 7, 3) := by decide +kernel
theorem dX2_isMissing_8 : decode cX2_isMissing 8 = .ok (.iconst 1, 1) := by decide +kernel
theorem dX2_isMissing_9 : decode cX2_isMissing 9 = .ok (.goto 4, 3) := by decide +kernel
theorem dX2_isMissing_12 : decode cX2_isMissing 12 = .ok (.iconst 0, 1) := by decide +kernel
theorem dX2_isMissing_13 : decode cX2_isMissing 13 = .ok (.ireturn, 1) := by decide +kernel
theorem dX2_become_0 : decode cX2_become 0 = .ok (.aload_n 0, 1) := by decide +kernel
theorem dX2_become_1 : decode cX2_become 1 = .ok (.iload_n 1, 1) := by decide +kernel
theorem dX2_become_2 : decode cX2_become 2 = .ok (.putfield 15, 3) := by decide +kernel
theorem dX2_become_5 : decode cX2_become 5 = .ok (.aload_n 0, 1) := by decide +kernel
theorem dX2_become_6 : decode cX2_become 6 = .ok (.iload_n 2, 1) := by decide +kernel
theorem dX2_become_7 : decode cX2_become 7 = .ok (.putfield 19, 3) := by decide +kernel
theorem dX2_become_10 : decode cX2_become 10 = .ok (.iconst 0, 1) := by decide +kernel
theorem dX2_become_11 : decode cX2_become 11 = .ok (.istore_n 3, 1) := by decide +kernel
theorem dX2_become_12 : decode cX2_become 12 = .ok (.iload_n 3, 1) := by decide +kernel
theorem dX2_become_13 : decode cX2_become 13 = .ok (.bipush 48, 2) := by decide +kernel
theorem dX2_become_15 : decode cX2_become 15 = .ok (.if_icmp .ge 16, 3) := by decide +kernel
theorem dX2_become_18 : decode cX2_become 18 = .ok (.aload_n 0, 1) := by decide +kernel
theorem dX2_become_19 : decode cX2_become 19 = .ok (.getfield 9, 3) := by decide +kernel
theorem dX2_become_22 : decode cX2_become 22 = .ok (.iload_n 3, 1) := by decide +kernel
theorem dX2_become_23 : decode cX2_become 23 = .ok (.iconst 0, 1) := by decide +kernel
theorem dX2_become_24 : decode cX2_become 24 = .ok (.iastore, 1) := by decide +kernel
theorem dX2_become_25 : decode cX2_become 25 = .ok (.iinc 3 1, 3) := by decide +kernel
theorem dX2_become_28 : decode cX2_become 28 = .ok (.goto (-16), 3) := by decide +kernel
theorem dX2_become_31 : decode cX2_become 31 = .ok (.return_, 1) := by decide +kernel
theorem dX2_put_0 : decode cX2_put 0 = .ok (.aload_n 0, 1) := by decide +kernel
theorem dX2_put_1 : decode cX2_put 1 = .ok (.getfield 15, 3) := by decide +kernel
theorem dX2_put_4 : decode cX2_put 4 = .ok (.ifCond .ne 8, 3) := by decide +kernel
theorem dX2_put_7 : decode cX2_put 7 = .ok (.bipush 24, 2) := by decide +kernel
theorem dX2_put_9 : decode cX2_put 9 = .ok (.goto 17, 3) := by decide +kernel
theorem dX2_put_12 : decode cX2_put 12 = .ok (.aload_n 0, 1) := by decide +kernel
theorem dX2_put_13 : decode cX2_put 13 = .ok (.getfield 15, 3) := by decide +kernel
theorem dX2_put_16 : decode cX2_put 16 = .ok (.iconst 1, 1) := by decide +kernel
theorem dX2_put_17 : decode cX2_put 17 = .ok (.if_icmp .ne 8, 3) := by decide +kernel
theorem dX2_put_20 : decode cX2_put 20 = .ok (.bipush 16, 2) := by decide +kernel
theorem dX2_put_22 : decode cX2_put 22 = .ok (.goto 4, 3) := by decide +kernel
theorem dX2_put_25 : decode cX2_put 25 = .ok (.iconst 0, 1) := by decide +kernel
theorem dX2_put_26 : decode cX2_put 26 = .ok (.istore_n 3, 1) := by decide +kernel
theorem dX2_put_27 : decode cX2_put 27 = .ok (.aload_n 0, 1) := by decide +kernel
theorem dX2_put_28 : decode cX2_put 28 = .ok (.getfield 9, 3) := by decide +kernel
theorem dX2_put_31 : decode cX2_put 31 = .ok (.iload_n 1, 1) := by decide +kernel
theorem dX2_put_32 : decode cX2_put 32 = .ok (.iload_n 2, 1) := by decide +kernel
theorem dX2_put_33 : decode cX2_put 33 = .ok (.iload_n 3, 1) := by decide +kernel
theorem dX2_put_34 : decode cX2_put 34 = .ok (.ishl, 1) := by decide +kernel
theorem dX2_put_35 : decode cX2_put 35 = .ok (.iload_n 3, 1) := by decide +kernel
theorem dX2_put_36 : decode cX2_put 36 = .ok (.ishr, 1) := by decide +kernel
theorem dX2_put_37 : decode cX2_put 37 = .ok (.iastore, 1) := by decide +kernel
theorem dX2_put_38 : decode cX2_put 38 = .ok (.return_, 1) := by decide +kernel
theorem dX2_hasRoom_0 : decode cX2_hasRoom 0 = .ok (.iload_n 1, 1) := by decide +kernel
theorem dX2_hasRoom_1 : decode cX2_hasRoom 1 = .ok (.ifCond .lt 29, 3) := by decide +kernel
theorem dX2_hasRoom_4 : decode cX2_hasRoom 4 = .ok (.iload_n 2, 1) := by decide +kernel
theorem dX2_hasRoom_5 : decode cX2_hasRoom 5 = .ok (.ifCond .lt 25, 3) := by decide +kernel
theorem dX2_hasRoom_8 : decode cX2_hasRoom 8 = .ok (.iload_n 1, 1) := by decide +kernel
theorem dX2_hasRoom_9 : decode cX2_hasRoom 9 = .ok (.aload_n 0, 1) := by decide +kernel
theorem dX2_hasRoom_10 : decode cX2_hasRoom 10 = .ok (.getfield 19, 3) := by decide +kernel
theorem dX2_hasRoom_13 : decode cX2_hasRoom 13 = .ok (.if_icmp .gt 17, 3) := by decide +kernel
theorem dX2_hasRoom_16 : decode cX2_hasRoom 16 = .ok (.iload_n 2, 1) := by decide +kernel
theorem dX2_hasRoom_17 : decode cX2_hasRoom 17 = .ok (.aload_n 0, 1) := by decide +kernel
theorem dX2_hasRoom_18 : decode cX2_hasRoom 18 = .ok (.getfield 19, 3) := by decide +kernel
theorem dX2_hasRoom_21 : decode cX2_hasRoom 21 = .ok (.iload_n 1, 1) := by decide +kernel
theorem dX2_hasRoom_22 : decode cX2_hasRoom 22 = .ok (.isub, 1) := by decide +kernel
theorem dX2_hasRoom_23 : decode cX2_hasRoom 23 = .ok (.if_icmp .gt 7, 3) := by decide +kernel
theorem dX2_hasRoom_26 : decode cX2_hasRoom 26 = .ok (.iconst 1, 1) := by decide +kernel
theorem dX2_hasRoom_27 : decode cX2_hasRoom 27 = .ok (.goto 4, 3) := by decide +kernel
theorem dX2_hasRoom_30 : decode cX2_hasRoom 30 = .ok (.iconst 0, 1) := by decide +kernel
theorem dX2_hasRoom_31 : decode cX2_hasRoom 31 = .ok (.ireturn, 1) := by decide +kernel
theorem dX2_firstUnlike_0 : decode cX2_firstUnlike 0 = .ok (.iconst 0, 1) := by decide +kernel
theorem dX2_firstUnlike_1 : decode cX2_firstUnlike 1 = .ok (.istore_n 3, 1) := by decide +kernel
theorem dX2_firstUnlike_2 : decode cX2_firstUnlike 2 = .ok (.iload_n 3, 1) := by decide +kernel
theorem dX2_firstUnlike_3 : decode cX2_firstUnlike 3 = .ok (.aload_n 0, 1) := by decide +kernel
theorem dX2_firstUnlike_4 : decode cX2_firstUnlike 4 = .ok (.getfield 19, 3) := by decide +kernel
theorem dX2_firstUnlike_7 : decode cX2_firstUnlike 7 = .ok (.if_icmp .ge 39, 3) := by decide +kernel
theorem dX2_firstUnlike_10 : decode cX2_firstUnlike 10 = .ok (.iload_n 3, 1) := by decide +kernel
theorem dX2_firstUnlike_11 : decode cX2_firstUnlike 11 = .ok (.bipush 48, 2) := by decide +kernel
theorem dX2_firstUnlike_13 : decode cX2_firstUnlike 13 = .ok (.if_icmp .ge 33, 3) := by decide +kernel
theorem dX2_firstUnlike_16 : decode cX2_firstUnlike 16 = .ok (.aload_n 0, 1) := by decide +kernel
theorem dX2_firstUnlike_17 : decode cX2_firstUnlike 17 = .ok (.getfield 9, 3) := by decide +kernel
theorem dX2_firstUnlike_20 : decode cX2_firstUnlike 20 = .ok (.iload_n 3, 1) := by decide +kernel
theorem dX2_firstUnlike_21 : decode cX2_firstUnlike 21 = .ok (.iaload, 1) := by decide +kernel
theorem dX2_firstUnlike_22 : decode cX2_firstUnlike 22 = .ok (.lload_n 1, 1) := by decide +kernel
theorem dX2_firstUnlike_23 : decode cX2_firstUnlike 23 = .ok (.iload_n 3, 1) := by decide +kernel
theorem dX2_firstUnlike_24 : decode cX2_firstUnlike 24 = .ok (.invokestatic 22, 3) := by decide +kernel
theorem dX2_firstUnlike_27 : decode cX2_firstUnlike 27 = .ok (.ifCond .eq 7, 3) := by decide +kernel
theorem dX2_firstUnlike_30 : decode cX2_firstUnlike 30 = .ok (.iconst 1, 1) := by decide +kernel
theorem dX2_firstUnlike_31 : decode cX2_firstUnlike 31 = .ok (.goto 4, 3) := by decide +kernel
theorem dX2_firstUnlike_34 : decode cX2_firstUnlike 34 = .ok (.iconst 0, 1) := by decide +kernel
theorem dX2_firstUnlike_35 : decode cX2_firstUnlike 35 = .ok (.if_icmp .eq 5, 3) := by decide +kernel
theorem dX2_firstUnlike_38 : decode cX2_firstUnlike 38 = .ok (.iload_n 3, 1) := by decide +kernel
theorem dX2_firstUnlike_39 : decode cX2_firstUnlike 39 = .ok (.ireturn, 1) := by decide +kernel
theorem dX2_firstUnlike_40 : decode cX2_firstUnlike 40 = .ok (.iinc 3 1, 3) := by decide +kernel
theorem dX2_firstUnlike_43 : decode cX2_firstUnlike 43 = .ok (.goto (-41), 3) := by decide +kernel
theorem dX2_firstUnlike_46 : decode cX2_firstUnlike 46 = .ok (.iconst (-1), 1) := by decide +kernel
theorem dX2_firstUnlike_47 : decode cX2_firstUnlike 47 = .ok (.ireturn, 1) := by decide +kernel
theorem dX3_init_0 : decode cX3_init 0 = .ok (.aload_n 0, 1) := by decide +kernel
theorem dX3_init_1 : decode cX3_init 1 = .ok (.invokespecial 3, 3) := by decide +kernel
theorem dX3_init_4 : decode cX3_init 4 = .ok (.aload_n 0, 1) := by decide +kernel
theorem dX3_init_5 : decode cX3_init 5 = .ok (.sipush 160, 3) := by decide +kernel
theorem dX3_init_8 : decode cX3_init 8 = .ok (.newarray .int, 2) := by decide +kernel
theorem dX3_init_10 : decode cX3_init 10 = .ok (.putfield 9, 3) := by decide +kernel
theorem dX3_init_13 : decode cX3_init 13 = .ok (.return_, 1) := by decide +kernel
theorem dX3_add_0 : decode cX3_add 0 = .ok (.aload_n 0, 1) := by decide +kernel
theorem dX3_add_1 : decode cX3_add 1 = .ok (.getfield 15, 3) := by decide +kernel
theorem dX3_add_4 : decode cX3_add 4 = .ok (.sipush 160, 3) := by decide +kernel
theorem dX3_add_7 : decode cX3_add 7 = .ok (.if_icmp .ge 20, 3) := by decide +kernel
theorem dX3_add_10 : decode cX3_add 10 = .ok (.aload_n 0, 1) := by decide +kernel
theorem dX3_add_11 : decode cX3_add 11 = .ok (.getfield 9, 3) := by decide +kernel
theorem dX3_add_14 : decode cX3_add 14 = .ok (.aload_n 0, 1) := by decide +kernel
theorem dX3_add_15 : decode cX3_add 15 = .ok (.dup, 1) := by decide +kernel
theorem dX3_add_16 : decode cX3_add 16 = .ok (.getfield 15, 3) := by decide +kernel
theorem dX3_add_19 : decode cX3_add 19 = .ok (.dup_x1, 1) := by decide +kernel
theorem dX3_add_20 : decode cX3_add 20 = .ok (.iconst 1, 1) := by decide +kernel
theorem dX3_add_21 : decode cX3_add 21 = .ok (.iadd, 1) := by decide +kernel
theorem dX3_add_22 : decode cX3_add 22 = .ok (.putfield 15, 3) := by decide +kernel
theorem dX3_add_25 : decode cX3_add 25 = .ok (.iload_n 1, 1) := by decide +kernel
theorem dX3_add_26 : decode cX3_add 26 = .ok (.iastore, 1) := by decide +kernel
theorem dX3_add_27 : decode cX3_add 27 = .ok (.return_, 1) := by decide +kernel
theorem dX3_readInto_0 : decode cX3_readInto 0 = .ok (.aload_n 0, 1) := by decide +kernel
theorem dX3_readInto_1 : decode cX3_readInto 1 = .ok (.aload_n 1, 1) := by decide +kernel
theorem dX3_readInto_2 : decode cX3_readInto 2 = .ok (.putfield 19, 3) := by decide +kernel
theorem dX3_readInto_5 : decode cX3_readInto 5 = .ok (.aload_n 0, 1) := by decide +kernel
theorem dX3_readInto_6 : decode cX3_readInto 6 = .ok (.getfield 19, 3) := by decide +kernel
theorem dX3_readInto_9 : decode cX3_readInto 9 = .ok (.invokevirtual 23, 3) := by decide +kernel
theorem dX3_readInto_12 : decode cX3_readInto 12 = .ok (.aload_n 0, 1) := by decide +kernel
theorem dX3_readInto_13 : decode cX3_readInto 13 = .ok (.iconst 0, 1) := by decide +kernel
theorem dX3_readInto_14 : decode cX3_readInto 14 = .ok (.putfield 28, 3) := by decide +kernel
theorem dX3_readInto_17 : decode cX3_readInto 17 = .ok (.aload_n 0, 1) := by decide +kernel
theorem dX3_readInto_18 : decode cX3_readInto 18 = .ok (.invokevirtual 31, 3) := by decide +kernel
theorem dX3_readInto_21 : decode cX3_readInto 21 = .ok (.iconst 0, 1) := by decide +kernel
theorem dX3_readInto_22 : decode cX3_readInto 22 = .ok (.istore_n 2, 1) := by decide +kernel
theorem dX3_readInto_23 : decode cX3_readInto 23 = .ok (.iload_n 2, 1) := by decide +kernel
theorem dX3_readInto_24 : decode cX3_readInto 24 = .ok (.iconst 3, 1) := by decide +kernel
theorem dX3_readInto_25 : decode cX3_readInto 25 = .ok (.if_icmp .ge 65, 3) := by decide +kernel
theorem dX3_readInto_28 : decode cX3_readInto 28 = .ok (.aload_n 0, 1) := by decide +kernel
theorem dX3_readInto_29 : decode cX3_readInto 29 = .ok (.getfield 34, 3) := by decide +kernel
theorem dX3_readInto_32 : decode cX3_readInto 32 = .ok (.sipush 300, 3) := by decide +kernel
theorem dX3_readInto_35 : decode cX3_readInto 35 = .ok (.iload_n 2, 1) := by decide +kernel
theorem dX3_readInto_36 : decode cX3_readInto 36 = .ok (.iadd, 1) := by decide +kernel
theorem dX3_readInto_37 : decode cX3_readInto 37 = .ok (.if_icmp .eq 8, 3) := by decide +kernel
theorem dX3_readInto_40 : decode cX3_readInto 40 = .ok (.aload_n 0, 1) := by decide +kernel
theorem dX3_readInto_41 : decode cX3_readInto 41 = .ok (.getfield 37, 3) := by decide +kernel
theorem dX3_readInto_44 : decode cX3_readInto 44 = .ok (.ireturn, 1) := by decide +kernel
theorem dX3_readInto_45 : decode cX3_readInto 45 = .ok (.aload_n 0, 1) := by decide +kernel
theorem dX3_readInto_46 : decode cX3_readInto 46 = .ok (.invokevirtual 31, 3) := by decide +kernel
theorem dX3_readInto_49 : decode cX3_readInto 49 = .ok (.aload_n 0, 1) := by decide +kernel
theorem dX3_readInto_50 : decode cX3_readInto 50 = .ok (.iconst 0, 1) := by decide +kernel
theorem dX3_readInto_51 : decode cX3_readInto 51 = .ok (.iconst 0, 1) := by decide +kernel
theorem dX3_readInto_52 : decode cX3_readInto 52 = .ok (.invokevirtual 40, 3) := by decide +kernel
theorem dX3_readInto_55 : decode cX3_readInto 55 = .ok (.ifCond .eq 12, 3) := by decide +kernel
theorem dX3_readInto_58 : decode cX3_readInto 58 = .ok (.aload_n 0, 1) := by decide +kernel
theorem dX3_readInto_59 : decode cX3_readInto 59 = .ok (.getfield 34, 3) := by decide +kernel
theorem dX3_readInto_62 : decode cX3_readInto 62 = .ok (.bipush 59, 2) := by decide +kernel
theorem dX3_readInto_64 : decode cX3_readInto 64 = .ok (.if_icmp .eq 8, 3) := by decide +kernel
theorem dX3_readInto_67 : decode cX3_readInto 67 = .ok (.aload_n 0, 1) := by decide +kernel
theorem dX3_readInto_68 : decode cX3_readInto 68 = .ok (.getfield 37, 3) := by decide +kernel
theorem dX3_readInto_71 : decode cX3_readInto 71 = .ok (.ireturn, 1) := by decide +kernel
theorem dX3_readInto_72 : decode cX3_readInto 72 = .ok (.aload_n 0, 1) := by decide +kernel
theorem dX3_readInto_73 : decode cX3_readInto 73 = .ok (.getfield 19, 3) := by decide +kernel
theorem dX3_readInto_76 : decode cX3_readInto 76 = .ok (.iload_n 2, 1) := by decide +kernel
theorem dX3_readInto_77 : decode cX3_readInto 77 = .ok (.invokevirtual 44, 3) := by decide +kernel
theorem dX3_readInto_80 : decode cX3_readInto 80 = .ok (.aload_n 0, 1) := by decide +kernel
theorem dX3_readInto_81 : decode cX3_readInto 81 = .ok (.invokevirtual 31, 3) := by decide +kernel
theorem dX3_readInto_84 : decode cX3_readInto 84 = .ok (.iinc 2 1, 3) := by decide +kernel
theorem dX3_readInto_87 : decode cX3_readInto 87 = .ok (.goto (-64), 3) := by decide +kernel
theorem dX3_readInto_90 : decode cX3_readInto 90 = .ok (.aload_n 0, 1) := by decide +kernel
theorem dX3_readInto_91 : decode cX3_readInto 91 = .ok (.getfield 34, 3) := by decide +kernel
theorem dX3_readInto_94 : decode cX3_readInto 94 = .ok (.ifCond .ne 7, 3) := by decide +kernel
theorem dX3_readInto_97 : decode cX3_readInto 97 = .ok (.iconst (-1), 1) := by decide +kernel
theorem dX3_readInto_98 : decode cX3_readInto 98 = .ok (.goto 7, 3) := by decide +kernel
theorem dX3_readInto_101 : decode cX3_readInto 101 = .ok (.aload_n 0, 1) := by decide +kernel
theorem dX3_readInto_102 : decode cX3_readInto 102 = .ok (.getfield 37, 3) := by decide +kernel
theorem dX3_readInto_105 : decode cX3_readInto 105 = .ok (.ireturn, 1) := by decide +kernel
theorem dX3_chain_0 : decode cX3_chain 0 = .ok (.iload_n 1, 1) := by decide +kernel
theorem dX3_chain_1 : decode cX3_chain 1 = .ok (.iconst 5, 1) := by decide +kernel
theorem dX3_chain_2 : decode cX3_chain 2 = .ok (.if_icmp .lt 9, 3) := by decide +kernel
theorem dX3_chain_5 : decode cX3_chain 5 = .ok (.aload_n 0, 1) := by decide +kernel
theorem dX3_chain_6 : decode cX3_chain 6 = .ok (.iload_n 2, 1) := by decide +kernel
theorem dX3_chain_7 : decode cX3_chain 7 = .ok (.invokevirtual 48, 3) := by decide +kernel
theorem dX3_chain_10 : decode cX3_chain 10 = .ok (.ireturn, 1) := by decide +kernel
theorem dX3_chain_11 : decode cX3_chain 11 = .ok (.iload_n 1, 1) := by decide +kernel
theorem dX3_chain_12 : decode cX3_chain 12 = .ok (.iconst 2, 1) := by decide +kernel
theorem dX3_chain_13 : decode cX3_chain 13 = .ok (.if_icmp .ne 19, 3) := by decide +kernel
theorem dX3_chain_16 : decode cX3_chain 16 = .ok (.aload_n 0, 1) := by decide +kernel
theorem dX3_chain_17 : decode cX3_chain 17 = .ok (.getfield 34, 3) := by decide +kernel
theorem dX3_chain_20 : decode cX3_chain 20 = .ok (.sipush 305, 3) := by decide +kernel
theorem dX3_chain_23 : decode cX3_chain 23 = .ok (.if_icmp .ne 9, 3) := by decide +kernel
theorem dX3_chain_26 : decode cX3_chain 26 = .ok (.aload_n 0, 1) := by decide +kernel
theorem dX3_chain_27 : decode cX3_chain 27 = .ok (.iload_n 2, 1) := by decide +kernel
theorem dX3_chain_28 : decode cX3_chain 28 = .ok (.invokevirtual 52, 3) := by decide +kernel
theorem dX3_chain_31 : decode cX3_chain 31 = .ok (.ireturn, 1) := by decide +kernel
theorem dX3_chain_32 : decode cX3_chain 32 = .ok (.aload_n 0, 1) := by decide +kernel
theorem dX3_chain_33 : decode cX3_chain 33 = .ok (.iload_n 1, 1) := by decide +kernel
theorem dX3_chain_34 : decode cX3_chain 34 = .ok (.iconst 1, 1) := by decide +kernel
theorem dX3_chain_35 : decode cX3_chain 35 = .ok (.iadd, 1) := by decide +kernel
theorem dX3_chain_36 : decode cX3_chain 36 = .ok (.iload_n 2, 1) := by decide +kernel
theorem dX3_chain_37 : decode cX3_chain 37 = .ok (.invokevirtual 40, 3) := by decide +kernel
theorem dX3_chain_40 : decode cX3_chain 40 = .ok (.ifCond .ne 5, 3) := by decide +kernel
theorem dX3_chain_43 : decode cX3_chain 43 = .ok (.iconst 0, 1) := by decide +kernel
theorem dX3_chain_44 : decode cX3_chain 44 = .ok (.ireturn, 1) := by decide +kernel
theorem dX3_chain_45 : decode cX3_chain 45 = .ok (.iload_n 1, 1) := by decide +kernel
theorem dX3_chain_46 : decode cX3_chain 46 = .ok (.iconst 2, 1) := by decide +kernel
theorem dX3_chain_47 : decode cX3_chain 47 = .ok (.if_icmp .ne 7, 3) := by decide +kernel
theorem dX3_chain_50 : decode cX3_chain 50 = .ok (.iconst 1, 1) := by decide +kernel
theorem dX3_chain_51 : decode cX3_chain 51 = .ok (.goto 6, 3) := by decide +kernel
theorem dX3_chain_54 : decode cX3_chain 54 = .ok (.sipush 160, 3) := by decide +kernel
theorem dX3_chain_57 : decode cX3_chain 57 = .ok (.istore_n 3, 1) := by decide +kernel
theorem dX3_chain_58 : decode cX3_chain 58 = .ok (.iconst 0, 1) := by decide +kernel
theorem dX3_chain_59 : decode cX3_chain 59 = .ok (.istore 4, 2) := by decide +kernel
theorem dX3_chain_61 : decode cX3_chain 61 = .ok (.iload 4, 2) := by decide +kernel
theorem dX3_chain_63 : decode cX3_chain 63 = .ok (.iload_n 3, 1) := by decide +kernel
theorem dX3_chain_64 : decode cX3_chain 64 = .ok (.if_icmp .ge 53, 3) := by decide +kernel
theorem dX3_chain_67 : decode cX3_chain 67 = .ok (.iload_n 1, 1) := by decide +kernel
theorem dX3_chain_68 : decode cX3_chain 68 = .ok (.aload_n 0, 1) := by decide +kernel
theorem dX3_chain_69 : decode cX3_chain 69 = .ok (.getfield 34, 3) := by decide +kernel
theorem dX3_chain_72 : decode cX3_chain 72 = .ok (.invokestatic 55, 3) := by decide +kernel
theorem dX3_chain_75 : decode cX3_chain 75 = .ok (.ifCond .eq 42, 3) := by decide +kernel
theorem dX3_chain_78 : decode cX3_chain 78 = .ok (.aload_n 0, 1) := by decide +kernel
theorem dX3_chain_79 : decode cX3_chain 79 = .ok (.getfield 34, 3) := by decide +kernel
theorem dX3_chain_82 : decode cX3_chain 82 = .ok (.istore 5, 2) := by decide +kernel
theorem dX3_chain_84 : decode cX3_chain 84 = .ok (.aload_n 0, 1) := by decide +kernel
theorem dX3_chain_85 : decode cX3_chain 85 = .ok (.invokevirtual 31, 3) := by decide +kernel
theorem dX3_chain_88 : decode cX3_chain 88 = .ok (.aload_n 0, 1) := by decide +kernel
theorem dX3_chain_89 : decode cX3_chain 89 = .ok (.iload_n 1, 1) := by decide +kernel
theorem dX3_chain_90 : decode cX3_chain 90 = .ok (.iconst 1, 1) := by decide +kernel
theorem dX3_chain_91 : decode cX3_chain 91 = .ok (.iadd, 1) := by decide +kernel
theorem dX3_chain_92 : decode cX3_chain 92 = .ok (.iload_n 2, 1) := by decide +kernel
theorem dX3_chain_93 : decode cX3_chain 93 = .ok (.invokevirtual 40, 3) := by decide +kernel
theorem dX3_chain_96 : decode cX3_chain 96 = .ok (.ifCond .ne 5, 3) := by decide +kernel
theorem dX3_chain_99 : decode cX3_chain 99 = .ok (.iconst 0, 1) := by decide +kernel
theorem dX3_chain_100 : decode cX3_chain 100 = .ok (.ireturn, 1) := by decide +kernel
theorem dX3_chain_101 : decode cX3_chain 101 = .ok (.aload_n 0, 1) := by decide +kernel
theorem dX3_chain_102 : decode cX3_chain 102 = .ok (.getfield 19, 3) := by decide +kernel
theorem dX3_chain_105 : decode cX3_chain 105 = .ok (.iload 5, 2) := by decide +kernel
theorem dX3_chain_107 : decode cX3_chain 107 = .ok (.ineg, 1) := by decide +kernel
theorem dX3_chain_108 : decode cX3_chain 108 = .ok (.invokevirtual 58, 3) := by decide +kernel
theorem dX3_chain_111 : decode cX3_chain 111 = .ok (.iinc 4 1, 3) := by decide +kernel
theorem dX3_chain_114 : decode cX3_chain 114 = .ok (.goto (-53), 3) := by decide +kernel
theorem dX3_chain_117 : decode cX3_chain 117 = .ok (.iconst 1, 1) := by decide +kernel
theorem dX3_chain_118 : decode cX3_chain 118 = .ok (.ireturn, 1) := by decide +kernel
theorem dX3_joins_0 : decode cX3_joins 0 = .ok (.iload_n 0, 1) := by decide +kernel
theorem dX3_joins_1 : decode cX3_joins 1 = .ok (.tableswitch 93 0 3 #[31, 44, 57, 75], 31) := by decide +kernel
theorem dX3_joins_32 : decode cX3_joins 32 = .ok (.iload_n 1, 1) := by decide +kernel
theorem dX3_joins_33 : decode cX3_joins 33 = .ok (.sipush 303, 3) := by decide +kernel
theorem dX3_joins_36 : decode cX3_joins 36 = .ok (.if_icmp .ne 7, 3) := by decide +kernel
theorem dX3_joins_39 : decode cX3_joins 39 = .ok (.iconst 1, 1) := by decide +kernel
theorem dX3_joins_40 : decode cX3_joins 40 = .ok (.goto 4, 3) := by decide +kernel
theorem dX3_joins_43 : decode cX3_joins 43 = .ok (.iconst 0, 1) := by decide +kernel
theorem dX3_joins_44 : decode cX3_joins 44 = .ok (.ireturn, 1) := by decide +kernel
theorem dX3_joins_45 : decode cX3_joins 45 = .ok (.iload_n 1, 1) := by decide +kernel
theorem dX3_joins_46 : decode cX3_joins 46 = .ok (.sipush 304, 3) := by decide +kernel
theorem dX3_joins_49 : decode cX3_joins 49 = .ok (.if_icmp .ne 7, 3) := by decide +kernel
theorem dX3_joins_52 : decode cX3_joins 52 = .ok (.iconst 1, 1) := by decide +kernel
theorem dX3_joins_53 : decode cX3_joins 53 = .ok (.goto 4, 3) := by decide +kernel
theorem dX3_joins_56 : decode cX3_joins 56 = .ok (.iconst 0, 1) := by decide +kernel
theorem dX3_joins_57 : decode cX3_joins 57 = .ok (.ireturn, 1) := by decide +kernel
theorem dX3_joins_58 : decode cX3_joins 58 = .ok (.iload_n 1, 1) := by decide +kernel
theorem dX3_joins_59 : decode cX3_joins 59 = .ok (.bipush 60, 2) := by decide +kernel
theorem dX3_joins_61 : decode cX3_joins 61 = .ok (.if_icmp .eq 9, 3) := by decide +kernel
theorem dX3_joins_64 : decode cX3_joins 64 = .ok (.iload_n 1, 1) := by decide +kernel
theorem dX3_joins_65 : decode cX3_joins 65 = .ok (.bipush 61, 2) := by decide +kernel
theorem dX3_joins_67 : decode cX3_joins 67 = .ok (.if_icmp .ne 7, 3) := by decide +kernel
theorem dX3_joins_70 : decode cX3_joins 70 = .ok (.iconst 1, 1) := by decide +kernel
theorem dX3_joins_71 : decode cX3_joins 71 = .ok (.goto 4, 3) := by decide +kernel
theorem dX3_joins_74 : decode cX3_joins 74 = .ok (.iconst 0, 1) := by decide +kernel
theorem dX3_joins_75 : decode cX3_joins 75 = .ok (.ireturn, 1) := by decide +kernel
theorem dX3_joins_76 : decode cX3_joins 76 = .ok (.iload_n 1, 1) := by decide +kernel
theorem dX3_joins_77 : decode cX3_joins 77 = .ok (.bipush 43, 2) := by decide +kernel
theorem dX3_joins_79 : decode cX3_joins 79 = .ok (.if_icmp .eq 9, 3) := by decide +kernel
theorem dX3_joins_82 : decode cX3_joins 82 = .ok (.iload_n 1, 1) := by decide +kernel
theorem dX3_joins_83 : decode cX3_joins 83 = .ok (.bipush 45, 2) := by decide +kernel
theorem dX3_joins_85 : decode cX3_joins 85 = .ok (.if_icmp .ne 7, 3) := by decide +kernel
theorem dX3_joins_88 : decode cX3_joins 88 = .ok (.iconst 1, 1) := by decide +kernel
theorem dX3_joins_89 : decode cX3_joins 89 = .ok (.goto 4, 3) := by decide +kernel
theorem dX3_joins_92 : decode cX3_joins 92 = .ok (.iconst 0, 1) := by decide +kernel
theorem dX3_joins_93 : decode cX3_joins 93 = .ok (.ireturn, 1) := by decide +kernel
theorem dX3_joins_94 : decode cX3_joins 94 = .ok (.iload_n 1, 1) := by decide +kernel
theorem dX3_joins_95 : decode cX3_joins 95 = .ok (.bipush 42, 2) := by decide +kernel
theorem dX3_joins_97 : decode cX3_joins 97 = .ok (.if_icmp .ne 7, 3) := by decide +kernel
theorem dX3_joins_100 : decode cX3_joins 100 = .ok (.iconst 1, 1) := by decide +kernel
theorem dX3_joins_101 : decode cX3_joins 101 = .ok (.goto 4, 3) := by decide +kernel
theorem dX3_joins_104 : decode cX3_joins 104 = .ok (.iconst 0, 1) := by decide +kernel
theorem dX3_joins_105 : decode cX3_joins 105 = .ok (.ireturn, 1) := by decide +kernel
theorem dX3_negation_0 : decode cX3_negation 0 = .ok (.iload_n 1, 1) := by decide +kernel
theorem dX3_negation_1 : decode cX3_negation 1 = .ok (.iconst 5, 1) := by decide +kernel
theorem dX3_negation_2 : decode cX3_negation 2 = .ok (.if_icmp .lt 5, 3) := by decide +kernel
theorem dX3_negation_5 : decode cX3_negation 5 = .ok (.iconst 0, 1) := by decide +kernel
theorem dX3_negation_6 : decode cX3_negation 6 = .ok (.ireturn, 1) := by decide +kernel
theorem dX3_negation_7 : decode cX3_negation 7 = .ok (.aload_n 0, 1) := by decide +kernel
theorem dX3_negation_8 : decode cX3_negation 8 = .ok (.invokevirtual 31, 3) := by decide +kernel
theorem dX3_negation_11 : decode cX3_negation 11 = .ok (.aload_n 0, 1) := by decide +kernel
theorem dX3_negation_12 : decode cX3_negation 12 = .ok (.iconst 2, 1) := by decide +kernel
theorem dX3_negation_13 : decode cX3_negation 13 = .ok (.iload_n 1, 1) := by decide +kernel
theorem dX3_negation_14 : decode cX3_negation 14 = .ok (.iconst 1, 1) := by decide +kernel
theorem dX3_negation_15 : decode cX3_negation 15 = .ok (.iadd, 1) := by decide +kernel
theorem dX3_negation_16 : decode cX3_negation 16 = .ok (.invokevirtual 40, 3) := by decide +kernel
theorem dX3_negation_19 : decode cX3_negation 19 = .ok (.ifCond .ne 5, 3) := by decide +kernel
theorem dX3_negation_22 : decode cX3_negation 22 = .ok (.iconst 0, 1) := by decide +kernel
theorem dX3_negation_23 : decode cX3_negation 23 = .ok (.ireturn, 1) := by decide +kernel
theorem dX3_negation_24 : decode cX3_negation 24 = .ok (.aload_n 0, 1) := by decide +kernel
theorem dX3_negation_25 : decode cX3_negation 25 = .ok (.getfield 19, 3) := by decide +kernel
theorem dX3_negation_28 : decode cX3_negation 28 = .ok (.sipush (-305), 3) := by decide +kernel
theorem dX3_negation_31 : decode cX3_negation 31 = .ok (.invokevirtual 58, 3) := by decide +kernel
theorem dX3_negation_34 : decode cX3_negation 34 = .ok (.iconst 1, 1) := by decide +kernel
theorem dX3_negation_35 : decode cX3_negation 35 = .ok (.ireturn, 1) := by decide +kernel
theorem dX3_one_0 : decode cX3_one 0 = .ok (.aload_n 0, 1) := by decide +kernel
theorem dX3_one_1 : decode cX3_one 1 = .ok (.getfield 34, 3) := by decide +kernel
theorem dX3_one_4 : decode cX3_one 4 = .ok (.iconst 2, 1) := by decide +kernel
theorem dX3_one_5 : decode cX3_one 5 = .ok (.if_icmp .ne 17, 3) := by decide +kernel
theorem dX3_one_8 : decode cX3_one 8 = .ok (.aload_n 0, 1) := by decide +kernel
theorem dX3_one_9 : decode cX3_one 9 = .ok (.getfield 19, 3) := by decide +kernel
theorem dX3_one_12 : decode cX3_one 12 = .ok (.aload_n 0, 1) := by decide +kernel
theorem dX3_one_13 : decode cX3_one 13 = .ok (.getfield 61, 3) := by decide +kernel
theorem dX3_one_16 : decode cX3_one 16 = .ok (.invokevirtual 58, 3) := by decide +kernel
theorem dX3_one_19 : decode cX3_one 19 = .ok (.goto 73, 3) := by decide +kernel
theorem dX3_one_22 : decode cX3_one 22 = .ok (.aload_n 0, 1) := by decide +kernel
theorem dX3_one_23 : decode cX3_one 23 = .ok (.getfield 34, 3) := by decide +kernel
theorem dX3_one_26 : decode cX3_one 26 = .ok (.sipush 306, 3) := by decide +kernel
theorem dX3_one_29 : decode cX3_one 29 = .ok (.sipush 311, 3) := by decide +kernel
theorem dX3_one_32 : decode cX3_one 32 = .ok (.invokestatic 64, 3) := by decide +kernel
theorem dX3_one_35 : decode cX3_one 35 = .ok (.ifCond .eq 18, 3) := by decide +kernel
theorem dX3_one_38 : decode cX3_one 38 = .ok (.aload_n 0, 1) := by decide +kernel
theorem dX3_one_39 : decode cX3_one 39 = .ok (.getfield 19, 3) := by decide +kernel
theorem dX3_one_42 : decode cX3_one 42 = .ok (.aload_n 0, 1) := by decide +kernel
theorem dX3_one_43 : decode cX3_one 43 = .ok (.getfield 34, 3) := by decide +kernel
theorem dX3_one_46 : decode cX3_one 46 = .ok (.ineg, 1) := by decide +kernel
theorem dX3_one_47 : decode cX3_one 47 = .ok (.invokevirtual 58, 3) := by decide +kernel
theorem dX3_one_50 : decode cX3_one 50 = .ok (.goto 42, 3) := by decide +kernel
theorem dX3_one_53 : decode cX3_one 53 = .ok (.aload_n 0, 1) := by decide +kernel
theorem dX3_one_54 : decode cX3_one 54 = .ok (.getfield 34, 3) := by decide +kernel
theorem dX3_one_57 : decode cX3_one 57 = .ok (.bipush 45, 2) := by decide +kernel
theorem dX3_one_59 : decode cX3_one 59 = .ok (.if_icmp .eq 12, 3) := by decide +kernel
theorem dX3_one_62 : decode cX3_one 62 = .ok (.aload_n 0, 1) := by decide +kernel
theorem dX3_one_63 : decode cX3_one 63 = .ok (.getfield 34, 3) := by decide +kernel
theorem dX3_one_66 : decode cX3_one 66 = .ok (.bipush 40, 2) := by decide +kernel
theorem dX3_one_68 : decode cX3_one 68 = .ok (.if_icmp .ne 22, 3) := by decide +kernel
theorem dX3_one_71 : decode cX3_one 71 = .ok (.iload_n 1, 1) := by decide +kernel
theorem dX3_one_72 : decode cX3_one 72 = .ok (.iconst 5, 1) := by decide +kernel
theorem dX3_one_73 : decode cX3_one 73 = .ok (.if_icmp .ge 17, 3) := by decide +kernel
theorem dX3_one_76 : decode cX3_one 76 = .ok (.aload_n 0, 1) := by decide +kernel
theorem dX3_one_77 : decode cX3_one 77 = .ok (.iload_n 1, 1) := by decide +kernel
theorem dX3_one_78 : decode cX3_one 78 = .ok (.iconst 1, 1) := by decide +kernel
theorem dX3_one_79 : decode cX3_one 79 = .ok (.iadd, 1) := by decide +kernel
theorem dX3_one_80 : decode cX3_one 80 = .ok (.invokevirtual 68, 3) := by decide +kernel
theorem dX3_one_83 : decode cX3_one 83 = .ok (.ifCond .eq 7, 3) := by decide +kernel
theorem dX3_one_86 : decode cX3_one 86 = .ok (.iconst 1, 1) := by decide +kernel
theorem dX3_one_87 : decode cX3_one 87 = .ok (.goto 4, 3) := by decide +kernel
theorem dX3_one_90 : decode cX3_one 90 = .ok (.iconst 0, 1) := by decide +kernel
theorem dX3_one_91 : decode cX3_one 91 = .ok (.ireturn, 1) := by decide +kernel
theorem dX3_one_92 : decode cX3_one 92 = .ok (.aload_n 0, 1) := by decide +kernel
theorem dX3_one_93 : decode cX3_one 93 = .ok (.invokevirtual 31, 3) := by decide +kernel
theorem dX3_one_96 : decode cX3_one 96 = .ok (.iconst 1, 1) := by decide +kernel
theorem dX3_one_97 : decode cX3_one 97 = .ok (.ireturn, 1) := by decide +kernel
theorem dX3_opened_0 : decode cX3_opened 0 = .ok (.aload_n 0, 1) := by decide +kernel
theorem dX3_opened_1 : decode cX3_opened 1 = .ok (.getfield 34, 3) := by decide +kernel
theorem dX3_opened_4 : decode cX3_opened 4 = .ok (.bipush 45, 2) := by decide +kernel
theorem dX3_opened_6 : decode cX3_opened 6 = .ok (.if_icmp .ne 7, 3) := by decide +kernel
theorem dX3_opened_9 : decode cX3_opened 9 = .ok (.iconst 1, 1) := by decide +kernel
theorem dX3_opened_10 : decode cX3_opened 10 = .ok (.goto 4, 3) := by decide +kernel
theorem dX3_opened_13 : decode cX3_opened 13 = .ok (.iconst 0, 1) := by decide +kernel
theorem dX3_opened_14 : decode cX3_opened 14 = .ok (.istore_n 2, 1) := by decide +kernel
theorem dX3_opened_15 : decode cX3_opened 15 = .ok (.aload_n 0, 1) := by decide +kernel
theorem dX3_opened_16 : decode cX3_opened 16 = .ok (.invokevirtual 31, 3) := by decide +kernel
theorem dX3_opened_19 : decode cX3_opened 19 = .ok (.iload_n 2, 1) := by decide +kernel
theorem dX3_opened_20 : decode cX3_opened 20 = .ok (.ifCond .eq 24, 3) := by decide +kernel
theorem dX3_opened_23 : decode cX3_opened 23 = .ok (.aload_n 0, 1) := by decide +kernel
theorem dX3_opened_24 : decode cX3_opened 24 = .ok (.iload_n 1, 1) := by decide +kernel
theorem dX3_opened_25 : decode cX3_opened 25 = .ok (.invokevirtual 48, 3) := by decide +kernel
theorem dX3_opened_28 : decode cX3_opened 28 = .ok (.ifCond .ne 5, 3) := by decide +kernel
theorem dX3_opened_31 : decode cX3_opened 31 = .ok (.iconst 0, 1) := by decide +kernel
theorem dX3_opened_32 : decode cX3_opened 32 = .ok (.ireturn, 1) := by decide +kernel
theorem dX3_opened_33 : decode cX3_opened 33 = .ok (.aload_n 0, 1) := by decide +kernel
theorem dX3_opened_34 : decode cX3_opened 34 = .ok (.getfield 19, 3) := by decide +kernel
theorem dX3_opened_37 : decode cX3_opened 37 = .ok (.bipush (-3), 2) := by decide +kernel
theorem dX3_opened_39 : decode cX3_opened 39 = .ok (.invokevirtual 58, 3) := by decide +kernel
theorem dX3_opened_42 : decode cX3_opened 42 = .ok (.iconst 1, 1) := by decide +kernel
theorem dX3_opened_43 : decode cX3_opened 43 = .ok (.ireturn, 1) := by decide +kernel
theorem dX3_opened_44 : decode cX3_opened 44 = .ok (.aload_n 0, 1) := by decide +kernel
theorem dX3_opened_45 : decode cX3_opened 45 = .ok (.iconst 0, 1) := by decide +kernel
theorem dX3_opened_46 : decode cX3_opened 46 = .ok (.iload_n 1, 1) := by decide +kernel
theorem dX3_opened_47 : decode cX3_opened 47 = .ok (.invokevirtual 40, 3) := by decide +kernel
theorem dX3_opened_50 : decode cX3_opened 50 = .ok (.ifCond .eq 12, 3) := by decide +kernel
theorem dX3_opened_53 : decode cX3_opened 53 = .ok (.aload_n 0, 1) := by decide +kernel
theorem dX3_opened_54 : decode cX3_opened 54 = .ok (.getfield 34, 3) := by decide +kernel
theorem dX3_opened_57 : decode cX3_opened 57 = .ok (.bipush 41, 2) := by decide +kernel
theorem dX3_opened_59 : decode cX3_opened 59 = .ok (.if_icmp .eq 5, 3) := by decide +kernel
theorem dX3_opened_62 : decode cX3_opened 62 = .ok (.iconst 0, 1) := by decide +kernel
theorem dX3_opened_63 : decode cX3_opened 63 = .ok (.ireturn, 1) := by decide +kernel
theorem dX3_opened_64 : decode cX3_opened 64 = .ok (.aload_n 0, 1) := by decide +kernel
theorem dX3_opened_65 : decode cX3_opened 65 = .ok (.invokevirtual 31, 3) := by decide +kernel
theorem dX3_opened_68 : decode cX3_opened 68 = .ok (.iconst 1, 1) := by decide +kernel
theorem dX3_opened_69 : decode cX3_opened 69 = .ok (.ireturn, 1) := by decide +kernel
theorem dX3_advance_0 : decode cX3_advance 0 = .ok (.aload_n 0, 1) := by decide +kernel
theorem dX3_advance_1 : decode cX3_advance 1 = .ok (.getfield 28, 3) := by decide +kernel
theorem dX3_advance_4 : decode cX3_advance 4 = .ok (.istore_n 1, 1) := by decide +kernel
theorem dX3_advance_5 : decode cX3_advance 5 = .ok (.iload_n 1, 1) := by decide +kernel
theorem dX3_advance_6 : decode cX3_advance 6 = .ok (.aload_n 0, 1) := by decide +kernel
theorem dX3_advance_7 : decode cX3_advance 7 = .ok (.getfield 15, 3) := by decide +kernel
theorem dX3_advance_10 : decode cX3_advance 10 = .ok (.if_icmp .ge 31, 3) := by decide +kernel
theorem dX3_advance_13 : decode cX3_advance 13 = .ok (.aload_n 0, 1) := by decide +kernel
theorem dX3_advance_14 : decode cX3_advance 14 = .ok (.getfield 9, 3) := by decide +kernel
theorem dX3_advance_17 : decode cX3_advance 17 = .ok (.iload_n 1, 1) := by decide +kernel
theorem dX3_advance_18 : decode cX3_advance 18 = .ok (.iaload, 1) := by decide +kernel
theorem dX3_advance_19 : decode cX3_advance 19 = .ok (.bipush 32, 2) := by decide +kernel
theorem dX3_advance_21 : decode cX3_advance 21 = .ok (.if_icmp .eq 14, 3) := by decide +kernel
theorem dX3_advance_24 : decode cX3_advance 24 = .ok (.aload_n 0, 1) := by decide +kernel
theorem dX3_advance_25 : decode cX3_advance 25 = .ok (.getfield 9, 3) := by decide +kernel
theorem dX3_advance_28 : decode cX3_advance 28 = .ok (.iload_n 1, 1) := by decide +kernel
theorem dX3_advance_29 : decode cX3_advance 29 = .ok (.iaload, 1) := by decide +kernel
theorem dX3_advance_30 : decode cX3_advance 30 = .ok (.bipush 10, 2) := by decide +kernel
theorem dX3_advance_32 : decode cX3_advance 32 = .ok (.if_icmp .ne 9, 3) := by decide +kernel
theorem dX3_advance_35 : decode cX3_advance 35 = .ok (.iinc 1 1, 3) := by decide +kernel
theorem dX3_advance_38 : decode cX3_advance 38 = .ok (.goto (-33), 3) := by decide +kernel
theorem dX3_advance_41 : decode cX3_advance 41 = .ok (.aload_n 0, 1) := by decide +kernel
theorem dX3_advance_42 : decode cX3_advance 42 = .ok (.iload_n 1, 1) := by decide +kernel
theorem dX3_advance_43 : decode cX3_advance 43 = .ok (.putfield 37, 3) := by decide +kernel
theorem dX3_advance_46 : decode cX3_advance 46 = .ok (.iload_n 1, 1) := by decide +kernel
theorem dX3_advance_47 : decode cX3_advance 47 = .ok (.aload_n 0, 1) := by decide +kernel
theorem dX3_advance_48 : decode cX3_advance 48 = .ok (.getfield 15, 3) := by decide +kernel
theorem dX3_advance_51 : decode cX3_advance 51 = .ok (.if_icmp .lt 11, 3) := by decide +kernel
theorem dX3_advance_54 : decode cX3_advance 54 = .ok (.aload_n 0, 1) := by decide +kernel
theorem dX3_advance_55 : decode cX3_advance 55 = .ok (.iconst 0, 1) := by decide +kernel
theorem dX3_advance_56 : decode cX3_advance 56 = .ok (.putfield 34, 3) := by decide +kernel
theorem dX3_advance_59 : decode cX3_advance 59 = .ok (.goto 168, 3) := by decide +kernel
theorem dX3_advance_62 : decode cX3_advance 62 = .ok (.aload_n 0, 1) := by decide +kernel
theorem dX3_advance_63 : decode cX3_advance 63 = .ok (.getfield 9, 3) := by decide +kernel
theorem dX3_advance_66 : decode cX3_advance 66 = .ok (.iload_n 1, 1) := by decide +kernel
theorem dX3_advance_67 : decode cX3_advance 67 = .ok (.iaload, 1) := by decide +kernel
theorem dX3_advance_68 : decode cX3_advance 68 = .ok (.invokestatic 71, 3) := by decide +kernel
theorem dX3_advance_71 : decode cX3_advance 71 = .ok (.ifCond .eq 41, 3) := by decide +kernel
theorem dX3_advance_74 : decode cX3_advance 74 = .ok (.iload_n 1, 1) := by decide +kernel
theorem dX3_advance_75 : decode cX3_advance 75 = .ok (.aload_n 0, 1) := by decide +kernel
theorem dX3_advance_76 : decode cX3_advance 76 = .ok (.getfield 15, 3) := by decide +kernel
theorem dX3_advance_79 : decode cX3_advance 79 = .ok (.if_icmp .ge 21, 3) := by decide +kernel
theorem dX3_advance_82 : decode cX3_advance 82 = .ok (.aload_n 0, 1) := by decide +kernel
theorem dX3_advance_83 : decode cX3_advance 83 = .ok (.getfield 9, 3) := by decide +kernel
theorem dX3_advance_86 : decode cX3_advance 86 = .ok (.iload_n 1, 1) := by decide +kernel
theorem dX3_advance_87 : decode cX3_advance 87 = .ok (.iaload, 1) := by decide +kernel
theorem dX3_advance_88 : decode cX3_advance 88 = .ok (.invokestatic 71, 3) := by decide +kernel
theorem dX3_advance_91 : decode cX3_advance 91 = .ok (.ifCond .eq 9, 3) := by decide +kernel
theorem dX3_advance_94 : decode cX3_advance 94 = .ok (.iinc 1 1, 3) := by decide +kernel
theorem dX3_advance_97 : decode cX3_advance 97 = .ok (.goto (-23), 3) := by decide +kernel
theorem dX3_advance_100 : decode cX3_advance 100 = .ok (.aload_n 0, 1) := by decide +kernel
theorem dX3_advance_101 : decode cX3_advance 101 = .ok (.aload_n 0, 1) := by decide +kernel
theorem dX3_advance_102 : decode cX3_advance 102 = .ok (.iload_n 1, 1) := by decide +kernel
theorem dX3_advance_103 : decode cX3_advance 103 = .ok (.invokevirtual 74, 3) := by decide +kernel
theorem dX3_advance_106 : decode cX3_advance 106 = .ok (.putfield 34, 3) := by decide +kernel
theorem dX3_advance_109 : decode cX3_advance 109 = .ok (.goto 118, 3) := by decide +kernel
theorem dX3_advance_112 : decode cX3_advance 112 = .ok (.aload_n 0, 1) := by decide +kernel
theorem dX3_advance_113 : decode cX3_advance 113 = .ok (.getfield 9, 3) := by decide +kernel
theorem dX3_advance_116 : decode cX3_advance 116 = .ok (.iload_n 1, 1) := by decide +kernel
theorem dX3_advance_117 : decode cX3_advance 117 = .ok (.iaload, 1) := by decide +kernel
theorem dX3_advance_118 : decode cX3_advance 118 = .ok (.invokestatic 78, 3) := by decide +kernel
theorem dX3_advance_121 : decode cX3_advance 121 = .ok (.ifCond .eq 77, 3) := by decide +kernel
theorem dX3_advance_124 : decode cX3_advance 124 = .ok (.aload_n 0, 1) := by decide +kernel
theorem dX3_advance_125 : decode cX3_advance 125 = .ok (.iconst 0, 1) := by decide +kernel
theorem dX3_advance_126 : decode cX3_advance 126 = .ok (.putfield 61, 3) := by decide +kernel
theorem dX3_advance_129 : decode cX3_advance 129 = .ok (.iload_n 1, 1) := by decide +kernel
theorem dX3_advance_130 : decode cX3_advance 130 = .ok (.aload_n 0, 1) := by decide +kernel
theorem dX3_advance_131 : decode cX3_advance 131 = .ok (.getfield 15, 3) := by decide +kernel
theorem dX3_advance_134 : decode cX3_advance 134 = .ok (.if_icmp .ge 42, 3) := by decide +kernel
theorem dX3_advance_137 : decode cX3_advance 137 = .ok (.aload_n 0, 1) := by decide +kernel
theorem dX3_advance_138 : decode cX3_advance 138 = .ok (.getfield 9, 3) := by decide +kernel
theorem dX3_advance_141 : decode cX3_advance 141 = .ok (.iload_n 1, 1) := by decide +kernel
theorem dX3_advance_142 : decode cX3_advance 142 = .ok (.iaload, 1) := by decide +kernel
theorem dX3_advance_143 : decode cX3_advance 143 = .ok (.invokestatic 78, 3) := by decide +kernel
theorem dX3_advance_146 : decode cX3_advance 146 = .ok (.ifCond .eq 30, 3) := by decide +kernel
theorem dX3_advance_149 : decode cX3_advance 149 = .ok (.aload_n 0, 1) := by decide +kernel
theorem dX3_advance_150 : decode cX3_advance 150 = .ok (.aload_n 0, 1) := by decide +kernel
theorem dX3_advance_151 : decode cX3_advance 151 = .ok (.getfield 61, 3) := by decide +kernel
theorem dX3_advance_154 : decode cX3_advance 154 = .ok (.bipush 10, 2) := by decide +kernel
theorem dX3_advance_156 : decode cX3_advance 156 = .ok (.imul, 1) := by decide +kernel
theorem dX3_advance_157 : decode cX3_advance 157 = .ok (.aload_n 0, 1) := by decide +kernel
theorem dX3_advance_158 : decode cX3_advance 158 = .ok (.getfield 9, 3) := by decide +kernel
theorem dX3_advance_161 : decode cX3_advance 161 = .ok (.iload_n 1, 1) := by decide +kernel
theorem dX3_advance_162 : decode cX3_advance 162 = .ok (.iaload, 1) := by decide +kernel
theorem dX3_advance_163 : decode cX3_advance 163 = .ok (.iadd, 1) := by decide +kernel
theorem dX3_advance_164 : decode cX3_advance 164 = .ok (.bipush 48, 2) := by decide +kernel
theorem dX3_advance_166 : decode cX3_advance 166 = .ok (.isub, 1) := by decide +kernel
theorem dX3_advance_167 : decode cX3_advance 167 = .ok (.putfield 61, 3) := by decide +kernel
theorem dX3_advance_170 : decode cX3_advance 170 = .ok (.iinc 1 1, 3) := by decide +kernel
theorem dX3_advance_173 : decode cX3_advance 173 = .ok (.goto (-44), 3) := by decide +kernel
theorem dX3_advance_176 : decode cX3_advance 176 = .ok (.aload_n 0, 1) := by decide +kernel
theorem dX3_advance_177 : decode cX3_advance 177 = .ok (.iload_n 1, 1) := by decide +kernel
theorem dX3_advance_178 : decode cX3_advance 178 = .ok (.aload_n 0, 1) := by decide +kernel
theorem dX3_advance_179 : decode cX3_advance 179 = .ok (.getfield 37, 3) := by decide +kernel
theorem dX3_advance_182 : decode cX3_advance 182 = .ok (.isub, 1) := by decide +kernel
theorem dX3_advance_183 : decode cX3_advance 183 = .ok (.iconst 4, 1) := by decide +kernel
theorem dX3_advance_184 : decode cX3_advance 184 = .ok (.if_icmp .le 7, 3) := by decide +kernel
theorem dX3_advance_187 : decode cX3_advance 187 = .ok (.iconst 1, 1) := by decide +kernel
theorem dX3_advance_188 : decode cX3_advance 188 = .ok (.goto 4, 3) := by decide +kernel
theorem dX3_advance_191 : decode cX3_advance 191 = .ok (.iconst 2, 1) := by decide +kernel
theorem dX3_advance_192 : decode cX3_advance 192 = .ok (.putfield 34, 3) := by decide +kernel
theorem dX3_advance_195 : decode cX3_advance 195 = .ok (.goto 32, 3) := by decide +kernel
theorem dX3_advance_198 : decode cX3_advance 198 = .ok (.aload_n 0, 1) := by decide +kernel
theorem dX3_advance_199 : decode cX3_advance 199 = .ok (.aload_n 0, 1) := by decide +kernel
theorem dX3_advance_200 : decode cX3_advance 200 = .ok (.getfield 9, 3) := by decide +kernel
theorem dX3_advance_203 : decode cX3_advance 203 = .ok (.iload_n 1, 1) := by decide +kernel
theorem dX3_advance_204 : decode cX3_advance 204 = .ok (.iaload, 1) := by decide +kernel
theorem dX3_advance_205 : decode cX3_advance 205 = .ok (.invokestatic 81, 3) := by decide +kernel
theorem dX3_advance_208 : decode cX3_advance 208 = .ok (.ifCond .eq 12, 3) := by decide +kernel
theorem dX3_advance_211 : decode cX3_advance 211 = .ok (.aload_n 0, 1) := by decide +kernel
theorem dX3_advance_212 : decode cX3_advance 212 = .ok (.getfield 9, 3) := by decide +kernel
theorem dX3_advance_215 : decode cX3_advance 215 = .ok (.iload_n 1, 1) := by decide +kernel
theorem dX3_advance_216 : decode cX3_advance 216 = .ok (.iaload, 1) := by decide +kernel
theorem dX3_advance_217 : decode cX3_advance 217 = .ok (.goto 4, 3) := by decide +kernel
theorem dX3_advance_220 : decode cX3_advance 220 = .ok (.iconst 1, 1) := by decide +kernel
theorem dX3_advance_221 : decode cX3_advance 221 = .ok (.putfield 34, 3) := by decide +kernel
theorem dX3_advance_224 : decode cX3_advance 224 = .ok (.iinc 1 1, 3) := by decide +kernel
theorem dX3_advance_227 : decode cX3_advance 227 = .ok (.aload_n 0, 1) := by decide +kernel
theorem dX3_advance_228 : decode cX3_advance 228 = .ok (.iload_n 1, 1) := by decide +kernel
theorem dX3_advance_229 : decode cX3_advance 229 = .ok (.putfield 28, 3) := by decide +kernel
theorem dX3_advance_232 : decode cX3_advance 232 = .ok (.return_, 1) := by decide +kernel
theorem dX3_isLetter_0 : decode cX3_isLetter 0 = .ok (.iload_n 0, 1) := by decide +kernel
theorem dX3_isLetter_1 : decode cX3_isLetter 1 = .ok (.bipush 97, 2) := by decide +kernel
theorem dX3_isLetter_3 : decode cX3_isLetter 3 = .ok (.bipush 122, 2) := by decide +kernel
theorem dX3_isLetter_5 : decode cX3_isLetter 5 = .ok (.invokestatic 64, 3) := by decide +kernel
theorem dX3_isLetter_8 : decode cX3_isLetter 8 = .ok (.ireturn, 1) := by decide +kernel
theorem dX3_isDigit_0 : decode cX3_isDigit 0 = .ok (.iload_n 0, 1) := by decide +kernel
theorem dX3_isDigit_1 : decode cX3_isDigit 1 = .ok (.bipush 48, 2) := by decide +kernel
theorem dX3_isDigit_3 : decode cX3_isDigit 3 = .ok (.bipush 57, 2) := by decide +kernel
theorem dX3_isDigit_5 : decode cX3_isDigit 5 = .ok (.invokestatic 64, 3) := by decide +kernel
theorem dX3_isDigit_8 : decode cX3_isDigit 8 = .ok (.ireturn, 1) := by decide +kernel
theorem dX3_isSign_0 : decode cX3_isSign 0 = .ok (.iload_n 0, 1) := by decide +kernel
theorem dX3_isSign_1 : decode cX3_isSign 1 = .ok (.bipush 40, 2) := by decide +kernel
theorem dX3_isSign_3 : decode cX3_isSign 3 = .ok (.bipush 43, 2) := by decide +kernel
theorem dX3_isSign_5 : decode cX3_isSign 5 = .ok (.invokestatic 64, 3) := by decide +kernel
theorem dX3_isSign_8 : decode cX3_isSign 8 = .ok (.ifCond .ne 20, 3) := by decide +kernel
theorem dX3_isSign_11 : decode cX3_isSign 11 = .ok (.iload_n 0, 1) := by decide +kernel
theorem dX3_isSign_12 : decode cX3_isSign 12 = .ok (.bipush 59, 2) := by decide +kernel
theorem dX3_isSign_14 : decode cX3_isSign 14 = .ok (.bipush 61, 2) := by decide +kernel
theorem dX3_isSign_16 : decode cX3_isSign 16 = .ok (.invokestatic 64, 3) := by decide +kernel
theorem dX3_isSign_19 : decode cX3_isSign 19 = .ok (.ifCond .ne 9, 3) := by decide +kernel
theorem dX3_isSign_22 : decode cX3_isSign 22 = .ok (.iload_n 0, 1) := by decide +kernel
theorem dX3_isSign_23 : decode cX3_isSign 23 = .ok (.bipush 45, 2) := by decide +kernel
theorem dX3_isSign_25 : decode cX3_isSign 25 = .ok (.if_icmp .ne 7, 3) := by decide +kernel
theorem dX3_isSign_28 : decode cX3_isSign 28 = .ok (.iconst 1, 1) := by decide +kernel
theorem dX3_isSign_29 : decode cX3_isSign 29 = .ok (.goto 4, 3) := by decide +kernel
theorem dX3_isSign_32 : decode cX3_isSign 32 = .ok (.iconst 0, 1) := by decide +kernel
theorem dX3_isSign_33 : decode cX3_isSign 33 = .ok (.ireturn, 1) := by decide +kernel
theorem dX3_wordToken_0 : decode cX3_wordToken 0 = .ok (.sipush 300, 3) := by decide +kernel
theorem dX3_wordToken_3 : decode cX3_wordToken 3 = .ok (.istore_n 2, 1) := by decide +kernel
theorem dX3_wordToken_4 : decode cX3_wordToken 4 = .ok (.iconst 0, 1) := by decide +kernel
theorem dX3_wordToken_5 : decode cX3_wordToken 5 = .ok (.istore_n 3, 1) := by decide +kernel
theorem dX3_wordToken_6 : decode cX3_wordToken 6 = .ok (.iload_n 3, 1) := by decide +kernel
theorem dX3_wordToken_7 : decode cX3_wordToken 7 = .ok (.ldc 84, 2) := by decide +kernel
theorem dX3_wordToken_9 : decode cX3_wordToken 9 = .ok (.invokevirtual 86, 3) := by decide +kernel
theorem dX3_wordToken_12 : decode cX3_wordToken 12 = .ok (.if_icmp .ge 36, 3) := by decide +kernel
theorem dX3_wordToken_15 : decode cX3_wordToken 15 = .ok (.ldc 84, 2) := by decide +kernel
theorem dX3_wordToken_17 : decode cX3_wordToken 17 = .ok (.iload_n 3, 1) := by decide +kernel
theorem dX3_wordToken_18 : decode cX3_wordToken 18 = .ok (.invokevirtual 92, 3) := by decide +kernel
theorem dX3_wordToken_21 : decode cX3_wordToken 21 = .ok (.bipush 32, 2) := by decide +kernel
theorem dX3_wordToken_23 : decode cX3_wordToken 23 = .ok (.if_icmp .ne 19, 3) := by decide +kernel
theorem dX3_wordToken_26 : decode cX3_wordToken 26 = .ok (.aload_n 0, 1) := by decide +kernel
theorem dX3_wordToken_27 : decode cX3_wordToken 27 = .ok (.iload_n 3, 1) := by decide +kernel
theorem dX3_wordToken_28 : decode cX3_wordToken 28 = .ok (.iconst 1, 1) := by decide +kernel
theorem dX3_wordToken_29 : decode cX3_wordToken 29 = .ok (.iadd, 1) := by decide +kernel
theorem dX3_wordToken_30 : decode cX3_wordToken 30 = .ok (.iload_n 1, 1) := by decide +kernel
theorem dX3_wordToken_31 : decode cX3_wordToken 31 = .ok (.invokevirtual 96, 3) := by decide +kernel
theorem dX3_wordToken_34 : decode cX3_wordToken 34 = .ok (.ifCond .eq 5, 3) := by decide +kernel
theorem dX3_wordToken_37 : decode cX3_wordToken 37 = .ok (.iload_n 2, 1) := by decide +kernel
theorem dX3_wordToken_38 : decode cX3_wordToken 38 = .ok (.ireturn, 1) := by decide +kernel
theorem dX3_wordToken_39 : decode cX3_wordToken 39 = .ok (.iinc 2 1, 3) := by decide +kernel
theorem dX3_wordToken_42 : decode cX3_wordToken 42 = .ok (.iinc 3 1, 3) := by decide +kernel
theorem dX3_wordToken_45 : decode cX3_wordToken 45 = .ok (.goto (-39), 3) := by decide +kernel
theorem dX3_wordToken_48 : decode cX3_wordToken 48 = .ok (.iconst 1, 1) := by decide +kernel
theorem dX3_wordToken_49 : decode cX3_wordToken 49 = .ok (.ireturn, 1) := by decide +kernel
theorem dX3_standsAt_0 : decode cX3_standsAt 0 = .ok (.iload_n 2, 1) := by decide +kernel
theorem dX3_standsAt_1 : decode cX3_standsAt 1 = .ok (.aload_n 0, 1) := by decide +kernel
theorem dX3_standsAt_2 : decode cX3_standsAt 2 = .ok (.getfield 37, 3) := by decide +kernel
theorem dX3_standsAt_5 : decode cX3_standsAt 5 = .ok (.isub, 1) := by decide +kernel
theorem dX3_standsAt_6 : decode cX3_standsAt 6 = .ok (.istore_n 3, 1) := by decide +kernel
theorem dX3_standsAt_7 : decode cX3_standsAt 7 = .ok (.iload_n 1, 1) := by decide +kernel
theorem dX3_standsAt_8 : decode cX3_standsAt 8 = .ok (.iload_n 3, 1) := by decide +kernel
theorem dX3_standsAt_9 : decode cX3_standsAt 9 = .ok (.iadd, 1) := by decide +kernel
theorem dX3_standsAt_10 : decode cX3_standsAt 10 = .ok (.ldc 84, 2) := by decide +kernel
theorem dX3_standsAt_12 : decode cX3_standsAt 12 = .ok (.invokevirtual 86, 3) := by decide +kernel
theorem dX3_standsAt_15 : decode cX3_standsAt 15 = .ok (.if_icmp .ge 16, 3) := by decide +kernel
theorem dX3_standsAt_18 : decode cX3_standsAt 18 = .ok (.ldc 84, 2) := by decide +kernel
theorem dX3_standsAt_20 : decode cX3_standsAt 20 = .ok (.iload_n 1, 1) := by decide +kernel
theorem dX3_standsAt_21 : decode cX3_standsAt 21 = .ok (.iload_n 3, 1) := by decide +kernel
theorem dX3_standsAt_22 : decode cX3_standsAt 22 = .ok (.iadd, 1) := by decide +kernel
theorem dX3_standsAt_23 : decode cX3_standsAt 23 = .ok (.invokevirtual 92, 3) := by decide +kernel
theorem dX3_standsAt_26 : decode cX3_standsAt 26 = .ok (.bipush 32, 2) := by decide +kernel
theorem dX3_standsAt_28 : decode cX3_standsAt 28 = .ok (.if_icmp .eq 5, 3) := by decide +kernel
theorem dX3_standsAt_31 : decode cX3_standsAt 31 = .ok (.iconst 0, 1) := by decide +kernel
theorem dX3_standsAt_32 : decode cX3_standsAt 32 = .ok (.ireturn, 1) := by decide +kernel
theorem dX3_standsAt_33 : decode cX3_standsAt 33 = .ok (.iconst 0, 1) := by decide +kernel
theorem dX3_standsAt_34 : decode cX3_standsAt 34 = .ok (.istore 4, 2) := by decide +kernel
theorem dX3_standsAt_36 : decode cX3_standsAt 36 = .ok (.iload 4, 2) := by decide +kernel
theorem dX3_standsAt_38 : decode cX3_standsAt 38 = .ok (.iload_n 3, 1) := by decide +kernel
theorem dX3_standsAt_39 : decode cX3_standsAt 39 = .ok (.if_icmp .ge 35, 3) := by decide +kernel
theorem dX3_standsAt_42 : decode cX3_standsAt 42 = .ok (.ldc 84, 2) := by decide +kernel
theorem dX3_standsAt_44 : decode cX3_standsAt 44 = .ok (.iload_n 1, 1) := by decide +kernel
theorem dX3_standsAt_45 : decode cX3_standsAt 45 = .ok (.iload 4, 2) := by decide +kernel
theorem dX3_standsAt_47 : decode cX3_standsAt 47 = .ok (.iadd, 1) := by decide +kernel
theorem dX3_standsAt_48 : decode cX3_standsAt 48 = .ok (.invokevirtual 92, 3) := by decide +kernel
theorem dX3_standsAt_51 : decode cX3_standsAt 51 = .ok (.aload_n 0, 1) := by decide +kernel
theorem dX3_standsAt_52 : decode cX3_standsAt 52 = .ok (.getfield 9, 3) := by decide +kernel
theorem dX3_standsAt_55 : decode cX3_standsAt 55 = .ok (.aload_n 0, 1) := by decide +kernel
theorem dX3_standsAt_56 : decode cX3_standsAt 56 = .ok (.getfield 37, 3) := by decide +kernel
theorem dX3_standsAt_59 : decode cX3_standsAt 59 = .ok (.iload 4, 2) := by decide +kernel
theorem dX3_standsAt_61 : decode cX3_standsAt 61 = .ok (.iadd, 1) := by decide +kernel
theorem dX3_standsAt_62 : decode cX3_standsAt 62 = .ok (.iaload, 1) := by decide +kernel
theorem dX3_standsAt_63 : decode cX3_standsAt 63 = .ok (.if_icmp .eq 5, 3) := by decide +kernel
theorem dX3_standsAt_66 : decode cX3_standsAt 66 = .ok (.iconst 0, 1) := by decide +kernel
theorem dX3_standsAt_67 : decode cX3_standsAt 67 = .ok (.ireturn, 1) := by decide +kernel
theorem dX3_standsAt_68 : decode cX3_standsAt 68 = .ok (.iinc 4 1, 3) := by decide +kernel
theorem dX3_standsAt_71 : decode cX3_standsAt 71 = .ok (.goto (-35), 3) := by decide +kernel
theorem dX3_standsAt_74 : decode cX3_standsAt 74 = .ok (.iconst 1, 1) := by decide +kernel
theorem dX3_standsAt_75 : decode cX3_standsAt 75 = .ok (.ireturn, 1) := by decide +kernel
theorem dX4_init_0 : decode cX4_init 0 = .ok (.aload_n 0, 1) := by decide +kernel
theorem dX4_init_1 : decode cX4_init 1 = .ok (.invokespecial 3, 3) := by decide +kernel
theorem dX4_init_4 : decode cX4_init 4 = .ok (.aload_n 0, 1) := by decide +kernel
theorem dX4_init_5 : decode cX4_init 5 = .ok (.sipush 160, 3) := by decide +kernel
theorem dX4_init_8 : decode cX4_init 8 = .ok (.newarray .int, 2) := by decide +kernel
theorem dX4_init_10 : decode cX4_init 10 = .ok (.putfield 9, 3) := by decide +kernel
theorem dX4_init_13 : decode cX4_init 13 = .ok (.aload_n 0, 1) := by decide +kernel
theorem dX4_init_14 : decode cX4_init 14 = .ok (.iconst 3, 1) := by decide +kernel
theorem dX4_init_15 : decode cX4_init 15 = .ok (.newarray .int, 2) := by decide +kernel
theorem dX4_init_17 : decode cX4_init 17 = .ok (.putfield 15, 3) := by decide +kernel
theorem dX4_init_20 : decode cX4_init 20 = .ok (.aload_n 0, 1) := by decide +kernel
theorem dX4_init_21 : decode cX4_init 21 = .ok (.bipush 40, 2) := by decide +kernel
theorem dX4_init_23 : decode cX4_init 23 = .ok (.newarray .int, 2) := by decide +kernel
theorem dX4_init_25 : decode cX4_init 25 = .ok (.putfield 18, 3) := by decide +kernel
theorem dX4_init_28 : decode cX4_init 28 = .ok (.return_, 1) := by decide +kernel
theorem dX4_clear_0 : decode cX4_clear 0 = .ok (.aload_n 0, 1) := by decide +kernel
theorem dX4_clear_1 : decode cX4_clear 1 = .ok (.iconst 0, 1) := by decide +kernel
theorem dX4_clear_2 : decode cX4_clear 2 = .ok (.putfield 21, 3) := by decide +kernel
theorem dX4_clear_5 : decode cX4_clear 5 = .ok (.return_, 1) := by decide +kernel
theorem dX4_add_0 : decode cX4_add 0 = .ok (.aload_n 0, 1) := by decide +kernel
theorem dX4_add_1 : decode cX4_add 1 = .ok (.getfield 21, 3) := by decide +kernel
theorem dX4_add_4 : decode cX4_add 4 = .ok (.sipush 160, 3) := by decide +kernel
theorem dX4_add_7 : decode cX4_add 7 = .ok (.if_icmp .ge 20, 3) := by decide +kernel
theorem dX4_add_10 : decode cX4_add 10 = .ok (.aload_n 0, 1) := by decide +kernel
theorem dX4_add_11 : decode cX4_add 11 = .ok (.getfield 9, 3) := by decide +kernel
theorem dX4_add_14 : decode cX4_add 14 = .ok (.aload_n 0, 1) := by decide +kernel
theorem dX4_add_15 : decode cX4_add 15 = .ok (.dup, 1) := by decide +kernel
theorem dX4_add_16 : decode cX4_add 16 = .ok (.getfield 21, 3) := by decide +kernel
theorem dX4_add_19 : decode cX4_add 19 = .ok (.dup_x1, 1) := by decide +kernel
theorem dX4_add_20 : decode cX4_add 20 = .ok (.iconst 1, 1) := by decide +kernel
theorem dX4_add_21 : decode cX4_add 21 = .ok (.iadd, 1) := by decide +kernel
theorem dX4_add_22 : decode cX4_add 22 = .ok (.putfield 21, 3) := by decide +kernel
theorem dX4_add_25 : decode cX4_add 25 = .ok (.iload_n 1, 1) := by decide +kernel
theorem dX4_add_26 : decode cX4_add 26 = .ok (.iastore, 1) := by decide +kernel
theorem dX4_add_27 : decode cX4_add 27 = .ok (.return_, 1) := by decide +kernel
theorem dX4_endPart_0 : decode cX4_endPart 0 = .ok (.aload_n 0, 1) := by decide +kernel
theorem dX4_endPart_1 : decode cX4_endPart 1 = .ok (.getfield 15, 3) := by decide +kernel
theorem dX4_endPart_4 : decode cX4_endPart 4 = .ok (.iload_n 1, 1) := by decide +kernel
theorem dX4_endPart_5 : decode cX4_endPart 5 = .ok (.aload_n 0, 1) := by decide +kernel
theorem dX4_endPart_6 : decode cX4_endPart 6 = .ok (.getfield 21, 3) := by decide +kernel
theorem dX4_endPart_9 : decode cX4_endPart 9 = .ok (.iastore, 1) := by decide +kernel
theorem dX4_endPart_10 : decode cX4_endPart 10 = .ok (.return_, 1) := by decide +kernel
theorem dX4_says_0 : decode cX4_says 0 = .ok (.aload_n 0, 1) := by decide +kernel
theorem dX4_says_1 : decode cX4_says 1 = .ok (.iconst 0, 1) := by decide +kernel
theorem dX4_says_2 : decode cX4_says 2 = .ok (.putfield 25, 3) := by decide +kernel
theorem dX4_says_5 : decode cX4_says 5 = .ok (.iload_n 1, 1) := by decide +kernel
theorem dX4_says_6 : decode cX4_says 6 = .ok (.ifCond .le 14, 3) := by decide +kernel
theorem dX4_says_9 : decode cX4_says 9 = .ok (.aload_n 0, 1) := by decide +kernel
theorem dX4_says_10 : decode cX4_says 10 = .ok (.getfield 15, 3) := by decide +kernel
theorem dX4_says_13 : decode cX4_says 13 = .ok (.iload_n 1, 1) := by decide +kernel
theorem dX4_says_14 : decode cX4_says 14 = .ok (.iconst 1, 1) := by decide +kernel
theorem dX4_says_15 : decode cX4_says 15 = .ok (.isub, 1) := by decide +kernel
theorem dX4_says_16 : decode cX4_says 16 = .ok (.iaload, 1) := by decide +kernel
theorem dX4_says_17 : decode cX4_says 17 = .ok (.goto 4, 3) := by decide +kernel
theorem dX4_says_20 : decode cX4_says 20 = .ok (.iconst 0, 1) := by decide +kernel
theorem dX4_says_21 : decode cX4_says 21 = .ok (.istore 5, 2) := by decide +kernel
theorem dX4_says_23 : decode cX4_says 23 = .ok (.aload_n 0, 1) := by decide +kernel
theorem dX4_says_24 : decode cX4_says 24 = .ok (.getfield 15, 3) := by decide +kernel
theorem dX4_says_27 : decode cX4_says 27 = .ok (.iload_n 1, 1) := by decide +kernel
theorem dX4_says_28 : decode cX4_says 28 = .ok (.iaload, 1) := by decide +kernel
theorem dX4_says_29 : decode cX4_says 29 = .ok (.sipush 160, 3) := by decide +kernel
theorem dX4_says_32 : decode cX4_says 32 = .ok (.invokestatic 28, 3) := by decide +kernel
theorem dX4_says_35 : decode cX4_says 35 = .ok (.istore 6, 2) := by decide +kernel
theorem dX4_says_37 : decode cX4_says 37 = .ok (.iload 5, 2) := by decide +kernel
theorem dX4_says_39 : decode cX4_says 39 = .ok (.istore 7, 2) := by decide +kernel
theorem dX4_says_41 : decode cX4_says 41 = .ok (.iload 7, 2) := by decide +kernel
theorem dX4_says_43 : decode cX4_says 43 = .ok (.iload 6, 2) := by decide +kernel
theorem dX4_says_45 : decode cX4_says 45 = .ok (.if_icmp .ge 24, 3) := by decide +kernel
theorem dX4_says_48 : decode cX4_says 48 = .ok (.aload_n 0, 1) := by decide +kernel
theorem dX4_says_49 : decode cX4_says 49 = .ok (.aload_n 0, 1) := by decide +kernel
theorem dX4_says_50 : decode cX4_says 50 = .ok (.getfield 9, 3) := by decide +kernel
theorem dX4_says_53 : decode cX4_says 53 = .ok (.iload 7, 2) := by decide +kernel
theorem dX4_says_55 : decode cX4_says 55 = .ok (.iaload, 1) := by decide +kernel
theorem dX4_says_56 : decode cX4_says 56 = .ok (.aload_n 2, 1) := by decide +kernel
theorem dX4_says_57 : decode cX4_says 57 = .ok (.iload_n 3, 1) := by decide +kernel
theorem dX4_says_58 : decode cX4_says 58 = .ok (.iload 4, 2) := by decide +kernel
theorem dX4_says_60 : decode cX4_says 60 = .ok (.invokevirtual 34, 3) := by decide +kernel
theorem dX4_says_63 : decode cX4_says 63 = .ok (.iinc 7 1, 3) := by decide +kernel
theorem dX4_says_66 : decode cX4_says 66 = .ok (.goto (-25), 3) := by decide +kernel
theorem dX4_says_69 : decode cX4_says 69 = .ok (.aload_n 0, 1) := by decide +kernel
theorem dX4_says_70 : decode cX4_says 70 = .ok (.invokevirtual 38, 3) := by decide +kernel
theorem dX4_says_73 : decode cX4_says 73 = .ok (.bipush 99, 2) := by decide +kernel
theorem dX4_says_75 : decode cX4_says 75 = .ok (.invokestatic 42, 3) := by decide +kernel
theorem dX4_says_78 : decode cX4_says 78 = .ok (.ireturn, 1) := by decide +kernel
theorem dX4_take_0 : decode cX4_take 0 = .ok (.iload_n 1, 1) := by decide +kernel
theorem dX4_take_1 : decode cX4_take 1 = .ok (.ineg, 1) := by decide +kernel
theorem dX4_take_2 : decode cX4_take 2 = .ok (.lookupswitch 188 #[(3, 176), (305, 157), (306, 74), (307, 85), (308, 96), (309, 109), (310, 118), (311, 134)], 74) := by decide +kernel
theorem dX4_take_76 : decode cX4_take 76 = .ok (.aload_n 0, 1) := by decide +kernel
theorem dX4_take_77 : decode cX4_take 77 = .ok (.iload_n 3, 1) := by decide +kernel
theorem dX4_take_78 : decode cX4_take 78 = .ok (.bipush 6, 2) := by decide +kernel
theorem dX4_take_80 : decode cX4_take 80 = .ok (.idiv, 1) := by decide +kernel
theorem dX4_take_81 : decode cX4_take 81 = .ok (.invokevirtual 45, 3) := by decide +kernel
theorem dX4_take_84 : decode cX4_take 84 = .ok (.goto 139, 3) := by decide +kernel
theorem dX4_take_87 : decode cX4_take 87 = .ok (.aload_n 0, 1) := by decide +kernel
theorem dX4_take_88 : decode cX4_take 88 = .ok (.iload_n 3, 1) := by decide +kernel
theorem dX4_take_89 : decode cX4_take 89 = .ok (.bipush 6, 2) := by decide +kernel
theorem dX4_take_91 : decode cX4_take 91 = .ok (.irem, 1) := by decide +kernel
theorem dX4_take_92 : decode cX4_take 92 = .ok (.invokevirtual 45, 3) := by decide +kernel
theorem dX4_take_95 : decode cX4_take 95 = .ok (.goto 128, 3) := by decide +kernel
theorem dX4_take_98 : decode cX4_take 98 = .ok (.aload_n 0, 1) := by decide +kernel
theorem dX4_take_99 : decode cX4_take 99 = .ok (.aload_n 2, 1) := by decide +kernel
theorem dX4_take_100 : decode cX4_take 100 = .ok (.getfield 49, 3) := by decide +kernel
theorem dX4_take_103 : decode cX4_take 103 = .ok (.iload_n 3, 1) := by decide +kernel
theorem dX4_take_104 : decode cX4_take 104 = .ok (.iaload, 1) := by decide +kernel
theorem dX4_take_105 : decode cX4_take 105 = .ok (.invokevirtual 45, 3) := by decide +kernel
theorem dX4_take_108 : decode cX4_take 108 = .ok (.goto 115, 3) := by decide +kernel
theorem dX4_take_111 : decode cX4_take 111 = .ok (.aload_n 0, 1) := by decide +kernel
theorem dX4_take_112 : decode cX4_take 112 = .ok (.iload 4, 2) := by decide +kernel
theorem dX4_take_114 : decode cX4_take 114 = .ok (.invokevirtual 45, 3) := by decide +kernel
theorem dX4_take_117 : decode cX4_take 117 = .ok (.goto 106, 3) := by decide +kernel
theorem dX4_take_120 : decode cX4_take 120 = .ok (.aload_n 0, 1) := by decide +kernel
theorem dX4_take_121 : decode cX4_take 121 = .ok (.aload_n 2, 1) := by decide +kernel
theorem dX4_take_122 : decode cX4_take 122 = .ok (.getfield 54, 3) := by decide +kernel
theorem dX4_take_125 : decode cX4_take 125 = .ok (.iload_n 3, 1) := by decide +kernel
theorem dX4_take_126 : decode cX4_take 126 = .ok (.iaload, 1) := by decide +kernel
theorem dX4_take_127 : decode cX4_take 127 = .ok (.invokestatic 57, 3) := by decide +kernel
theorem dX4_take_130 : decode cX4_take 130 = .ok (.invokevirtual 45, 3) := by decide +kernel
theorem dX4_take_133 : decode cX4_take 133 = .ok (.goto 90, 3) := by decide +kernel
theorem dX4_take_136 : decode cX4_take 136 = .ok (.aload_n 0, 1) := by decide +kernel
theorem dX4_take_137 : decode cX4_take 137 = .ok (.aload_n 2, 1) := by decide +kernel
theorem dX4_take_138 : decode cX4_take 138 = .ok (.getfield 61, 3) := by decide +kernel
theorem dX4_take_141 : decode cX4_take 141 = .ok (.iload_n 3, 1) := by decide +kernel
theorem dX4_take_142 : decode cX4_take 142 = .ok (.invokestatic 65, 3) := by decide +kernel
theorem dX4_take_145 : decode cX4_take 145 = .ok (.ifCond .eq 7, 3) := by decide +kernel
theorem dX4_take_148 : decode cX4_take 148 = .ok (.iconst 1, 1) := by decide +kernel
theorem dX4_take_149 : decode cX4_take 149 = .ok (.goto 4, 3) := by decide +kernel
theorem dX4_take_152 : decode cX4_take 152 = .ok (.iconst 0, 1) := by decide +kernel
theorem dX4_take_153 : decode cX4_take 153 = .ok (.invokevirtual 45, 3) := by decide +kernel
theorem dX4_take_156 : decode cX4_take 156 = .ok (.goto 67, 3) := by decide +kernel
theorem dX4_take_159 : decode cX4_take 159 = .ok (.aload_n 0, 1) := by decide +kernel
theorem dX4_take_160 : decode cX4_take 160 = .ok (.aload_n 0, 1) := by decide +kernel
theorem dX4_take_161 : decode cX4_take 161 = .ok (.invokevirtual 38, 3) := by decide +kernel
theorem dX4_take_164 : decode cX4_take 164 = .ok (.ifCond .ne 7, 3) := by decide +kernel
theorem dX4_take_167 : decode cX4_take 167 = .ok (.iconst 1, 1) := by decide +kernel
theorem dX4_take_168 : decode cX4_take 168 = .ok (.goto 4, 3) := by decide +kernel
theorem dX4_take_171 : decode cX4_take 171 = .ok (.iconst 0, 1) := by decide +kernel
theorem dX4_take_172 : decode cX4_take 172 = .ok (.invokevirtual 45, 3) := by decide +kernel
theorem dX4_take_175 : decode cX4_take 175 = .ok (.goto 48, 3) := by decide +kernel
theorem dX4_take_178 : decode cX4_take 178 = .ok (.aload_n 0, 1) := by decide +kernel
theorem dX4_take_179 : decode cX4_take 179 = .ok (.aload_n 0, 1) := by decide +kernel
theorem dX4_take_180 : decode cX4_take 180 = .ok (.invokevirtual 38, 3) := by decide +kernel
theorem dX4_take_183 : decode cX4_take 183 = .ok (.ineg, 1) := by decide +kernel
theorem dX4_take_184 : decode cX4_take 184 = .ok (.invokevirtual 45, 3) := by decide +kernel
theorem dX4_take_187 : decode cX4_take 187 = .ok (.goto 36, 3) := by decide +kernel
theorem dX4_take_190 : decode cX4_take 190 = .ok (.iload_n 1, 1) := by decide +kernel
theorem dX4_take_191 : decode cX4_take 191 = .ok (.ifCond .lt 11, 3) := by decide +kernel
theorem dX4_take_194 : decode cX4_take 194 = .ok (.aload_n 0, 1) := by decide +kernel
theorem dX4_take_195 : decode cX4_take 195 = .ok (.iload_n 1, 1) := by decide +kernel
theorem dX4_take_196 : decode cX4_take 196 = .ok (.invokevirtual 45, 3) := by decide +kernel
theorem dX4_take_199 : decode cX4_take 199 = .ok (.goto 24, 3) := by decide +kernel
theorem dX4_take_202 : decode cX4_take 202 = .ok (.aload_n 0, 1) := by decide +kernel
theorem dX4_take_203 : decode cX4_take 203 = .ok (.invokevirtual 38, 3) := by decide +kernel
theorem dX4_take_206 : decode cX4_take 206 = .ok (.istore 5, 2) := by decide +kernel
theorem dX4_take_208 : decode cX4_take 208 = .ok (.aload_n 0, 1) := by decide +kernel
theorem dX4_take_209 : decode cX4_take 209 = .ok (.iload_n 1, 1) := by decide +kernel
theorem dX4_take_210 : decode cX4_take 210 = .ok (.ineg, 1) := by decide +kernel
theorem dX4_take_211 : decode cX4_take 211 = .ok (.aload_n 0, 1) := by decide +kernel
theorem dX4_take_212 : decode cX4_take 212 = .ok (.invokevirtual 38, 3) := by decide +kernel
theorem dX4_take_215 : decode cX4_take 215 = .ok (.iload 5, 2) := by decide +kernel
theorem dX4_take_217 : decode cX4_take 217 = .ok (.invokestatic 69, 3) := by decide +kernel
theorem dX4_take_220 : decode cX4_take 220 = .ok (.invokevirtual 45, 3) := by decide +kernel
theorem dX4_take_223 : decode cX4_take 223 = .ok (.return_, 1) := by decide +kernel
theorem dX4_joined_0 : decode cX4_joined 0 = .ok (.iload_n 0, 1) := by decide +kernel
theorem dX4_joined_1 : decode cX4_joined 1 = .ok (.lookupswitch 107 #[(42, 67), (43, 59), (45, 63), (60, 71), (61, 82), (304, 93)], 59) := by decide +kernel
theorem dX4_joined_60 : decode cX4_joined 60 = .ok (.iload_n 1, 1) := by decide +kernel
theorem dX4_joined_61 : decode cX4_joined 61 = .ok (.iload_n 2, 1) := by decide +kernel
theorem dX4_joined_62 : decode cX4_joined 62 = .ok (.iadd, 1) := by decide +kernel
theorem dX4_joined_63 : decode cX4_joined 63 = .ok (.ireturn, 1) := by decide +kernel
theorem dX4_joined_64 : decode cX4_joined 64 = .ok (.iload_n 1, 1) := by decide +kernel
theorem dX4_joined_65 : decode cX4_joined 65 = .ok (.iload_n 2, 1) := by decide +kernel
theorem dX4_joined_66 : decode cX4_joined 66 = .ok (.isub, 1) := by decide +kernel
theorem dX4_joined_67 : decode cX4_joined 67 = .ok (.ireturn, 1) := by decide +kernel
theorem dX4_joined_68 : decode cX4_joined 68 = .ok (.iload_n 1, 1) := by decide +kernel
theorem dX4_joined_69 : decode cX4_joined 69 = .ok (.iload_n 2, 1) := by decide +kernel
theorem dX4_joined_70 : decode cX4_joined 70 = .ok (.imul, 1) := by decide +kernel
theorem dX4_joined_71 : decode cX4_joined 71 = .ok (.ireturn, 1) := by decide +kernel
theorem dX4_joined_72 : decode cX4_joined 72 = .ok (.iload_n 1, 1) := by decide +kernel
theorem dX4_joined_73 : decode cX4_joined 73 = .ok (.iload_n 2, 1) := by decide +kernel
theorem dX4_joined_74 : decode cX4_joined 74 = .ok (.if_icmp .ge 7, 3) := by decide +kernel
theorem dX4_joined_77 : decode cX4_joined 77 = .ok (.iconst 1, 1) := by decide +kernel
theorem dX4_joined_78 : decode cX4_joined 78 = .ok (.goto 4, 3) := by decide +kernel
theorem dX4_joined_81 : decode cX4_joined 81 = .ok (.iconst 0, 1) := by decide +kernel
theorem dX4_joined_82 : decode cX4_joined 82 = .ok (.ireturn, 1) := by decide +kernel
theorem dX4_joined_83 : decode cX4_joined 83 = .ok (.iload_n 1, 1) := by decide +kernel
theorem dX4_joined_84 : decode cX4_joined 84 = .ok (.iload_n 2, 1) := by decide +kernel
theorem dX4_joined_85 : decode cX4_joined 85 = .ok (.if_icmp .ne 7, 3) := by decide +kernel
theorem dX4_joined_88 : decode cX4_joined 88 = .ok (.iconst 1, 1) := by decide +kernel
theorem dX4_joined_89 : decode cX4_joined 89 = .ok (.goto 4, 3) := by decide +kernel
theorem dX4_joined_92 : decode cX4_joined 92 = .ok (.iconst 0, 1) := by decide +kernel
theorem dX4_joined_93 : decode cX4_joined 93 = .ok (.ireturn, 1) := by decide +kernel
theorem dX4_joined_94 : decode cX4_joined 94 = .ok (.iload_n 1, 1) := by decide +kernel
theorem dX4_joined_95 : decode cX4_joined 95 = .ok (.ifCond .eq 11, 3) := by decide +kernel
theorem dX4_joined_98 : decode cX4_joined 98 = .ok (.iload_n 2, 1) := by decide +kernel
theorem dX4_joined_99 : decode cX4_joined 99 = .ok (.ifCond .eq 7, 3) := by decide +kernel
theorem dX4_joined_102 : decode cX4_joined 102 = .ok (.iconst 1, 1) := by decide +kernel
theorem dX4_joined_103 : decode cX4_joined 103 = .ok (.goto 4, 3) := by decide +kernel
theorem dX4_joined_106 : decode cX4_joined 106 = .ok (.iconst 0, 1) := by decide +kernel
theorem dX4_joined_107 : decode cX4_joined 107 = .ok (.ireturn, 1) := by decide +kernel
theorem dX4_joined_108 : decode cX4_joined 108 = .ok (.iload_n 1, 1) := by decide +kernel
theorem dX4_joined_109 : decode cX4_joined 109 = .ok (.ifCond .ne 7, 3) := by decide +kernel
theorem dX4_joined_112 : decode cX4_joined 112 = .ok (.iload_n 2, 1) := by decide +kernel
theorem dX4_joined_113 : decode cX4_joined 113 = .ok (.ifCond .eq 7, 3) := by decide +kernel
theorem dX4_joined_116 : decode cX4_joined 116 = .ok (.iconst 1, 1) := by decide +kernel
theorem dX4_joined_117 : decode cX4_joined 117 = .ok (.goto 4, 3) := by decide +kernel
theorem dX4_joined_120 : decode cX4_joined 120 = .ok (.iconst 0, 1) := by decide +kernel
theorem dX4_joined_121 : decode cX4_joined 121 = .ok (.ireturn, 1) := by decide +kernel
theorem dX4_push_0 : decode cX4_push 0 = .ok (.aload_n 0, 1) := by decide +kernel
theorem dX4_push_1 : decode cX4_push 1 = .ok (.getfield 25, 3) := by decide +kernel
theorem dX4_push_4 : decode cX4_push 4 = .ok (.bipush 40, 2) := by decide +kernel
theorem dX4_push_6 : decode cX4_push 6 = .ok (.if_icmp .ge 20, 3) := by decide +kernel
theorem dX4_push_9 : decode cX4_push 9 = .ok (.aload_n 0, 1) := by decide +kernel
theorem dX4_push_10 : decode cX4_push 10 = .ok (.getfield 18, 3) := by decide +kernel
theorem dX4_push_13 : decode cX4_push 13 = .ok (.aload_n 0, 1) := by decide +kernel
theorem dX4_push_14 : decode cX4_push 14 = .ok (.dup, 1) := by decide +kernel
theorem dX4_push_15 : decode cX4_push 15 = .ok (.getfield 25, 3) := by decide +kernel
theorem dX4_push_18 : decode cX4_push 18 = .ok (.dup_x1, 1) := by decide +kernel
theorem dX4_push_19 : decode cX4_push 19 = .ok (.iconst 1, 1) := by decide +kernel
theorem dX4_push_20 : decode cX4_push 20 = .ok (.iadd, 1) := by decide +kernel
theorem dX4_push_21 : decode cX4_push 21 = .ok (.putfield 25, 3) := by decide +kernel
theorem dX4_push_24 : decode cX4_push 24 = .ok (.iload_n 1, 1) := by decide +kernel
theorem dX4_push_25 : decode cX4_push 25 = .ok (.iastore, 1) := by decide +kernel
theorem dX4_push_26 : decode cX4_push 26 = .ok (.return_, 1) := by decide +kernel
theorem dX4_pop_0 : decode cX4_pop 0 = .ok (.aload_n 0, 1) := by decide +kernel
theorem dX4_pop_1 : decode cX4_pop 1 = .ok (.getfield 25, 3) := by decide +kernel
theorem dX4_pop_4 : decode cX4_pop 4 = .ok (.ifCond .le 22, 3) := by decide +kernel
theorem dX4_pop_7 : decode cX4_pop 7 = .ok (.aload_n 0, 1) := by decide +kernel
theorem dX4_pop_8 : decode cX4_pop 8 = .ok (.getfield 18, 3) := by decide +kernel
theorem dX4_pop_11 : decode cX4_pop 11 = .ok (.aload_n 0, 1) := by decide +kernel
theorem dX4_pop_12 : decode cX4_pop 12 = .ok (.dup, 1) := by decide +kernel
theorem dX4_pop_13 : decode cX4_pop 13 = .ok (.getfield 25, 3) := by decide +kernel
theorem dX4_pop_16 : decode cX4_pop 16 = .ok (.iconst 1, 1) := by decide +kernel
theorem dX4_pop_17 : decode cX4_pop 17 = .ok (.isub, 1) := by decide +kernel
theorem dX4_pop_18 : decode cX4_pop 18 = .ok (.dup_x1, 1) := by decide +kernel
theorem dX4_pop_19 : decode cX4_pop 19 = .ok (.putfield 25, 3) := by decide +kernel
theorem dX4_pop_22 : decode cX4_pop 22 = .ok (.iaload, 1) := by decide +kernel
theorem dX4_pop_23 : decode cX4_pop 23 = .ok (.goto 4, 3) := by decide +kernel
theorem dX4_pop_26 : decode cX4_pop 26 = .ok (.iconst 0, 1) := by decide +kernel
theorem dX4_pop_27 : decode cX4_pop 27 = .ok (.ireturn, 1) := by decide +kernel
theorem dX5_init_0 : decode cX5_init 0 = .ok (.aload_n 0, 1) := by decide +kernel
theorem dX5_init_1 : decode cX5_init 1 = .ok (.invokespecial 1, 3) := by decide +kernel
theorem dX5_init_4 : decode cX5_init 4 = .ok (.aload_n 0, 1) := by decide +kernel
theorem dX5_init_5 : decode cX5_init 5 = .ok (.new 7, 3) := by decide +kernel
theorem dX5_init_8 : decode cX5_init 8 = .ok (.dup, 1) := by decide +kernel
theorem dX5_init_9 : decode cX5_init 9 = .ok (.invokespecial 9, 3) := by decide +kernel
theorem dX5_init_12 : decode cX5_init 12 = .ok (.putfield 10, 3) := by decide +kernel
theorem dX5_init_15 : decode cX5_init 15 = .ok (.aload_n 0, 1) := by decide +kernel
theorem dX5_init_16 : decode cX5_init 16 = .ok (.new 7, 3) := by decide +kernel
theorem dX5_init_19 : decode cX5_init 19 = .ok (.dup, 1) := by decide +kernel
theorem dX5_init_20 : decode cX5_init 20 = .ok (.invokespecial 9, 3) := by decide +kernel
theorem dX5_init_23 : decode cX5_init 23 = .ok (.putfield 16, 3) := by decide +kernel
theorem dX5_init_26 : decode cX5_init 26 = .ok (.aload_n 0, 1) := by decide +kernel
theorem dX5_init_27 : decode cX5_init 27 = .ok (.new 19, 3) := by decide +kernel
theorem dX5_init_30 : decode cX5_init 30 = .ok (.dup, 1) := by decide +kernel
theorem dX5_init_31 : decode cX5_init 31 = .ok (.invokespecial 21, 3) := by decide +kernel
theorem dX5_init_34 : decode cX5_init 34 = .ok (.putfield 22, 3) := by decide +kernel
theorem dX5_init_37 : decode cX5_init 37 = .ok (.aload_n 0, 1) := by decide +kernel
theorem dX5_init_38 : decode cX5_init 38 = .ok (.bipush 6, 2) := by decide +kernel
theorem dX5_init_40 : decode cX5_init 40 = .ok (.anewarray 26, 3) := by decide +kernel
theorem dX5_init_43 : decode cX5_init 43 = .ok (.putfield 28, 3) := by decide +kernel
theorem dX5_init_46 : decode cX5_init 46 = .ok (.aload_n 0, 1) := by decide +kernel
theorem dX5_init_47 : decode cX5_init 47 = .ok (.new 32, 3) := by decide +kernel
theorem dX5_init_50 : decode cX5_init 50 = .ok (.dup, 1) := by decide +kernel
theorem dX5_init_51 : decode cX5_init 51 = .ok (.invokespecial 34, 3) := by decide +kernel
theorem dX5_init_54 : decode cX5_init 54 = .ok (.putfield 35, 3) := by decide +kernel
theorem dX5_init_57 : decode cX5_init 57 = .ok (.aload_n 0, 1) := by decide +kernel
theorem dX5_init_58 : decode cX5_init 58 = .ok (.iconst 4, 1) := by decide +kernel
theorem dX5_init_59 : decode cX5_init 59 = .ok (.anewarray 39, 3) := by decide +kernel
theorem dX5_init_62 : decode cX5_init 62 = .ok (.putfield 41, 3) := by decide +kernel
theorem dX5_init_65 : decode cX5_init 65 = .ok (.aload_n 0, 1) := by decide +kernel
theorem dX5_init_66 : decode cX5_init 66 = .ok (.bipush 48, 2) := by decide +kernel
theorem dX5_init_68 : decode cX5_init 68 = .ok (.newarray .long, 2) := by decide +kernel
theorem dX5_init_70 : decode cX5_init 70 = .ok (.putfield 45, 3) := by decide +kernel
theorem dX5_init_73 : decode cX5_init 73 = .ok (.iconst 0, 1) := by decide +kernel
theorem dX5_init_74 : decode cX5_init 74 = .ok (.istore_n 1, 1) := by decide +kernel
theorem dX5_init_75 : decode cX5_init 75 = .ok (.iload_n 1, 1) := by decide +kernel
theorem dX5_init_76 : decode cX5_init 76 = .ok (.bipush 6, 2) := by decide +kernel
theorem dX5_init_78 : decode cX5_init 78 = .ok (.if_icmp .ge 22, 3) := by decide +kernel
theorem dX5_init_81 : decode cX5_init 81 = .ok (.aload_n 0, 1) := by decide +kernel
theorem dX5_init_82 : decode cX5_init 82 = .ok (.getfield 28, 3) := by decide +kernel
theorem dX5_init_85 : decode cX5_init 85 = .ok (.iload_n 1, 1) := by decide +kernel
theorem dX5_init_86 : decode cX5_init 86 = .ok (.new 26, 3) := by decide +kernel
theorem dX5_init_89 : decode cX5_init 89 = .ok (.dup, 1) := by decide +kernel
theorem dX5_init_90 : decode cX5_init 90 = .ok (.invokespecial 49, 3) := by decide +kernel
theorem dX5_init_93 : decode cX5_init 93 = .ok (.aastore, 1) := by decide +kernel
theorem dX5_init_94 : decode cX5_init 94 = .ok (.iinc 1 1, 3) := by decide +kernel
theorem dX5_init_97 : decode cX5_init 97 = .ok (.goto (-22), 3) := by decide +kernel
theorem dX5_init_100 : decode cX5_init 100 = .ok (.iconst 0, 1) := by decide +kernel
theorem dX5_init_101 : decode cX5_init 101 = .ok (.istore_n 1, 1) := by decide +kernel
theorem dX5_init_102 : decode cX5_init 102 = .ok (.iload_n 1, 1) := by decide +kernel
theorem dX5_init_103 : decode cX5_init 103 = .ok (.iconst 4, 1) := by decide +kernel
theorem dX5_init_104 : decode cX5_init 104 = .ok (.if_icmp .ge 22, 3) := by decide +kernel
theorem dX5_init_107 : decode cX5_init 107 = .ok (.aload_n 0, 1) := by decide +kernel
theorem dX5_init_108 : decode cX5_init 108 = .ok (.getfield 41, 3) := by decide +kernel
theorem dX5_init_111 : decode cX5_init 111 = .ok (.iload_n 1, 1) := by decide +kernel
theorem dX5_init_112 : decode cX5_init 112 = .ok (.new 39, 3) := by decide +kernel
theorem dX5_init_115 : decode cX5_init 115 = .ok (.dup, 1) := by decide +kernel
theorem dX5_init_116 : decode cX5_init 116 = .ok (.invokespecial 50, 3) := by decide +kernel
theorem dX5_init_119 : decode cX5_init 119 = .ok (.aastore, 1) := by decide +kernel
theorem dX5_init_120 : decode cX5_init 120 = .ok (.iinc 1 1, 3) := by decide +kernel
theorem dX5_init_123 : decode cX5_init 123 = .ok (.goto (-21), 3) := by decide +kernel
theorem dX5_init_126 : decode cX5_init 126 = .ok (.iconst 0, 1) := by decide +kernel
theorem dX5_init_127 : decode cX5_init 127 = .ok (.istore_n 1, 1) := by decide +kernel
theorem dX5_init_128 : decode cX5_init 128 = .ok (.iload_n 1, 1) := by decide +kernel
theorem dX5_init_129 : decode cX5_init 129 = .ok (.ldc 51, 2) := by decide +kernel
theorem dX5_init_131 : decode cX5_init 131 = .ok (.invokevirtual 53, 3) := by decide +kernel
theorem dX5_init_134 : decode cX5_init 134 = .ok (.if_icmp .ge 22, 3) := by decide +kernel
theorem dX5_init_137 : decode cX5_init 137 = .ok (.aload_n 0, 1) := by decide +kernel
theorem dX5_init_138 : decode cX5_init 138 = .ok (.getfield 22, 3) := by decide +kernel
theorem dX5_init_141 : decode cX5_init 141 = .ok (.ldc 51, 2) := by decide +kernel
theorem dX5_init_143 : decode cX5_init 143 = .ok (.iload_n 1, 1) := by decide +kernel
theorem dX5_init_144 : decode cX5_init 144 = .ok (.invokevirtual 59, 3) := by decide +kernel
theorem dX5_init_147 : decode cX5_init 147 = .ok (.invokevirtual 63, 3) := by decide +kernel
theorem dX5_init_150 : decode cX5_init 150 = .ok (.iinc 1 1, 3) := by decide +kernel
theorem dX5_init_153 : decode cX5_init 153 = .ok (.goto (-25), 3) := by decide +kernel
theorem dX5_init_156 : decode cX5_init 156 = .ok (.aload_n 0, 1) := by decide +kernel
theorem dX5_init_157 : decode cX5_init 157 = .ok (.invokevirtual 67, 3) := by decide +kernel
theorem dX5_init_160 : decode cX5_init 160 = .ok (.pop, 1) := by decide +kernel
theorem dX5_init_161 : decode cX5_init 161 = .ok (.return_, 1) := by decide +kernel
theorem dX5_count_0 : decode cX5_count 0 = .ok (.iload_n 1, 1) := by decide +kernel
theorem dX5_count_1 : decode cX5_count 1 = .ok (.tableswitch 78 0 4 #[35, 46, 57, 62, 70], 35) := by decide +kernel
theorem dX5_count_36 : decode cX5_count 36 = .ok (.aload_n 0, 1) := by decide +kernel
theorem dX5_count_37 : decode cX5_count 37 = .ok (.getfield 10, 3) := by decide +kernel
theorem dX5_count_40 : decode cX5_count 40 = .ok (.getfield 70, 3) := by decide +kernel
theorem dX5_count_43 : decode cX5_count 43 = .ok (.invokestatic 74, 3) := by decide +kernel
theorem dX5_count_46 : decode cX5_count 46 = .ok (.ireturn, 1) := by decide +kernel
theorem dX5_count_47 : decode cX5_count 47 = .ok (.aload_n 0, 1) := by decide +kernel
theorem dX5_count_48 : decode cX5_count 48 = .ok (.getfield 10, 3) := by decide +kernel
theorem dX5_count_51 : decode cX5_count 51 = .ok (.getfield 80, 3) := by decide +kernel
theorem dX5_count_54 : decode cX5_count 54 = .ok (.invokestatic 74, 3) := by decide +kernel
theorem dX5_count_57 : decode cX5_count 57 = .ok (.ireturn, 1) := by decide +kernel
theorem dX5_count_58 : decode cX5_count 58 = .ok (.aload_n 0, 1) := by decide +kernel
theorem dX5_count_59 : decode cX5_count 59 = .ok (.getfield 83, 3) := by decide +kernel
theorem dX5_count_62 : decode cX5_count 62 = .ok (.ireturn, 1) := by decide +kernel
theorem dX5_count_63 : decode cX5_count 63 = .ok (.aload_n 0, 1) := by decide +kernel
theorem dX5_count_64 : decode cX5_count 64 = .ok (.getfield 10, 3) := by decide +kernel
theorem dX5_count_67 : decode cX5_count 67 = .ok (.getfield 87, 3) := by decide +kernel
theorem dX5_count_70 : decode cX5_count 70 = .ok (.ireturn, 1) := by decide +kernel
theorem dX5_count_71 : decode cX5_count 71 = .ok (.aload_n 0, 1) := by decide +kernel
theorem dX5_count_72 : decode cX5_count 72 = .ok (.getfield 22, 3) := by decide +kernel
theorem dX5_count_75 : decode cX5_count 75 = .ok (.getfield 90, 3) := by decide +kernel
theorem dX5_count_78 : decode cX5_count 78 = .ok (.ireturn, 1) := by decide +kernel
theorem dX5_count_79 : decode cX5_count 79 = .ok (.bipush (-2), 2) := by decide +kernel
theorem dX5_count_81 : decode cX5_count 81 = .ok (.ireturn, 1) := by decide +kernel
theorem dX5_feed_0 : decode cX5_feed 0 = .ok (.iload_n 2, 1) := by decide +kernel
theorem dX5_feed_1 : decode cX5_feed 1 = .ok (.invokestatic 93, 3) := by decide +kernel
theorem dX5_feed_4 : decode cX5_feed 4 = .ok (.ifCond .eq 38, 3) := by decide +kernel
theorem dX5_feed_7 : decode cX5_feed 7 = .ok (.iload_n 3, 1) := by decide +kernel
theorem dX5_feed_8 : decode cX5_feed 8 = .ok (.invokestatic 93, 3) := by decide +kernel
theorem dX5_feed_11 : decode cX5_feed 11 = .ok (.ifCond .eq 31, 3) := by decide +kernel
theorem dX5_feed_14 : decode cX5_feed 14 = .ok (.iload 4, 2) := by decide +kernel
theorem dX5_feed_16 : decode cX5_feed 16 = .ok (.invokestatic 93, 3) := by decide +kernel
theorem dX5_feed_19 : decode cX5_feed 19 = .ok (.ifCond .eq 23, 3) := by decide +kernel
theorem dX5_feed_22 : decode cX5_feed 22 = .ok (.iload 5, 2) := by decide +kernel
theorem dX5_feed_24 : decode cX5_feed 24 = .ok (.invokestatic 93, 3) := by decide +kernel
theorem dX5_feed_27 : decode cX5_feed 27 = .ok (.ifCond .eq 15, 3) := by decide +kernel
theorem dX5_feed_30 : decode cX5_feed 30 = .ok (.iload 6, 2) := by decide +kernel
theorem dX5_feed_32 : decode cX5_feed 32 = .ok (.invokestatic 93, 3) := by decide +kernel
theorem dX5_feed_35 : decode cX5_feed 35 = .ok (.ifCond .eq 7, 3) := by decide +kernel
theorem dX5_feed_38 : decode cX5_feed 38 = .ok (.iconst 1, 1) := by decide +kernel
theorem dX5_feed_39 : decode cX5_feed 39 = .ok (.goto 4, 3) := by decide +kernel
theorem dX5_feed_42 : decode cX5_feed 42 = .ok (.iconst 0, 1) := by decide +kernel
theorem dX5_feed_43 : decode cX5_feed 43 = .ok (.istore 7, 2) := by decide +kernel
theorem dX5_feed_45 : decode cX5_feed 45 = .ok (.iload_n 1, 1) := by decide +kernel
theorem dX5_feed_46 : decode cX5_feed 46 = .ok (.iconst 1, 1) := by decide +kernel
theorem dX5_feed_47 : decode cX5_feed 47 = .ok (.iconst 5, 1) := by decide +kernel
theorem dX5_feed_48 : decode cX5_feed 48 = .ok (.invokestatic 97, 3) := by decide +kernel
theorem dX5_feed_51 : decode cX5_feed 51 = .ok (.ifCond .eq 8, 3) := by decide +kernel
theorem dX5_feed_54 : decode cX5_feed 54 = .ok (.iload 7, 2) := by decide +kernel
theorem dX5_feed_56 : decode cX5_feed 56 = .ok (.ifCond .ne 6, 3) := by decide +kernel
theorem dX5_feed_59 : decode cX5_feed 59 = .ok (.bipush (-2), 2) := by decide +kernel
theorem dX5_feed_61 : decode cX5_feed 61 = .ok (.ireturn, 1) := by decide +kernel
theorem dX5_feed_62 : decode cX5_feed 62 = .ok (.aload_n 0, 1) := by decide +kernel
theorem dX5_feed_63 : decode cX5_feed 63 = .ok (.getfield 22, 3) := by decide +kernel
theorem dX5_feed_66 : decode cX5_feed 66 = .ok (.getfield 90, 3) := by decide +kernel
theorem dX5_feed_69 : decode cX5_feed 69 = .ok (.iload_n 1, 1) := by decide +kernel
theorem dX5_feed_70 : decode cX5_feed 70 = .ok (.iadd, 1) := by decide +kernel
theorem dX5_feed_71 : decode cX5_feed 71 = .ok (.sipush 160, 3) := by decide +kernel
theorem dX5_feed_74 : decode cX5_feed 74 = .ok (.if_icmp .le 6, 3) := by decide +kernel
theorem dX5_feed_77 : decode cX5_feed 77 = .ok (.bipush (-4), 2) := by decide +kernel
theorem dX5_feed_79 : decode cX5_feed 79 = .ok (.ireturn, 1) := by decide +kernel
theorem dX5_feed_80 : decode cX5_feed 80 = .ok (.aload_n 0, 1) := by decide +kernel
theorem dX5_feed_81 : decode cX5_feed 81 = .ok (.getfield 22, 3) := by decide +kernel
theorem dX5_feed_84 : decode cX5_feed 84 = .ok (.iload_n 2, 1) := by decide +kernel
theorem dX5_feed_85 : decode cX5_feed 85 = .ok (.invokevirtual 63, 3) := by decide +kernel
theorem dX5_feed_88 : decode cX5_feed 88 = .ok (.iload_n 1, 1) := by decide +kernel
theorem dX5_feed_89 : decode cX5_feed 89 = .ok (.iconst 1, 1) := by decide +kernel
theorem dX5_feed_90 : decode cX5_feed 90 = .ok (.if_icmp .le 11, 3) := by decide +kernel
theorem dX5_feed_93 : decode cX5_feed 93 = .ok (.aload_n 0, 1) := by decide +kernel
theorem dX5_feed_94 : decode cX5_feed 94 = .ok (.getfield 22, 3) := by decide +kernel
theorem dX5_feed_97 : decode cX5_feed 97 = .ok (.iload_n 3, 1) := by decide +kernel
theorem dX5_feed_98 : decode cX5_feed 98 = .ok (.invokevirtual 63, 3) := by decide +kernel
theorem dX5_feed_101 : decode cX5_feed 101 = .ok (.iload_n 1, 1) := by decide +kernel
theorem dX5_feed_102 : decode cX5_feed 102 = .ok (.iconst 2, 1) := by decide +kernel
theorem dX5_feed_103 : decode cX5_feed 103 = .ok (.if_icmp .le 12, 3) := by decide +kernel
theorem dX5_feed_106 : decode cX5_feed 106 = .ok (.aload_n 0, 1) := by decide +kernel
theorem dX5_feed_107 : decode cX5_feed 107 = .ok (.getfield 22, 3) := by decide +kernel
theorem dX5_feed_110 : decode cX5_feed 110 = .ok (.iload 4, 2) := by decide +kernel
theorem dX5_feed_112 : decode cX5_feed 112 = .ok (.invokevirtual 63, 3) := by decide +kernel
theorem dX5_feed_115 : decode cX5_feed 115 = .ok (.iload_n 1, 1) := by decide +kernel
theorem dX5_feed_116 : decode cX5_feed 116 = .ok (.iconst 3, 1) := by decide +kernel
theorem dX5_feed_117 : decode cX5_feed 117 = .ok (.if_icmp .le 12, 3) := by decide +kernel
theorem dX5_feed_120 : decode cX5_feed 120 = .ok (.aload_n 0, 1) := by decide +kernel
theorem dX5_feed_121 : decode cX5_feed 121 = .ok (.getfield 22, 3) := by decide +kernel
theorem dX5_feed_124 : decode cX5_feed 124 = .ok (.iload 5, 2) := by decide +kernel
theorem dX5_feed_126 : decode cX5_feed 126 = .ok (.invokevirtual 63, 3) := by decide +kernel
theorem dX5_feed_129 : decode cX5_feed 129 = .ok (.iload_n 1, 1) := by decide +kernel
theorem dX5_feed_130 : decode cX5_feed 130 = .ok (.iconst 4, 1) := by decide +kernel
theorem dX5_feed_131 : decode cX5_feed 131 = .ok (.if_icmp .le 12, 3) := by decide +kernel
theorem dX5_feed_134 : decode cX5_feed 134 = .ok (.aload_n 0, 1) := by decide +kernel
theorem dX5_feed_135 : decode cX5_feed 135 = .ok (.getfield 22, 3) := by decide +kernel
theorem dX5_feed_138 : decode cX5_feed 138 = .ok (.iload 6, 2) := by decide +kernel
theorem dX5_feed_140 : decode cX5_feed 140 = .ok (.invokevirtual 63, 3) := by decide +kernel
theorem dX5_feed_143 : decode cX5_feed 143 = .ok (.aload_n 0, 1) := by decide +kernel
theorem dX5_feed_144 : decode cX5_feed 144 = .ok (.getfield 22, 3) := by decide +kernel
theorem dX5_feed_147 : decode cX5_feed 147 = .ok (.getfield 90, 3) := by decide +kernel
theorem dX5_feed_150 : decode cX5_feed 150 = .ok (.ireturn, 1) := by decide +kernel
theorem dX5_text_0 : decode cX5_text 0 = .ok (.aload_n 0, 1) := by decide +kernel
theorem dX5_text_1 : decode cX5_text 1 = .ok (.invokevirtual 67, 3) := by decide +kernel
theorem dX5_text_4 : decode cX5_text 4 = .ok (.ireturn, 1) := by decide +kernel
theorem dX5_force_0 : decode cX5_force 0 = .ok (.iload_n 1, 1) := by decide +kernel
theorem dX5_force_1 : decode cX5_force 1 = .ok (.iconst 0, 1) := by decide +kernel
theorem dX5_force_2 : decode cX5_force 2 = .ok (.aload_n 0, 1) := by decide +kernel
theorem dX5_force_3 : decode cX5_force 3 = .ok (.getfield 83, 3) := by decide +kernel
theorem dX5_force_6 : decode cX5_force 6 = .ok (.iconst 1, 1) := by decide +kernel
theorem dX5_force_7 : decode cX5_force 7 = .ok (.isub, 1) := by decide +kernel
theorem dX5_force_8 : decode cX5_force 8 = .ok (.invokestatic 97, 3) := by decide +kernel
theorem dX5_force_11 : decode cX5_force 11 = .ok (.ifCond .ne 6, 3) := by decide +kernel
theorem dX5_force_14 : decode cX5_force 14 = .ok (.bipush (-2), 2) := by decide +kernel
theorem dX5_force_16 : decode cX5_force 16 = .ok (.ireturn, 1) := by decide +kernel
theorem dX5_force_17 : decode cX5_force 17 = .ok (.aload_n 0, 1) := by decide +kernel
theorem dX5_force_18 : decode cX5_force 18 = .ok (.getfield 10, 3) := by decide +kernel
theorem dX5_force_21 : decode cX5_force 21 = .ok (.getfield 87, 3) := by decide +kernel
theorem dX5_force_24 : decode cX5_force 24 = .ok (.istore_n 2, 1) := by decide +kernel
theorem dX5_force_25 : decode cX5_force 25 = .ok (.aload_n 0, 1) := by decide +kernel
theorem dX5_force_26 : decode cX5_force 26 = .ok (.getfield 10, 3) := by decide +kernel
theorem dX5_force_29 : decode cX5_force 29 = .ok (.iload_n 1, 1) := by decide +kernel
theorem dX5_force_30 : decode cX5_force 30 = .ok (.putfield 87, 3) := by decide +kernel
theorem dX5_force_33 : decode cX5_force 33 = .ok (.iload_n 2, 1) := by decide +kernel
theorem dX5_force_34 : decode cX5_force 34 = .ok (.ireturn, 1) := by decide +kernel
theorem dX5_asks_0 : decode cX5_asks 0 = .ok (.iload_n 2, 1) := by decide +kernel
theorem dX5_asks_1 : decode cX5_asks 1 = .ok (.invokestatic 101, 3) := by decide +kernel
theorem dX5_asks_4 : decode cX5_asks 4 = .ok (.ifCond .ne 6, 3) := by decide +kernel
theorem dX5_asks_7 : decode cX5_asks 7 = .ok (.bipush (-5), 2) := by decide +kernel
theorem dX5_asks_9 : decode cX5_asks 9 = .ok (.ireturn, 1) := by decide +kernel
theorem dX5_asks_10 : decode cX5_asks 10 = .ok (.iload_n 1, 1) := by decide +kernel
theorem dX5_asks_11 : decode cX5_asks 11 = .ok (.iconst 0, 1) := by decide +kernel
theorem dX5_asks_12 : decode cX5_asks 12 = .ok (.iconst 2, 1) := by decide +kernel
theorem dX5_asks_13 : decode cX5_asks 13 = .ok (.invokestatic 97, 3) := by decide +kernel
theorem dX5_asks_16 : decode cX5_asks 16 = .ok (.ifCond .eq 10, 3) := by decide +kernel
theorem dX5_asks_19 : decode cX5_asks 19 = .ok (.iload_n 3, 1) := by decide +kernel
theorem dX5_asks_20 : decode cX5_asks 20 = .ok (.invokestatic 104, 3) := by decide +kernel
theorem dX5_asks_23 : decode cX5_asks 23 = .ok (.ifCond .ne 6, 3) := by decide +kernel
theorem dX5_asks_26 : decode cX5_asks 26 = .ok (.bipush (-7), 2) := by decide +kernel
theorem dX5_asks_28 : decode cX5_asks 28 = .ok (.ireturn, 1) := by decide +kernel
theorem dX5_asks_29 : decode cX5_asks 29 = .ok (.aload_n 0, 1) := by decide +kernel
theorem dX5_asks_30 : decode cX5_asks 30 = .ok (.invokevirtual 107, 3) := by decide +kernel
theorem dX5_asks_33 : decode cX5_asks 33 = .ok (.iload_n 1, 1) := by decide +kernel
theorem dX5_asks_34 : decode cX5_asks 34 = .ok (.aload_n 0, 1) := by decide +kernel
theorem dX5_asks_35 : decode cX5_asks 35 = .ok (.getfield 10, 3) := by decide +kernel
theorem dX5_asks_38 : decode cX5_asks 38 = .ok (.iload_n 2, 1) := by decide +kernel
theorem dX5_asks_39 : decode cX5_asks 39 = .ok (.iload_n 3, 1) := by decide +kernel
theorem dX5_asks_40 : decode cX5_asks 40 = .ok (.invokevirtual 110, 3) := by decide +kernel
theorem dX5_asks_43 : decode cX5_asks 43 = .ok (.ireturn, 1) := by decide +kernel
theorem dX5_knit_0 : decode cX5_knit 0 = .ok (.iload_n 1, 1) := by decide +kernel
theorem dX5_knit_1 : decode cX5_knit 1 = .ok (.invokestatic 101, 3) := by decide +kernel
theorem dX5_knit_4 : decode cX5_knit 4 = .ok (.ifCond .ne 6, 3) := by decide +kernel
theorem dX5_knit_7 : decode cX5_knit 7 = .ok (.bipush (-5), 2) := by decide +kernel
theorem dX5_knit_9 : decode cX5_knit 9 = .ok (.ireturn, 1) := by decide +kernel
theorem dX5_knit_10 : decode cX5_knit 10 = .ok (.iload_n 2, 1) := by decide +kernel
theorem dX5_knit_11 : decode cX5_knit 11 = .ok (.iload_n 3, 1) := by decide +kernel
theorem dX5_knit_12 : decode cX5_knit 12 = .ok (.invokestatic 114, 3) := by decide +kernel
theorem dX5_knit_15 : decode cX5_knit 15 = .ok (.ifCond .ne 6, 3) := by decide +kernel
theorem dX5_knit_18 : decode cX5_knit 18 = .ok (.bipush (-7), 2) := by decide +kernel
theorem dX5_knit_20 : decode cX5_knit 20 = .ok (.ireturn, 1) := by decide +kernel
theorem dX5_knit_21 : decode cX5_knit 21 = .ok (.aload_n 0, 1) := by decide +kernel
theorem dX5_knit_22 : decode cX5_knit 22 = .ok (.getfield 10, 3) := by decide +kernel
theorem dX5_knit_25 : decode cX5_knit 25 = .ok (.getfield 118, 3) := by decide +kernel
theorem dX5_knit_28 : decode cX5_knit 28 = .ok (.iload_n 1, 1) := by decide +kernel
theorem dX5_knit_29 : decode cX5_knit 29 = .ok (.iaload, 1) := by decide +kernel
theorem dX5_knit_30 : decode cX5_knit 30 = .ok (.istore 4, 2) := by decide +kernel
theorem dX5_knit_32 : decode cX5_knit 32 = .ok (.aload_n 0, 1) := by decide +kernel
theorem dX5_knit_33 : decode cX5_knit 33 = .ok (.getfield 10, 3) := by decide +kernel
theorem dX5_knit_36 : decode cX5_knit 36 = .ok (.iload_n 1, 1) := by decide +kernel
theorem dX5_knit_37 : decode cX5_knit 37 = .ok (.iload_n 2, 1) := by decide +kernel
theorem dX5_knit_38 : decode cX5_knit 38 = .ok (.iload_n 3, 1) := by decide +kernel
theorem dX5_knit_39 : decode cX5_knit 39 = .ok (.invokevirtual 122, 3) := by decide +kernel
theorem dX5_knit_42 : decode cX5_knit 42 = .ok (.iload 4, 2) := by decide +kernel
theorem dX5_knit_44 : decode cX5_knit 44 = .ok (.ireturn, 1) := by decide +kernel
theorem dX5_row_0 : decode cX5_row 0 = .ok (.iload_n 1, 1) := by decide +kernel
theorem dX5_row_1 : decode cX5_row 1 = .ok (.invokestatic 126, 3) := by decide +kernel
theorem dX5_row_4 : decode cX5_row 4 = .ok (.ifCond .ne 6, 3) := by decide +kernel
theorem dX5_row_7 : decode cX5_row 7 = .ok (.bipush (-5), 2) := by decide +kernel
theorem dX5_row_9 : decode cX5_row 9 = .ok (.ireturn, 1) := by decide +kernel
theorem dX5_row_10 : decode cX5_row 10 = .ok (.iload_n 2, 1) := by decide +kernel
theorem dX5_row_11 : decode cX5_row 11 = .ok (.iload_n 3, 1) := by decide +kernel
theorem dX5_row_12 : decode cX5_row 12 = .ok (.invokestatic 114, 3) := by decide +kernel
theorem dX5_row_15 : decode cX5_row 15 = .ok (.ifCond .ne 6, 3) := by decide +kernel
theorem dX5_row_18 : decode cX5_row 18 = .ok (.bipush (-7), 2) := by decide +kernel
theorem dX5_row_20 : decode cX5_row 20 = .ok (.ireturn, 1) := by decide +kernel
theorem dX5_row_21 : decode cX5_row 21 = .ok (.iconst 0, 1) := by decide +kernel
theorem dX5_row_22 : decode cX5_row 22 = .ok (.istore 4, 2) := by decide +kernel
theorem dX5_row_24 : decode cX5_row 24 = .ok (.iconst 0, 1) := by decide +kernel
theorem dX5_row_25 : decode cX5_row 25 = .ok (.istore 5, 2) := by decide +kernel
theorem dX5_row_27 : decode cX5_row 27 = .ok (.iload 5, 2) := by decide +kernel
theorem dX5_row_29 : decode cX5_row 29 = .ok (.bipush 6, 2) := by decide +kernel
theorem dX5_row_31 : decode cX5_row 31 = .ok (.if_icmp .ge 46, 3) := by decide +kernel
theorem dX5_row_34 : decode cX5_row 34 = .ok (.iload_n 1, 1) := by decide +kernel
theorem dX5_row_35 : decode cX5_row 35 = .ok (.bipush 6, 2) := by decide +kernel
theorem dX5_row_37 : decode cX5_row 37 = .ok (.imul, 1) := by decide +kernel
theorem dX5_row_38 : decode cX5_row 38 = .ok (.iload 5, 2) := by decide +kernel
theorem dX5_row_40 : decode cX5_row 40 = .ok (.iadd, 1) := by decide +kernel
theorem dX5_row_41 : decode cX5_row 41 = .ok (.istore 6, 2) := by decide +kernel
theorem dX5_row_43 : decode cX5_row 43 = .ok (.aload_n 0, 1) := by decide +kernel
theorem dX5_row_44 : decode cX5_row 44 = .ok (.getfield 10, 3) := by decide +kernel
theorem dX5_row_47 : decode cX5_row 47 = .ok (.getfield 118, 3) := by decide +kernel
theorem dX5_row_50 : decode cX5_row 50 = .ok (.iload 6, 2) := by decide +kernel
theorem dX5_row_52 : decode cX5_row 52 = .ok (.iaload, 1) := by decide +kernel
theorem dX5_row_53 : decode cX5_row 53 = .ok (.iload_n 2, 1) := by decide +kernel
theorem dX5_row_54 : decode cX5_row 54 = .ok (.if_icmp .eq 6, 3) := by decide +kernel
theorem dX5_row_57 : decode cX5_row 57 = .ok (.iinc 4 1, 3) := by decide +kernel
theorem dX5_row_60 : decode cX5_row 60 = .ok (.aload_n 0, 1) := by decide +kernel
theorem dX5_row_61 : decode cX5_row 61 = .ok (.getfield 10, 3) := by decide +kernel
theorem dX5_row_64 : decode cX5_row 64 = .ok (.iload 6, 2) := by decide +kernel
theorem dX5_row_66 : decode cX5_row 66 = .ok (.iload_n 2, 1) := by decide +kernel
theorem dX5_row_67 : decode cX5_row 67 = .ok (.iload_n 3, 1) := by decide +kernel
theorem dX5_row_68 : decode cX5_row 68 = .ok (.invokevirtual 122, 3) := by decide +kernel
theorem dX5_row_71 : decode cX5_row 71 = .ok (.iinc 5 1, 3) := by decide +kernel
theorem dX5_row_74 : decode cX5_row 74 = .ok (.goto (-47), 3) := by decide +kernel
theorem dX5_row_77 : decode cX5_row 77 = .ok (.iload 4, 2) := by decide +kernel
theorem dX5_row_79 : decode cX5_row 79 = .ok (.ireturn, 1) := by decide +kernel
theorem dX5_told_0 : decode cX5_told 0 = .ok (.iload_n 1, 1) := by decide +kernel
theorem dX5_told_1 : decode cX5_told 1 = .ok (.invokestatic 101, 3) := by decide +kernel
theorem dX5_told_4 : decode cX5_told 4 = .ok (.ifCond .ne 6, 3) := by decide +kernel
theorem dX5_told_7 : decode cX5_told 7 = .ok (.bipush (-5), 2) := by decide +kernel
theorem dX5_told_9 : decode cX5_told 9 = .ok (.ireturn, 1) := by decide +kernel
theorem dX5_told_10 : decode cX5_told 10 = .ok (.iload_n 2, 1) := by decide +kernel
theorem dX5_told_11 : decode cX5_told 11 = .ok (.tableswitch 119 0 5 #[37, 47, 57, 66, 79, 99], 37) := by decide +kernel
theorem dX5_told_48 : decode cX5_told 48 = .ok (.aload_n 0, 1) := by decide +kernel
theorem dX5_told_49 : decode cX5_told 49 = .ok (.getfield 10, 3) := by decide +kernel
theorem dX5_told_52 : decode cX5_told 52 = .ok (.getfield 118, 3) := by decide +kernel
theorem dX5_told_55 : decode cX5_told 55 = .ok (.iload_n 1, 1) := by decide +kernel
theorem dX5_told_56 : decode cX5_told 56 = .ok (.iaload, 1) := by decide +kernel
theorem dX5_told_57 : decode cX5_told 57 = .ok (.ireturn, 1) := by decide +kernel
theorem dX5_told_58 : decode cX5_told 58 = .ok (.aload_n 0, 1) := by decide +kernel
theorem dX5_told_59 : decode cX5_told 59 = .ok (.getfield 10, 3) := by decide +kernel
theorem dX5_told_62 : decode cX5_told 62 = .ok (.getfield 129, 3) := by decide +kernel
theorem dX5_told_65 : decode cX5_told 65 = .ok (.iload_n 1, 1) := by decide +kernel
theorem dX5_told_66 : decode cX5_told 66 = .ok (.iaload, 1) := by decide +kernel
theorem dX5_told_67 : decode cX5_told 67 = .ok (.ireturn, 1) := by decide +kernel
theorem dX5_told_68 : decode cX5_told 68 = .ok (.aload_n 0, 1) := by decide +kernel
theorem dX5_told_69 : decode cX5_told 69 = .ok (.getfield 10, 3) := by decide +kernel
theorem dX5_told_72 : decode cX5_told 72 = .ok (.iload_n 1, 1) := by decide +kernel
theorem dX5_told_73 : decode cX5_told 73 = .ok (.invokevirtual 132, 3) := by decide +kernel
theorem dX5_told_76 : decode cX5_told 76 = .ok (.ireturn, 1) := by decide +kernel
theorem dX5_told_77 : decode cX5_told 77 = .ok (.aload_n 0, 1) := by decide +kernel
theorem dX5_told_78 : decode cX5_told 78 = .ok (.getfield 10, 3) := by decide +kernel
theorem dX5_told_81 : decode cX5_told 81 = .ok (.getfield 118, 3) := by decide +kernel
theorem dX5_told_84 : decode cX5_told 84 = .ok (.iload_n 1, 1) := by decide +kernel
theorem dX5_told_85 : decode cX5_told 85 = .ok (.iaload, 1) := by decide +kernel
theorem dX5_told_86 : decode cX5_told 86 = .ok (.invokestatic 136, 3) := by decide +kernel
theorem dX5_told_89 : decode cX5_told 89 = .ok (.ireturn, 1) := by decide +kernel
theorem dX5_told_90 : decode cX5_told 90 = .ok (.aload_n 0, 1) := by decide +kernel
theorem dX5_told_91 : decode cX5_told 91 = .ok (.getfield 10, 3) := by decide +kernel
theorem dX5_told_94 : decode cX5_told 94 = .ok (.getfield 70, 3) := by decide +kernel
theorem dX5_told_97 : decode cX5_told 97 = .ok (.iload_n 1, 1) := by decide +kernel
theorem dX5_told_98 : decode cX5_told 98 = .ok (.invokestatic 139, 3) := by decide +kernel
theorem dX5_told_101 : decode cX5_told 101 = .ok (.ifCond .eq 7, 3) := by decide +kernel
theorem dX5_told_104 : decode cX5_told 104 = .ok (.iconst 1, 1) := by decide +kernel
theorem dX5_told_105 : decode cX5_told 105 = .ok (.goto 4, 3) := by decide +kernel
theorem dX5_told_108 : decode cX5_told 108 = .ok (.iconst 0, 1) := by decide +kernel
theorem dX5_told_109 : decode cX5_told 109 = .ok (.ireturn, 1) := by decide +kernel
theorem dX5_told_110 : decode cX5_told 110 = .ok (.aload_n 0, 1) := by decide +kernel
theorem dX5_told_111 : decode cX5_told 111 = .ok (.getfield 10, 3) := by decide +kernel
theorem dX5_told_114 : decode cX5_told 114 = .ok (.getfield 80, 3) := by decide +kernel
theorem dX5_told_117 : decode cX5_told 117 = .ok (.iload_n 1, 1) := by decide +kernel
theorem dX5_told_118 : decode cX5_told 118 = .ok (.invokestatic 139, 3) := by decide +kernel
theorem dX5_told_121 : decode cX5_told 121 = .ok (.ifCond .eq 7, 3) := by decide +kernel
theorem dX5_told_124 : decode cX5_told 124 = .ok (.iconst 1, 1) := by decide +kernel
theorem dX5_told_125 : decode cX5_told 125 = .ok (.goto 4, 3) := by decide +kernel
theorem dX5_told_128 : decode cX5_told 128 = .ok (.iconst 0, 1) := by decide +kernel
theorem dX5_told_129 : decode cX5_told 129 = .ok (.ireturn, 1) := by decide +kernel
theorem dX5_told_130 : decode cX5_told 130 = .ok (.bipush (-7), 2) := by decide +kernel
theorem dX5_told_132 : decode cX5_told 132 = .ok (.ireturn, 1) := by decide +kernel
theorem dX5_pin_0 : decode cX5_pin 0 = .ok (.iload_n 1, 1) := by decide +kernel
theorem dX5_pin_1 : decode cX5_pin 1 = .ok (.invokestatic 101, 3) := by decide +kernel
theorem dX5_pin_4 : decode cX5_pin 4 = .ok (.ifCond .ne 6, 3) := by decide +kernel
theorem dX5_pin_7 : decode cX5_pin 7 = .ok (.bipush (-5), 2) := by decide +kernel
theorem dX5_pin_9 : decode cX5_pin 9 = .ok (.ireturn, 1) := by decide +kernel
theorem dX5_pin_10 : decode cX5_pin 10 = .ok (.iload_n 2, 1) := by decide +kernel
theorem dX5_pin_11 : decode cX5_pin 11 = .ok (.iconst 0, 1) := by decide +kernel
theorem dX5_pin_12 : decode cX5_pin 12 = .ok (.iconst 1, 1) := by decide +kernel
theorem dX5_pin_13 : decode cX5_pin 13 = .ok (.invokestatic 97, 3) := by decide +kernel
theorem dX5_pin_16 : decode cX5_pin 16 = .ok (.ifCond .ne 6, 3) := by decide +kernel
theorem dX5_pin_19 : decode cX5_pin 19 = .ok (.bipush (-7), 2) := by decide +kernel
theorem dX5_pin_21 : decode cX5_pin 21 = .ok (.ireturn, 1) := by decide +kernel
theorem dX5_pin_22 : decode cX5_pin 22 = .ok (.aload_n 0, 1) := by decide +kernel
theorem dX5_pin_23 : decode cX5_pin 23 = .ok (.getfield 10, 3) := by decide +kernel
theorem dX5_pin_26 : decode cX5_pin 26 = .ok (.getfield 70, 3) := by decide +kernel
theorem dX5_pin_29 : decode cX5_pin 29 = .ok (.iload_n 1, 1) := by decide +kernel
theorem dX5_pin_30 : decode cX5_pin 30 = .ok (.invokestatic 139, 3) := by decide +kernel
theorem dX5_pin_33 : decode cX5_pin 33 = .ok (.ifCond .eq 7, 3) := by decide +kernel
theorem dX5_pin_36 : decode cX5_pin 36 = .ok (.iconst 1, 1) := by decide +kernel
theorem dX5_pin_37 : decode cX5_pin 37 = .ok (.goto 4, 3) := by decide +kernel
theorem dX5_pin_40 : decode cX5_pin 40 = .ok (.iconst 0, 1) := by decide +kernel
theorem dX5_pin_41 : decode cX5_pin 41 = .ok (.istore_n 3, 1) := by decide +kernel
theorem dX5_pin_42 : decode cX5_pin 42 = .ok (.aload_n 0, 1) := by decide +kernel
theorem dX5_pin_43 : decode cX5_pin 43 = .ok (.getfield 10, 3) := by decide +kernel
theorem dX5_pin_46 : decode cX5_pin 46 = .ok (.iload_n 2, 1) := by decide +kernel
theorem dX5_pin_47 : decode cX5_pin 47 = .ok (.iconst 1, 1) := by decide +kernel
theorem dX5_pin_48 : decode cX5_pin 48 = .ok (.if_icmp .ne 18, 3) := by decide +kernel
theorem dX5_pin_51 : decode cX5_pin 51 = .ok (.aload_n 0, 1) := by decide +kernel
theorem dX5_pin_52 : decode cX5_pin 52 = .ok (.getfield 10, 3) := by decide +kernel
theorem dX5_pin_55 : decode cX5_pin 55 = .ok (.getfield 70, 3) := by decide +kernel
theorem dX5_pin_58 : decode cX5_pin 58 = .ok (.iload_n 1, 1) := by decide +kernel
theorem dX5_pin_59 : decode cX5_pin 59 = .ok (.invokestatic 143, 3) := by decide +kernel
theorem dX5_pin_62 : decode cX5_pin 62 = .ok (.lor, 1) := by decide +kernel
theorem dX5_pin_63 : decode cX5_pin 63 = .ok (.goto 19, 3) := by decide +kernel
theorem dX5_pin_66 : decode cX5_pin 66 = .ok (.aload_n 0, 1) := by decide +kernel
theorem dX5_pin_67 : decode cX5_pin 67 = .ok (.getfield 10, 3) := by decide +kernel
theorem dX5_pin_70 : decode cX5_pin 70 = .ok (.getfield 70, 3) := by decide +kernel
theorem dX5_pin_73 : decode cX5_pin 73 = .ok (.iload_n 1, 1) := by decide +kernel
theorem dX5_pin_74 : decode cX5_pin 74 = .ok (.invokestatic 143, 3) := by decide +kernel
theorem dX5_pin_77 : decode cX5_pin 77 = .ok (.ldc2_w 147, 3) := by decide +kernel
theorem dX5_pin_80 : decode cX5_pin 80 = .ok (.lxor, 1) := by decide +kernel
theorem dX5_pin_81 : decode cX5_pin 81 = .ok (.land, 1) := by decide +kernel
theorem dX5_pin_82 : decode cX5_pin 82 = .ok (.putfield 70, 3) := by decide +kernel
theorem dX5_pin_85 : decode cX5_pin 85 = .ok (.iload_n 3, 1) := by decide +kernel
theorem dX5_pin_86 : decode cX5_pin 86 = .ok (.ireturn, 1) := by decide +kernel
theorem dX5_hangs_0 : decode cX5_hangs 0 = .ok (.iload_n 1, 1) := by decide +kernel
theorem dX5_hangs_1 : decode cX5_hangs 1 = .ok (.invokestatic 101, 3) := by decide +kernel
theorem dX5_hangs_4 : decode cX5_hangs 4 = .ok (.ifCond .ne 7, 3) := by decide +kernel
theorem dX5_hangs_7 : decode cX5_hangs 7 = .ok (.ldc2_w 149, 3) := by decide +kernel
theorem dX5_hangs_10 : decode cX5_hangs 10 = .ok (.lreturn, 1) := by decide +kernel
theorem dX5_hangs_11 : decode cX5_hangs 11 = .ok (.iload_n 2, 1) := by decide +kernel
theorem dX5_hangs_12 : decode cX5_hangs 12 = .ok (.tableswitch 49 0 2 #[28, 37, 43], 28) := by decide +kernel
theorem dX5_hangs_40 : decode cX5_hangs 40 = .ok (.aload_n 0, 1) := by decide +kernel
theorem dX5_hangs_41 : decode cX5_hangs 41 = .ok (.getfield 10, 3) := by decide +kernel
theorem dX5_hangs_44 : decode cX5_hangs 44 = .ok (.iload_n 1, 1) := by decide +kernel
theorem dX5_hangs_45 : decode cX5_hangs 45 = .ok (.invokevirtual 151, 3) := by decide +kernel
theorem dX5_hangs_48 : decode cX5_hangs 48 = .ok (.lreturn, 1) := by decide +kernel
theorem dX5_hangs_49 : decode cX5_hangs 49 = .ok (.aload_n 0, 1) := by decide +kernel
theorem dX5_hangs_50 : decode cX5_hangs 50 = .ok (.iload_n 1, 1) := by decide +kernel
theorem dX5_hangs_51 : decode cX5_hangs 51 = .ok (.invokevirtual 154, 3) := by decide +kernel
theorem dX5_hangs_54 : decode cX5_hangs 54 = .ok (.lreturn, 1) := by decide +kernel
theorem dX5_hangs_55 : decode cX5_hangs 55 = .ok (.aload_n 0, 1) := by decide +kernel
theorem dX5_hangs_56 : decode cX5_hangs 56 = .ok (.iload_n 1, 1) := by decide +kernel
theorem dX5_hangs_57 : decode cX5_hangs 57 = .ok (.invokevirtual 157, 3) := by decide +kernel
theorem dX5_hangs_60 : decode cX5_hangs 60 = .ok (.lreturn, 1) := by decide +kernel
theorem dX5_hangs_61 : decode cX5_hangs 61 = .ok (.ldc2_w 149, 3) := by decide +kernel
theorem dX5_hangs_64 : decode cX5_hangs 64 = .ok (.lreturn, 1) := by decide +kernel
theorem dX5_loose_0 : decode cX5_loose 0 = .ok (.lconst 0, 1) := by decide +kernel
theorem dX5_loose_1 : decode cX5_loose 1 = .ok (.lstore_n 1, 1) := by decide +kernel
theorem dX5_loose_2 : decode cX5_loose 2 = .ok (.iconst 0, 1) := by decide +kernel
theorem dX5_loose_3 : decode cX5_loose 3 = .ok (.istore_n 3, 1) := by decide +kernel
theorem dX5_loose_4 : decode cX5_loose 4 = .ok (.iload_n 3, 1) := by decide +kernel
theorem dX5_loose_5 : decode cX5_loose 5 = .ok (.bipush 42, 2) := by decide +kernel
theorem dX5_loose_7 : decode cX5_loose 7 = .ok (.if_icmp .ge 40, 3) := by decide +kernel
theorem dX5_loose_10 : decode cX5_loose 10 = .ok (.aload_n 0, 1) := by decide +kernel
theorem dX5_loose_11 : decode cX5_loose 11 = .ok (.getfield 10, 3) := by decide +kernel
theorem dX5_loose_14 : decode cX5_loose 14 = .ok (.iload_n 3, 1) := by decide +kernel
theorem dX5_loose_15 : decode cX5_loose 15 = .ok (.invokevirtual 151, 3) := by decide +kernel
theorem dX5_loose_18 : decode cX5_loose 18 = .ok (.lconst 0, 1) := by decide +kernel
theorem dX5_loose_19 : decode cX5_loose 19 = .ok (.lcmp, 1) := by decide +kernel
theorem dX5_loose_20 : decode cX5_loose 20 = .ok (.ifCond .ne 21, 3) := by decide +kernel
theorem dX5_loose_23 : decode cX5_loose 23 = .ok (.aload_n 0, 1) := by decide +kernel
theorem dX5_loose_24 : decode cX5_loose 24 = .ok (.getfield 10, 3) := by decide +kernel
theorem dX5_loose_27 : decode cX5_loose 27 = .ok (.iload_n 3, 1) := by decide +kernel
theorem dX5_loose_28 : decode cX5_loose 28 = .ok (.invokevirtual 160, 3) := by decide +kernel
theorem dX5_loose_31 : decode cX5_loose 31 = .ok (.ifCond .ne 10, 3) := by decide +kernel
theorem dX5_loose_34 : decode cX5_loose 34 = .ok (.lload_n 1, 1) := by decide +kernel
theorem dX5_loose_35 : decode cX5_loose 35 = .ok (.iload_n 3, 1) := by decide +kernel
theorem dX5_loose_36 : decode cX5_loose 36 = .ok (.invokestatic 143, 3) := by decide +kernel
theorem dX5_loose_39 : decode cX5_loose 39 = .ok (.lor, 1) := by decide +kernel
theorem dX5_loose_40 : decode cX5_loose 40 = .ok (.lstore_n 1, 1) := by decide +kernel
theorem dX5_loose_41 : decode cX5_loose 41 = .ok (.iinc 3 1, 3) := by decide +kernel
theorem dX5_loose_44 : decode cX5_loose 44 = .ok (.goto (-40), 3) := by decide +kernel
theorem dX5_loose_47 : decode cX5_loose 47 = .ok (.lload_n 1, 1) := by decide +kernel
theorem dX5_loose_48 : decode cX5_loose 48 = .ok (.lreturn, 1) := by decide +kernel
theorem dX5_back_0 : decode cX5_back 0 = .ok (.iload_n 1, 1) := by decide +kernel
theorem dX5_back_1 : decode cX5_back 1 = .ok (.invokestatic 101, 3) := by decide +kernel
theorem dX5_back_4 : decode cX5_back 4 = .ok (.ifCond .eq 16, 3) := by decide +kernel
theorem dX5_back_7 : decode cX5_back 7 = .ok (.iconst 1, 1) := by decide +kernel
theorem dX5_back_8 : decode cX5_back 8 = .ok (.aload_n 0, 1) := by decide +kernel
theorem dX5_back_9 : decode cX5_back 9 = .ok (.iload_n 1, 1) := by decide +kernel
theorem dX5_back_10 : decode cX5_back 10 = .ok (.invokevirtual 154, 3) := by decide +kernel
theorem dX5_back_13 : decode cX5_back 13 = .ok (.invokestatic 74, 3) := by decide +kernel
theorem dX5_back_16 : decode cX5_back 16 = .ok (.iadd, 1) := by decide +kernel
theorem dX5_back_17 : decode cX5_back 17 = .ok (.goto 5, 3) := by decide +kernel
theorem dX5_back_20 : decode cX5_back 20 = .ok (.bipush (-5), 2) := by decide +kernel
theorem dX5_back_22 : decode cX5_back 22 = .ok (.ireturn, 1) := by decide +kernel
theorem dX5_run_0 : decode cX5_run 0 = .ok (.iload_n 1, 1) := by decide +kernel
theorem dX5_run_1 : decode cX5_run 1 = .ok (.invokestatic 101, 3) := by decide +kernel
theorem dX5_run_4 : decode cX5_run 4 = .ok (.ifCond .ne 6, 3) := by decide +kernel
theorem dX5_run_7 : decode cX5_run 7 = .ok (.bipush (-5), 2) := by decide +kernel
theorem dX5_run_9 : decode cX5_run 9 = .ok (.ireturn, 1) := by decide +kernel
theorem dX5_run_10 : decode cX5_run 10 = .ok (.iload_n 2, 1) := by decide +kernel
theorem dX5_run_11 : decode cX5_run 11 = .ok (.invokestatic 104, 3) := by decide +kernel
theorem dX5_run_14 : decode cX5_run 14 = .ok (.ifCond .eq 12, 3) := by decide +kernel
theorem dX5_run_17 : decode cX5_run 17 = .ok (.iload_n 3, 1) := by decide +kernel
theorem dX5_run_18 : decode cX5_run 18 = .ok (.iconst 0, 1) := by decide +kernel
theorem dX5_run_19 : decode cX5_run 19 = .ok (.iconst 3, 1) := by decide +kernel
theorem dX5_run_20 : decode cX5_run 20 = .ok (.invokestatic 97, 3) := by decide +kernel
theorem dX5_run_23 : decode cX5_run 23 = .ok (.ifCond .ne 6, 3) := by decide +kernel
theorem dX5_run_26 : decode cX5_run 26 = .ok (.bipush (-7), 2) := by decide +kernel
theorem dX5_run_28 : decode cX5_run 28 = .ok (.ireturn, 1) := by decide +kernel
theorem dX5_run_29 : decode cX5_run 29 = .ok (.aload_n 0, 1) := by decide +kernel
theorem dX5_run_30 : decode cX5_run 30 = .ok (.iload_n 1, 1) := by decide +kernel
theorem dX5_run_31 : decode cX5_run 31 = .ok (.iload_n 2, 1) := by decide +kernel
theorem dX5_run_32 : decode cX5_run 32 = .ok (.invokevirtual 163, 3) := by decide +kernel
theorem dX5_run_35 : decode cX5_run 35 = .ok (.pop, 1) := by decide +kernel
theorem dX5_run_36 : decode cX5_run 36 = .ok (.iload_n 3, 1) := by decide +kernel
theorem dX5_run_37 : decode cX5_run 37 = .ok (.tableswitch 49 0 2 #[27, 38, 43], 27) := by decide +kernel
theorem dX5_run_64 : decode cX5_run 64 = .ok (.aload_n 0, 1) := by decide +kernel
theorem dX5_run_65 : decode cX5_run 65 = .ok (.getfield 35, 3) := by decide +kernel
theorem dX5_run_68 : decode cX5_run 68 = .ok (.getfield 167, 3) := by decide +kernel
theorem dX5_run_71 : decode cX5_run 71 = .ok (.invokestatic 74, 3) := by decide +kernel
theorem dX5_run_74 : decode cX5_run 74 = .ok (.ireturn, 1) := by decide +kernel
theorem dX5_run_75 : decode cX5_run 75 = .ok (.aload_n 0, 1) := by decide +kernel
theorem dX5_run_76 : decode cX5_run 76 = .ok (.invokevirtual 170, 3) := by decide +kernel
theorem dX5_run_79 : decode cX5_run 79 = .ok (.ireturn, 1) := by decide +kernel
theorem dX5_run_80 : decode cX5_run 80 = .ok (.aload_n 0, 1) := by decide +kernel
theorem dX5_run_81 : decode cX5_run 81 = .ok (.iconst 1, 1) := by decide +kernel
theorem dX5_run_82 : decode cX5_run 82 = .ok (.invokevirtual 173, 3) := by decide +kernel
theorem dX5_run_85 : decode cX5_run 85 = .ok (.ireturn, 1) := by decide +kernel
theorem dX5_run_86 : decode cX5_run 86 = .ok (.aload_n 0, 1) := by decide +kernel
theorem dX5_run_87 : decode cX5_run 87 = .ok (.iconst 2, 1) := by decide +kernel
theorem dX5_run_88 : decode cX5_run 88 = .ok (.invokevirtual 173, 3) := by decide +kernel
theorem dX5_run_91 : decode cX5_run 91 = .ok (.ireturn, 1) := by decide +kernel
theorem dX5_goes_0 : decode cX5_goes 0 = .ok (.iload_n 1, 1) := by decide +kernel
theorem dX5_goes_1 : decode cX5_goes 1 = .ok (.invokestatic 101, 3) := by decide +kernel
theorem dX5_goes_4 : decode cX5_goes 4 = .ok (.ifCond .eq 19, 3) := by decide +kernel
theorem dX5_goes_7 : decode cX5_goes 7 = .ok (.iload_n 2, 1) := by decide +kernel
theorem dX5_goes_8 : decode cX5_goes 8 = .ok (.invokestatic 104, 3) := by decide +kernel
theorem dX5_goes_11 : decode cX5_goes 11 = .ok (.ifCond .eq 12, 3) := by decide +kernel
theorem dX5_goes_14 : decode cX5_goes 14 = .ok (.iload_n 3, 1) := by decide +kernel
theorem dX5_goes_15 : decode cX5_goes 15 = .ok (.iconst 0, 1) := by decide +kernel
theorem dX5_goes_16 : decode cX5_goes 16 = .ok (.iconst 1, 1) := by decide +kernel
theorem dX5_goes_17 : decode cX5_goes 17 = .ok (.invokestatic 97, 3) := by decide +kernel
theorem dX5_goes_20 : decode cX5_goes 20 = .ok (.ifCond .ne 7, 3) := by decide +kernel
theorem dX5_goes_23 : decode cX5_goes 23 = .ok (.ldc2_w 149, 3) := by decide +kernel
theorem dX5_goes_26 : decode cX5_goes 26 = .ok (.lreturn, 1) := by decide +kernel
theorem dX5_goes_27 : decode cX5_goes 27 = .ok (.aload_n 0, 1) := by decide +kernel
theorem dX5_goes_28 : decode cX5_goes 28 = .ok (.iload_n 1, 1) := by decide +kernel
theorem dX5_goes_29 : decode cX5_goes 29 = .ok (.iload_n 2, 1) := by decide +kernel
theorem dX5_goes_30 : decode cX5_goes 30 = .ok (.invokevirtual 163, 3) := by decide +kernel
theorem dX5_goes_33 : decode cX5_goes 33 = .ok (.pop, 1) := by decide +kernel
theorem dX5_goes_34 : decode cX5_goes 34 = .ok (.iload_n 3, 1) := by decide +kernel
theorem dX5_goes_35 : decode cX5_goes 35 = .ok (.ifCond .ne 13, 3) := by decide +kernel
theorem dX5_goes_38 : decode cX5_goes 38 = .ok (.aload_n 0, 1) := by decide +kernel
theorem dX5_goes_39 : decode cX5_goes 39 = .ok (.getfield 35, 3) := by decide +kernel
theorem dX5_goes_42 : decode cX5_goes 42 = .ok (.getfield 167, 3) := by decide +kernel
theorem dX5_goes_45 : decode cX5_goes 45 = .ok (.goto 10, 3) := by decide +kernel
theorem dX5_goes_48 : decode cX5_goes 48 = .ok (.aload_n 0, 1) := by decide +kernel
theorem dX5_goes_49 : decode cX5_goes 49 = .ok (.getfield 35, 3) := by decide +kernel
theorem dX5_goes_52 : decode cX5_goes 52 = .ok (.getfield 176, 3) := by decide +kernel
theorem dX5_goes_55 : decode cX5_goes 55 = .ok (.lreturn, 1) := by decide +kernel
theorem dX5_left_0 : decode cX5_left 0 = .ok (.iload_n 1, 1) := by decide +kernel
theorem dX5_left_1 : decode cX5_left 1 = .ok (.invokestatic 101, 3) := by decide +kernel
theorem dX5_left_4 : decode cX5_left 4 = .ok (.ifCond .eq 10, 3) := by decide +kernel
theorem dX5_left_7 : decode cX5_left 7 = .ok (.iload_n 3, 1) := by decide +kernel
theorem dX5_left_8 : decode cX5_left 8 = .ok (.invokestatic 101, 3) := by decide +kernel
theorem dX5_left_11 : decode cX5_left 11 = .ok (.ifCond .ne 6, 3) := by decide +kernel
theorem dX5_left_14 : decode cX5_left 14 = .ok (.bipush (-5), 2) := by decide +kernel
theorem dX5_left_16 : decode cX5_left 16 = .ok (.ireturn, 1) := by decide +kernel
theorem dX5_left_17 : decode cX5_left 17 = .ok (.iload_n 2, 1) := by decide +kernel
theorem dX5_left_18 : decode cX5_left 18 = .ok (.invokestatic 104, 3) := by decide +kernel
theorem dX5_left_21 : decode cX5_left 21 = .ok (.ifCond .ne 6, 3) := by decide +kernel
theorem dX5_left_24 : decode cX5_left 24 = .ok (.bipush (-7), 2) := by decide +kernel
theorem dX5_left_26 : decode cX5_left 26 = .ok (.ireturn, 1) := by decide +kernel
theorem dX5_left_27 : decode cX5_left 27 = .ok (.aload_n 0, 1) := by decide +kernel
theorem dX5_left_28 : decode cX5_left 28 = .ok (.iload_n 1, 1) := by decide +kernel
theorem dX5_left_29 : decode cX5_left 29 = .ok (.iload_n 2, 1) := by decide +kernel
theorem dX5_left_30 : decode cX5_left 30 = .ok (.invokevirtual 163, 3) := by decide +kernel
theorem dX5_left_33 : decode cX5_left 33 = .ok (.pop, 1) := by decide +kernel
theorem dX5_left_34 : decode cX5_left 34 = .ok (.aload_n 0, 1) := by decide +kernel
theorem dX5_left_35 : decode cX5_left 35 = .ok (.getfield 35, 3) := by decide +kernel
theorem dX5_left_38 : decode cX5_left 38 = .ok (.getfield 167, 3) := by decide +kernel
theorem dX5_left_41 : decode cX5_left 41 = .ok (.iload_n 3, 1) := by decide +kernel
theorem dX5_left_42 : decode cX5_left 42 = .ok (.invokestatic 139, 3) := by decide +kernel
theorem dX5_left_45 : decode cX5_left 45 = .ok (.ifCond .eq 15, 3) := by decide +kernel
theorem dX5_left_48 : decode cX5_left 48 = .ok (.aload_n 0, 1) := by decide +kernel
theorem dX5_left_49 : decode cX5_left 49 = .ok (.getfield 35, 3) := by decide +kernel
theorem dX5_left_52 : decode cX5_left 52 = .ok (.getfield 179, 3) := by decide +kernel
theorem dX5_left_55 : decode cX5_left 55 = .ok (.iload_n 3, 1) := by decide +kernel
theorem dX5_left_56 : decode cX5_left 56 = .ok (.iaload, 1) := by decide +kernel
theorem dX5_left_57 : decode cX5_left 57 = .ok (.goto 4, 3) := by decide +kernel
theorem dX5_left_60 : decode cX5_left 60 = .ok (.iconst (-1), 1) := by decide +kernel
theorem dX5_left_61 : decode cX5_left 61 = .ok (.ireturn, 1) := by decide +kernel
theorem dX5_most_0 : decode cX5_most 0 = .ok (.iload_n 1, 1) := by decide +kernel
theorem dX5_most_1 : decode cX5_most 1 = .ok (.invokestatic 104, 3) := by decide +kernel
theorem dX5_most_4 : decode cX5_most 4 = .ok (.ifCond .eq 12, 3) := by decide +kernel
theorem dX5_most_7 : decode cX5_most 7 = .ok (.iload_n 2, 1) := by decide +kernel
theorem dX5_most_8 : decode cX5_most 8 = .ok (.iconst 0, 1) := by decide +kernel
theorem dX5_most_9 : decode cX5_most 9 = .ok (.iconst 1, 1) := by decide +kernel
theorem dX5_most_10 : decode cX5_most 10 = .ok (.invokestatic 97, 3) := by decide +kernel
theorem dX5_most_13 : decode cX5_most 13 = .ok (.ifCond .ne 6, 3) := by decide +kernel
theorem dX5_most_16 : decode cX5_most 16 = .ok (.bipush (-2), 2) := by decide +kernel
theorem dX5_most_18 : decode cX5_most 18 = .ok (.ireturn, 1) := by decide +kernel
theorem dX5_most_19 : decode cX5_most 19 = .ok (.iconst 0, 1) := by decide +kernel
theorem dX5_most_20 : decode cX5_most 20 = .ok (.istore_n 3, 1) := by decide +kernel
theorem dX5_most_21 : decode cX5_most 21 = .ok (.iconst (-1), 1) := by decide +kernel
theorem dX5_most_22 : decode cX5_most 22 = .ok (.istore 4, 2) := by decide +kernel
theorem dX5_most_24 : decode cX5_most 24 = .ok (.iconst 0, 1) := by decide +kernel
theorem dX5_most_25 : decode cX5_most 25 = .ok (.istore 5, 2) := by decide +kernel
theorem dX5_most_27 : decode cX5_most 27 = .ok (.iload 5, 2) := by decide +kernel
theorem dX5_most_29 : decode cX5_most 29 = .ok (.bipush 48, 2) := by decide +kernel
theorem dX5_most_31 : decode cX5_most 31 = .ok (.if_icmp .ge 32, 3) := by decide +kernel
theorem dX5_most_34 : decode cX5_most 34 = .ok (.aload_n 0, 1) := by decide +kernel
theorem dX5_most_35 : decode cX5_most 35 = .ok (.iload 5, 2) := by decide +kernel
theorem dX5_most_37 : decode cX5_most 37 = .ok (.iload_n 1, 1) := by decide +kernel
theorem dX5_most_38 : decode cX5_most 38 = .ok (.invokevirtual 163, 3) := by decide +kernel
theorem dX5_most_41 : decode cX5_most 41 = .ok (.istore 6, 2) := by decide +kernel
theorem dX5_most_43 : decode cX5_most 43 = .ok (.iload 6, 2) := by decide +kernel
theorem dX5_most_45 : decode cX5_most 45 = .ok (.iload 4, 2) := by decide +kernel
theorem dX5_most_47 : decode cX5_most 47 = .ok (.if_icmp .le 10, 3) := by decide +kernel
theorem dX5_most_50 : decode cX5_most 50 = .ok (.iload 5, 2) := by decide +kernel
theorem dX5_most_52 : decode cX5_most 52 = .ok (.istore_n 3, 1) := by decide +kernel
theorem dX5_most_53 : decode cX5_most 53 = .ok (.iload 6, 2) := by decide +kernel
theorem dX5_most_55 : decode cX5_most 55 = .ok (.istore 4, 2) := by decide +kernel
theorem dX5_most_57 : decode cX5_most 57 = .ok (.iinc 5 1, 3) := by decide +kernel
theorem dX5_most_60 : decode cX5_most 60 = .ok (.goto (-33), 3) := by decide +kernel
theorem dX5_most_63 : decode cX5_most 63 = .ok (.iload_n 2, 1) := by decide +kernel
theorem dX5_most_64 : decode cX5_most 64 = .ok (.ifCond .ne 7, 3) := by decide +kernel
theorem dX5_most_67 : decode cX5_most 67 = .ok (.iload_n 3, 1) := by decide +kernel
theorem dX5_most_68 : decode cX5_most 68 = .ok (.goto 5, 3) := by decide +kernel
theorem dX5_most_71 : decode cX5_most 71 = .ok (.iload 4, 2) := by decide +kernel
theorem dX5_most_73 : decode cX5_most 73 = .ok (.ireturn, 1) := by decide +kernel
theorem dX5_column_0 : decode cX5_column 0 = .ok (.iload_n 1, 1) := by decide +kernel
theorem dX5_column_1 : decode cX5_column 1 = .ok (.iconst 0, 1) := by decide +kernel
theorem dX5_column_2 : decode cX5_column 2 = .ok (.iconst 5, 1) := by decide +kernel
theorem dX5_column_3 : decode cX5_column 3 = .ok (.invokestatic 97, 3) := by decide +kernel
theorem dX5_column_6 : decode cX5_column 6 = .ok (.ifCond .ne 6, 3) := by decide +kernel
theorem dX5_column_9 : decode cX5_column 9 = .ok (.bipush (-5), 2) := by decide +kernel
theorem dX5_column_11 : decode cX5_column 11 = .ok (.ireturn, 1) := by decide +kernel
theorem dX5_column_12 : decode cX5_column 12 = .ok (.iload_n 2, 1) := by decide +kernel
theorem dX5_column_13 : decode cX5_column 13 = .ok (.invokestatic 104, 3) := by decide +kernel
theorem dX5_column_16 : decode cX5_column 16 = .ok (.ifCond .eq 12, 3) := by decide +kernel
theorem dX5_column_19 : decode cX5_column 19 = .ok (.iload_n 3, 1) := by decide +kernel
theorem dX5_column_20 : decode cX5_column 20 = .ok (.iconst 0, 1) := by decide +kernel
theorem dX5_column_21 : decode cX5_column 21 = .ok (.iconst 1, 1) := by decide +kernel
theorem dX5_column_22 : decode cX5_column 22 = .ok (.invokestatic 97, 3) := by decide +kernel
theorem dX5_column_25 : decode cX5_column 25 = .ok (.ifCond .ne 6, 3) := by decide +kernel
theorem dX5_column_28 : decode cX5_column 28 = .ok (.bipush (-7), 2) := by decide +kernel
theorem dX5_column_30 : decode cX5_column 30 = .ok (.ireturn, 1) := by decide +kernel
theorem dX5_column_31 : decode cX5_column 31 = .ok (.lconst 0, 1) := by decide +kernel
theorem dX5_column_32 : decode cX5_column 32 = .ok (.lstore 4, 2) := by decide +kernel
theorem dX5_column_34 : decode cX5_column 34 = .ok (.iconst 0, 1) := by decide +kernel
theorem dX5_column_35 : decode cX5_column 35 = .ok (.istore 6, 2) := by decide +kernel
theorem dX5_column_37 : decode cX5_column 37 = .ok (.iload 6, 2) := by decide +kernel
theorem dX5_column_39 : decode cX5_column 39 = .ok (.bipush 8, 2) := by decide +kernel
theorem dX5_column_41 : decode cX5_column 41 = .ok (.if_icmp .ge 24, 3) := by decide +kernel
theorem dX5_column_44 : decode cX5_column 44 = .ok (.lload 4, 2) := by decide +kernel
theorem dX5_column_46 : decode cX5_column 46 = .ok (.iload 6, 2) := by decide +kernel
theorem dX5_column_48 : decode cX5_column 48 = .ok (.bipush 6, 2) := by decide +kernel
theorem dX5_column_50 : decode cX5_column 50 = .ok (.imul, 1) := by decide +kernel
theorem dX5_column_51 : decode cX5_column 51 = .ok (.iload_n 1, 1) := by decide +kernel
theorem dX5_column_52 : decode cX5_column 52 = .ok (.iadd, 1) := by decide +kernel
theorem dX5_column_53 : decode cX5_column 53 = .ok (.invokestatic 143, 3) := by decide +kernel
theorem dX5_column_56 : decode cX5_column 56 = .ok (.lor, 1) := by decide +kernel
theorem dX5_column_57 : decode cX5_column 57 = .ok (.lstore 4, 2) := by decide +kernel
theorem dX5_column_59 : decode cX5_column 59 = .ok (.iinc 6 1, 3) := by decide +kernel
theorem dX5_column_62 : decode cX5_column 62 = .ok (.goto (-25), 3) := by decide +kernel
theorem dX5_column_65 : decode cX5_column 65 = .ok (.aload_n 0, 1) := by decide +kernel
theorem dX5_column_66 : decode cX5_column 66 = .ok (.getfield 35, 3) := by decide +kernel
theorem dX5_column_69 : decode cX5_column 69 = .ok (.aload_n 0, 1) := by decide +kernel
theorem dX5_column_70 : decode cX5_column 70 = .ok (.getfield 10, 3) := by decide +kernel
theorem dX5_column_73 : decode cX5_column 73 = .ok (.aload_n 0, 1) := by decide +kernel
theorem dX5_column_74 : decode cX5_column 74 = .ok (.invokevirtual 107, 3) := by decide +kernel
theorem dX5_column_77 : decode cX5_column 77 = .ok (.lload 4, 2) := by decide +kernel
theorem dX5_column_79 : decode cX5_column 79 = .ok (.lconst 0, 1) := by decide +kernel
theorem dX5_column_80 : decode cX5_column 80 = .ok (.iload_n 2, 1) := by decide +kernel
theorem dX5_column_81 : decode cX5_column 81 = .ok (.invokevirtual 182, 3) := by decide +kernel
theorem dX5_column_84 : decode cX5_column 84 = .ok (.pop, 1) := by decide +kernel
theorem dX5_column_85 : decode cX5_column 85 = .ok (.iload_n 3, 1) := by decide +kernel
theorem dX5_column_86 : decode cX5_column 86 = .ok (.ifCond .ne 13, 3) := by decide +kernel
theorem dX5_column_89 : decode cX5_column 89 = .ok (.aload_n 0, 1) := by decide +kernel
theorem dX5_column_90 : decode cX5_column 90 = .ok (.getfield 35, 3) := by decide +kernel
theorem dX5_column_93 : decode cX5_column 93 = .ok (.getfield 167, 3) := by decide +kernel
theorem dX5_column_96 : decode cX5_column 96 = .ok (.goto 17, 3) := by decide +kernel
theorem dX5_column_99 : decode cX5_column 99 = .ok (.aload_n 0, 1) := by decide +kernel
theorem dX5_column_100 : decode cX5_column 100 = .ok (.getfield 35, 3) := by decide +kernel
theorem dX5_column_103 : decode cX5_column 103 = .ok (.getfield 167, 3) := by decide +kernel
theorem dX5_column_106 : decode cX5_column 106 = .ok (.lload 4, 2) := by decide +kernel
theorem dX5_column_108 : decode cX5_column 108 = .ok (.ldc2_w 147, 3) := by decide +kernel
theorem dX5_column_111 : decode cX5_column 111 = .ok (.lxor, 1) := by decide +kernel
theorem dX5_column_112 : decode cX5_column 112 = .ok (.land, 1) := by decide +kernel
theorem dX5_column_113 : decode cX5_column 113 = .ok (.invokestatic 74, 3) := by decide +kernel
theorem dX5_column_116 : decode cX5_column 116 = .ok (.ireturn, 1) := by decide +kernel
theorem dX5_line_0 : decode cX5_line 0 = .ok (.iload_n 1, 1) := by decide +kernel
theorem dX5_line_1 : decode cX5_line 1 = .ok (.invokestatic 101, 3) := by decide +kernel
theorem dX5_line_4 : decode cX5_line 4 = .ok (.ifCond .ne 6, 3) := by decide +kernel
theorem dX5_line_7 : decode cX5_line 7 = .ok (.bipush (-5), 2) := by decide +kernel
theorem dX5_line_9 : decode cX5_line 9 = .ok (.ireturn, 1) := by decide +kernel
theorem dX5_line_10 : decode cX5_line 10 = .ok (.iload_n 2, 1) := by decide +kernel
theorem dX5_line_11 : decode cX5_line 11 = .ok (.iconst 0, 1) := by decide +kernel
theorem dX5_line_12 : decode cX5_line 12 = .ok (.bipush 48, 2) := by decide +kernel
theorem dX5_line_14 : decode cX5_line 14 = .ok (.invokestatic 97, 3) := by decide +kernel
theorem dX5_line_17 : decode cX5_line 17 = .ok (.ifCond .ne 6, 3) := by decide +kernel
theorem dX5_line_20 : decode cX5_line 20 = .ok (.bipush (-7), 2) := by decide +kernel
theorem dX5_line_22 : decode cX5_line 22 = .ok (.ireturn, 1) := by decide +kernel
theorem dX5_line_23 : decode cX5_line 23 = .ok (.iconst 0, 1) := by decide +kernel
theorem dX5_line_24 : decode cX5_line 24 = .ok (.istore_n 3, 1) := by decide +kernel
theorem dX5_line_25 : decode cX5_line 25 = .ok (.iload_n 3, 1) := by decide +kernel
theorem dX5_line_26 : decode cX5_line 26 = .ok (.bipush 99, 2) := by decide +kernel
theorem dX5_line_28 : decode cX5_line 28 = .ok (.if_icmp .gt 21, 3) := by decide +kernel
theorem dX5_line_31 : decode cX5_line 31 = .ok (.aload_n 0, 1) := by decide +kernel
theorem dX5_line_32 : decode cX5_line 32 = .ok (.iload_n 1, 1) := by decide +kernel
theorem dX5_line_33 : decode cX5_line 33 = .ok (.iload_n 3, 1) := by decide +kernel
theorem dX5_line_34 : decode cX5_line 34 = .ok (.invokevirtual 163, 3) := by decide +kernel
theorem dX5_line_37 : decode cX5_line 37 = .ok (.iload_n 2, 1) := by decide +kernel
theorem dX5_line_38 : decode cX5_line 38 = .ok (.if_icmp .le 5, 3) := by decide +kernel
theorem dX5_line_41 : decode cX5_line 41 = .ok (.iload_n 3, 1) := by decide +kernel
theorem dX5_line_42 : decode cX5_line 42 = .ok (.ireturn, 1) := by decide +kernel
theorem dX5_line_43 : decode cX5_line 43 = .ok (.iinc 3 1, 3) := by decide +kernel
theorem dX5_line_46 : decode cX5_line 46 = .ok (.goto (-21), 3) := by decide +kernel
theorem dX5_line_49 : decode cX5_line 49 = .ok (.iconst (-1), 1) := by decide +kernel
theorem dX5_line_50 : decode cX5_line 50 = .ok (.ireturn, 1) := by decide +kernel
theorem dX5_reach_0 : decode cX5_reach 0 = .ok (.iload_n 1, 1) := by decide +kernel
theorem dX5_reach_1 : decode cX5_reach 1 = .ok (.invokestatic 101, 3) := by decide +kernel
theorem dX5_reach_4 : decode cX5_reach 4 = .ok (.ifCond .eq 10, 3) := by decide +kernel
theorem dX5_reach_7 : decode cX5_reach 7 = .ok (.iload_n 2, 1) := by decide +kernel
theorem dX5_reach_8 : decode cX5_reach 8 = .ok (.invokestatic 101, 3) := by decide +kernel
theorem dX5_reach_11 : decode cX5_reach 11 = .ok (.ifCond .ne 6, 3) := by decide +kernel
theorem dX5_reach_14 : decode cX5_reach 14 = .ok (.bipush (-5), 2) := by decide +kernel
theorem dX5_reach_16 : decode cX5_reach 16 = .ok (.ireturn, 1) := by decide +kernel
theorem dX5_reach_17 : decode cX5_reach 17 = .ok (.iconst 0, 1) := by decide +kernel
theorem dX5_reach_18 : decode cX5_reach 18 = .ok (.istore_n 3, 1) := by decide +kernel
theorem dX5_reach_19 : decode cX5_reach 19 = .ok (.iload_n 3, 1) := by decide +kernel
theorem dX5_reach_20 : decode cX5_reach 20 = .ok (.bipush 99, 2) := by decide +kernel
theorem dX5_reach_22 : decode cX5_reach 22 = .ok (.if_icmp .gt 32, 3) := by decide +kernel
theorem dX5_reach_25 : decode cX5_reach 25 = .ok (.aload_n 0, 1) := by decide +kernel
theorem dX5_reach_26 : decode cX5_reach 26 = .ok (.iload_n 1, 1) := by decide +kernel
theorem dX5_reach_27 : decode cX5_reach 27 = .ok (.iload_n 3, 1) := by decide +kernel
theorem dX5_reach_28 : decode cX5_reach 28 = .ok (.invokevirtual 163, 3) := by decide +kernel
theorem dX5_reach_31 : decode cX5_reach 31 = .ok (.pop, 1) := by decide +kernel
theorem dX5_reach_32 : decode cX5_reach 32 = .ok (.aload_n 0, 1) := by decide +kernel
theorem dX5_reach_33 : decode cX5_reach 33 = .ok (.getfield 35, 3) := by decide +kernel
theorem dX5_reach_36 : decode cX5_reach 36 = .ok (.getfield 167, 3) := by decide +kernel
theorem dX5_reach_39 : decode cX5_reach 39 = .ok (.iload_n 2, 1) := by decide +kernel
theorem dX5_reach_40 : decode cX5_reach 40 = .ok (.invokestatic 139, 3) := by decide +kernel
theorem dX5_reach_43 : decode cX5_reach 43 = .ok (.ifCond .eq 5, 3) := by decide +kernel
theorem dX5_reach_46 : decode cX5_reach 46 = .ok (.iload_n 3, 1) := by decide +kernel
theorem dX5_reach_47 : decode cX5_reach 47 = .ok (.ireturn, 1) := by decide +kernel
theorem dX5_reach_48 : decode cX5_reach 48 = .ok (.iinc 3 1, 3) := by decide +kernel
theorem dX5_reach_51 : decode cX5_reach 51 = .ok (.goto (-32), 3) := by decide +kernel
theorem dX5_reach_54 : decode cX5_reach 54 = .ok (.iconst (-1), 1) := by decide +kernel
theorem dX5_reach_55 : decode cX5_reach 55 = .ok (.ireturn, 1) := by decide +kernel
theorem dX5_two_0 : decode cX5_two 0 = .ok (.iload_n 1, 1) := by decide +kernel
theorem dX5_two_1 : decode cX5_two 1 = .ok (.invokestatic 104, 3) := by decide +kernel
theorem dX5_two_4 : decode cX5_two 4 = .ok (.ifCond .eq 12, 3) := by decide +kernel
theorem dX5_two_7 : decode cX5_two 7 = .ok (.iload_n 2, 1) := by decide +kernel
theorem dX5_two_8 : decode cX5_two 8 = .ok (.iconst 0, 1) := by decide +kernel
theorem dX5_two_9 : decode cX5_two 9 = .ok (.iconst 2, 1) := by decide +kernel
theorem dX5_two_10 : decode cX5_two 10 = .ok (.invokestatic 97, 3) := by decide +kernel
theorem dX5_two_13 : decode cX5_two 13 = .ok (.ifCond .ne 6, 3) := by decide +kernel
theorem dX5_two_16 : decode cX5_two 16 = .ok (.bipush (-2), 2) := by decide +kernel
theorem dX5_two_18 : decode cX5_two 18 = .ok (.ireturn, 1) := by decide +kernel
theorem dX5_two_19 : decode cX5_two 19 = .ok (.iconst 0, 1) := by decide +kernel
theorem dX5_two_20 : decode cX5_two 20 = .ok (.istore_n 3, 1) := by decide +kernel
theorem dX5_two_21 : decode cX5_two 21 = .ok (.iload_n 3, 1) := by decide +kernel
theorem dX5_two_22 : decode cX5_two 22 = .ok (.bipush 48, 2) := by decide +kernel
theorem dX5_two_24 : decode cX5_two 24 = .ok (.if_icmp .ge 29, 3) := by decide +kernel
theorem dX5_two_27 : decode cX5_two 27 = .ok (.aload_n 0, 1) := by decide +kernel
theorem dX5_two_28 : decode cX5_two 28 = .ok (.iload_n 3, 1) := by decide +kernel
theorem dX5_two_29 : decode cX5_two 29 = .ok (.iload_n 1, 1) := by decide +kernel
theorem dX5_two_30 : decode cX5_two 30 = .ok (.invokevirtual 163, 3) := by decide +kernel
theorem dX5_two_33 : decode cX5_two 33 = .ok (.pop, 1) := by decide +kernel
theorem dX5_two_34 : decode cX5_two 34 = .ok (.aload_n 0, 1) := by decide +kernel
theorem dX5_two_35 : decode cX5_two 35 = .ok (.getfield 45, 3) := by decide +kernel
theorem dX5_two_38 : decode cX5_two 38 = .ok (.iload_n 3, 1) := by decide +kernel
theorem dX5_two_39 : decode cX5_two 39 = .ok (.aload_n 0, 1) := by decide +kernel
theorem dX5_two_40 : decode cX5_two 40 = .ok (.getfield 35, 3) := by decide +kernel
theorem dX5_two_43 : decode cX5_two 43 = .ok (.getfield 167, 3) := by decide +kernel
theorem dX5_two_46 : decode cX5_two 46 = .ok (.lastore, 1) := by decide +kernel
theorem dX5_two_47 : decode cX5_two 47 = .ok (.iinc 3 1, 3) := by decide +kernel
theorem dX5_two_50 : decode cX5_two 50 = .ok (.goto (-29), 3) := by decide +kernel
theorem dX5_two_53 : decode cX5_two 53 = .ok (.iconst 0, 1) := by decide +kernel
theorem dX5_two_54 : decode cX5_two 54 = .ok (.istore_n 3, 1) := by decide +kernel
theorem dX5_two_55 : decode cX5_two 55 = .ok (.iconst 1, 1) := by decide +kernel
theorem dX5_two_56 : decode cX5_two 56 = .ok (.istore 4, 2) := by decide +kernel
theorem dX5_two_58 : decode cX5_two 58 = .ok (.iconst (-1), 1) := by decide +kernel
theorem dX5_two_59 : decode cX5_two 59 = .ok (.istore 5, 2) := by decide +kernel
theorem dX5_two_61 : decode cX5_two 61 = .ok (.iconst 0, 1) := by decide +kernel
theorem dX5_two_62 : decode cX5_two 62 = .ok (.istore 6, 2) := by decide +kernel
theorem dX5_two_64 : decode cX5_two 64 = .ok (.iload 6, 2) := by decide +kernel
theorem dX5_two_66 : decode cX5_two 66 = .ok (.bipush 48, 2) := by decide +kernel
theorem dX5_two_68 : decode cX5_two 68 = .ok (.if_icmp .ge 57, 3) := by decide +kernel
theorem dX5_two_71 : decode cX5_two 71 = .ok (.iload 6, 2) := by decide +kernel
theorem dX5_two_73 : decode cX5_two 73 = .ok (.iconst 1, 1) := by decide +kernel
theorem dX5_two_74 : decode cX5_two 74 = .ok (.iadd, 1) := by decide +kernel
theorem dX5_two_75 : decode cX5_two 75 = .ok (.istore 7, 2) := by decide +kernel
theorem dX5_two_77 : decode cX5_two 77 = .ok (.iload 7, 2) := by decide +kernel
theorem dX5_two_79 : decode cX5_two 79 = .ok (.bipush 48, 2) := by decide +kernel
theorem dX5_two_81 : decode cX5_two 81 = .ok (.if_icmp .ge 38, 3) := by decide +kernel
theorem dX5_two_84 : decode cX5_two 84 = .ok (.aload_n 0, 1) := by decide +kernel
theorem dX5_two_85 : decode cX5_two 85 = .ok (.iload 6, 2) := by decide +kernel
theorem dX5_two_87 : decode cX5_two 87 = .ok (.iload 7, 2) := by decide +kernel
theorem dX5_two_89 : decode cX5_two 89 = .ok (.iload_n 1, 1) := by decide +kernel
theorem dX5_two_90 : decode cX5_two 90 = .ok (.invokevirtual 186, 3) := by decide +kernel
theorem dX5_two_93 : decode cX5_two 93 = .ok (.istore 8, 2) := by decide +kernel
theorem dX5_two_95 : decode cX5_two 95 = .ok (.iload 8, 2) := by decide +kernel
theorem dX5_two_97 : decode cX5_two 97 = .ok (.iload 5, 2) := by decide +kernel
theorem dX5_two_99 : decode cX5_two 99 = .ok (.if_icmp .le 14, 3) := by decide +kernel
theorem dX5_two_102 : decode cX5_two 102 = .ok (.iload 6, 2) := by decide +kernel
theorem dX5_two_104 : decode cX5_two 104 = .ok (.istore_n 3, 1) := by decide +kernel
theorem dX5_two_105 : decode cX5_two 105 = .ok (.iload 7, 2) := by decide +kernel
theorem dX5_two_107 : decode cX5_two 107 = .ok (.istore 4, 2) := by decide +kernel
theorem dX5_two_109 : decode cX5_two 109 = .ok (.iload 8, 2) := by decide +kernel
theorem dX5_two_111 : decode cX5_two 111 = .ok (.istore 5, 2) := by decide +kernel
theorem dX5_two_113 : decode cX5_two 113 = .ok (.iinc 7 1, 3) := by decide +kernel
theorem dX5_two_116 : decode cX5_two 116 = .ok (.goto (-39), 3) := by decide +kernel
theorem dX5_two_119 : decode cX5_two 119 = .ok (.iinc 6 1, 3) := by decide +kernel
theorem dX5_two_122 : decode cX5_two 122 = .ok (.goto (-58), 3) := by decide +kernel
theorem dX5_two_125 : decode cX5_two 125 = .ok (.iload_n 2, 1) := by decide +kernel
theorem dX5_two_126 : decode cX5_two 126 = .ok (.lookupswitch 37 #[(0, 26), (1, 34)], 26) := by decide +kernel
theorem dX5_two_152 : decode cX5_two 152 = .ok (.bipush 100, 2) := by decide +kernel
theorem dX5_two_154 : decode cX5_two 154 = .ok (.iload_n 3, 1) := by decide +kernel
theorem dX5_two_155 : decode cX5_two 155 = .ok (.imul, 1) := by decide +kernel
theorem dX5_two_156 : decode cX5_two 156 = .ok (.iload 4, 2) := by decide +kernel
theorem dX5_two_158 : decode cX5_two 158 = .ok (.iadd, 1) := by decide +kernel
theorem dX5_two_159 : decode cX5_two 159 = .ok (.ireturn, 1) := by decide +kernel
theorem dX5_two_160 : decode cX5_two 160 = .ok (.iload 5, 2) := by decide +kernel
theorem dX5_two_162 : decode cX5_two 162 = .ok (.ireturn, 1) := by decide +kernel
theorem dX5_two_163 : decode cX5_two 163 = .ok (.iload 5, 2) := by decide +kernel
theorem dX5_two_165 : decode cX5_two 165 = .ok (.aload_n 0, 1) := by decide +kernel
theorem dX5_two_166 : decode cX5_two 166 = .ok (.getfield 45, 3) := by decide +kernel
theorem dX5_two_169 : decode cX5_two 169 = .ok (.iload_n 3, 1) := by decide +kernel
theorem dX5_two_170 : decode cX5_two 170 = .ok (.laload, 1) := by decide +kernel
theorem dX5_two_171 : decode cX5_two 171 = .ok (.aload_n 0, 1) := by decide +kernel
theorem dX5_two_172 : decode cX5_two 172 = .ok (.getfield 45, 3) := by decide +kernel
theorem dX5_two_175 : decode cX5_two 175 = .ok (.iload 4, 2) := by decide +kernel
theorem dX5_two_177 : decode cX5_two 177 = .ok (.laload, 1) := by decide +kernel
theorem dX5_two_178 : decode cX5_two 178 = .ok (.lor, 1) := by decide +kernel
theorem dX5_two_179 : decode cX5_two 179 = .ok (.invokestatic 74, 3) := by decide +kernel
theorem dX5_two_182 : decode cX5_two 182 = .ok (.isub, 1) := by decide +kernel
theorem dX5_two_183 : decode cX5_two 183 = .ok (.ireturn, 1) := by decide +kernel
theorem dX5_all_0 : decode cX5_all 0 = .ok (.iload_n 1, 1) := by decide +kernel
theorem dX5_all_1 : decode cX5_all 1 = .ok (.invokestatic 101, 3) := by decide +kernel
theorem dX5_all_4 : decode cX5_all 4 = .ok (.ifCond .ne 6, 3) := by decide +kernel
theorem dX5_all_7 : decode cX5_all 7 = .ok (.bipush (-5), 2) := by decide +kernel
theorem dX5_all_9 : decode cX5_all 9 = .ok (.ireturn, 1) := by decide +kernel
theorem dX5_all_10 : decode cX5_all 10 = .ok (.aload_n 0, 1) := by decide +kernel
theorem dX5_all_11 : decode cX5_all 11 = .ok (.iload_n 1, 1) := by decide +kernel
theorem dX5_all_12 : decode cX5_all 12 = .ok (.bipush 99, 2) := by decide +kernel
theorem dX5_all_14 : decode cX5_all 14 = .ok (.invokevirtual 163, 3) := by decide +kernel
theorem dX5_all_17 : decode cX5_all 17 = .ok (.istore_n 2, 1) := by decide +kernel
theorem dX5_all_18 : decode cX5_all 18 = .ok (.bipush 99, 2) := by decide +kernel
theorem dX5_all_20 : decode cX5_all 20 = .ok (.istore_n 3, 1) := by decide +kernel
theorem dX5_all_21 : decode cX5_all 21 = .ok (.bipush 98, 2) := by decide +kernel
theorem dX5_all_23 : decode cX5_all 23 = .ok (.istore 4, 2) := by decide +kernel
theorem dX5_all_25 : decode cX5_all 25 = .ok (.iload 4, 2) := by decide +kernel
theorem dX5_all_27 : decode cX5_all 27 = .ok (.ifCond .lt 23, 3) := by decide +kernel
theorem dX5_all_30 : decode cX5_all 30 = .ok (.aload_n 0, 1) := by decide +kernel
theorem dX5_all_31 : decode cX5_all 31 = .ok (.iload_n 1, 1) := by decide +kernel
theorem dX5_all_32 : decode cX5_all 32 = .ok (.iload 4, 2) := by decide +kernel
theorem dX5_all_34 : decode cX5_all 34 = .ok (.invokevirtual 163, 3) := by decide +kernel
theorem dX5_all_37 : decode cX5_all 37 = .ok (.iload_n 2, 1) := by decide +kernel
theorem dX5_all_38 : decode cX5_all 38 = .ok (.if_icmp .lt 12, 3) := by decide +kernel
theorem dX5_all_41 : decode cX5_all 41 = .ok (.iload 4, 2) := by decide +kernel
theorem dX5_all_43 : decode cX5_all 43 = .ok (.istore_n 3, 1) := by decide +kernel
theorem dX5_all_44 : decode cX5_all 44 = .ok (.iinc 4 (-1), 3) := by decide +kernel
theorem dX5_all_47 : decode cX5_all 47 = .ok (.goto (-22), 3) := by decide +kernel
theorem dX5_all_50 : decode cX5_all 50 = .ok (.iload_n 3, 1) := by decide +kernel
theorem dX5_all_51 : decode cX5_all 51 = .ok (.ireturn, 1) := by decide +kernel
theorem dX5_counts_0 : decode cX5_counts 0 = .ok (.iload_n 1, 1) := by decide +kernel
theorem dX5_counts_1 : decode cX5_counts 1 = .ok (.invokestatic 126, 3) := by decide +kernel
theorem dX5_counts_4 : decode cX5_counts 4 = .ok (.ifCond .ne 6, 3) := by decide +kernel
theorem dX5_counts_7 : decode cX5_counts 7 = .ok (.bipush (-5), 2) := by decide +kernel
theorem dX5_counts_9 : decode cX5_counts 9 = .ok (.ireturn, 1) := by decide +kernel
theorem dX5_counts_10 : decode cX5_counts 10 = .ok (.iload_n 2, 1) := by decide +kernel
theorem dX5_counts_11 : decode cX5_counts 11 = .ok (.tableswitch 43 0 2 #[25, 31, 37], 25) := by decide +kernel
theorem dX5_counts_36 : decode cX5_counts 36 = .ok (.aload_n 0, 1) := by decide +kernel
theorem dX5_counts_37 : decode cX5_counts 37 = .ok (.iload_n 1, 1) := by decide +kernel
theorem dX5_counts_38 : decode cX5_counts 38 = .ok (.invokevirtual 190, 3) := by decide +kernel
theorem dX5_counts_41 : decode cX5_counts 41 = .ok (.ireturn, 1) := by decide +kernel
theorem dX5_counts_42 : decode cX5_counts 42 = .ok (.aload_n 0, 1) := by decide +kernel
theorem dX5_counts_43 : decode cX5_counts 43 = .ok (.iload_n 1, 1) := by decide +kernel
theorem dX5_counts_44 : decode cX5_counts 44 = .ok (.invokevirtual 193, 3) := by decide +kernel
theorem dX5_counts_47 : decode cX5_counts 47 = .ok (.ireturn, 1) := by decide +kernel
theorem dX5_counts_48 : decode cX5_counts 48 = .ok (.aload_n 0, 1) := by decide +kernel
theorem dX5_counts_49 : decode cX5_counts 49 = .ok (.iload_n 1, 1) := by decide +kernel
theorem dX5_counts_50 : decode cX5_counts 50 = .ok (.invokevirtual 196, 3) := by decide +kernel
theorem dX5_counts_53 : decode cX5_counts 53 = .ok (.ireturn, 1) := by decide +kernel
theorem dX5_counts_54 : decode cX5_counts 54 = .ok (.bipush (-7), 2) := by decide +kernel
theorem dX5_counts_56 : decode cX5_counts 56 = .ok (.ireturn, 1) := by decide +kernel
theorem dX5_slip_0 : decode cX5_slip 0 = .ok (.aload_n 0, 1) := by decide +kernel
theorem dX5_slip_1 : decode cX5_slip 1 = .ok (.iload_n 1, 1) := by decide +kernel
theorem dX5_slip_2 : decode cX5_slip 2 = .ok (.bipush 8, 2) := by decide +kernel
theorem dX5_slip_4 : decode cX5_slip 4 = .ok (.invokevirtual 199, 3) := by decide +kernel
theorem dX5_slip_7 : decode cX5_slip 7 = .ok (.istore_n 2, 1) := by decide +kernel
theorem dX5_slip_8 : decode cX5_slip 8 = .ok (.iload_n 2, 1) := by decide +kernel
theorem dX5_slip_9 : decode cX5_slip 9 = .ok (.ifCond .eq 5, 3) := by decide +kernel
theorem dX5_slip_12 : decode cX5_slip 12 = .ok (.iload_n 2, 1) := by decide +kernel
theorem dX5_slip_13 : decode cX5_slip 13 = .ok (.ireturn, 1) := by decide +kernel
theorem dX5_slip_14 : decode cX5_slip 14 = .ok (.iconst 1, 1) := by decide +kernel
theorem dX5_slip_15 : decode cX5_slip 15 = .ok (.istore_n 3, 1) := by decide +kernel
theorem dX5_slip_16 : decode cX5_slip 16 = .ok (.iload_n 3, 1) := by decide +kernel
theorem dX5_slip_17 : decode cX5_slip 17 = .ok (.bipush 8, 2) := by decide +kernel
theorem dX5_slip_19 : decode cX5_slip 19 = .ok (.if_icmp .ge 30, 3) := by decide +kernel
theorem dX5_slip_22 : decode cX5_slip 22 = .ok (.aload_n 0, 1) := by decide +kernel
theorem dX5_slip_23 : decode cX5_slip 23 = .ok (.getfield 41, 3) := by decide +kernel
theorem dX5_slip_26 : decode cX5_slip 26 = .ok (.iload_n 1, 1) := by decide +kernel
theorem dX5_slip_27 : decode cX5_slip 27 = .ok (.aaload, 1) := by decide +kernel
theorem dX5_slip_28 : decode cX5_slip 28 = .ok (.getfield 202, 3) := by decide +kernel
theorem dX5_slip_31 : decode cX5_slip 31 = .ok (.iload_n 3, 1) := by decide +kernel
theorem dX5_slip_32 : decode cX5_slip 32 = .ok (.iaload, 1) := by decide +kernel
theorem dX5_slip_33 : decode cX5_slip 33 = .ok (.aload_n 0, 1) := by decide +kernel
theorem dX5_slip_34 : decode cX5_slip 34 = .ok (.iload_n 3, 1) := by decide +kernel
theorem dX5_slip_35 : decode cX5_slip 35 = .ok (.invokevirtual 193, 3) := by decide +kernel
theorem dX5_slip_38 : decode cX5_slip 38 = .ok (.if_icmp .eq 5, 3) := by decide +kernel
theorem dX5_slip_41 : decode cX5_slip 41 = .ok (.iload_n 3, 1) := by decide +kernel
theorem dX5_slip_42 : decode cX5_slip 42 = .ok (.ireturn, 1) := by decide +kernel
theorem dX5_slip_43 : decode cX5_slip 43 = .ok (.iinc 3 1, 3) := by decide +kernel
theorem dX5_slip_46 : decode cX5_slip 46 = .ok (.goto (-30), 3) := by decide +kernel
theorem dX5_slip_49 : decode cX5_slip 49 = .ok (.iconst (-1), 1) := by decide +kernel
theorem dX5_slip_50 : decode cX5_slip 50 = .ok (.ireturn, 1) := by decide +kernel
theorem dX5_wrong_0 : decode cX5_wrong 0 = .ok (.aload_n 0, 1) := by decide +kernel
theorem dX5_wrong_1 : decode cX5_wrong 1 = .ok (.invokevirtual 205, 3) := by decide +kernel
theorem dX5_wrong_4 : decode cX5_wrong 4 = .ok (.lstore_n 1, 1) := by decide +kernel
theorem dX5_wrong_5 : decode cX5_wrong 5 = .ok (.iconst 0, 1) := by decide +kernel
theorem dX5_wrong_6 : decode cX5_wrong 6 = .ok (.istore_n 3, 1) := by decide +kernel
theorem dX5_wrong_7 : decode cX5_wrong 7 = .ok (.iconst 0, 1) := by decide +kernel
theorem dX5_wrong_8 : decode cX5_wrong 8 = .ok (.istore 4, 2) := by decide +kernel
theorem dX5_wrong_10 : decode cX5_wrong 10 = .ok (.iload 4, 2) := by decide +kernel
theorem dX5_wrong_12 : decode cX5_wrong 12 = .ok (.bipush 48, 2) := by decide +kernel
theorem dX5_wrong_14 : decode cX5_wrong 14 = .ok (.if_icmp .ge 28, 3) := by decide +kernel
theorem dX5_wrong_17 : decode cX5_wrong 17 = .ok (.lload_n 1, 1) := by decide +kernel
theorem dX5_wrong_18 : decode cX5_wrong 18 = .ok (.iload 4, 2) := by decide +kernel
theorem dX5_wrong_20 : decode cX5_wrong 20 = .ok (.invokestatic 139, 3) := by decide +kernel
theorem dX5_wrong_23 : decode cX5_wrong 23 = .ok (.ifCond .eq 13, 3) := by decide +kernel
theorem dX5_wrong_26 : decode cX5_wrong 26 = .ok (.iload_n 3, 1) := by decide +kernel
theorem dX5_wrong_27 : decode cX5_wrong 27 = .ok (.iconst 1, 1) := by decide +kernel
theorem dX5_wrong_28 : decode cX5_wrong 28 = .ok (.iload 4, 2) := by decide +kernel
theorem dX5_wrong_30 : decode cX5_wrong 30 = .ok (.bipush 6, 2) := by decide +kernel
theorem dX5_wrong_32 : decode cX5_wrong 32 = .ok (.idiv, 1) := by decide +kernel
theorem dX5_wrong_33 : decode cX5_wrong 33 = .ok (.ishl, 1) := by decide +kernel
theorem dX5_wrong_34 : decode cX5_wrong 34 = .ok (.ior, 1) := by decide +kernel
theorem dX5_wrong_35 : decode cX5_wrong 35 = .ok (.istore_n 3, 1) := by decide +kernel
theorem dX5_wrong_36 : decode cX5_wrong 36 = .ok (.iinc 4 1, 3) := by decide +kernel
theorem dX5_wrong_39 : decode cX5_wrong 39 = .ok (.goto (-29), 3) := by decide +kernel
theorem dX5_wrong_42 : decode cX5_wrong 42 = .ok (.iload_n 3, 1) := by decide +kernel
theorem dX5_wrong_43 : decode cX5_wrong 43 = .ok (.ireturn, 1) := by decide +kernel
theorem dX5_pinned_0 : decode cX5_pinned 0 = .ok (.iload_n 1, 1) := by decide +kernel
theorem dX5_pinned_1 : decode cX5_pinned 1 = .ok (.invokestatic 101, 3) := by decide +kernel
theorem dX5_pinned_4 : decode cX5_pinned 4 = .ok (.ifCond .ne 6, 3) := by decide +kernel
theorem dX5_pinned_7 : decode cX5_pinned 7 = .ok (.bipush (-5), 2) := by decide +kernel
theorem dX5_pinned_9 : decode cX5_pinned 9 = .ok (.ireturn, 1) := by decide +kernel
theorem dX5_pinned_10 : decode cX5_pinned 10 = .ok (.iload_n 2, 1) := by decide +kernel
theorem dX5_pinned_11 : decode cX5_pinned 11 = .ok (.invokestatic 104, 3) := by decide +kernel
theorem dX5_pinned_14 : decode cX5_pinned 14 = .ok (.ifCond .eq 23, 3) := by decide +kernel
theorem dX5_pinned_17 : decode cX5_pinned 17 = .ok (.iload_n 3, 1) := by decide +kernel
theorem dX5_pinned_18 : decode cX5_pinned 18 = .ok (.iconst 0, 1) := by decide +kernel
theorem dX5_pinned_19 : decode cX5_pinned 19 = .ok (.bipush 48, 2) := by decide +kernel
theorem dX5_pinned_21 : decode cX5_pinned 21 = .ok (.invokestatic 97, 3) := by decide +kernel
theorem dX5_pinned_24 : decode cX5_pinned 24 = .ok (.ifCond .eq 13, 3) := by decide +kernel
theorem dX5_pinned_27 : decode cX5_pinned 27 = .ok (.iload 4, 2) := by decide +kernel
theorem dX5_pinned_29 : decode cX5_pinned 29 = .ok (.iconst 0, 1) := by decide +kernel
theorem dX5_pinned_30 : decode cX5_pinned 30 = .ok (.iconst 2, 1) := by decide +kernel
theorem dX5_pinned_31 : decode cX5_pinned 31 = .ok (.invokestatic 97, 3) := by decide +kernel
theorem dX5_pinned_34 : decode cX5_pinned 34 = .ok (.ifCond .ne 6, 3) := by decide +kernel
theorem dX5_pinned_37 : decode cX5_pinned 37 = .ok (.bipush (-7), 2) := by decide +kernel
theorem dX5_pinned_39 : decode cX5_pinned 39 = .ok (.ireturn, 1) := by decide +kernel
theorem dX5_pinned_40 : decode cX5_pinned 40 = .ok (.aload_n 0, 1) := by decide +kernel
theorem dX5_pinned_41 : decode cX5_pinned 41 = .ok (.iload_n 1, 1) := by decide +kernel
theorem dX5_pinned_42 : decode cX5_pinned 42 = .ok (.iload_n 2, 1) := by decide +kernel
theorem dX5_pinned_43 : decode cX5_pinned 43 = .ok (.lconst 0, 1) := by decide +kernel
theorem dX5_pinned_44 : decode cX5_pinned 44 = .ok (.invokevirtual 209, 3) := by decide +kernel
theorem dX5_pinned_47 : decode cX5_pinned 47 = .ok (.iload_n 3, 1) := by decide +kernel
theorem dX5_pinned_48 : decode cX5_pinned 48 = .ok (.if_icmp .gt 14, 3) := by decide +kernel
theorem dX5_pinned_51 : decode cX5_pinned 51 = .ok (.iload 4, 2) := by decide +kernel
theorem dX5_pinned_53 : decode cX5_pinned 53 = .ok (.ifCond .ne 7, 3) := by decide +kernel
theorem dX5_pinned_56 : decode cX5_pinned 56 = .ok (.iconst 0, 1) := by decide +kernel
theorem dX5_pinned_57 : decode cX5_pinned 57 = .ok (.goto 4, 3) := by decide +kernel
theorem dX5_pinned_60 : decode cX5_pinned 60 = .ok (.iconst (-1), 1) := by decide +kernel
theorem dX5_pinned_61 : decode cX5_pinned 61 = .ok (.ireturn, 1) := by decide +kernel
theorem dX5_pinned_62 : decode cX5_pinned 62 = .ok (.aload_n 0, 1) := by decide +kernel
theorem dX5_pinned_63 : decode cX5_pinned 63 = .ok (.getfield 35, 3) := by decide +kernel
theorem dX5_pinned_66 : decode cX5_pinned 66 = .ok (.getfield 167, 3) := by decide +kernel
theorem dX5_pinned_69 : decode cX5_pinned 69 = .ok (.iload_n 1, 1) := by decide +kernel
theorem dX5_pinned_70 : decode cX5_pinned 70 = .ok (.invokestatic 143, 3) := by decide +kernel
theorem dX5_pinned_73 : decode cX5_pinned 73 = .ok (.ldc2_w 147, 3) := by decide +kernel
theorem dX5_pinned_76 : decode cX5_pinned 76 = .ok (.lxor, 1) := by decide +kernel
theorem dX5_pinned_77 : decode cX5_pinned 77 = .ok (.land, 1) := by decide +kernel
theorem dX5_pinned_78 : decode cX5_pinned 78 = .ok (.lstore 5, 2) := by decide +kernel
theorem dX5_pinned_80 : decode cX5_pinned 80 = .ok (.iconst 0, 1) := by decide +kernel
theorem dX5_pinned_81 : decode cX5_pinned 81 = .ok (.istore 7, 2) := by decide +kernel
theorem dX5_pinned_83 : decode cX5_pinned 83 = .ok (.iload 7, 2) := by decide +kernel
theorem dX5_pinned_85 : decode cX5_pinned 85 = .ok (.bipush 48, 2) := by decide +kernel
theorem dX5_pinned_87 : decode cX5_pinned 87 = .ok (.if_icmp .ge 56, 3) := by decide +kernel
theorem dX5_pinned_90 : decode cX5_pinned 90 = .ok (.lload 5, 2) := by decide +kernel
theorem dX5_pinned_92 : decode cX5_pinned 92 = .ok (.iload 7, 2) := by decide +kernel
theorem dX5_pinned_94 : decode cX5_pinned 94 = .ok (.invokestatic 139, 3) := by decide +kernel
theorem dX5_pinned_97 : decode cX5_pinned 97 = .ok (.ifCond .eq 40, 3) := by decide +kernel
theorem dX5_pinned_100 : decode cX5_pinned 100 = .ok (.aload_n 0, 1) := by decide +kernel
theorem dX5_pinned_101 : decode cX5_pinned 101 = .ok (.iload_n 1, 1) := by decide +kernel
theorem dX5_pinned_102 : decode cX5_pinned 102 = .ok (.iload_n 2, 1) := by decide +kernel
theorem dX5_pinned_103 : decode cX5_pinned 103 = .ok (.iload 7, 2) := by decide +kernel
theorem dX5_pinned_105 : decode cX5_pinned 105 = .ok (.invokestatic 143, 3) := by decide +kernel
theorem dX5_pinned_108 : decode cX5_pinned 108 = .ok (.invokevirtual 209, 3) := by decide +kernel
theorem dX5_pinned_111 : decode cX5_pinned 111 = .ok (.iload_n 3, 1) := by decide +kernel
theorem dX5_pinned_112 : decode cX5_pinned 112 = .ok (.if_icmp .gt 25, 3) := by decide +kernel
theorem dX5_pinned_115 : decode cX5_pinned 115 = .ok (.iload 4, 2) := by decide +kernel
theorem dX5_pinned_117 : decode cX5_pinned 117 = .ok (.ifCond .ne 7, 3) := by decide +kernel
theorem dX5_pinned_120 : decode cX5_pinned 120 = .ok (.iconst 1, 1) := by decide +kernel
theorem dX5_pinned_121 : decode cX5_pinned 121 = .ok (.goto 15, 3) := by decide +kernel
theorem dX5_pinned_124 : decode cX5_pinned 124 = .ok (.iload 4, 2) := by decide +kernel
theorem dX5_pinned_126 : decode cX5_pinned 126 = .ok (.iconst 1, 1) := by decide +kernel
theorem dX5_pinned_127 : decode cX5_pinned 127 = .ok (.if_icmp .ne 8, 3) := by decide +kernel
theorem dX5_pinned_130 : decode cX5_pinned 130 = .ok (.iload 7, 2) := by decide +kernel
theorem dX5_pinned_132 : decode cX5_pinned 132 = .ok (.goto 4, 3) := by decide +kernel
theorem dX5_pinned_135 : decode cX5_pinned 135 = .ok (.iconst (-1), 1) := by decide +kernel
theorem dX5_pinned_136 : decode cX5_pinned 136 = .ok (.ireturn, 1) := by decide +kernel
theorem dX5_pinned_137 : decode cX5_pinned 137 = .ok (.iinc 7 1, 3) := by decide +kernel
theorem dX5_pinned_140 : decode cX5_pinned 140 = .ok (.goto (-57), 3) := by decide +kernel
theorem dX5_pinned_143 : decode cX5_pinned 143 = .ok (.iconst 0, 1) := by decide +kernel
theorem dX5_pinned_144 : decode cX5_pinned 144 = .ok (.istore 7, 2) := by decide +kernel
theorem dX5_pinned_146 : decode cX5_pinned 146 = .ok (.iload 7, 2) := by decide +kernel
theorem dX5_pinned_148 : decode cX5_pinned 148 = .ok (.bipush 48, 2) := by decide +kernel
theorem dX5_pinned_150 : decode cX5_pinned 150 = .ok (.if_icmp .ge 92, 3) := by decide +kernel
theorem dX5_pinned_153 : decode cX5_pinned 153 = .ok (.iload 7, 2) := by decide +kernel
theorem dX5_pinned_155 : decode cX5_pinned 155 = .ok (.iconst 1, 1) := by decide +kernel
theorem dX5_pinned_156 : decode cX5_pinned 156 = .ok (.iadd, 1) := by decide +kernel
theorem dX5_pinned_157 : decode cX5_pinned 157 = .ok (.istore 8, 2) := by decide +kernel
theorem dX5_pinned_159 : decode cX5_pinned 159 = .ok (.iload 8, 2) := by decide +kernel
theorem dX5_pinned_161 : decode cX5_pinned 161 = .ok (.bipush 48, 2) := by decide +kernel
theorem dX5_pinned_163 : decode cX5_pinned 163 = .ok (.if_icmp .ge 73, 3) := by decide +kernel
theorem dX5_pinned_166 : decode cX5_pinned 166 = .ok (.lload 5, 2) := by decide +kernel
theorem dX5_pinned_168 : decode cX5_pinned 168 = .ok (.iload 7, 2) := by decide +kernel
theorem dX5_pinned_170 : decode cX5_pinned 170 = .ok (.invokestatic 139, 3) := by decide +kernel
theorem dX5_pinned_173 : decode cX5_pinned 173 = .ok (.ifCond .eq 57, 3) := by decide +kernel
theorem dX5_pinned_176 : decode cX5_pinned 176 = .ok (.lload 5, 2) := by decide +kernel
theorem dX5_pinned_178 : decode cX5_pinned 178 = .ok (.iload 8, 2) := by decide +kernel
theorem dX5_pinned_180 : decode cX5_pinned 180 = .ok (.invokestatic 139, 3) := by decide +kernel
theorem dX5_pinned_183 : decode cX5_pinned 183 = .ok (.ifCond .eq 47, 3) := by decide +kernel
theorem dX5_pinned_186 : decode cX5_pinned 186 = .ok (.aload_n 0, 1) := by decide +kernel
theorem dX5_pinned_187 : decode cX5_pinned 187 = .ok (.iload_n 1, 1) := by decide +kernel
theorem dX5_pinned_188 : decode cX5_pinned 188 = .ok (.iload_n 2, 1) := by decide +kernel
theorem dX5_pinned_189 : decode cX5_pinned 189 = .ok (.iload 7, 2) := by decide +kernel
theorem dX5_pinned_191 : decode cX5_pinned 191 = .ok (.invokestatic 143, 3) := by decide +kernel
theorem dX5_pinned_194 : decode cX5_pinned 194 = .ok (.iload 8, 2) := by decide +kernel
theorem dX5_pinned_196 : decode cX5_pinned 196 = .ok (.invokestatic 143, 3) := by decide +kernel
theorem dX5_pinned_199 : decode cX5_pinned 199 = .ok (.lor, 1) := by decide +kernel
theorem dX5_pinned_200 : decode cX5_pinned 200 = .ok (.invokevirtual 209, 3) := by decide +kernel
theorem dX5_pinned_203 : decode cX5_pinned 203 = .ok (.iload_n 3, 1) := by decide +kernel
theorem dX5_pinned_204 : decode cX5_pinned 204 = .ok (.if_icmp .gt 26, 3) := by decide +kernel
theorem dX5_pinned_207 : decode cX5_pinned 207 = .ok (.iload 4, 2) := by decide +kernel
theorem dX5_pinned_209 : decode cX5_pinned 209 = .ok (.ifCond .ne 7, 3) := by decide +kernel
theorem dX5_pinned_212 : decode cX5_pinned 212 = .ok (.iconst 2, 1) := by decide +kernel
theorem dX5_pinned_213 : decode cX5_pinned 213 = .ok (.goto 16, 3) := by decide +kernel
theorem dX5_pinned_216 : decode cX5_pinned 216 = .ok (.iload 4, 2) := by decide +kernel
theorem dX5_pinned_218 : decode cX5_pinned 218 = .ok (.iconst 1, 1) := by decide +kernel
theorem dX5_pinned_219 : decode cX5_pinned 219 = .ok (.if_icmp .ne 8, 3) := by decide +kernel
theorem dX5_pinned_222 : decode cX5_pinned 222 = .ok (.iload 7, 2) := by decide +kernel
theorem dX5_pinned_224 : decode cX5_pinned 224 = .ok (.goto 5, 3) := by decide +kernel
theorem dX5_pinned_227 : decode cX5_pinned 227 = .ok (.iload 8, 2) := by decide +kernel
theorem dX5_pinned_229 : decode cX5_pinned 229 = .ok (.ireturn, 1) := by decide +kernel
theorem dX5_pinned_230 : decode cX5_pinned 230 = .ok (.iinc 8 1, 3) := by decide +kernel
theorem dX5_pinned_233 : decode cX5_pinned 233 = .ok (.goto (-74), 3) := by decide +kernel
theorem dX5_pinned_236 : decode cX5_pinned 236 = .ok (.iinc 7 1, 3) := by decide +kernel
theorem dX5_pinned_239 : decode cX5_pinned 239 = .ok (.goto (-93), 3) := by decide +kernel
theorem dX5_pinned_242 : decode cX5_pinned 242 = .ok (.iconst (-1), 1) := by decide +kernel
theorem dX5_pinned_243 : decode cX5_pinned 243 = .ok (.ireturn, 1) := by decide +kernel
theorem dX5_mending_0 : decode cX5_mending 0 = .ok (.iload_n 1, 1) := by decide +kernel
theorem dX5_mending_1 : decode cX5_mending 1 = .ok (.invokestatic 101, 3) := by decide +kernel
theorem dX5_mending_4 : decode cX5_mending 4 = .ok (.ifCond .ne 6, 3) := by decide +kernel
theorem dX5_mending_7 : decode cX5_mending 7 = .ok (.bipush (-5), 2) := by decide +kernel
theorem dX5_mending_9 : decode cX5_mending 9 = .ok (.ireturn, 1) := by decide +kernel
theorem dX5_mending_10 : decode cX5_mending 10 = .ok (.iload_n 2, 1) := by decide +kernel
theorem dX5_mending_11 : decode cX5_mending 11 = .ok (.invokestatic 104, 3) := by decide +kernel
theorem dX5_mending_14 : decode cX5_mending 14 = .ok (.ifCond .eq 12, 3) := by decide +kernel
theorem dX5_mending_17 : decode cX5_mending 17 = .ok (.iload_n 3, 1) := by decide +kernel
theorem dX5_mending_18 : decode cX5_mending 18 = .ok (.iconst 0, 1) := by decide +kernel
theorem dX5_mending_19 : decode cX5_mending 19 = .ok (.iconst 1, 1) := by decide +kernel
theorem dX5_mending_20 : decode cX5_mending 20 = .ok (.invokestatic 97, 3) := by decide +kernel
theorem dX5_mending_23 : decode cX5_mending 23 = .ok (.ifCond .ne 6, 3) := by decide +kernel
theorem dX5_mending_26 : decode cX5_mending 26 = .ok (.bipush (-7), 2) := by decide +kernel
theorem dX5_mending_28 : decode cX5_mending 28 = .ok (.ireturn, 1) := by decide +kernel
theorem dX5_mending_29 : decode cX5_mending 29 = .ok (.aload_n 0, 1) := by decide +kernel
theorem dX5_mending_30 : decode cX5_mending 30 = .ok (.iload_n 1, 1) := by decide +kernel
theorem dX5_mending_31 : decode cX5_mending 31 = .ok (.iload_n 2, 1) := by decide +kernel
theorem dX5_mending_32 : decode cX5_mending 32 = .ok (.invokevirtual 163, 3) := by decide +kernel
theorem dX5_mending_35 : decode cX5_mending 35 = .ok (.pop, 1) := by decide +kernel
theorem dX5_mending_36 : decode cX5_mending 36 = .ok (.aload_n 0, 1) := by decide +kernel
theorem dX5_mending_37 : decode cX5_mending 37 = .ok (.getfield 35, 3) := by decide +kernel
theorem dX5_mending_40 : decode cX5_mending 40 = .ok (.getfield 167, 3) := by decide +kernel
theorem dX5_mending_43 : decode cX5_mending 43 = .ok (.lconst 0, 1) := by decide +kernel
theorem dX5_mending_44 : decode cX5_mending 44 = .ok (.lcmp, 1) := by decide +kernel
theorem dX5_mending_45 : decode cX5_mending 45 = .ok (.ifCond .ne 13, 3) := by decide +kernel
theorem dX5_mending_48 : decode cX5_mending 48 = .ok (.iload_n 3, 1) := by decide +kernel
theorem dX5_mending_49 : decode cX5_mending 49 = .ok (.ifCond .ne 7, 3) := by decide +kernel
theorem dX5_mending_52 : decode cX5_mending 52 = .ok (.iconst (-1), 1) := by decide +kernel
theorem dX5_mending_53 : decode cX5_mending 53 = .ok (.goto 4, 3) := by decide +kernel
theorem dX5_mending_56 : decode cX5_mending 56 = .ok (.iconst 0, 1) := by decide +kernel
theorem dX5_mending_57 : decode cX5_mending 57 = .ok (.ireturn, 1) := by decide +kernel
theorem dX5_mending_58 : decode cX5_mending 58 = .ok (.iconst 0, 1) := by decide +kernel
theorem dX5_mending_59 : decode cX5_mending 59 = .ok (.istore 4, 2) := by decide +kernel
theorem dX5_mending_61 : decode cX5_mending 61 = .ok (.aload_n 0, 1) := by decide +kernel
theorem dX5_mending_62 : decode cX5_mending 62 = .ok (.iconst 1, 1) := by decide +kernel
theorem dX5_mending_63 : decode cX5_mending 63 = .ok (.invokevirtual 173, 3) := by decide +kernel
theorem dX5_mending_66 : decode cX5_mending 66 = .ok (.istore 5, 2) := by decide +kernel
theorem dX5_mending_68 : decode cX5_mending 68 = .ok (.bipush 24, 2) := by decide +kernel
theorem dX5_mending_70 : decode cX5_mending 70 = .ok (.bipush 8, 2) := by decide +kernel
theorem dX5_mending_72 : decode cX5_mending 72 = .ok (.aload_n 0, 1) := by decide +kernel
theorem dX5_mending_73 : decode cX5_mending 73 = .ok (.invokevirtual 170, 3) := by decide +kernel
theorem dX5_mending_76 : decode cX5_mending 76 = .ok (.isub, 1) := by decide +kernel
theorem dX5_mending_77 : decode cX5_mending 77 = .ok (.imul, 1) := by decide +kernel
theorem dX5_mending_78 : decode cX5_mending 78 = .ok (.istore 6, 2) := by decide +kernel
theorem dX5_mending_80 : decode cX5_mending 80 = .ok (.iload 6, 2) := by decide +kernel
theorem dX5_mending_82 : decode cX5_mending 82 = .ok (.iload 5, 2) := by decide +kernel
theorem dX5_mending_84 : decode cX5_mending 84 = .ok (.if_icmp .ge 10, 3) := by decide +kernel
theorem dX5_mending_87 : decode cX5_mending 87 = .ok (.iconst 1, 1) := by decide +kernel
theorem dX5_mending_88 : decode cX5_mending 88 = .ok (.istore 4, 2) := by decide +kernel
theorem dX5_mending_90 : decode cX5_mending 90 = .ok (.iload 6, 2) := by decide +kernel
theorem dX5_mending_92 : decode cX5_mending 92 = .ok (.istore 5, 2) := by decide +kernel
theorem dX5_mending_94 : decode cX5_mending 94 = .ok (.bipush 50, 2) := by decide +kernel
theorem dX5_mending_96 : decode cX5_mending 96 = .ok (.aload_n 0, 1) := by decide +kernel
theorem dX5_mending_97 : decode cX5_mending 97 = .ok (.getfield 35, 3) := by decide +kernel
theorem dX5_mending_100 : decode cX5_mending 100 = .ok (.getfield 167, 3) := by decide +kernel
theorem dX5_mending_103 : decode cX5_mending 103 = .ok (.invokestatic 74, 3) := by decide +kernel
theorem dX5_mending_106 : decode cX5_mending 106 = .ok (.iadd, 1) := by decide +kernel
theorem dX5_mending_107 : decode cX5_mending 107 = .ok (.istore 7, 2) := by decide +kernel
theorem dX5_mending_109 : decode cX5_mending 109 = .ok (.iload 7, 2) := by decide +kernel
theorem dX5_mending_111 : decode cX5_mending 111 = .ok (.iload 5, 2) := by decide +kernel
theorem dX5_mending_113 : decode cX5_mending 113 = .ok (.if_icmp .ge 10, 3) := by decide +kernel
theorem dX5_mending_116 : decode cX5_mending 116 = .ok (.iconst 2, 1) := by decide +kernel
theorem dX5_mending_117 : decode cX5_mending 117 = .ok (.istore 4, 2) := by decide +kernel
theorem dX5_mending_119 : decode cX5_mending 119 = .ok (.iload 7, 2) := by decide +kernel
theorem dX5_mending_121 : decode cX5_mending 121 = .ok (.istore 5, 2) := by decide +kernel
theorem dX5_mending_123 : decode cX5_mending 123 = .ok (.iload_n 3, 1) := by decide +kernel
theorem dX5_mending_124 : decode cX5_mending 124 = .ok (.ifCond .ne 8, 3) := by decide +kernel
theorem dX5_mending_127 : decode cX5_mending 127 = .ok (.iload 4, 2) := by decide +kernel
theorem dX5_mending_129 : decode cX5_mending 129 = .ok (.goto 5, 3) := by decide +kernel
theorem dX5_mending_132 : decode cX5_mending 132 = .ok (.iload 5, 2) := by decide +kernel
theorem dX5_mending_134 : decode cX5_mending 134 = .ok (.ireturn, 1) := by decide +kernel
theorem dX5_mend_0 : decode cX5_mend 0 = .ok (.iload_n 1, 1) := by decide +kernel
theorem dX5_mend_1 : decode cX5_mend 1 = .ok (.invokestatic 101, 3) := by decide +kernel
theorem dX5_mend_4 : decode cX5_mend 4 = .ok (.ifCond .ne 6, 3) := by decide +kernel
theorem dX5_mend_7 : decode cX5_mend 7 = .ok (.bipush (-5), 2) := by decide +kernel
theorem dX5_mend_9 : decode cX5_mend 9 = .ok (.ireturn, 1) := by decide +kernel
theorem dX5_mend_10 : decode cX5_mend 10 = .ok (.iload_n 2, 1) := by decide +kernel
theorem dX5_mend_11 : decode cX5_mend 11 = .ok (.invokestatic 104, 3) := by decide +kernel
theorem dX5_mend_14 : decode cX5_mend 14 = .ok (.ifCond .ne 6, 3) := by decide +kernel
theorem dX5_mend_17 : decode cX5_mend 17 = .ok (.bipush (-7), 2) := by decide +kernel
theorem dX5_mend_19 : decode cX5_mend 19 = .ok (.ireturn, 1) := by decide +kernel
theorem dX5_mend_20 : decode cX5_mend 20 = .ok (.aload_n 0, 1) := by decide +kernel
theorem dX5_mend_21 : decode cX5_mend 21 = .ok (.iload_n 1, 1) := by decide +kernel
theorem dX5_mend_22 : decode cX5_mend 22 = .ok (.iload_n 2, 1) := by decide +kernel
theorem dX5_mend_23 : decode cX5_mend 23 = .ok (.invokevirtual 163, 3) := by decide +kernel
theorem dX5_mend_26 : decode cX5_mend 26 = .ok (.pop, 1) := by decide +kernel
theorem dX5_mend_27 : decode cX5_mend 27 = .ok (.aload_n 0, 1) := by decide +kernel
theorem dX5_mend_28 : decode cX5_mend 28 = .ok (.getfield 35, 3) := by decide +kernel
theorem dX5_mend_31 : decode cX5_mend 31 = .ok (.getfield 167, 3) := by decide +kernel
theorem dX5_mend_34 : decode cX5_mend 34 = .ok (.aload_n 0, 1) := by decide +kernel
theorem dX5_mend_35 : decode cX5_mend 35 = .ok (.getfield 10, 3) := by decide +kernel
theorem dX5_mend_38 : decode cX5_mend 38 = .ok (.getfield 80, 3) := by decide +kernel
theorem dX5_mend_41 : decode cX5_mend 41 = .ok (.ldc2_w 147, 3) := by decide +kernel
theorem dX5_mend_44 : decode cX5_mend 44 = .ok (.lxor, 1) := by decide +kernel
theorem dX5_mend_45 : decode cX5_mend 45 = .ok (.land, 1) := by decide +kernel
theorem dX5_mend_46 : decode cX5_mend 46 = .ok (.invokestatic 74, 3) := by decide +kernel
theorem dX5_mend_49 : decode cX5_mend 49 = .ok (.istore_n 3, 1) := by decide +kernel
theorem dX5_mend_50 : decode cX5_mend 50 = .ok (.aload_n 0, 1) := by decide +kernel
theorem dX5_mend_51 : decode cX5_mend 51 = .ok (.getfield 10, 3) := by decide +kernel
theorem dX5_mend_54 : decode cX5_mend 54 = .ok (.dup, 1) := by decide +kernel
theorem dX5_mend_55 : decode cX5_mend 55 = .ok (.getfield 80, 3) := by decide +kernel
theorem dX5_mend_58 : decode cX5_mend 58 = .ok (.aload_n 0, 1) := by decide +kernel
theorem dX5_mend_59 : decode cX5_mend 59 = .ok (.getfield 35, 3) := by decide +kernel
theorem dX5_mend_62 : decode cX5_mend 62 = .ok (.getfield 167, 3) := by decide +kernel
theorem dX5_mend_65 : decode cX5_mend 65 = .ok (.lor, 1) := by decide +kernel
theorem dX5_mend_66 : decode cX5_mend 66 = .ok (.putfield 80, 3) := by decide +kernel
theorem dX5_mend_69 : decode cX5_mend 69 = .ok (.iload_n 3, 1) := by decide +kernel
theorem dX5_mend_70 : decode cX5_mend 70 = .ok (.ireturn, 1) := by decide +kernel
theorem dX5_block_0 : decode cX5_block 0 = .ok (.aload_n 0, 1) := by decide +kernel
theorem dX5_block_1 : decode cX5_block 1 = .ok (.getfield 10, 3) := by decide +kernel
theorem dX5_block_4 : decode cX5_block 4 = .ok (.getfield 80, 3) := by decide +kernel
theorem dX5_block_7 : decode cX5_block 7 = .ok (.invokestatic 74, 3) := by decide +kernel
theorem dX5_block_10 : decode cX5_block 10 = .ok (.istore_n 1, 1) := by decide +kernel
theorem dX5_block_11 : decode cX5_block 11 = .ok (.aload_n 0, 1) := by decide +kernel
theorem dX5_block_12 : decode cX5_block 12 = .ok (.getfield 10, 3) := by decide +kernel
theorem dX5_block_15 : decode cX5_block 15 = .ok (.lconst 0, 1) := by decide +kernel
theorem dX5_block_16 : decode cX5_block 16 = .ok (.putfield 80, 3) := by decide +kernel
theorem dX5_block_19 : decode cX5_block 19 = .ok (.iload_n 1, 1) := by decide +kernel
theorem dX5_block_20 : decode cX5_block 20 = .ok (.ireturn, 1) := by decide +kernel
theorem dX5_seen_0 : decode cX5_seen 0 = .ok (.lconst 0, 1) := by decide +kernel
theorem dX5_seen_1 : decode cX5_seen 1 = .ok (.lstore_n 1, 1) := by decide +kernel
theorem dX5_seen_2 : decode cX5_seen 2 = .ok (.iconst 0, 1) := by decide +kernel
theorem dX5_seen_3 : decode cX5_seen 3 = .ok (.istore_n 3, 1) := by decide +kernel
theorem dX5_seen_4 : decode cX5_seen 4 = .ok (.iload_n 3, 1) := by decide +kernel
theorem dX5_seen_5 : decode cX5_seen 5 = .ok (.bipush 48, 2) := by decide +kernel
theorem dX5_seen_7 : decode cX5_seen 7 = .ok (.if_icmp .ge 38, 3) := by decide +kernel
theorem dX5_seen_10 : decode cX5_seen 10 = .ok (.aload_n 0, 1) := by decide +kernel
theorem dX5_seen_11 : decode cX5_seen 11 = .ok (.getfield 10, 3) := by decide +kernel
theorem dX5_seen_14 : decode cX5_seen 14 = .ok (.getfield 80, 3) := by decide +kernel
theorem dX5_seen_17 : decode cX5_seen 17 = .ok (.iload_n 3, 1) := by decide +kernel
theorem dX5_seen_18 : decode cX5_seen 18 = .ok (.invokestatic 139, 3) := by decide +kernel
theorem dX5_seen_21 : decode cX5_seen 21 = .ok (.ifCond .eq 18, 3) := by decide +kernel
theorem dX5_seen_24 : decode cX5_seen 24 = .ok (.aload_n 0, 1) := by decide +kernel
theorem dX5_seen_25 : decode cX5_seen 25 = .ok (.iload_n 3, 1) := by decide +kernel
theorem dX5_seen_26 : decode cX5_seen 26 = .ok (.invokevirtual 213, 3) := by decide +kernel
theorem dX5_seen_29 : decode cX5_seen 29 = .ok (.ifCond .eq 10, 3) := by decide +kernel
theorem dX5_seen_32 : decode cX5_seen 32 = .ok (.lload_n 1, 1) := by decide +kernel
theorem dX5_seen_33 : decode cX5_seen 33 = .ok (.iload_n 3, 1) := by decide +kernel
theorem dX5_seen_34 : decode cX5_seen 34 = .ok (.invokestatic 143, 3) := by decide +kernel
theorem dX5_seen_37 : decode cX5_seen 37 = .ok (.lor, 1) := by decide +kernel
theorem dX5_seen_38 : decode cX5_seen 38 = .ok (.lstore_n 1, 1) := by decide +kernel
theorem dX5_seen_39 : decode cX5_seen 39 = .ok (.iinc 3 1, 3) := by decide +kernel
theorem dX5_seen_42 : decode cX5_seen 42 = .ok (.goto (-38), 3) := by decide +kernel
theorem dX5_seen_45 : decode cX5_seen 45 = .ok (.lload_n 1, 1) := by decide +kernel
theorem dX5_seen_46 : decode cX5_seen 46 = .ok (.lreturn, 1) := by decide +kernel
theorem dX5_slack_0 : decode cX5_slack 0 = .ok (.iload_n 1, 1) := by decide +kernel
theorem dX5_slack_1 : decode cX5_slack 1 = .ok (.invokestatic 101, 3) := by decide +kernel
theorem dX5_slack_4 : decode cX5_slack 4 = .ok (.ifCond .ne 6, 3) := by decide +kernel
theorem dX5_slack_7 : decode cX5_slack 7 = .ok (.bipush (-5), 2) := by decide +kernel
theorem dX5_slack_9 : decode cX5_slack 9 = .ok (.ireturn, 1) := by decide +kernel
theorem dX5_slack_10 : decode cX5_slack 10 = .ok (.iload_n 2, 1) := by decide +kernel
theorem dX5_slack_11 : decode cX5_slack 11 = .ok (.iconst 0, 1) := by decide +kernel
theorem dX5_slack_12 : decode cX5_slack 12 = .ok (.bipush 99, 2) := by decide +kernel
theorem dX5_slack_14 : decode cX5_slack 14 = .ok (.invokestatic 97, 3) := by decide +kernel
theorem dX5_slack_17 : decode cX5_slack 17 = .ok (.ifCond .ne 6, 3) := by decide +kernel
theorem dX5_slack_20 : decode cX5_slack 20 = .ok (.bipush (-7), 2) := by decide +kernel
theorem dX5_slack_22 : decode cX5_slack 22 = .ok (.ireturn, 1) := by decide +kernel
theorem dX5_slack_23 : decode cX5_slack 23 = .ok (.iload_n 2, 1) := by decide +kernel
theorem dX5_slack_24 : decode cX5_slack 24 = .ok (.ifCond .ne 5, 3) := by decide +kernel
theorem dX5_slack_27 : decode cX5_slack 27 = .ok (.iconst 0, 1) := by decide +kernel
theorem dX5_slack_28 : decode cX5_slack 28 = .ok (.ireturn, 1) := by decide +kernel
theorem dX5_slack_29 : decode cX5_slack 29 = .ok (.iload_n 1, 1) := by decide +kernel
theorem dX5_slack_30 : decode cX5_slack 30 = .ok (.iload_n 1, 1) := by decide +kernel
theorem dX5_slack_31 : decode cX5_slack 31 = .ok (.bipush 6, 2) := by decide +kernel
theorem dX5_slack_33 : decode cX5_slack 33 = .ok (.irem, 1) := by decide +kernel
theorem dX5_slack_34 : decode cX5_slack 34 = .ok (.isub, 1) := by decide +kernel
theorem dX5_slack_35 : decode cX5_slack 35 = .ok (.istore_n 3, 1) := by decide +kernel
theorem dX5_slack_36 : decode cX5_slack 36 = .ok (.iconst 0, 1) := by decide +kernel
theorem dX5_slack_37 : decode cX5_slack 37 = .ok (.istore 4, 2) := by decide +kernel
theorem dX5_slack_39 : decode cX5_slack 39 = .ok (.iconst 0, 1) := by decide +kernel
theorem dX5_slack_40 : decode cX5_slack 40 = .ok (.istore 5, 2) := by decide +kernel
theorem dX5_slack_42 : decode cX5_slack 42 = .ok (.iconst 1, 1) := by decide +kernel
theorem dX5_slack_43 : decode cX5_slack 43 = .ok (.istore 6, 2) := by decide +kernel
theorem dX5_slack_45 : decode cX5_slack 45 = .ok (.iload 6, 2) := by decide +kernel
theorem dX5_slack_47 : decode cX5_slack 47 = .ok (.bipush 6, 2) := by decide +kernel
theorem dX5_slack_49 : decode cX5_slack 49 = .ok (.if_icmp .ge 75, 3) := by decide +kernel
theorem dX5_slack_52 : decode cX5_slack 52 = .ok (.iconst (-1), 1) := by decide +kernel
theorem dX5_slack_53 : decode cX5_slack 53 = .ok (.istore 7, 2) := by decide +kernel
theorem dX5_slack_55 : decode cX5_slack 55 = .ok (.iload 7, 2) := by decide +kernel
theorem dX5_slack_57 : decode cX5_slack 57 = .ok (.iconst 1, 1) := by decide +kernel
theorem dX5_slack_58 : decode cX5_slack 58 = .ok (.if_icmp .gt 60, 3) := by decide +kernel
theorem dX5_slack_61 : decode cX5_slack 61 = .ok (.iload_n 1, 1) := by decide +kernel
theorem dX5_slack_62 : decode cX5_slack 62 = .ok (.iload 7, 2) := by decide +kernel
theorem dX5_slack_64 : decode cX5_slack 64 = .ok (.iload 6, 2) := by decide +kernel
theorem dX5_slack_66 : decode cX5_slack 66 = .ok (.imul, 1) := by decide +kernel
theorem dX5_slack_67 : decode cX5_slack 67 = .ok (.iadd, 1) := by decide +kernel
theorem dX5_slack_68 : decode cX5_slack 68 = .ok (.istore 8, 2) := by decide +kernel
theorem dX5_slack_70 : decode cX5_slack 70 = .ok (.iload 8, 2) := by decide +kernel
theorem dX5_slack_72 : decode cX5_slack 72 = .ok (.iload_n 3, 1) := by decide +kernel
theorem dX5_slack_73 : decode cX5_slack 73 = .ok (.iload_n 3, 1) := by decide +kernel
theorem dX5_slack_74 : decode cX5_slack 74 = .ok (.bipush 6, 2) := by decide +kernel
theorem dX5_slack_76 : decode cX5_slack 76 = .ok (.iadd, 1) := by decide +kernel
theorem dX5_slack_77 : decode cX5_slack 77 = .ok (.iconst 1, 1) := by decide +kernel
theorem dX5_slack_78 : decode cX5_slack 78 = .ok (.isub, 1) := by decide +kernel
theorem dX5_slack_79 : decode cX5_slack 79 = .ok (.invokestatic 97, 3) := by decide +kernel
theorem dX5_slack_82 : decode cX5_slack 82 = .ok (.ifCond .eq 30, 3) := by decide +kernel
theorem dX5_slack_85 : decode cX5_slack 85 = .ok (.iinc 5 1, 3) := by decide +kernel
theorem dX5_slack_88 : decode cX5_slack 88 = .ok (.iload 4, 2) := by decide +kernel
theorem dX5_slack_90 : decode cX5_slack 90 = .ok (.aload_n 0, 1) := by decide +kernel
theorem dX5_slack_91 : decode cX5_slack 91 = .ok (.getfield 10, 3) := by decide +kernel
theorem dX5_slack_94 : decode cX5_slack 94 = .ok (.getfield 129, 3) := by decide +kernel
theorem dX5_slack_97 : decode cX5_slack 97 = .ok (.iload 8, 2) := by decide +kernel
theorem dX5_slack_99 : decode cX5_slack 99 = .ok (.iaload, 1) := by decide +kernel
theorem dX5_slack_100 : decode cX5_slack 100 = .ok (.iadd, 1) := by decide +kernel
theorem dX5_slack_101 : decode cX5_slack 101 = .ok (.istore 4, 2) := by decide +kernel
theorem dX5_slack_103 : decode cX5_slack 103 = .ok (.iload 4, 2) := by decide +kernel
theorem dX5_slack_105 : decode cX5_slack 105 = .ok (.iload_n 2, 1) := by decide +kernel
theorem dX5_slack_106 : decode cX5_slack 106 = .ok (.if_icmp .lt 6, 3) := by decide +kernel
theorem dX5_slack_109 : decode cX5_slack 109 = .ok (.iload 5, 2) := by decide +kernel
theorem dX5_slack_111 : decode cX5_slack 111 = .ok (.ireturn, 1) := by decide +kernel
theorem dX5_slack_112 : decode cX5_slack 112 = .ok (.iinc 7 2, 3) := by decide +kernel
theorem dX5_slack_115 : decode cX5_slack 115 = .ok (.goto (-60), 3) := by decide +kernel
theorem dX5_slack_118 : decode cX5_slack 118 = .ok (.iinc 6 1, 3) := by decide +kernel
theorem dX5_slack_121 : decode cX5_slack 121 = .ok (.goto (-76), 3) := by decide +kernel
theorem dX5_slack_124 : decode cX5_slack 124 = .ok (.iconst (-1), 1) := by decide +kernel
theorem dX5_slack_125 : decode cX5_slack 125 = .ok (.ireturn, 1) := by decide +kernel
theorem dX5_judge_0 : decode cX5_judge 0 = .ok (.aload_n 0, 1) := by decide +kernel
theorem dX5_judge_1 : decode cX5_judge 1 = .ok (.iload_n 1, 1) := by decide +kernel
theorem dX5_judge_2 : decode cX5_judge 2 = .ok (.iload_n 2, 1) := by decide +kernel
theorem dX5_judge_3 : decode cX5_judge 3 = .ok (.invokevirtual 216, 3) := by decide +kernel
theorem dX5_judge_6 : decode cX5_judge 6 = .ok (.istore 4, 2) := by decide +kernel
theorem dX5_judge_8 : decode cX5_judge 8 = .ok (.iload 4, 2) := by decide +kernel
theorem dX5_judge_10 : decode cX5_judge 10 = .ok (.ifCond .eq 6, 3) := by decide +kernel
theorem dX5_judge_13 : decode cX5_judge 13 = .ok (.iload 4, 2) := by decide +kernel
theorem dX5_judge_15 : decode cX5_judge 15 = .ok (.ireturn, 1) := by decide +kernel
theorem dX5_judge_16 : decode cX5_judge 16 = .ok (.iload_n 3, 1) := by decide +kernel
theorem dX5_judge_17 : decode cX5_judge 17 = .ok (.invokestatic 104, 3) := by decide +kernel
theorem dX5_judge_20 : decode cX5_judge 20 = .ok (.ifCond .ne 6, 3) := by decide +kernel
theorem dX5_judge_23 : decode cX5_judge 23 = .ok (.bipush (-7), 2) := by decide +kernel
theorem dX5_judge_25 : decode cX5_judge 25 = .ok (.ireturn, 1) := by decide +kernel
theorem dX5_judge_26 : decode cX5_judge 26 = .ok (.aload_n 0, 1) := by decide +kernel
theorem dX5_judge_27 : decode cX5_judge 27 = .ok (.iload_n 2, 1) := by decide +kernel
theorem dX5_judge_28 : decode cX5_judge 28 = .ok (.iload_n 3, 1) := by decide +kernel
theorem dX5_judge_29 : decode cX5_judge 29 = .ok (.invokevirtual 163, 3) := by decide +kernel
theorem dX5_judge_32 : decode cX5_judge 32 = .ok (.pop, 1) := by decide +kernel
theorem dX5_judge_33 : decode cX5_judge 33 = .ok (.aload_n 0, 1) := by decide +kernel
theorem dX5_judge_34 : decode cX5_judge 34 = .ok (.getfield 41, 3) := by decide +kernel
theorem dX5_judge_37 : decode cX5_judge 37 = .ok (.iload_n 1, 1) := by decide +kernel
theorem dX5_judge_38 : decode cX5_judge 38 = .ok (.aaload, 1) := by decide +kernel
theorem dX5_judge_39 : decode cX5_judge 39 = .ok (.aload_n 0, 1) := by decide +kernel
theorem dX5_judge_40 : decode cX5_judge 40 = .ok (.getfield 35, 3) := by decide +kernel
theorem dX5_judge_43 : decode cX5_judge 43 = .ok (.getfield 167, 3) := by decide +kernel
theorem dX5_judge_46 : decode cX5_judge 46 = .ok (.invokevirtual 219, 3) := by decide +kernel
theorem dX5_judge_49 : decode cX5_judge 49 = .ok (.ireturn, 1) := by decide +kernel
theorem dX5_which_0 : decode cX5_which 0 = .ok (.aload_n 0, 1) := by decide +kernel
theorem dX5_which_1 : decode cX5_which 1 = .ok (.iload_n 1, 1) := by decide +kernel
theorem dX5_which_2 : decode cX5_which 2 = .ok (.bipush 48, 2) := by decide +kernel
theorem dX5_which_4 : decode cX5_which 4 = .ok (.invokevirtual 199, 3) := by decide +kernel
theorem dX5_which_7 : decode cX5_which 7 = .ok (.ifCond .ne 10, 3) := by decide +kernel
theorem dX5_which_10 : decode cX5_which 10 = .ok (.iload_n 2, 1) := by decide +kernel
theorem dX5_which_11 : decode cX5_which 11 = .ok (.invokestatic 104, 3) := by decide +kernel
theorem dX5_which_14 : decode cX5_which 14 = .ok (.ifCond .ne 7, 3) := by decide +kernel
theorem dX5_which_17 : decode cX5_which 17 = .ok (.ldc2_w 149, 3) := by decide +kernel
theorem dX5_which_20 : decode cX5_which 20 = .ok (.lreturn, 1) := by decide +kernel
theorem dX5_which_21 : decode cX5_which 21 = .ok (.lconst 0, 1) := by decide +kernel
theorem dX5_which_22 : decode cX5_which 22 = .ok (.lstore_n 3, 1) := by decide +kernel
theorem dX5_which_23 : decode cX5_which 23 = .ok (.iconst 0, 1) := by decide +kernel
theorem dX5_which_24 : decode cX5_which 24 = .ok (.istore 5, 2) := by decide +kernel
theorem dX5_which_26 : decode cX5_which 26 = .ok (.iload 5, 2) := by decide +kernel
theorem dX5_which_28 : decode cX5_which 28 = .ok (.bipush 48, 2) := by decide +kernel
theorem dX5_which_30 : decode cX5_which 30 = .ok (.if_icmp .ge 45, 3) := by decide +kernel
theorem dX5_which_33 : decode cX5_which 33 = .ok (.aload_n 0, 1) := by decide +kernel
theorem dX5_which_34 : decode cX5_which 34 = .ok (.iload 5, 2) := by decide +kernel
theorem dX5_which_36 : decode cX5_which 36 = .ok (.iload_n 2, 1) := by decide +kernel
theorem dX5_which_37 : decode cX5_which 37 = .ok (.invokevirtual 163, 3) := by decide +kernel
theorem dX5_which_40 : decode cX5_which 40 = .ok (.pop, 1) := by decide +kernel
theorem dX5_which_41 : decode cX5_which 41 = .ok (.aload_n 0, 1) := by decide +kernel
theorem dX5_which_42 : decode cX5_which 42 = .ok (.getfield 41, 3) := by decide +kernel
theorem dX5_which_45 : decode cX5_which 45 = .ok (.iload_n 1, 1) := by decide +kernel
theorem dX5_which_46 : decode cX5_which 46 = .ok (.aaload, 1) := by decide +kernel
theorem dX5_which_47 : decode cX5_which 47 = .ok (.aload_n 0, 1) := by decide +kernel
theorem dX5_which_48 : decode cX5_which 48 = .ok (.getfield 35, 3) := by decide +kernel
theorem dX5_which_51 : decode cX5_which 51 = .ok (.getfield 167, 3) := by decide +kernel
theorem dX5_which_54 : decode cX5_which 54 = .ok (.invokevirtual 219, 3) := by decide +kernel
theorem dX5_which_57 : decode cX5_which 57 = .ok (.iconst (-1), 1) := by decide +kernel
theorem dX5_which_58 : decode cX5_which 58 = .ok (.if_icmp .ne 11, 3) := by decide +kernel
theorem dX5_which_61 : decode cX5_which 61 = .ok (.lload_n 3, 1) := by decide +kernel
theorem dX5_which_62 : decode cX5_which 62 = .ok (.iload 5, 2) := by decide +kernel
theorem dX5_which_64 : decode cX5_which 64 = .ok (.invokestatic 143, 3) := by decide +kernel
theorem dX5_which_67 : decode cX5_which 67 = .ok (.lor, 1) := by decide +kernel
theorem dX5_which_68 : decode cX5_which 68 = .ok (.lstore_n 3, 1) := by decide +kernel
theorem dX5_which_69 : decode cX5_which 69 = .ok (.iinc 5 1, 3) := by decide +kernel
theorem dX5_which_72 : decode cX5_which 72 = .ok (.goto (-46), 3) := by decide +kernel
theorem dX5_which_75 : decode cX5_which 75 = .ok (.lload_n 3, 1) := by decide +kernel
theorem dX5_which_76 : decode cX5_which 76 = .ok (.lreturn, 1) := by decide +kernel
theorem dX5_span_0 : decode cX5_span 0 = .ok (.aload_n 0, 1) := by decide +kernel
theorem dX5_span_1 : decode cX5_span 1 = .ok (.iload_n 1, 1) := by decide +kernel
theorem dX5_span_2 : decode cX5_span 2 = .ok (.iload_n 2, 1) := by decide +kernel
theorem dX5_span_3 : decode cX5_span 3 = .ok (.invokevirtual 216, 3) := by decide +kernel
theorem dX5_span_6 : decode cX5_span 6 = .ok (.istore 4, 2) := by decide +kernel
theorem dX5_span_8 : decode cX5_span 8 = .ok (.iload 4, 2) := by decide +kernel
theorem dX5_span_10 : decode cX5_span 10 = .ok (.ifCond .eq 6, 3) := by decide +kernel
theorem dX5_span_13 : decode cX5_span 13 = .ok (.iload 4, 2) := by decide +kernel
theorem dX5_span_15 : decode cX5_span 15 = .ok (.ireturn, 1) := by decide +kernel
theorem dX5_span_16 : decode cX5_span 16 = .ok (.iload_n 3, 1) := by decide +kernel
theorem dX5_span_17 : decode cX5_span 17 = .ok (.iconst 0, 1) := by decide +kernel
theorem dX5_span_18 : decode cX5_span 18 = .ok (.iconst 1, 1) := by decide +kernel
theorem dX5_span_19 : decode cX5_span 19 = .ok (.invokestatic 97, 3) := by decide +kernel
theorem dX5_span_22 : decode cX5_span 22 = .ok (.ifCond .ne 6, 3) := by decide +kernel
theorem dX5_span_25 : decode cX5_span 25 = .ok (.bipush (-7), 2) := by decide +kernel
theorem dX5_span_27 : decode cX5_span 27 = .ok (.ireturn, 1) := by decide +kernel
theorem dX5_span_28 : decode cX5_span 28 = .ok (.iconst 0, 1) := by decide +kernel
theorem dX5_span_29 : decode cX5_span 29 = .ok (.istore 5, 2) := by decide +kernel
theorem dX5_span_31 : decode cX5_span 31 = .ok (.iload 5, 2) := by decide +kernel
theorem dX5_span_33 : decode cX5_span 33 = .ok (.bipush 99, 2) := by decide +kernel
theorem dX5_span_35 : decode cX5_span 35 = .ok (.if_icmp .gt 56, 3) := by decide +kernel
theorem dX5_span_38 : decode cX5_span 38 = .ok (.iload_n 3, 1) := by decide +kernel
theorem dX5_span_39 : decode cX5_span 39 = .ok (.ifCond .ne 8, 3) := by decide +kernel
theorem dX5_span_42 : decode cX5_span 42 = .ok (.iload 5, 2) := by decide +kernel
theorem dX5_span_44 : decode cX5_span 44 = .ok (.goto 8, 3) := by decide +kernel
theorem dX5_span_47 : decode cX5_span 47 = .ok (.bipush 99, 2) := by decide +kernel
theorem dX5_span_49 : decode cX5_span 49 = .ok (.iload 5, 2) := by decide +kernel
theorem dX5_span_51 : decode cX5_span 51 = .ok (.isub, 1) := by decide +kernel
theorem dX5_span_52 : decode cX5_span 52 = .ok (.istore 6, 2) := by decide +kernel
theorem dX5_span_54 : decode cX5_span 54 = .ok (.aload_n 0, 1) := by decide +kernel
theorem dX5_span_55 : decode cX5_span 55 = .ok (.iload_n 2, 1) := by decide +kernel
theorem dX5_span_56 : decode cX5_span 56 = .ok (.iload 6, 2) := by decide +kernel
theorem dX5_span_58 : decode cX5_span 58 = .ok (.invokevirtual 163, 3) := by decide +kernel
theorem dX5_span_61 : decode cX5_span 61 = .ok (.pop, 1) := by decide +kernel
theorem dX5_span_62 : decode cX5_span 62 = .ok (.aload_n 0, 1) := by decide +kernel
theorem dX5_span_63 : decode cX5_span 63 = .ok (.getfield 41, 3) := by decide +kernel
theorem dX5_span_66 : decode cX5_span 66 = .ok (.iload_n 1, 1) := by decide +kernel
theorem dX5_span_67 : decode cX5_span 67 = .ok (.aaload, 1) := by decide +kernel
theorem dX5_span_68 : decode cX5_span 68 = .ok (.aload_n 0, 1) := by decide +kernel
theorem dX5_span_69 : decode cX5_span 69 = .ok (.getfield 35, 3) := by decide +kernel
theorem dX5_span_72 : decode cX5_span 72 = .ok (.getfield 167, 3) := by decide +kernel
theorem dX5_span_75 : decode cX5_span 75 = .ok (.invokevirtual 219, 3) := by decide +kernel
theorem dX5_span_78 : decode cX5_span 78 = .ok (.iconst (-1), 1) := by decide +kernel
theorem dX5_span_79 : decode cX5_span 79 = .ok (.if_icmp .ne 6, 3) := by decide +kernel
theorem dX5_span_82 : decode cX5_span 82 = .ok (.iload 6, 2) := by decide +kernel
theorem dX5_span_84 : decode cX5_span 84 = .ok (.ireturn, 1) := by decide +kernel
theorem dX5_span_85 : decode cX5_span 85 = .ok (.iinc 5 1, 3) := by decide +kernel
theorem dX5_span_88 : decode cX5_span 88 = .ok (.goto (-57), 3) := by decide +kernel
theorem dX5_span_91 : decode cX5_span 91 = .ok (.iconst (-1), 1) := by decide +kernel
theorem dX5_span_92 : decode cX5_span 92 = .ok (.ireturn, 1) := by decide +kernel
theorem dX5_laws_0 : decode cX5_laws 0 = .ok (.aload_n 0, 1) := by decide +kernel
theorem dX5_laws_1 : decode cX5_laws 1 = .ok (.iload_n 1, 1) := by decide +kernel
theorem dX5_laws_2 : decode cX5_laws 2 = .ok (.iload_n 2, 1) := by decide +kernel
theorem dX5_laws_3 : decode cX5_laws 3 = .ok (.invokevirtual 216, 3) := by decide +kernel
theorem dX5_laws_6 : decode cX5_laws 6 = .ok (.istore 4, 2) := by decide +kernel
theorem dX5_laws_8 : decode cX5_laws 8 = .ok (.iload 4, 2) := by decide +kernel
theorem dX5_laws_10 : decode cX5_laws 10 = .ok (.ifCond .eq 6, 3) := by decide +kernel
theorem dX5_laws_13 : decode cX5_laws 13 = .ok (.iload 4, 2) := by decide +kernel
theorem dX5_laws_15 : decode cX5_laws 15 = .ok (.ireturn, 1) := by decide +kernel
theorem dX5_laws_16 : decode cX5_laws 16 = .ok (.iload_n 3, 1) := by decide +kernel
theorem dX5_laws_17 : decode cX5_laws 17 = .ok (.invokestatic 104, 3) := by decide +kernel
theorem dX5_laws_20 : decode cX5_laws 20 = .ok (.ifCond .ne 6, 3) := by decide +kernel
theorem dX5_laws_23 : decode cX5_laws 23 = .ok (.bipush (-7), 2) := by decide +kernel
theorem dX5_laws_25 : decode cX5_laws 25 = .ok (.ireturn, 1) := by decide +kernel
theorem dX5_laws_26 : decode cX5_laws 26 = .ok (.iconst 0, 1) := by decide +kernel
theorem dX5_laws_27 : decode cX5_laws 27 = .ok (.istore 5, 2) := by decide +kernel
theorem dX5_laws_29 : decode cX5_laws 29 = .ok (.iconst 0, 1) := by decide +kernel
theorem dX5_laws_30 : decode cX5_laws 30 = .ok (.istore 6, 2) := by decide +kernel
theorem dX5_laws_32 : decode cX5_laws 32 = .ok (.iload 6, 2) := by decide +kernel
theorem dX5_laws_34 : decode cX5_laws 34 = .ok (.aload_n 0, 1) := by decide +kernel
theorem dX5_laws_35 : decode cX5_laws 35 = .ok (.getfield 83, 3) := by decide +kernel
theorem dX5_laws_38 : decode cX5_laws 38 = .ok (.if_icmp .ge 70, 3) := by decide +kernel
theorem dX5_laws_41 : decode cX5_laws 41 = .ok (.iload 6, 2) := by decide +kernel
theorem dX5_laws_43 : decode cX5_laws 43 = .ok (.bipush 6, 2) := by decide +kernel
theorem dX5_laws_45 : decode cX5_laws 45 = .ok (.if_icmp .ge 63, 3) := by decide +kernel
theorem dX5_laws_48 : decode cX5_laws 48 = .ok (.aload_n 0, 1) := by decide +kernel
theorem dX5_laws_49 : decode cX5_laws 49 = .ok (.getfield 35, 3) := by decide +kernel
theorem dX5_laws_52 : decode cX5_laws 52 = .ok (.aload_n 0, 1) := by decide +kernel
theorem dX5_laws_53 : decode cX5_laws 53 = .ok (.getfield 10, 3) := by decide +kernel
theorem dX5_laws_56 : decode cX5_laws 56 = .ok (.aload_n 0, 1) := by decide +kernel
theorem dX5_laws_57 : decode cX5_laws 57 = .ok (.getfield 28, 3) := by decide +kernel
theorem dX5_laws_60 : decode cX5_laws 60 = .ok (.iload 6, 2) := by decide +kernel
theorem dX5_laws_62 : decode cX5_laws 62 = .ok (.aaload, 1) := by decide +kernel
theorem dX5_laws_63 : decode cX5_laws 63 = .ok (.iload_n 2, 1) := by decide +kernel
theorem dX5_laws_64 : decode cX5_laws 64 = .ok (.invokestatic 143, 3) := by decide +kernel
theorem dX5_laws_67 : decode cX5_laws 67 = .ok (.lconst 0, 1) := by decide +kernel
theorem dX5_laws_68 : decode cX5_laws 68 = .ok (.iload_n 3, 1) := by decide +kernel
theorem dX5_laws_69 : decode cX5_laws 69 = .ok (.invokevirtual 182, 3) := by decide +kernel
theorem dX5_laws_72 : decode cX5_laws 72 = .ok (.pop, 1) := by decide +kernel
theorem dX5_laws_73 : decode cX5_laws 73 = .ok (.aload_n 0, 1) := by decide +kernel
theorem dX5_laws_74 : decode cX5_laws 74 = .ok (.getfield 41, 3) := by decide +kernel
theorem dX5_laws_77 : decode cX5_laws 77 = .ok (.iload_n 1, 1) := by decide +kernel
theorem dX5_laws_78 : decode cX5_laws 78 = .ok (.aaload, 1) := by decide +kernel
theorem dX5_laws_79 : decode cX5_laws 79 = .ok (.aload_n 0, 1) := by decide +kernel
theorem dX5_laws_80 : decode cX5_laws 80 = .ok (.getfield 35, 3) := by decide +kernel
theorem dX5_laws_83 : decode cX5_laws 83 = .ok (.getfield 167, 3) := by decide +kernel
theorem dX5_laws_86 : decode cX5_laws 86 = .ok (.invokevirtual 219, 3) := by decide +kernel
theorem dX5_laws_89 : decode cX5_laws 89 = .ok (.iconst (-1), 1) := by decide +kernel
theorem dX5_laws_90 : decode cX5_laws 90 = .ok (.if_icmp .ne 12, 3) := by decide +kernel
theorem dX5_laws_93 : decode cX5_laws 93 = .ok (.iload 5, 2) := by decide +kernel
theorem dX5_laws_95 : decode cX5_laws 95 = .ok (.iconst 1, 1) := by decide +kernel
theorem dX5_laws_96 : decode cX5_laws 96 = .ok (.iload 6, 2) := by decide +kernel
theorem dX5_laws_98 : decode cX5_laws 98 = .ok (.ishl, 1) := by decide +kernel
theorem dX5_laws_99 : decode cX5_laws 99 = .ok (.ior, 1) := by decide +kernel
theorem dX5_laws_100 : decode cX5_laws 100 = .ok (.istore 5, 2) := by decide +kernel
theorem dX5_laws_102 : decode cX5_laws 102 = .ok (.iinc 6 1, 3) := by decide +kernel
theorem dX5_laws_105 : decode cX5_laws 105 = .ok (.goto (-73), 3) := by decide +kernel
theorem dX5_laws_108 : decode cX5_laws 108 = .ok (.iload 5, 2) := by decide +kernel
theorem dX5_laws_110 : decode cX5_laws 110 = .ok (.ireturn, 1) := by decide +kernel
theorem dX5_film_0 : decode cX5_film 0 = .ok (.iload_n 1, 1) := by decide +kernel
theorem dX5_film_1 : decode cX5_film 1 = .ok (.invokestatic 222, 3) := by decide +kernel
theorem dX5_film_4 : decode cX5_film 4 = .ok (.ifCond .ne 6, 3) := by decide +kernel
theorem dX5_film_7 : decode cX5_film 7 = .ok (.bipush (-2), 2) := by decide +kernel
theorem dX5_film_9 : decode cX5_film 9 = .ok (.ireturn, 1) := by decide +kernel
theorem dX5_film_10 : decode cX5_film 10 = .ok (.iload_n 2, 1) := by decide +kernel
theorem dX5_film_11 : decode cX5_film 11 = .ok (.invokestatic 101, 3) := by decide +kernel
theorem dX5_film_14 : decode cX5_film 14 = .ok (.ifCond .ne 6, 3) := by decide +kernel
theorem dX5_film_17 : decode cX5_film 17 = .ok (.bipush (-5), 2) := by decide +kernel
theorem dX5_film_19 : decode cX5_film 19 = .ok (.ireturn, 1) := by decide +kernel
theorem dX5_film_20 : decode cX5_film 20 = .ok (.iload_n 3, 1) := by decide +kernel
theorem dX5_film_21 : decode cX5_film 21 = .ok (.invokestatic 104, 3) := by decide +kernel
theorem dX5_film_24 : decode cX5_film 24 = .ok (.ifCond .ne 6, 3) := by decide +kernel
theorem dX5_film_27 : decode cX5_film 27 = .ok (.bipush (-7), 2) := by decide +kernel
theorem dX5_film_29 : decode cX5_film 29 = .ok (.ireturn, 1) := by decide +kernel
theorem dX5_film_30 : decode cX5_film 30 = .ok (.aload_n 0, 1) := by decide +kernel
theorem dX5_film_31 : decode cX5_film 31 = .ok (.iload_n 2, 1) := by decide +kernel
theorem dX5_film_32 : decode cX5_film 32 = .ok (.iload_n 3, 1) := by decide +kernel
theorem dX5_film_33 : decode cX5_film 33 = .ok (.invokevirtual 163, 3) := by decide +kernel
theorem dX5_film_36 : decode cX5_film 36 = .ok (.pop, 1) := by decide +kernel
theorem dX5_film_37 : decode cX5_film 37 = .ok (.aload_n 0, 1) := by decide +kernel
theorem dX5_film_38 : decode cX5_film 38 = .ok (.getfield 41, 3) := by decide +kernel
theorem dX5_film_41 : decode cX5_film 41 = .ok (.iload_n 1, 1) := by decide +kernel
theorem dX5_film_42 : decode cX5_film 42 = .ok (.aaload, 1) := by decide +kernel
theorem dX5_film_43 : decode cX5_film 43 = .ok (.iconst 2, 1) := by decide +kernel
theorem dX5_film_44 : decode cX5_film 44 = .ok (.bipush 48, 2) := by decide +kernel
theorem dX5_film_46 : decode cX5_film 46 = .ok (.invokevirtual 225, 3) := by decide +kernel
theorem dX5_film_49 : decode cX5_film 49 = .ok (.iconst 0, 1) := by decide +kernel
theorem dX5_film_50 : decode cX5_film 50 = .ok (.istore 4, 2) := by decide +kernel
theorem dX5_film_52 : decode cX5_film 52 = .ok (.iload 4, 2) := by decide +kernel
theorem dX5_film_54 : decode cX5_film 54 = .ok (.bipush 48, 2) := by decide +kernel
theorem dX5_film_56 : decode cX5_film 56 = .ok (.if_icmp .ge 40, 3) := by decide +kernel
theorem dX5_film_59 : decode cX5_film 59 = .ok (.aload_n 0, 1) := by decide +kernel
theorem dX5_film_60 : decode cX5_film 60 = .ok (.getfield 41, 3) := by decide +kernel
theorem dX5_film_63 : decode cX5_film 63 = .ok (.iload_n 1, 1) := by decide +kernel
theorem dX5_film_64 : decode cX5_film 64 = .ok (.aaload, 1) := by decide +kernel
theorem dX5_film_65 : decode cX5_film 65 = .ok (.iload 4, 2) := by decide +kernel
theorem dX5_film_67 : decode cX5_film 67 = .ok (.aload_n 0, 1) := by decide +kernel
theorem dX5_film_68 : decode cX5_film 68 = .ok (.getfield 35, 3) := by decide +kernel
theorem dX5_film_71 : decode cX5_film 71 = .ok (.getfield 167, 3) := by decide +kernel
theorem dX5_film_74 : decode cX5_film 74 = .ok (.iload 4, 2) := by decide +kernel
theorem dX5_film_76 : decode cX5_film 76 = .ok (.invokestatic 139, 3) := by decide +kernel
theorem dX5_film_79 : decode cX5_film 79 = .ok (.ifCond .eq 7, 3) := by decide +kernel
theorem dX5_film_82 : decode cX5_film 82 = .ok (.iconst 1, 1) := by decide +kernel
theorem dX5_film_83 : decode cX5_film 83 = .ok (.goto 4, 3) := by decide +kernel
theorem dX5_film_86 : decode cX5_film 86 = .ok (.iconst 0, 1) := by decide +kernel
theorem dX5_film_87 : decode cX5_film 87 = .ok (.invokevirtual 228, 3) := by decide +kernel
theorem dX5_film_90 : decode cX5_film 90 = .ok (.iinc 4 1, 3) := by decide +kernel
theorem dX5_film_93 : decode cX5_film 93 = .ok (.goto (-41), 3) := by decide +kernel
theorem dX5_film_96 : decode cX5_film 96 = .ok (.bipush 48, 2) := by decide +kernel
theorem dX5_film_98 : decode cX5_film 98 = .ok (.ireturn, 1) := by decide +kernel
theorem dX5_slips_0 : decode cX5_slips 0 = .ok (.iload_n 2, 1) := by decide +kernel
theorem dX5_slips_1 : decode cX5_slips 1 = .ok (.invokestatic 101, 3) := by decide +kernel
theorem dX5_slips_4 : decode cX5_slips 4 = .ok (.ifCond .ne 6, 3) := by decide +kernel
theorem dX5_slips_7 : decode cX5_slips 7 = .ok (.bipush (-5), 2) := by decide +kernel
theorem dX5_slips_9 : decode cX5_slips 9 = .ok (.ireturn, 1) := by decide +kernel
theorem dX5_slips_10 : decode cX5_slips 10 = .ok (.iload_n 1, 1) := by decide +kernel
theorem dX5_slips_11 : decode cX5_slips 11 = .ok (.iconst 0, 1) := by decide +kernel
theorem dX5_slips_12 : decode cX5_slips 12 = .ok (.ldc 231, 2) := by decide +kernel
theorem dX5_slips_14 : decode cX5_slips 14 = .ok (.invokestatic 97, 3) := by decide +kernel
theorem dX5_slips_17 : decode cX5_slips 17 = .ok (.ifCond .eq 21, 3) := by decide +kernel
theorem dX5_slips_20 : decode cX5_slips 20 = .ok (.iload_n 3, 1) := by decide +kernel
theorem dX5_slips_21 : decode cX5_slips 21 = .ok (.invokestatic 104, 3) := by decide +kernel
theorem dX5_slips_24 : decode cX5_slips 24 = .ok (.ifCond .eq 14, 3) := by decide +kernel
theorem dX5_slips_27 : decode cX5_slips 27 = .ok (.iload 4, 2) := by decide +kernel
theorem dX5_slips_29 : decode cX5_slips 29 = .ok (.iconst 0, 1) := by decide +kernel
theorem dX5_slips_30 : decode cX5_slips 30 = .ok (.bipush 100, 2) := by decide +kernel
theorem dX5_slips_32 : decode cX5_slips 32 = .ok (.invokestatic 97, 3) := by decide +kernel
theorem dX5_slips_35 : decode cX5_slips 35 = .ok (.ifCond .ne 6, 3) := by decide +kernel
theorem dX5_slips_38 : decode cX5_slips 38 = .ok (.bipush (-7), 2) := by decide +kernel
theorem dX5_slips_40 : decode cX5_slips 40 = .ok (.ireturn, 1) := by decide +kernel
theorem dX5_slips_41 : decode cX5_slips 41 = .ok (.aload_n 0, 1) := by decide +kernel
theorem dX5_slips_42 : decode cX5_slips 42 = .ok (.iload_n 2, 1) := by decide +kernel
theorem dX5_slips_43 : decode cX5_slips 43 = .ok (.iload_n 3, 1) := by decide +kernel
theorem dX5_slips_44 : decode cX5_slips 44 = .ok (.invokevirtual 163, 3) := by decide +kernel
theorem dX5_slips_47 : decode cX5_slips 47 = .ok (.pop, 1) := by decide +kernel
theorem dX5_slips_48 : decode cX5_slips 48 = .ok (.aload_n 0, 1) := by decide +kernel
theorem dX5_slips_49 : decode cX5_slips 49 = .ok (.iload_n 1, 1) := by decide +kernel
theorem dX5_slips_50 : decode cX5_slips 50 = .ok (.iload 4, 2) := by decide +kernel
theorem dX5_slips_52 : decode cX5_slips 52 = .ok (.invokevirtual 232, 3) := by decide +kernel
theorem dX5_slips_55 : decode cX5_slips 55 = .ok (.ireturn, 1) := by decide +kernel
theorem dX5_odds_0 : decode cX5_odds 0 = .ok (.iload_n 1, 1) := by decide +kernel
theorem dX5_odds_1 : decode cX5_odds 1 = .ok (.iconst 0, 1) := by decide +kernel
theorem dX5_odds_2 : decode cX5_odds 2 = .ok (.ldc 231, 2) := by decide +kernel
theorem dX5_odds_4 : decode cX5_odds 4 = .ok (.invokestatic 97, 3) := by decide +kernel
theorem dX5_odds_7 : decode cX5_odds 7 = .ok (.ifCond .eq 20, 3) := by decide +kernel
theorem dX5_odds_10 : decode cX5_odds 10 = .ok (.iload_n 2, 1) := by decide +kernel
theorem dX5_odds_11 : decode cX5_odds 11 = .ok (.iconst 1, 1) := by decide +kernel
theorem dX5_odds_12 : decode cX5_odds 12 = .ok (.bipush 50, 2) := by decide +kernel
theorem dX5_odds_14 : decode cX5_odds 14 = .ok (.invokestatic 97, 3) := by decide +kernel
theorem dX5_odds_17 : decode cX5_odds 17 = .ok (.ifCond .eq 10, 3) := by decide +kernel
theorem dX5_odds_20 : decode cX5_odds 20 = .ok (.iload_n 3, 1) := by decide +kernel
theorem dX5_odds_21 : decode cX5_odds 21 = .ok (.invokestatic 101, 3) := by decide +kernel
theorem dX5_odds_24 : decode cX5_odds 24 = .ok (.ifCond .ne 7, 3) := by decide +kernel
theorem dX5_odds_27 : decode cX5_odds 27 = .ok (.ldc2_w 149, 3) := by decide +kernel
theorem dX5_odds_30 : decode cX5_odds 30 = .ok (.lreturn, 1) := by decide +kernel
theorem dX5_odds_31 : decode cX5_odds 31 = .ok (.iload 4, 2) := by decide +kernel
theorem dX5_odds_33 : decode cX5_odds 33 = .ok (.invokestatic 104, 3) := by decide +kernel
theorem dX5_odds_36 : decode cX5_odds 36 = .ok (.ifCond .eq 24, 3) := by decide +kernel
theorem dX5_odds_39 : decode cX5_odds 39 = .ok (.iload 5, 2) := by decide +kernel
theorem dX5_odds_41 : decode cX5_odds 41 = .ok (.iconst 0, 1) := by decide +kernel
theorem dX5_odds_42 : decode cX5_odds 42 = .ok (.bipush 100, 2) := by decide +kernel
theorem dX5_odds_44 : decode cX5_odds 44 = .ok (.invokestatic 97, 3) := by decide +kernel
theorem dX5_odds_47 : decode cX5_odds 47 = .ok (.ifCond .eq 13, 3) := by decide +kernel
theorem dX5_odds_50 : decode cX5_odds 50 = .ok (.iload 6, 2) := by decide +kernel
theorem dX5_odds_52 : decode cX5_odds 52 = .ok (.iconst 0, 1) := by decide +kernel
theorem dX5_odds_53 : decode cX5_odds 53 = .ok (.iconst 1, 1) := by decide +kernel
theorem dX5_odds_54 : decode cX5_odds 54 = .ok (.invokestatic 97, 3) := by decide +kernel
theorem dX5_odds_57 : decode cX5_odds 57 = .ok (.ifCond .ne 7, 3) := by decide +kernel
theorem dX5_odds_60 : decode cX5_odds 60 = .ok (.ldc2_w 149, 3) := by decide +kernel
theorem dX5_odds_63 : decode cX5_odds 63 = .ok (.lreturn, 1) := by decide +kernel
theorem dX5_odds_64 : decode cX5_odds 64 = .ok (.aload_n 0, 1) := by decide +kernel
theorem dX5_odds_65 : decode cX5_odds 65 = .ok (.iload_n 3, 1) := by decide +kernel
theorem dX5_odds_66 : decode cX5_odds 66 = .ok (.iload 4, 2) := by decide +kernel
theorem dX5_odds_68 : decode cX5_odds 68 = .ok (.invokevirtual 163, 3) := by decide +kernel
theorem dX5_odds_71 : decode cX5_odds 71 = .ok (.pop, 1) := by decide +kernel
theorem dX5_odds_72 : decode cX5_odds 72 = .ok (.iconst 0, 1) := by decide +kernel
theorem dX5_odds_73 : decode cX5_odds 73 = .ok (.istore 7, 2) := by decide +kernel
theorem dX5_odds_75 : decode cX5_odds 75 = .ok (.iconst 0, 1) := by decide +kernel
theorem dX5_odds_76 : decode cX5_odds 76 = .ok (.istore 8, 2) := by decide +kernel
theorem dX5_odds_78 : decode cX5_odds 78 = .ok (.iload 8, 2) := by decide +kernel
theorem dX5_odds_80 : decode cX5_odds 80 = .ok (.iload_n 2, 1) := by decide +kernel
theorem dX5_odds_81 : decode cX5_odds 81 = .ok (.if_icmp .ge 25, 3) := by decide +kernel
theorem dX5_odds_84 : decode cX5_odds 84 = .ok (.aload_n 0, 1) := by decide +kernel
theorem dX5_odds_85 : decode cX5_odds 85 = .ok (.iload_n 1, 1) := by decide +kernel
theorem dX5_odds_86 : decode cX5_odds 86 = .ok (.iload 8, 2) := by decide +kernel
theorem dX5_odds_88 : decode cX5_odds 88 = .ok (.iadd, 1) := by decide +kernel
theorem dX5_odds_89 : decode cX5_odds 89 = .ok (.iload 5, 2) := by decide +kernel
theorem dX5_odds_91 : decode cX5_odds 91 = .ok (.invokevirtual 232, 3) := by decide +kernel
theorem dX5_odds_94 : decode cX5_odds 94 = .ok (.ifCond .ne 6, 3) := by decide +kernel
theorem dX5_odds_97 : decode cX5_odds 97 = .ok (.iinc 7 1, 3) := by decide +kernel
theorem dX5_odds_100 : decode cX5_odds 100 = .ok (.iinc 8 1, 3) := by decide +kernel
theorem dX5_odds_103 : decode cX5_odds 103 = .ok (.goto (-25), 3) := by decide +kernel
theorem dX5_odds_106 : decode cX5_odds 106 = .ok (.iload 6, 2) := by decide +kernel
theorem dX5_odds_108 : decode cX5_odds 108 = .ok (.ifCond .ne 8, 3) := by decide +kernel
theorem dX5_odds_111 : decode cX5_odds 111 = .ok (.iload 7, 2) := by decide +kernel
theorem dX5_odds_113 : decode cX5_odds 113 = .ok (.goto 4, 3) := by decide +kernel
theorem dX5_odds_116 : decode cX5_odds 116 = .ok (.iload_n 2, 1) := by decide +kernel
theorem dX5_odds_117 : decode cX5_odds 117 = .ok (.istore 8, 2) := by decide +kernel
theorem dX5_odds_119 : decode cX5_odds 119 = .ok (.iload 7, 2) := by decide +kernel
theorem dX5_odds_121 : decode cX5_odds 121 = .ok (.iload_n 2, 1) := by decide +kernel
theorem dX5_odds_122 : decode cX5_odds 122 = .ok (.invokestatic 235, 3) := by decide +kernel
theorem dX5_odds_125 : decode cX5_odds 125 = .ok (.istore 9, 2) := by decide +kernel
theorem dX5_odds_127 : decode cX5_odds 127 = .ok (.iload 9, 2) := by decide +kernel
theorem dX5_odds_129 : decode cX5_odds 129 = .ok (.iconst 1, 1) := by decide +kernel
theorem dX5_odds_130 : decode cX5_odds 130 = .ok (.if_icmp .le 12, 3) := by decide +kernel
theorem dX5_odds_133 : decode cX5_odds 133 = .ok (.iload 8, 2) := by decide +kernel
theorem dX5_odds_135 : decode cX5_odds 135 = .ok (.iload 9, 2) := by decide +kernel
theorem dX5_odds_137 : decode cX5_odds 137 = .ok (.idiv, 1) := by decide +kernel
theorem dX5_odds_138 : decode cX5_odds 138 = .ok (.i2l, 1) := by decide +kernel
theorem dX5_odds_139 : decode cX5_odds 139 = .ok (.goto 6, 3) := by decide +kernel
theorem dX5_odds_142 : decode cX5_odds 142 = .ok (.iload 8, 2) := by decide +kernel
theorem dX5_odds_144 : decode cX5_odds 144 = .ok (.i2l, 1) := by decide +kernel
theorem dX5_odds_145 : decode cX5_odds 145 = .ok (.lreturn, 1) := by decide +kernel
theorem dX5_image_0 : decode cX5_image 0 = .ok (.aload_n 0, 1) := by decide +kernel
theorem dX5_image_1 : decode cX5_image 1 = .ok (.getfield 16, 3) := by decide +kernel
theorem dX5_image_4 : decode cX5_image 4 = .ok (.aload_n 0, 1) := by decide +kernel
theorem dX5_image_5 : decode cX5_image 5 = .ok (.getfield 10, 3) := by decide +kernel
theorem dX5_image_8 : decode cX5_image 8 = .ok (.invokevirtual 238, 3) := by decide +kernel
theorem dX5_image_11 : decode cX5_image 11 = .ok (.aload_n 0, 1) := by decide +kernel
theorem dX5_image_12 : decode cX5_image 12 = .ok (.iconst 1, 1) := by decide +kernel
theorem dX5_image_13 : decode cX5_image 13 = .ok (.putfield 242, 3) := by decide +kernel
theorem dX5_image_16 : decode cX5_image 16 = .ok (.aload_n 0, 1) := by decide +kernel
theorem dX5_image_17 : decode cX5_image 17 = .ok (.getfield 10, 3) := by decide +kernel
theorem dX5_image_20 : decode cX5_image 20 = .ok (.getfield 70, 3) := by decide +kernel
theorem dX5_image_23 : decode cX5_image 23 = .ok (.invokestatic 74, 3) := by decide +kernel
theorem dX5_image_26 : decode cX5_image 26 = .ok (.ireturn, 1) := by decide +kernel
theorem dX5_restore_0 : decode cX5_restore 0 = .ok (.aload_n 0, 1) := by decide +kernel
theorem dX5_restore_1 : decode cX5_restore 1 = .ok (.getfield 242, 3) := by decide +kernel
theorem dX5_restore_4 : decode cX5_restore 4 = .ok (.ifCond .ne 6, 3) := by decide +kernel
theorem dX5_restore_7 : decode cX5_restore 7 = .ok (.bipush (-3), 2) := by decide +kernel
theorem dX5_restore_9 : decode cX5_restore 9 = .ok (.ireturn, 1) := by decide +kernel
theorem dX5_restore_10 : decode cX5_restore 10 = .ok (.aload_n 0, 1) := by decide +kernel
theorem dX5_restore_11 : decode cX5_restore 11 = .ok (.getfield 10, 3) := by decide +kernel
theorem dX5_restore_14 : decode cX5_restore 14 = .ok (.aload_n 0, 1) := by decide +kernel
theorem dX5_restore_15 : decode cX5_restore 15 = .ok (.getfield 16, 3) := by decide +kernel
theorem dX5_restore_18 : decode cX5_restore 18 = .ok (.invokevirtual 238, 3) := by decide +kernel
theorem dX5_restore_21 : decode cX5_restore 21 = .ok (.aload_n 0, 1) := by decide +kernel
theorem dX5_restore_22 : decode cX5_restore 22 = .ok (.getfield 10, 3) := by decide +kernel
theorem dX5_restore_25 : decode cX5_restore 25 = .ok (.getfield 70, 3) := by decide +kernel
theorem dX5_restore_28 : decode cX5_restore 28 = .ok (.invokestatic 74, 3) := by decide +kernel
theorem dX5_restore_31 : decode cX5_restore 31 = .ok (.ireturn, 1) := by decide +kernel
theorem dX5_sheet_0 : decode cX5_sheet 0 = .ok (.iload_n 1, 1) := by decide +kernel
theorem dX5_sheet_1 : decode cX5_sheet 1 = .ok (.invokestatic 222, 3) := by decide +kernel
theorem dX5_sheet_4 : decode cX5_sheet 4 = .ok (.ifCond .eq 12, 3) := by decide +kernel
theorem dX5_sheet_7 : decode cX5_sheet 7 = .ok (.iload_n 2, 1) := by decide +kernel
theorem dX5_sheet_8 : decode cX5_sheet 8 = .ok (.iconst (-1), 1) := by decide +kernel
theorem dX5_sheet_9 : decode cX5_sheet 9 = .ok (.iconst 2, 1) := by decide +kernel
theorem dX5_sheet_10 : decode cX5_sheet 10 = .ok (.invokestatic 97, 3) := by decide +kernel
theorem dX5_sheet_13 : decode cX5_sheet 13 = .ok (.ifCond .ne 6, 3) := by decide +kernel
theorem dX5_sheet_16 : decode cX5_sheet 16 = .ok (.bipush (-2), 2) := by decide +kernel
theorem dX5_sheet_18 : decode cX5_sheet 18 = .ok (.ireturn, 1) := by decide +kernel
theorem dX5_sheet_19 : decode cX5_sheet 19 = .ok (.iload_n 2, 1) := by decide +kernel
theorem dX5_sheet_20 : decode cX5_sheet 20 = .ok (.iconst (-1), 1) := by decide +kernel
theorem dX5_sheet_21 : decode cX5_sheet 21 = .ok (.if_icmp .ne 16, 3) := by decide +kernel
theorem dX5_sheet_24 : decode cX5_sheet 24 = .ok (.aload_n 0, 1) := by decide +kernel
theorem dX5_sheet_25 : decode cX5_sheet 25 = .ok (.getfield 41, 3) := by decide +kernel
theorem dX5_sheet_28 : decode cX5_sheet 28 = .ok (.iload_n 1, 1) := by decide +kernel
theorem dX5_sheet_29 : decode cX5_sheet 29 = .ok (.aaload, 1) := by decide +kernel
theorem dX5_sheet_30 : decode cX5_sheet 30 = .ok (.iconst (-1), 1) := by decide +kernel
theorem dX5_sheet_31 : decode cX5_sheet 31 = .ok (.iconst 0, 1) := by decide +kernel
theorem dX5_sheet_32 : decode cX5_sheet 32 = .ok (.invokevirtual 225, 3) := by decide +kernel
theorem dX5_sheet_35 : decode cX5_sheet 35 = .ok (.iconst 1, 1) := by decide +kernel
theorem dX5_sheet_36 : decode cX5_sheet 36 = .ok (.ireturn, 1) := by decide +kernel
theorem dX5_sheet_37 : decode cX5_sheet 37 = .ok (.iload_n 3, 1) := by decide +kernel
theorem dX5_sheet_38 : decode cX5_sheet 38 = .ok (.bipush 48, 2) := by decide +kernel
theorem dX5_sheet_40 : decode cX5_sheet 40 = .ok (.if_icmp .le 6, 3) := by decide +kernel
theorem dX5_sheet_43 : decode cX5_sheet 43 = .ok (.bipush (-2), 2) := by decide +kernel
theorem dX5_sheet_45 : decode cX5_sheet 45 = .ok (.ireturn, 1) := by decide +kernel
theorem dX5_sheet_46 : decode cX5_sheet 46 = .ok (.iload_n 3, 1) := by decide +kernel
theorem dX5_sheet_47 : decode cX5_sheet 47 = .ok (.ifCond .ge 6, 3) := by decide +kernel
theorem dX5_sheet_50 : decode cX5_sheet 50 = .ok (.bipush (-14), 2) := by decide +kernel
theorem dX5_sheet_52 : decode cX5_sheet 52 = .ok (.ireturn, 1) := by decide +kernel
theorem dX5_sheet_53 : decode cX5_sheet 53 = .ok (.aload_n 0, 1) := by decide +kernel
theorem dX5_sheet_54 : decode cX5_sheet 54 = .ok (.getfield 41, 3) := by decide +kernel
theorem dX5_sheet_57 : decode cX5_sheet 57 = .ok (.iload_n 1, 1) := by decide +kernel
theorem dX5_sheet_58 : decode cX5_sheet 58 = .ok (.aaload, 1) := by decide +kernel
theorem dX5_sheet_59 : decode cX5_sheet 59 = .ok (.iload_n 2, 1) := by decide +kernel
theorem dX5_sheet_60 : decode cX5_sheet 60 = .ok (.iload_n 3, 1) := by decide +kernel
theorem dX5_sheet_61 : decode cX5_sheet 61 = .ok (.invokevirtual 225, 3) := by decide +kernel
theorem dX5_sheet_64 : decode cX5_sheet 64 = .ok (.iconst 1, 1) := by decide +kernel
theorem dX5_sheet_65 : decode cX5_sheet 65 = .ok (.ireturn, 1) := by decide +kernel
theorem dX5_cell_0 : decode cX5_cell 0 = .ok (.iload_n 1, 1) := by decide +kernel
theorem dX5_cell_1 : decode cX5_cell 1 = .ok (.invokestatic 222, 3) := by decide +kernel
theorem dX5_cell_4 : decode cX5_cell 4 = .ok (.ifCond .ne 6, 3) := by decide +kernel
theorem dX5_cell_7 : decode cX5_cell 7 = .ok (.bipush (-2), 2) := by decide +kernel
theorem dX5_cell_9 : decode cX5_cell 9 = .ok (.ireturn, 1) := by decide +kernel
theorem dX5_cell_10 : decode cX5_cell 10 = .ok (.aload_n 0, 1) := by decide +kernel
theorem dX5_cell_11 : decode cX5_cell 11 = .ok (.getfield 41, 3) := by decide +kernel
theorem dX5_cell_14 : decode cX5_cell 14 = .ok (.iload_n 1, 1) := by decide +kernel
theorem dX5_cell_15 : decode cX5_cell 15 = .ok (.aaload, 1) := by decide +kernel
theorem dX5_cell_16 : decode cX5_cell 16 = .ok (.invokevirtual 246, 3) := by decide +kernel
theorem dX5_cell_19 : decode cX5_cell 19 = .ok (.ifCond .eq 6, 3) := by decide +kernel
theorem dX5_cell_22 : decode cX5_cell 22 = .ok (.bipush (-11), 2) := by decide +kernel
theorem dX5_cell_24 : decode cX5_cell 24 = .ok (.ireturn, 1) := by decide +kernel
theorem dX5_cell_25 : decode cX5_cell 25 = .ok (.iload_n 2, 1) := by decide +kernel
theorem dX5_cell_26 : decode cX5_cell 26 = .ok (.iconst 0, 1) := by decide +kernel
theorem dX5_cell_27 : decode cX5_cell 27 = .ok (.aload_n 0, 1) := by decide +kernel
theorem dX5_cell_28 : decode cX5_cell 28 = .ok (.getfield 41, 3) := by decide +kernel
theorem dX5_cell_31 : decode cX5_cell 31 = .ok (.iload_n 1, 1) := by decide +kernel
theorem dX5_cell_32 : decode cX5_cell 32 = .ok (.aaload, 1) := by decide +kernel
theorem dX5_cell_33 : decode cX5_cell 33 = .ok (.getfield 250, 3) := by decide +kernel
theorem dX5_cell_36 : decode cX5_cell 36 = .ok (.iconst 1, 1) := by decide +kernel
theorem dX5_cell_37 : decode cX5_cell 37 = .ok (.isub, 1) := by decide +kernel
theorem dX5_cell_38 : decode cX5_cell 38 = .ok (.invokestatic 97, 3) := by decide +kernel
theorem dX5_cell_41 : decode cX5_cell 41 = .ok (.ifCond .ne 6, 3) := by decide +kernel
theorem dX5_cell_44 : decode cX5_cell 44 = .ok (.bipush (-12), 2) := by decide +kernel
theorem dX5_cell_46 : decode cX5_cell 46 = .ok (.ireturn, 1) := by decide +kernel
theorem dX5_cell_47 : decode cX5_cell 47 = .ok (.aload_n 0, 1) := by decide +kernel
theorem dX5_cell_48 : decode cX5_cell 48 = .ok (.getfield 41, 3) := by decide +kernel
theorem dX5_cell_51 : decode cX5_cell 51 = .ok (.iload_n 1, 1) := by decide +kernel
theorem dX5_cell_52 : decode cX5_cell 52 = .ok (.aaload, 1) := by decide +kernel
theorem dX5_cell_53 : decode cX5_cell 53 = .ok (.iload_n 2, 1) := by decide +kernel
theorem dX5_cell_54 : decode cX5_cell 54 = .ok (.iload_n 3, 1) := by decide +kernel
theorem dX5_cell_55 : decode cX5_cell 55 = .ok (.invokevirtual 228, 3) := by decide +kernel
theorem dX5_cell_58 : decode cX5_cell 58 = .ok (.iconst 1, 1) := by decide +kernel
theorem dX5_cell_59 : decode cX5_cell 59 = .ok (.ireturn, 1) := by decide +kernel
theorem dX5_copy_0 : decode cX5_copy 0 = .ok (.iload_n 1, 1) := by decide +kernel
theorem dX5_copy_1 : decode cX5_copy 1 = .ok (.invokestatic 222, 3) := by decide +kernel
theorem dX5_copy_4 : decode cX5_copy 4 = .ok (.ifCond .eq 10, 3) := by decide +kernel
theorem dX5_copy_7 : decode cX5_copy 7 = .ok (.iload_n 3, 1) := by decide +kernel
theorem dX5_copy_8 : decode cX5_copy 8 = .ok (.invokestatic 222, 3) := by decide +kernel
theorem dX5_copy_11 : decode cX5_copy 11 = .ok (.ifCond .ne 6, 3) := by decide +kernel
theorem dX5_copy_14 : decode cX5_copy 14 = .ok (.bipush (-2), 2) := by decide +kernel
theorem dX5_copy_16 : decode cX5_copy 16 = .ok (.ireturn, 1) := by decide +kernel
theorem dX5_copy_17 : decode cX5_copy 17 = .ok (.aload_n 0, 1) := by decide +kernel
theorem dX5_copy_18 : decode cX5_copy 18 = .ok (.getfield 41, 3) := by decide +kernel
theorem dX5_copy_21 : decode cX5_copy 21 = .ok (.iload_n 1, 1) := by decide +kernel
theorem dX5_copy_22 : decode cX5_copy 22 = .ok (.aaload, 1) := by decide +kernel
theorem dX5_copy_23 : decode cX5_copy 23 = .ok (.astore 6, 2) := by decide +kernel
theorem dX5_copy_25 : decode cX5_copy 25 = .ok (.aload_n 0, 1) := by decide +kernel
theorem dX5_copy_26 : decode cX5_copy 26 = .ok (.getfield 41, 3) := by decide +kernel
theorem dX5_copy_29 : decode cX5_copy 29 = .ok (.iload_n 3, 1) := by decide +kernel
theorem dX5_copy_30 : decode cX5_copy 30 = .ok (.aaload, 1) := by decide +kernel
theorem dX5_copy_31 : decode cX5_copy 31 = .ok (.astore 7, 2) := by decide +kernel
theorem dX5_copy_33 : decode cX5_copy 33 = .ok (.aload 6, 2) := by decide +kernel
theorem dX5_copy_35 : decode cX5_copy 35 = .ok (.invokevirtual 246, 3) := by decide +kernel
theorem dX5_copy_38 : decode cX5_copy 38 = .ok (.ifCond .ne 11, 3) := by decide +kernel
theorem dX5_copy_41 : decode cX5_copy 41 = .ok (.aload 7, 2) := by decide +kernel
theorem dX5_copy_43 : decode cX5_copy 43 = .ok (.invokevirtual 246, 3) := by decide +kernel
theorem dX5_copy_46 : decode cX5_copy 46 = .ok (.ifCond .eq 6, 3) := by decide +kernel
theorem dX5_copy_49 : decode cX5_copy 49 = .ok (.bipush (-11), 2) := by decide +kernel
theorem dX5_copy_51 : decode cX5_copy 51 = .ok (.ireturn, 1) := by decide +kernel
theorem dX5_copy_52 : decode cX5_copy 52 = .ok (.aload 6, 2) := by decide +kernel
theorem dX5_copy_54 : decode cX5_copy 54 = .ok (.getfield 251, 3) := by decide +kernel
theorem dX5_copy_57 : decode cX5_copy 57 = .ok (.aload 7, 2) := by decide +kernel
theorem dX5_copy_59 : decode cX5_copy 59 = .ok (.getfield 251, 3) := by decide +kernel
theorem dX5_copy_62 : decode cX5_copy 62 = .ok (.if_icmp .eq 6, 3) := by decide +kernel
theorem dX5_copy_65 : decode cX5_copy 65 = .ok (.bipush (-13), 2) := by decide +kernel
theorem dX5_copy_67 : decode cX5_copy 67 = .ok (.ireturn, 1) := by decide +kernel
theorem dX5_copy_68 : decode cX5_copy 68 = .ok (.aload 6, 2) := by decide +kernel
theorem dX5_copy_70 : decode cX5_copy 70 = .ok (.iload_n 2, 1) := by decide +kernel
theorem dX5_copy_71 : decode cX5_copy 71 = .ok (.iload 5, 2) := by decide +kernel
theorem dX5_copy_73 : decode cX5_copy 73 = .ok (.invokevirtual 254, 3) := by decide +kernel
theorem dX5_copy_76 : decode cX5_copy 76 = .ok (.ifCond .eq 15, 3) := by decide +kernel
theorem dX5_copy_79 : decode cX5_copy 79 = .ok (.aload 7, 2) := by decide +kernel
theorem dX5_copy_81 : decode cX5_copy 81 = .ok (.iload 4, 2) := by decide +kernel
theorem dX5_copy_83 : decode cX5_copy 83 = .ok (.iload 5, 2) := by decide +kernel
theorem dX5_copy_85 : decode cX5_copy 85 = .ok (.invokevirtual 254, 3) := by decide +kernel
theorem dX5_copy_88 : decode cX5_copy 88 = .ok (.ifCond .ne 6, 3) := by decide +kernel
theorem dX5_copy_91 : decode cX5_copy 91 = .ok (.bipush (-12), 2) := by decide +kernel
theorem dX5_copy_93 : decode cX5_copy 93 = .ok (.ireturn, 1) := by decide +kernel
theorem dX5_copy_94 : decode cX5_copy 94 = .ok (.aload 6, 2) := by decide +kernel
theorem dX5_copy_96 : decode cX5_copy 96 = .ok (.getfield 202, 3) := by decide +kernel
theorem dX5_copy_99 : decode cX5_copy 99 = .ok (.iload_n 2, 1) := by decide +kernel
theorem dX5_copy_100 : decode cX5_copy 100 = .ok (.aload 7, 2) := by decide +kernel
theorem dX5_copy_102 : decode cX5_copy 102 = .ok (.getfield 202, 3) := by decide +kernel
theorem dX5_copy_105 : decode cX5_copy 105 = .ok (.iload 4, 2) := by decide +kernel
theorem dX5_copy_107 : decode cX5_copy 107 = .ok (.iload 5, 2) := by decide +kernel
theorem dX5_copy_109 : decode cX5_copy 109 = .ok (.invokestatic 257, 3) := by decide +kernel
theorem dX5_copy_112 : decode cX5_copy 112 = .ok (.iload 5, 2) := by decide +kernel
theorem dX5_copy_114 : decode cX5_copy 114 = .ok (.ireturn, 1) := by decide +kernel
theorem dX5_knits_0 : decode cX5_knits 0 = .ok (.iload_n 1, 1) := by decide +kernel
theorem dX5_knits_1 : decode cX5_knits 1 = .ok (.invokestatic 222, 3) := by decide +kernel
theorem dX5_knits_4 : decode cX5_knits 4 = .ok (.ifCond .eq 23, 3) := by decide +kernel
theorem dX5_knits_7 : decode cX5_knits 7 = .ok (.iload_n 2, 1) := by decide +kernel
theorem dX5_knits_8 : decode cX5_knits 8 = .ok (.iconst 0, 1) := by decide +kernel
theorem dX5_knits_9 : decode cX5_knits 9 = .ok (.iconst 2, 1) := by decide +kernel
theorem dX5_knits_10 : decode cX5_knits 10 = .ok (.invokestatic 97, 3) := by decide +kernel
theorem dX5_knits_13 : decode cX5_knits 13 = .ok (.ifCond .eq 14, 3) := by decide +kernel
theorem dX5_knits_16 : decode cX5_knits 16 = .ok (.iload 4, 2) := by decide +kernel
theorem dX5_knits_18 : decode cX5_knits 18 = .ok (.iconst 0, 1) := by decide +kernel
theorem dX5_knits_19 : decode cX5_knits 19 = .ok (.bipush 16, 2) := by decide +kernel
theorem dX5_knits_21 : decode cX5_knits 21 = .ok (.invokestatic 97, 3) := by decide +kernel
theorem dX5_knits_24 : decode cX5_knits 24 = .ok (.ifCond .ne 6, 3) := by decide +kernel
theorem dX5_knits_27 : decode cX5_knits 27 = .ok (.bipush (-2), 2) := by decide +kernel
theorem dX5_knits_29 : decode cX5_knits 29 = .ok (.ireturn, 1) := by decide +kernel
theorem dX5_knits_30 : decode cX5_knits 30 = .ok (.aload_n 0, 1) := by decide +kernel
theorem dX5_knits_31 : decode cX5_knits 31 = .ok (.getfield 41, 3) := by decide +kernel
theorem dX5_knits_34 : decode cX5_knits 34 = .ok (.iload_n 1, 1) := by decide +kernel
theorem dX5_knits_35 : decode cX5_knits 35 = .ok (.aaload, 1) := by decide +kernel
theorem dX5_knits_36 : decode cX5_knits 36 = .ok (.astore 5, 2) := by decide +kernel
theorem dX5_knits_38 : decode cX5_knits 38 = .ok (.aload 5, 2) := by decide +kernel
theorem dX5_knits_40 : decode cX5_knits 40 = .ok (.invokevirtual 246, 3) := by decide +kernel
theorem dX5_knits_43 : decode cX5_knits 43 = .ok (.ifCond .eq 6, 3) := by decide +kernel
theorem dX5_knits_46 : decode cX5_knits 46 = .ok (.bipush (-11), 2) := by decide +kernel
theorem dX5_knits_48 : decode cX5_knits 48 = .ok (.ireturn, 1) := by decide +kernel
theorem dX5_knits_49 : decode cX5_knits 49 = .ok (.aload 5, 2) := by decide +kernel
theorem dX5_knits_51 : decode cX5_knits 51 = .ok (.getfield 251, 3) := by decide +kernel
theorem dX5_knits_54 : decode cX5_knits 54 = .ok (.iload_n 2, 1) := by decide +kernel
theorem dX5_knits_55 : decode cX5_knits 55 = .ok (.if_icmp .eq 6, 3) := by decide +kernel
theorem dX5_knits_58 : decode cX5_knits 58 = .ok (.bipush (-13), 2) := by decide +kernel
theorem dX5_knits_60 : decode cX5_knits 60 = .ok (.ireturn, 1) := by decide +kernel
theorem dX5_knits_61 : decode cX5_knits 61 = .ok (.iconst 0, 1) := by decide +kernel
theorem dX5_knits_62 : decode cX5_knits 62 = .ok (.istore 6, 2) := by decide +kernel
theorem dX5_knits_64 : decode cX5_knits 64 = .ok (.iconst 0, 1) := by decide +kernel
theorem dX5_knits_65 : decode cX5_knits 65 = .ok (.istore 7, 2) := by decide +kernel
theorem dX5_knits_67 : decode cX5_knits 67 = .ok (.iload 7, 2) := by decide +kernel
theorem dX5_knits_69 : decode cX5_knits 69 = .ok (.iload 4, 2) := by decide +kernel
theorem dX5_knits_71 : decode cX5_knits 71 = .ok (.if_icmp .ge 69, 3) := by decide +kernel
theorem dX5_knits_74 : decode cX5_knits 74 = .ok (.iload_n 3, 1) := by decide +kernel
theorem dX5_knits_75 : decode cX5_knits 75 = .ok (.iconst 3, 1) := by decide +kernel
theorem dX5_knits_76 : decode cX5_knits 76 = .ok (.iload 7, 2) := by decide +kernel
theorem dX5_knits_78 : decode cX5_knits 78 = .ok (.imul, 1) := by decide +kernel
theorem dX5_knits_79 : decode cX5_knits 79 = .ok (.iadd, 1) := by decide +kernel
theorem dX5_knits_80 : decode cX5_knits 80 = .ok (.istore 8, 2) := by decide +kernel
theorem dX5_knits_82 : decode cX5_knits 82 = .ok (.aload 5, 2) := by decide +kernel
theorem dX5_knits_84 : decode cX5_knits 84 = .ok (.iload 8, 2) := by decide +kernel
theorem dX5_knits_86 : decode cX5_knits 86 = .ok (.iconst 3, 1) := by decide +kernel
theorem dX5_knits_87 : decode cX5_knits 87 = .ok (.invokevirtual 254, 3) := by decide +kernel
theorem dX5_knits_90 : decode cX5_knits 90 = .ok (.ifCond .ne 6, 3) := by decide +kernel
theorem dX5_knits_93 : decode cX5_knits 93 = .ok (.bipush (-12), 2) := by decide +kernel
theorem dX5_knits_95 : decode cX5_knits 95 = .ok (.ireturn, 1) := by decide +kernel
theorem dX5_knits_96 : decode cX5_knits 96 = .ok (.aload_n 0, 1) := by decide +kernel
theorem dX5_knits_97 : decode cX5_knits 97 = .ok (.aload 5, 2) := by decide +kernel
theorem dX5_knits_99 : decode cX5_knits 99 = .ok (.getfield 202, 3) := by decide +kernel
theorem dX5_knits_102 : decode cX5_knits 102 = .ok (.iload 8, 2) := by decide +kernel
theorem dX5_knits_104 : decode cX5_knits 104 = .ok (.iaload, 1) := by decide +kernel
theorem dX5_knits_105 : decode cX5_knits 105 = .ok (.aload 5, 2) := by decide +kernel
theorem dX5_knits_107 : decode cX5_knits 107 = .ok (.getfield 202, 3) := by decide +kernel
theorem dX5_knits_110 : decode cX5_knits 110 = .ok (.iload 8, 2) := by decide +kernel
theorem dX5_knits_112 : decode cX5_knits 112 = .ok (.iconst 1, 1) := by decide +kernel
theorem dX5_knits_113 : decode cX5_knits 113 = .ok (.iadd, 1) := by decide +kernel
theorem dX5_knits_114 : decode cX5_knits 114 = .ok (.iaload, 1) := by decide +kernel
theorem dX5_knits_115 : decode cX5_knits 115 = .ok (.aload 5, 2) := by decide +kernel
theorem dX5_knits_117 : decode cX5_knits 117 = .ok (.getfield 202, 3) := by decide +kernel
theorem dX5_knits_120 : decode cX5_knits 120 = .ok (.iload 8, 2) := by decide +kernel
theorem dX5_knits_122 : decode cX5_knits 122 = .ok (.iconst 2, 1) := by decide +kernel
theorem dX5_knits_123 : decode cX5_knits 123 = .ok (.iadd, 1) := by decide +kernel
theorem dX5_knits_124 : decode cX5_knits 124 = .ok (.iaload, 1) := by decide +kernel
theorem dX5_knits_125 : decode cX5_knits 125 = .ok (.invokevirtual 263, 3) := by decide +kernel
theorem dX5_knits_128 : decode cX5_knits 128 = .ok (.ifCond .lt 6, 3) := by decide +kernel
theorem dX5_knits_131 : decode cX5_knits 131 = .ok (.iinc 6 1, 3) := by decide +kernel
theorem dX5_knits_134 : decode cX5_knits 134 = .ok (.iinc 7 1, 3) := by decide +kernel
theorem dX5_knits_137 : decode cX5_knits 137 = .ok (.goto (-70), 3) := by decide +kernel
theorem dX5_knits_140 : decode cX5_knits 140 = .ok (.iload 6, 2) := by decide +kernel
theorem dX5_knits_142 : decode cX5_knits 142 = .ok (.ireturn, 1) := by decide +kernel
theorem dX5_taken_0 : decode cX5_taken 0 = .ok (.iload_n 2, 1) := by decide +kernel
theorem dX5_taken_1 : decode cX5_taken 1 = .ok (.iconst 0, 1) := by decide +kernel
theorem dX5_taken_2 : decode cX5_taken 2 = .ok (.bipush 6, 2) := by decide +kernel
theorem dX5_taken_4 : decode cX5_taken 4 = .ok (.invokestatic 97, 3) := by decide +kernel
theorem dX5_taken_7 : decode cX5_taken 7 = .ok (.ifCond .ne 6, 3) := by decide +kernel
theorem dX5_taken_10 : decode cX5_taken 10 = .ok (.bipush (-2), 2) := by decide +kernel
theorem dX5_taken_12 : decode cX5_taken 12 = .ok (.ireturn, 1) := by decide +kernel
theorem dX5_taken_13 : decode cX5_taken 13 = .ok (.iload_n 1, 1) := by decide +kernel
theorem dX5_taken_14 : decode cX5_taken 14 = .ok (.iconst 0, 1) := by decide +kernel
theorem dX5_taken_15 : decode cX5_taken 15 = .ok (.bipush 55, 2) := by decide +kernel
theorem dX5_taken_17 : decode cX5_taken 17 = .ok (.invokestatic 97, 3) := by decide +kernel
theorem dX5_taken_20 : decode cX5_taken 20 = .ok (.ifCond .ne 6, 3) := by decide +kernel
theorem dX5_taken_23 : decode cX5_taken 23 = .ok (.bipush (-12), 2) := by decide +kernel
theorem dX5_taken_25 : decode cX5_taken 25 = .ok (.ireturn, 1) := by decide +kernel
theorem dX5_taken_26 : decode cX5_taken 26 = .ok (.iload_n 1, 1) := by decide +kernel
theorem dX5_taken_27 : decode cX5_taken 27 = .ok (.invokestatic 101, 3) := by decide +kernel
theorem dX5_taken_30 : decode cX5_taken 30 = .ok (.ifCond .eq 32, 3) := by decide +kernel
theorem dX5_taken_33 : decode cX5_taken 33 = .ok (.iload_n 2, 1) := by decide +kernel
theorem dX5_taken_34 : decode cX5_taken 34 = .ok (.bipush 6, 2) := by decide +kernel
theorem dX5_taken_36 : decode cX5_taken 36 = .ok (.if_icmp .eq 23, 3) := by decide +kernel
theorem dX5_taken_39 : decode cX5_taken 39 = .ok (.aload_n 0, 1) := by decide +kernel
theorem dX5_taken_40 : decode cX5_taken 40 = .ok (.getfield 10, 3) := by decide +kernel
theorem dX5_taken_43 : decode cX5_taken 43 = .ok (.getfield 118, 3) := by decide +kernel
theorem dX5_taken_46 : decode cX5_taken 46 = .ok (.iload_n 1, 1) := by decide +kernel
theorem dX5_taken_47 : decode cX5_taken 47 = .ok (.iaload, 1) := by decide +kernel
theorem dX5_taken_48 : decode cX5_taken 48 = .ok (.iload_n 2, 1) := by decide +kernel
theorem dX5_taken_49 : decode cX5_taken 49 = .ok (.invokestatic 266, 3) := by decide +kernel
theorem dX5_taken_52 : decode cX5_taken 52 = .ok (.ifCond .eq 7, 3) := by decide +kernel
theorem dX5_taken_55 : decode cX5_taken 55 = .ok (.iload_n 1, 1) := by decide +kernel
theorem dX5_taken_56 : decode cX5_taken 56 = .ok (.goto 5, 3) := by decide +kernel
theorem dX5_taken_59 : decode cX5_taken 59 = .ok (.bipush (-13), 2) := by decide +kernel
theorem dX5_taken_61 : decode cX5_taken 61 = .ok (.ireturn, 1) := by decide +kernel
theorem dX5_taken_62 : decode cX5_taken 62 = .ok (.aload_n 0, 1) := by decide +kernel
theorem dX5_taken_63 : decode cX5_taken 63 = .ok (.iload_n 1, 1) := by decide +kernel
theorem dX5_taken_64 : decode cX5_taken 64 = .ok (.bipush 48, 2) := by decide +kernel
theorem dX5_taken_66 : decode cX5_taken 66 = .ok (.isub, 1) := by decide +kernel
theorem dX5_taken_67 : decode cX5_taken 67 = .ok (.invokevirtual 269, 3) := by decide +kernel
theorem dX5_taken_70 : decode cX5_taken 70 = .ok (.istore_n 3, 1) := by decide +kernel
theorem dX5_taken_71 : decode cX5_taken 71 = .ok (.iload_n 3, 1) := by decide +kernel
theorem dX5_taken_72 : decode cX5_taken 72 = .ok (.ifCond .ne 6, 3) := by decide +kernel
theorem dX5_taken_75 : decode cX5_taken 75 = .ok (.bipush (-11), 2) := by decide +kernel
theorem dX5_taken_77 : decode cX5_taken 77 = .ok (.ireturn, 1) := by decide +kernel
theorem dX5_taken_78 : decode cX5_taken 78 = .ok (.iload_n 2, 1) := by decide +kernel
theorem dX5_taken_79 : decode cX5_taken 79 = .ok (.bipush 6, 2) := by decide +kernel
theorem dX5_taken_81 : decode cX5_taken 81 = .ok (.if_icmp .ne 7, 3) := by decide +kernel
theorem dX5_taken_84 : decode cX5_taken 84 = .ok (.iload_n 3, 1) := by decide +kernel
theorem dX5_taken_85 : decode cX5_taken 85 = .ok (.goto 5, 3) := by decide +kernel
theorem dX5_taken_88 : decode cX5_taken 88 = .ok (.bipush (-13), 2) := by decide +kernel
theorem dX5_taken_90 : decode cX5_taken 90 = .ok (.ireturn, 1) := by decide +kernel
theorem dX5_goesThroughOwn_0 : decode cX5_goesThroughOwn 0 = .ok (.iload_n 0, 1) := by decide +kernel
theorem dX5_goesThroughOwn_1 : decode cX5_goesThroughOwn 1 = .ok (.iconst 2, 1) := by decide +kernel
theorem dX5_goesThroughOwn_2 : decode cX5_goesThroughOwn 2 = .ok (.if_icmp .eq 12, 3) := by decide +kernel
theorem dX5_goesThroughOwn_5 : decode cX5_goesThroughOwn 5 = .ok (.iload_n 0, 1) := by decide +kernel
theorem dX5_goesThroughOwn_6 : decode cX5_goesThroughOwn 6 = .ok (.iconst 4, 1) := by decide +kernel
theorem dX5_goesThroughOwn_7 : decode cX5_goesThroughOwn 7 = .ok (.if_icmp .eq 7, 3) := by decide +kernel
theorem dX5_goesThroughOwn_10 : decode cX5_goesThroughOwn 10 = .ok (.iconst 1, 1) := by decide +kernel
theorem dX5_goesThroughOwn_11 : decode cX5_goesThroughOwn 11 = .ok (.goto 4, 3) := by decide +kernel
theorem dX5_goesThroughOwn_14 : decode cX5_goesThroughOwn 14 = .ok (.iconst 0, 1) := by decide +kernel
theorem dX5_goesThroughOwn_15 : decode cX5_goesThroughOwn 15 = .ok (.ireturn, 1) := by decide +kernel
theorem dX5_goesThroughNext_0 : decode cX5_goesThroughNext 0 = .ok (.iload_n 0, 1) := by decide +kernel
theorem dX5_goesThroughNext_1 : decode cX5_goesThroughNext 1 = .ok (.iconst 2, 1) := by decide +kernel
theorem dX5_goesThroughNext_2 : decode cX5_goesThroughNext 2 = .ok (.if_icmp .eq 8, 3) := by decide +kernel
theorem dX5_goesThroughNext_5 : decode cX5_goesThroughNext 5 = .ok (.iload_n 0, 1) := by decide +kernel
theorem dX5_goesThroughNext_6 : decode cX5_goesThroughNext 6 = .ok (.iconst 3, 1) := by decide +kernel
theorem dX5_goesThroughNext_7 : decode cX5_goesThroughNext 7 = .ok (.if_icmp .ne 7, 3) := by decide +kernel
theorem dX5_goesThroughNext_10 : decode cX5_goesThroughNext 10 = .ok (.iconst 1, 1) := by decide +kernel
theorem dX5_goesThroughNext_11 : decode cX5_goesThroughNext 11 = .ok (.goto 4, 3) := by decide +kernel
theorem dX5_goesThroughNext_14 : decode cX5_goesThroughNext 14 = .ok (.iconst 0, 1) := by decide +kernel
theorem dX5_goesThroughNext_15 : decode cX5_goesThroughNext 15 = .ok (.ireturn, 1) := by decide +kernel
theorem dX5_faceOf_0 : decode cX5_faceOf 0 = .ok (.iload_n 0, 1) := by decide +kernel
theorem dX5_faceOf_1 : decode cX5_faceOf 1 = .ok (.iconst 1, 1) := by decide +kernel
theorem dX5_faceOf_2 : decode cX5_faceOf 2 = .ok (.if_icmp .ne 7, 3) := by decide +kernel
theorem dX5_faceOf_5 : decode cX5_faceOf 5 = .ok (.iconst 1, 1) := by decide +kernel
theorem dX5_faceOf_6 : decode cX5_faceOf 6 = .ok (.goto 4, 3) := by decide +kernel
theorem dX5_faceOf_9 : decode cX5_faceOf 9 = .ok (.iconst 0, 1) := by decide +kernel
theorem dX5_faceOf_10 : decode cX5_faceOf 10 = .ok (.ireturn, 1) := by decide +kernel
theorem dX5_rubOf_0 : decode cX5_rubOf 0 = .ok (.iload_n 0, 1) := by decide +kernel
theorem dX5_rubOf_1 : decode cX5_rubOf 1 = .ok (.tableswitch 43 1 5 #[35, 43, 39, 43, 35], 35) := by decide +kernel
theorem dX5_rubOf_36 : decode cX5_rubOf 36 = .ok (.iload_n 1, 1) := by decide +kernel
theorem dX5_rubOf_37 : decode cX5_rubOf 37 = .ok (.iload_n 2, 1) := by decide +kernel
theorem dX5_rubOf_38 : decode cX5_rubOf 38 = .ok (.iadd, 1) := by decide +kernel
theorem dX5_rubOf_39 : decode cX5_rubOf 39 = .ok (.ireturn, 1) := by decide +kernel
theorem dX5_rubOf_40 : decode cX5_rubOf 40 = .ok (.iconst 2, 1) := by decide +kernel
theorem dX5_rubOf_41 : decode cX5_rubOf 41 = .ok (.iload_n 1, 1) := by decide +kernel
theorem dX5_rubOf_42 : decode cX5_rubOf 42 = .ok (.imul, 1) := by decide +kernel
theorem dX5_rubOf_43 : decode cX5_rubOf 43 = .ok (.ireturn, 1) := by decide +kernel
theorem dX5_rubOf_44 : decode cX5_rubOf 44 = .ok (.iload_n 1, 1) := by decide +kernel
theorem dX5_rubOf_45 : decode cX5_rubOf 45 = .ok (.ireturn, 1) := by decide +kernel
theorem dX5_isOne_0 : decode cX5_isOne 0 = .ok (.iload_n 0, 1) := by decide +kernel
theorem dX5_isOne_1 : decode cX5_isOne 1 = .ok (.iload_n 1, 1) := by decide +kernel
theorem dX5_isOne_2 : decode cX5_isOne 2 = .ok (.if_icmp .eq 27, 3) := by decide +kernel
theorem dX5_isOne_5 : decode cX5_isOne 5 = .ok (.iload_n 1, 1) := by decide +kernel
theorem dX5_isOne_6 : decode cX5_isOne 6 = .ok (.ifCond .eq 23, 3) := by decide +kernel
theorem dX5_isOne_9 : decode cX5_isOne 9 = .ok (.iload_n 0, 1) := by decide +kernel
theorem dX5_isOne_10 : decode cX5_isOne 10 = .ok (.iconst 3, 1) := by decide +kernel
theorem dX5_isOne_11 : decode cX5_isOne 11 = .ok (.if_icmp .ne 8, 3) := by decide +kernel
theorem dX5_isOne_14 : decode cX5_isOne 14 = .ok (.iload_n 1, 1) := by decide +kernel
theorem dX5_isOne_15 : decode cX5_isOne 15 = .ok (.iconst 2, 1) := by decide +kernel
theorem dX5_isOne_16 : decode cX5_isOne 16 = .ok (.if_icmp .eq 13, 3) := by decide +kernel
theorem dX5_isOne_19 : decode cX5_isOne 19 = .ok (.iload_n 0, 1) := by decide +kernel
theorem dX5_isOne_20 : decode cX5_isOne 20 = .ok (.iconst 5, 1) := by decide +kernel
theorem dX5_isOne_21 : decode cX5_isOne 21 = .ok (.if_icmp .ne 12, 3) := by decide +kernel
theorem dX5_isOne_24 : decode cX5_isOne 24 = .ok (.iload_n 1, 1) := by decide +kernel
theorem dX5_isOne_25 : decode cX5_isOne 25 = .ok (.iconst 1, 1) := by decide +kernel
theorem dX5_isOne_26 : decode cX5_isOne 26 = .ok (.if_icmp .ne 7, 3) := by decide +kernel
theorem dX5_isOne_29 : decode cX5_isOne 29 = .ok (.iconst 1, 1) := by decide +kernel
theorem dX5_isOne_30 : decode cX5_isOne 30 = .ok (.goto 4, 3) := by decide +kernel
theorem dX5_isOne_33 : decode cX5_isOne 33 = .ok (.iconst 0, 1) := by decide +kernel
theorem dX5_isOne_34 : decode cX5_isOne 34 = .ok (.ireturn, 1) := by decide +kernel
theorem dX5_within_0 : decode cX5_within 0 = .ok (.iload_n 0, 1) := by decide +kernel
theorem dX5_within_1 : decode cX5_within 1 = .ok (.iload_n 1, 1) := by decide +kernel
theorem dX5_within_2 : decode cX5_within 2 = .ok (.if_icmp .lt 12, 3) := by decide +kernel
theorem dX5_within_5 : decode cX5_within 5 = .ok (.iload_n 0, 1) := by decide +kernel
theorem dX5_within_6 : decode cX5_within 6 = .ok (.iload_n 2, 1) := by decide +kernel
theorem dX5_within_7 : decode cX5_within 7 = .ok (.if_icmp .gt 7, 3) := by decide +kernel
theorem dX5_within_10 : decode cX5_within 10 = .ok (.iconst 1, 1) := by decide +kernel
theorem dX5_within_11 : decode cX5_within 11 = .ok (.goto 4, 3) := by decide +kernel
theorem dX5_within_14 : decode cX5_within 14 = .ok (.iconst 0, 1) := by decide +kernel
theorem dX5_within_15 : decode cX5_within 15 = .ok (.ireturn, 1) := by decide +kernel
theorem dX5_isLoop_0 : decode cX5_isLoop 0 = .ok (.iload_n 0, 1) := by decide +kernel
theorem dX5_isLoop_1 : decode cX5_isLoop 1 = .ok (.iconst 0, 1) := by decide +kernel
theorem dX5_isLoop_2 : decode cX5_isLoop 2 = .ok (.bipush 47, 2) := by decide +kernel
theorem dX5_isLoop_4 : decode cX5_isLoop 4 = .ok (.invokestatic 97, 3) := by decide +kernel
theorem dX5_isLoop_7 : decode cX5_isLoop 7 = .ok (.ireturn, 1) := by decide +kernel
theorem dX5_isRow_0 : decode cX5_isRow 0 = .ok (.iload_n 0, 1) := by decide +kernel
theorem dX5_isRow_1 : decode cX5_isRow 1 = .ok (.iconst 0, 1) := by decide +kernel
theorem dX5_isRow_2 : decode cX5_isRow 2 = .ok (.bipush 7, 2) := by decide +kernel
theorem dX5_isRow_4 : decode cX5_isRow 4 = .ok (.invokestatic 97, 3) := by decide +kernel
theorem dX5_isRow_7 : decode cX5_isRow 7 = .ok (.ireturn, 1) := by decide +kernel
theorem dX5_isPull_0 : decode cX5_isPull 0 = .ok (.iload_n 0, 1) := by decide +kernel
theorem dX5_isPull_1 : decode cX5_isPull 1 = .ok (.iconst 0, 1) := by decide +kernel
theorem dX5_isPull_2 : decode cX5_isPull 2 = .ok (.bipush 99, 2) := by decide +kernel
theorem dX5_isPull_4 : decode cX5_isPull 4 = .ok (.invokestatic 97, 3) := by decide +kernel
theorem dX5_isPull_7 : decode cX5_isPull 7 = .ok (.ireturn, 1) := by decide +kernel
theorem dX5_isByte_0 : decode cX5_isByte 0 = .ok (.iload_n 0, 1) := by decide +kernel
theorem dX5_isByte_1 : decode cX5_isByte 1 = .ok (.iconst 0, 1) := by decide +kernel
theorem dX5_isByte_2 : decode cX5_isByte 2 = .ok (.sipush 255, 3) := by decide +kernel
theorem dX5_isByte_5 : decode cX5_isByte 5 = .ok (.invokestatic 97, 3) := by decide +kernel
theorem dX5_isByte_8 : decode cX5_isByte 8 = .ok (.ireturn, 1) := by decide +kernel
theorem dX5_isSheet_0 : decode cX5_isSheet 0 = .ok (.iload_n 0, 1) := by decide +kernel
theorem dX5_isSheet_1 : decode cX5_isSheet 1 = .ok (.iconst 0, 1) := by decide +kernel
theorem dX5_isSheet_2 : decode cX5_isSheet 2 = .ok (.iconst 3, 1) := by decide +kernel
theorem dX5_isSheet_3 : decode cX5_isSheet 3 = .ok (.invokestatic 97, 3) := by decide +kernel
theorem dX5_isSheet_6 : decode cX5_isSheet 6 = .ok (.ireturn, 1) := by decide +kernel
theorem dX5_isKnit_0 : decode cX5_isKnit 0 = .ok (.iload_n 0, 1) := by decide +kernel
theorem dX5_isKnit_1 : decode cX5_isKnit 1 = .ok (.iconst 0, 1) := by decide +kernel
theorem dX5_isKnit_2 : decode cX5_isKnit 2 = .ok (.iconst 5, 1) := by decide +kernel
theorem dX5_isKnit_3 : decode cX5_isKnit 3 = .ok (.invokestatic 97, 3) := by decide +kernel
theorem dX5_isKnit_6 : decode cX5_isKnit 6 = .ok (.ifCond .eq 17, 3) := by decide +kernel
theorem dX5_isKnit_9 : decode cX5_isKnit 9 = .ok (.iload_n 1, 1) := by decide +kernel
theorem dX5_isKnit_10 : decode cX5_isKnit 10 = .ok (.iconst 0, 1) := by decide +kernel
theorem dX5_isKnit_11 : decode cX5_isKnit 11 = .ok (.bipush 9, 2) := by decide +kernel
theorem dX5_isKnit_13 : decode cX5_isKnit 13 = .ok (.invokestatic 97, 3) := by decide +kernel
theorem dX5_isKnit_16 : decode cX5_isKnit 16 = .ok (.ifCond .eq 7, 3) := by decide +kernel
theorem dX5_isKnit_19 : decode cX5_isKnit 19 = .ok (.iconst 1, 1) := by decide +kernel
theorem dX5_isKnit_20 : decode cX5_isKnit 20 = .ok (.goto 4, 3) := by decide +kernel
theorem dX5_isKnit_23 : decode cX5_isKnit 23 = .ok (.iconst 0, 1) := by decide +kernel
theorem dX5_isKnit_24 : decode cX5_isKnit 24 = .ok (.ireturn, 1) := by decide +kernel
theorem dX5_bit_0 : decode cX5_bit 0 = .ok (.lconst 1, 1) := by decide +kernel
theorem dX5_bit_1 : decode cX5_bit 1 = .ok (.iload_n 0, 1) := by decide +kernel
theorem dX5_bit_2 : decode cX5_bit 2 = .ok (.lshl, 1) := by decide +kernel
theorem dX5_bit_3 : decode cX5_bit 3 = .ok (.lreturn, 1) := by decide +kernel
theorem dX5_hasBit_0 : decode cX5_hasBit 0 = .ok (.lload_n 0, 1) := by decide +kernel
theorem dX5_hasBit_1 : decode cX5_hasBit 1 = .ok (.iload_n 2, 1) := by decide +kernel
theorem dX5_hasBit_2 : decode cX5_hasBit 2 = .ok (.lshr, 1) := by decide +kernel
theorem dX5_hasBit_3 : decode cX5_hasBit 3 = .ok (.lconst 1, 1) := by decide +kernel
theorem dX5_hasBit_4 : decode cX5_hasBit 4 = .ok (.land, 1) := by decide +kernel
theorem dX5_hasBit_5 : decode cX5_hasBit 5 = .ok (.lconst 0, 1) := by decide +kernel
theorem dX5_hasBit_6 : decode cX5_hasBit 6 = .ok (.lcmp, 1) := by decide +kernel
theorem dX5_hasBit_7 : decode cX5_hasBit 7 = .ok (.ifCond .eq 7, 3) := by decide +kernel
theorem dX5_hasBit_10 : decode cX5_hasBit 10 = .ok (.iconst 1, 1) := by decide +kernel
theorem dX5_hasBit_11 : decode cX5_hasBit 11 = .ok (.goto 4, 3) := by decide +kernel
theorem dX5_hasBit_14 : decode cX5_hasBit 14 = .ok (.iconst 0, 1) := by decide +kernel
theorem dX5_hasBit_15 : decode cX5_hasBit 15 = .ok (.ireturn, 1) := by decide +kernel
theorem dX5_bounded_0 : decode cX5_bounded 0 = .ok (.iconst 0, 1) := by decide +kernel
theorem dX5_bounded_1 : decode cX5_bounded 1 = .ok (.iload_n 1, 1) := by decide +kernel
theorem dX5_bounded_2 : decode cX5_bounded 2 = .ok (.iload_n 0, 1) := by decide +kernel
theorem dX5_bounded_3 : decode cX5_bounded 3 = .ok (.invokestatic 272, 3) := by decide +kernel
theorem dX5_bounded_6 : decode cX5_bounded 6 = .ok (.invokestatic 277, 3) := by decide +kernel
theorem dX5_bounded_9 : decode cX5_bounded 9 = .ok (.ireturn, 1) := by decide +kernel
theorem dX5_commonDivisor_0 : decode cX5_commonDivisor 0 = .ok (.iload_n 1, 1) := by decide +kernel
theorem dX5_commonDivisor_1 : decode cX5_commonDivisor 1 = .ok (.istore_n 2, 1) := by decide +kernel
theorem dX5_commonDivisor_2 : decode cX5_commonDivisor 2 = .ok (.iload_n 2, 1) := by decide +kernel
theorem dX5_commonDivisor_3 : decode cX5_commonDivisor 3 = .ok (.iconst 1, 1) := by decide +kernel
theorem dX5_commonDivisor_4 : decode cX5_commonDivisor 4 = .ok (.if_icmp .le 23, 3) := by decide +kernel
theorem dX5_commonDivisor_7 : decode cX5_commonDivisor 7 = .ok (.iload_n 0, 1) := by decide +kernel
theorem dX5_commonDivisor_8 : decode cX5_commonDivisor 8 = .ok (.iload_n 2, 1) := by decide +kernel
theorem dX5_commonDivisor_9 : decode cX5_commonDivisor 9 = .ok (.irem, 1) := by decide +kernel
theorem dX5_commonDivisor_10 : decode cX5_commonDivisor 10 = .ok (.ifCond .ne 11, 3) := by decide +kernel
theorem dX5_commonDivisor_13 : decode cX5_commonDivisor 13 = .ok (.iload_n 1, 1) := by decide +kernel
theorem dX5_commonDivisor_14 : decode cX5_commonDivisor 14 = .ok (.iload_n 2, 1) := by decide +kernel
theorem dX5_commonDivisor_15 : decode cX5_commonDivisor 15 = .ok (.irem, 1) := by decide +kernel
theorem dX5_commonDivisor_16 : decode cX5_commonDivisor 16 = .ok (.ifCond .ne 5, 3) := by decide +kernel
theorem dX5_commonDivisor_19 : decode cX5_commonDivisor 19 = .ok (.iload_n 2, 1) := by decide +kernel
theorem dX5_commonDivisor_20 : decode cX5_commonDivisor 20 = .ok (.ireturn, 1) := by decide +kernel
theorem dX5_commonDivisor_21 : decode cX5_commonDivisor 21 = .ok (.iinc 2 (-1), 3) := by decide +kernel
theorem dX5_commonDivisor_24 : decode cX5_commonDivisor 24 = .ok (.goto (-22), 3) := by decide +kernel
theorem dX5_commonDivisor_27 : decode cX5_commonDivisor 27 = .ok (.iconst 1, 1) := by decide +kernel
theorem dX5_commonDivisor_28 : decode cX5_commonDivisor 28 = .ok (.ireturn, 1) := by decide +kernel
theorem dX5_law_0 : decode cX5_law 0 = .ok (.aload_n 0, 1) := by decide +kernel
theorem dX5_law_1 : decode cX5_law 1 = .ok (.getfield 28, 3) := by decide +kernel
theorem dX5_law_4 : decode cX5_law 4 = .ok (.aload_n 0, 1) := by decide +kernel
theorem dX5_law_5 : decode cX5_law 5 = .ok (.getfield 10, 3) := by decide +kernel
theorem dX5_law_8 : decode cX5_law 8 = .ok (.getfield 87, 3) := by decide +kernel
theorem dX5_law_11 : decode cX5_law 11 = .ok (.aaload, 1) := by decide +kernel
theorem dX5_law_12 : decode cX5_law 12 = .ok (.areturn, 1) := by decide +kernel
theorem dX5_readTape_0 : decode cX5_readTape 0 = .ok (.aload_n 0, 1) := by decide +kernel
theorem dX5_readTape_1 : decode cX5_readTape 1 = .ok (.getfield 83, 3) := by decide +kernel
theorem dX5_readTape_4 : decode cX5_readTape 4 = .ok (.bipush 6, 2) := by decide +kernel
theorem dX5_readTape_6 : decode cX5_readTape 6 = .ok (.if_icmp .lt 6, 3) := by decide +kernel
theorem dX5_readTape_9 : decode cX5_readTape 9 = .ok (.bipush (-4), 2) := by decide +kernel
theorem dX5_readTape_11 : decode cX5_readTape 11 = .ok (.ireturn, 1) := by decide +kernel
theorem dX5_readTape_12 : decode cX5_readTape 12 = .ok (.aload_n 0, 1) := by decide +kernel
theorem dX5_readTape_13 : decode cX5_readTape 13 = .ok (.getfield 22, 3) := by decide +kernel
theorem dX5_readTape_16 : decode cX5_readTape 16 = .ok (.aload_n 0, 1) := by decide +kernel
theorem dX5_readTape_17 : decode cX5_readTape 17 = .ok (.getfield 28, 3) := by decide +kernel
theorem dX5_readTape_20 : decode cX5_readTape 20 = .ok (.aload_n 0, 1) := by decide +kernel
theorem dX5_readTape_21 : decode cX5_readTape 21 = .ok (.getfield 83, 3) := by decide +kernel
theorem dX5_readTape_24 : decode cX5_readTape 24 = .ok (.aaload, 1) := by decide +kernel
theorem dX5_readTape_25 : decode cX5_readTape 25 = .ok (.invokevirtual 280, 3) := by decide +kernel
theorem dX5_readTape_28 : decode cX5_readTape 28 = .ok (.istore_n 1, 1) := by decide +kernel
theorem dX5_readTape_29 : decode cX5_readTape 29 = .ok (.aload_n 0, 1) := by decide +kernel
theorem dX5_readTape_30 : decode cX5_readTape 30 = .ok (.getfield 22, 3) := by decide +kernel
theorem dX5_readTape_33 : decode cX5_readTape 33 = .ok (.iconst 0, 1) := by decide +kernel
theorem dX5_readTape_34 : decode cX5_readTape 34 = .ok (.putfield 90, 3) := by decide +kernel
theorem dX5_readTape_37 : decode cX5_readTape 37 = .ok (.iload_n 1, 1) := by decide +kernel
theorem dX5_readTape_38 : decode cX5_readTape 38 = .ok (.ifCond .lt 8, 3) := by decide +kernel
theorem dX5_readTape_41 : decode cX5_readTape 41 = .ok (.bipush (-100), 2) := by decide +kernel
theorem dX5_readTape_43 : decode cX5_readTape 43 = .ok (.iload_n 1, 1) := by decide +kernel
theorem dX5_readTape_44 : decode cX5_readTape 44 = .ok (.isub, 1) := by decide +kernel
theorem dX5_readTape_45 : decode cX5_readTape 45 = .ok (.ireturn, 1) := by decide +kernel
theorem dX5_readTape_46 : decode cX5_readTape 46 = .ok (.aload_n 0, 1) := by decide +kernel
theorem dX5_readTape_47 : decode cX5_readTape 47 = .ok (.dup, 1) := by decide +kernel
theorem dX5_readTape_48 : decode cX5_readTape 48 = .ok (.getfield 83, 3) := by decide +kernel
theorem dX5_readTape_51 : decode cX5_readTape 51 = .ok (.dup_x1, 1) := by decide +kernel
theorem dX5_readTape_52 : decode cX5_readTape 52 = .ok (.iconst 1, 1) := by decide +kernel
theorem dX5_readTape_53 : decode cX5_readTape 53 = .ok (.iadd, 1) := by decide +kernel
theorem dX5_readTape_54 : decode cX5_readTape 54 = .ok (.putfield 83, 3) := by decide +kernel
theorem dX5_readTape_57 : decode cX5_readTape 57 = .ok (.ireturn, 1) := by decide +kernel
theorem dX5_drop_0 : decode cX5_drop 0 = .ok (.aload_n 0, 1) := by decide +kernel
theorem dX5_drop_1 : decode cX5_drop 1 = .ok (.getfield 35, 3) := by decide +kernel
theorem dX5_drop_4 : decode cX5_drop 4 = .ok (.aload_n 0, 1) := by decide +kernel
theorem dX5_drop_5 : decode cX5_drop 5 = .ok (.getfield 10, 3) := by decide +kernel
theorem dX5_drop_8 : decode cX5_drop 8 = .ok (.aload_n 0, 1) := by decide +kernel
theorem dX5_drop_9 : decode cX5_drop 9 = .ok (.invokevirtual 107, 3) := by decide +kernel
theorem dX5_drop_12 : decode cX5_drop 12 = .ok (.iload_n 1, 1) := by decide +kernel
theorem dX5_drop_13 : decode cX5_drop 13 = .ok (.invokestatic 143, 3) := by decide +kernel
theorem dX5_drop_16 : decode cX5_drop 16 = .ok (.lconst 0, 1) := by decide +kernel
theorem dX5_drop_17 : decode cX5_drop 17 = .ok (.iload_n 2, 1) := by decide +kernel
theorem dX5_drop_18 : decode cX5_drop 18 = .ok (.invokevirtual 182, 3) := by decide +kernel
theorem dX5_drop_21 : decode cX5_drop 21 = .ok (.ireturn, 1) := by decide +kernel
theorem dX5_dropPinned_0 : decode cX5_dropPinned 0 = .ok (.aload_n 0, 1) := by decide +kernel
theorem dX5_dropPinned_1 : decode cX5_dropPinned 1 = .ok (.getfield 35, 3) := by decide +kernel
theorem dX5_dropPinned_4 : decode cX5_dropPinned 4 = .ok (.aload_n 0, 1) := by decide +kernel
theorem dX5_dropPinned_5 : decode cX5_dropPinned 5 = .ok (.getfield 10, 3) := by decide +kernel
theorem dX5_dropPinned_8 : decode cX5_dropPinned 8 = .ok (.aload_n 0, 1) := by decide +kernel
theorem dX5_dropPinned_9 : decode cX5_dropPinned 9 = .ok (.invokevirtual 107, 3) := by decide +kernel
theorem dX5_dropPinned_12 : decode cX5_dropPinned 12 = .ok (.iload_n 1, 1) := by decide +kernel
theorem dX5_dropPinned_13 : decode cX5_dropPinned 13 = .ok (.invokestatic 143, 3) := by decide +kernel
theorem dX5_dropPinned_16 : decode cX5_dropPinned 16 = .ok (.lload_n 3, 1) := by decide +kernel
theorem dX5_dropPinned_17 : decode cX5_dropPinned 17 = .ok (.iload_n 2, 1) := by decide +kernel
theorem dX5_dropPinned_18 : decode cX5_dropPinned 18 = .ok (.invokevirtual 182, 3) := by decide +kernel
theorem dX5_dropPinned_21 : decode cX5_dropPinned 21 = .ok (.ireturn, 1) := by decide +kernel
theorem dX5_dropBoth_0 : decode cX5_dropBoth 0 = .ok (.iload_n 1, 1) := by decide +kernel
theorem dX5_dropBoth_1 : decode cX5_dropBoth 1 = .ok (.bipush 6, 2) := by decide +kernel
theorem dX5_dropBoth_3 : decode cX5_dropBoth 3 = .ok (.irem, 1) := by decide +kernel
theorem dX5_dropBoth_4 : decode cX5_dropBoth 4 = .ok (.iconst 2, 1) := by decide +kernel
theorem dX5_dropBoth_5 : decode cX5_dropBoth 5 = .ok (.idiv, 1) := by decide +kernel
theorem dX5_dropBoth_6 : decode cX5_dropBoth 6 = .ok (.iload_n 2, 1) := by decide +kernel
theorem dX5_dropBoth_7 : decode cX5_dropBoth 7 = .ok (.bipush 6, 2) := by decide +kernel
theorem dX5_dropBoth_9 : decode cX5_dropBoth 9 = .ok (.irem, 1) := by decide +kernel
theorem dX5_dropBoth_10 : decode cX5_dropBoth 10 = .ok (.iconst 2, 1) := by decide +kernel
theorem dX5_dropBoth_11 : decode cX5_dropBoth 11 = .ok (.idiv, 1) := by decide +kernel
theorem dX5_dropBoth_12 : decode cX5_dropBoth 12 = .ok (.if_icmp .eq 20, 3) := by decide +kernel
theorem dX5_dropBoth_15 : decode cX5_dropBoth 15 = .ok (.aload_n 0, 1) := by decide +kernel
theorem dX5_dropBoth_16 : decode cX5_dropBoth 16 = .ok (.getfield 45, 3) := by decide +kernel
theorem dX5_dropBoth_19 : decode cX5_dropBoth 19 = .ok (.iload_n 1, 1) := by decide +kernel
theorem dX5_dropBoth_20 : decode cX5_dropBoth 20 = .ok (.laload, 1) := by decide +kernel
theorem dX5_dropBoth_21 : decode cX5_dropBoth 21 = .ok (.aload_n 0, 1) := by decide +kernel
theorem dX5_dropBoth_22 : decode cX5_dropBoth 22 = .ok (.getfield 45, 3) := by decide +kernel
theorem dX5_dropBoth_25 : decode cX5_dropBoth 25 = .ok (.iload_n 2, 1) := by decide +kernel
theorem dX5_dropBoth_26 : decode cX5_dropBoth 26 = .ok (.laload, 1) := by decide +kernel
theorem dX5_dropBoth_27 : decode cX5_dropBoth 27 = .ok (.lor, 1) := by decide +kernel
theorem dX5_dropBoth_28 : decode cX5_dropBoth 28 = .ok (.invokestatic 74, 3) := by decide +kernel
theorem dX5_dropBoth_31 : decode cX5_dropBoth 31 = .ok (.ireturn, 1) := by decide +kernel
theorem dX5_dropBoth_32 : decode cX5_dropBoth 32 = .ok (.aload_n 0, 1) := by decide +kernel
theorem dX5_dropBoth_33 : decode cX5_dropBoth 33 = .ok (.getfield 35, 3) := by decide +kernel
theorem dX5_dropBoth_36 : decode cX5_dropBoth 36 = .ok (.aload_n 0, 1) := by decide +kernel
theorem dX5_dropBoth_37 : decode cX5_dropBoth 37 = .ok (.getfield 10, 3) := by decide +kernel
theorem dX5_dropBoth_40 : decode cX5_dropBoth 40 = .ok (.aload_n 0, 1) := by decide +kernel
theorem dX5_dropBoth_41 : decode cX5_dropBoth 41 = .ok (.invokevirtual 107, 3) := by decide +kernel
theorem dX5_dropBoth_44 : decode cX5_dropBoth 44 = .ok (.iload_n 1, 1) := by decide +kernel
theorem dX5_dropBoth_45 : decode cX5_dropBoth 45 = .ok (.invokestatic 143, 3) := by decide +kernel
theorem dX5_dropBoth_48 : decode cX5_dropBoth 48 = .ok (.iload_n 2, 1) := by decide +kernel
theorem dX5_dropBoth_49 : decode cX5_dropBoth 49 = .ok (.invokestatic 143, 3) := by decide +kernel
theorem dX5_dropBoth_52 : decode cX5_dropBoth 52 = .ok (.lor, 1) := by decide +kernel
theorem dX5_dropBoth_53 : decode cX5_dropBoth 53 = .ok (.lconst 0, 1) := by decide +kernel
theorem dX5_dropBoth_54 : decode cX5_dropBoth 54 = .ok (.iload_n 3, 1) := by decide +kernel
theorem dX5_dropBoth_55 : decode cX5_dropBoth 55 = .ok (.invokevirtual 182, 3) := by decide +kernel
theorem dX5_dropBoth_58 : decode cX5_dropBoth 58 = .ok (.ireturn, 1) := by decide +kernel
theorem dX5_lowestRow_0 : decode cX5_lowestRow 0 = .ok (.aload_n 0, 1) := by decide +kernel
theorem dX5_lowestRow_1 : decode cX5_lowestRow 1 = .ok (.getfield 35, 3) := by decide +kernel
theorem dX5_lowestRow_4 : decode cX5_lowestRow 4 = .ok (.getfield 167, 3) := by decide +kernel
theorem dX5_lowestRow_7 : decode cX5_lowestRow 7 = .ok (.lconst 0, 1) := by decide +kernel
theorem dX5_lowestRow_8 : decode cX5_lowestRow 8 = .ok (.lcmp, 1) := by decide +kernel
theorem dX5_lowestRow_9 : decode cX5_lowestRow 9 = .ok (.ifCond .ne 7, 3) := by decide +kernel
theorem dX5_lowestRow_12 : decode cX5_lowestRow 12 = .ok (.iconst (-1), 1) := by decide +kernel
theorem dX5_lowestRow_13 : decode cX5_lowestRow 13 = .ok (.goto 16, 3) := by decide +kernel
theorem dX5_lowestRow_16 : decode cX5_lowestRow 16 = .ok (.aload_n 0, 1) := by decide +kernel
theorem dX5_lowestRow_17 : decode cX5_lowestRow 17 = .ok (.getfield 35, 3) := by decide +kernel
theorem dX5_lowestRow_20 : decode cX5_lowestRow 20 = .ok (.getfield 167, 3) := by decide +kernel
theorem dX5_lowestRow_23 : decode cX5_lowestRow 23 = .ok (.invokestatic 284, 3) := by decide +kernel
theorem dX5_lowestRow_26 : decode cX5_lowestRow 26 = .ok (.bipush 6, 2) := by decide +kernel
theorem dX5_lowestRow_28 : decode cX5_lowestRow 28 = .ok (.idiv, 1) := by decide +kernel
theorem dX5_lowestRow_29 : decode cX5_lowestRow 29 = .ok (.ireturn, 1) := by decide +kernel
theorem dX5_together_0 : decode cX5_together 0 = .ok (.iconst 0, 1) := by decide +kernel
theorem dX5_together_1 : decode cX5_together 1 = .ok (.istore_n 2, 1) := by decide +kernel
theorem dX5_together_2 : decode cX5_together 2 = .ok (.iconst 0, 1) := by decide +kernel
theorem dX5_together_3 : decode cX5_together 3 = .ok (.istore_n 3, 1) := by decide +kernel
theorem dX5_together_4 : decode cX5_together 4 = .ok (.iload_n 3, 1) := by decide +kernel
theorem dX5_together_5 : decode cX5_together 5 = .ok (.bipush 48, 2) := by decide +kernel
theorem dX5_together_7 : decode cX5_together 7 = .ok (.if_icmp .ge 48, 3) := by decide +kernel
theorem dX5_together_10 : decode cX5_together 10 = .ok (.aload_n 0, 1) := by decide +kernel
theorem dX5_together_11 : decode cX5_together 11 = .ok (.getfield 35, 3) := by decide +kernel
theorem dX5_together_14 : decode cX5_together 14 = .ok (.getfield 167, 3) := by decide +kernel
theorem dX5_together_17 : decode cX5_together 17 = .ok (.iload_n 3, 1) := by decide +kernel
theorem dX5_together_18 : decode cX5_together 18 = .ok (.invokestatic 139, 3) := by decide +kernel
theorem dX5_together_21 : decode cX5_together 21 = .ok (.ifCond .eq 28, 3) := by decide +kernel
theorem dX5_together_24 : decode cX5_together 24 = .ok (.iload_n 2, 1) := by decide +kernel
theorem dX5_together_25 : decode cX5_together 25 = .ok (.aload_n 0, 1) := by decide +kernel
theorem dX5_together_26 : decode cX5_together 26 = .ok (.invokevirtual 107, 3) := by decide +kernel
theorem dX5_together_29 : decode cX5_together 29 = .ok (.iload_n 1, 1) := by decide +kernel
theorem dX5_together_30 : decode cX5_together 30 = .ok (.aload_n 0, 1) := by decide +kernel
theorem dX5_together_31 : decode cX5_together 31 = .ok (.getfield 10, 3) := by decide +kernel
theorem dX5_together_34 : decode cX5_together 34 = .ok (.iload_n 3, 1) := by decide +kernel
theorem dX5_together_35 : decode cX5_together 35 = .ok (.aload_n 0, 1) := by decide +kernel
theorem dX5_together_36 : decode cX5_together 36 = .ok (.getfield 35, 3) := by decide +kernel
theorem dX5_together_39 : decode cX5_together 39 = .ok (.getfield 179, 3) := by decide +kernel
theorem dX5_together_42 : decode cX5_together 42 = .ok (.iload_n 3, 1) := by decide +kernel
theorem dX5_together_43 : decode cX5_together 43 = .ok (.iaload, 1) := by decide +kernel
theorem dX5_together_44 : decode cX5_together 44 = .ok (.invokevirtual 110, 3) := by decide +kernel
theorem dX5_together_47 : decode cX5_together 47 = .ok (.iadd, 1) := by decide +kernel
theorem dX5_together_48 : decode cX5_together 48 = .ok (.istore_n 2, 1) := by decide +kernel
theorem dX5_together_49 : decode cX5_together 49 = .ok (.iinc 3 1, 3) := by decide +kernel
theorem dX5_together_52 : decode cX5_together 52 = .ok (.goto (-48), 3) := by decide +kernel
theorem dX5_together_55 : decode cX5_together 55 = .ok (.iload_n 2, 1) := by decide +kernel
theorem dX5_together_56 : decode cX5_together 56 = .ok (.ireturn, 1) := by decide +kernel
theorem dX5_hangingOn_0 : decode cX5_hangingOn 0 = .ok (.lconst 0, 1) := by decide +kernel
theorem dX5_hangingOn_1 : decode cX5_hangingOn 1 = .ok (.lstore_n 2, 1) := by decide +kernel
theorem dX5_hangingOn_2 : decode cX5_hangingOn 2 = .ok (.iload_n 1, 1) := by decide +kernel
theorem dX5_hangingOn_3 : decode cX5_hangingOn 3 = .ok (.iconst 1, 1) := by decide +kernel
theorem dX5_hangingOn_4 : decode cX5_hangingOn 4 = .ok (.iadd, 1) := by decide +kernel
theorem dX5_hangingOn_5 : decode cX5_hangingOn 5 = .ok (.istore 4, 2) := by decide +kernel
theorem dX5_hangingOn_7 : decode cX5_hangingOn 7 = .ok (.iload 4, 2) := by decide +kernel
theorem dX5_hangingOn_9 : decode cX5_hangingOn 9 = .ok (.bipush 48, 2) := by decide +kernel
theorem dX5_hangingOn_11 : decode cX5_hangingOn 11 = .ok (.if_icmp .ge 38, 3) := by decide +kernel
theorem dX5_hangingOn_14 : decode cX5_hangingOn 14 = .ok (.aload_n 0, 1) := by decide +kernel
theorem dX5_hangingOn_15 : decode cX5_hangingOn 15 = .ok (.getfield 10, 3) := by decide +kernel
theorem dX5_hangingOn_18 : decode cX5_hangingOn 18 = .ok (.iload 4, 2) := by decide +kernel
theorem dX5_hangingOn_20 : decode cX5_hangingOn 20 = .ok (.invokevirtual 287, 3) := by decide +kernel
theorem dX5_hangingOn_23 : decode cX5_hangingOn 23 = .ok (.lload_n 2, 1) := by decide +kernel
theorem dX5_hangingOn_24 : decode cX5_hangingOn 24 = .ok (.iload_n 1, 1) := by decide +kernel
theorem dX5_hangingOn_25 : decode cX5_hangingOn 25 = .ok (.invokestatic 143, 3) := by decide +kernel
theorem dX5_hangingOn_28 : decode cX5_hangingOn 28 = .ok (.lor, 1) := by decide +kernel
theorem dX5_hangingOn_29 : decode cX5_hangingOn 29 = .ok (.land, 1) := by decide +kernel
theorem dX5_hangingOn_30 : decode cX5_hangingOn 30 = .ok (.lconst 0, 1) := by decide +kernel
theorem dX5_hangingOn_31 : decode cX5_hangingOn 31 = .ok (.lcmp, 1) := by decide +kernel
theorem dX5_hangingOn_32 : decode cX5_hangingOn 32 = .ok (.ifCond .eq 11, 3) := by decide +kernel
theorem dX5_hangingOn_35 : decode cX5_hangingOn 35 = .ok (.lload_n 2, 1) := by decide +kernel
theorem dX5_hangingOn_36 : decode cX5_hangingOn 36 = .ok (.iload 4, 2) := by decide +kernel
theorem dX5_hangingOn_38 : decode cX5_hangingOn 38 = .ok (.invokestatic 143, 3) := by decide +kernel
theorem dX5_hangingOn_41 : decode cX5_hangingOn 41 = .ok (.lor, 1) := by decide +kernel
theorem dX5_hangingOn_42 : decode cX5_hangingOn 42 = .ok (.lstore_n 2, 1) := by decide +kernel
theorem dX5_hangingOn_43 : decode cX5_hangingOn 43 = .ok (.iinc 4 1, 3) := by decide +kernel
theorem dX5_hangingOn_46 : decode cX5_hangingOn 46 = .ok (.goto (-39), 3) := by decide +kernel
theorem dX5_hangingOn_49 : decode cX5_hangingOn 49 = .ok (.lload_n 2, 1) := by decide +kernel
theorem dX5_hangingOn_50 : decode cX5_hangingOn 50 = .ok (.lreturn, 1) := by decide +kernel
theorem dX5_bearing_0 : decode cX5_bearing 0 = .ok (.lconst 0, 1) := by decide +kernel
theorem dX5_bearing_1 : decode cX5_bearing 1 = .ok (.lstore_n 2, 1) := by decide +kernel
theorem dX5_bearing_2 : decode cX5_bearing 2 = .ok (.iload_n 1, 1) := by decide +kernel
theorem dX5_bearing_3 : decode cX5_bearing 3 = .ok (.iconst 1, 1) := by decide +kernel
theorem dX5_bearing_4 : decode cX5_bearing 4 = .ok (.isub, 1) := by decide +kernel
theorem dX5_bearing_5 : decode cX5_bearing 5 = .ok (.istore 4, 2) := by decide +kernel
theorem dX5_bearing_7 : decode cX5_bearing 7 = .ok (.iload 4, 2) := by decide +kernel
theorem dX5_bearing_9 : decode cX5_bearing 9 = .ok (.ifCond .lt 38, 3) := by decide +kernel
theorem dX5_bearing_12 : decode cX5_bearing 12 = .ok (.aload_n 0, 1) := by decide +kernel
theorem dX5_bearing_13 : decode cX5_bearing 13 = .ok (.getfield 10, 3) := by decide +kernel
theorem dX5_bearing_16 : decode cX5_bearing 16 = .ok (.iload 4, 2) := by decide +kernel
theorem dX5_bearing_18 : decode cX5_bearing 18 = .ok (.invokevirtual 151, 3) := by decide +kernel
theorem dX5_bearing_21 : decode cX5_bearing 21 = .ok (.lload_n 2, 1) := by decide +kernel
theorem dX5_bearing_22 : decode cX5_bearing 22 = .ok (.iload_n 1, 1) := by decide +kernel
theorem dX5_bearing_23 : decode cX5_bearing 23 = .ok (.invokestatic 143, 3) := by decide +kernel
theorem dX5_bearing_26 : decode cX5_bearing 26 = .ok (.lor, 1) := by decide +kernel
theorem dX5_bearing_27 : decode cX5_bearing 27 = .ok (.land, 1) := by decide +kernel
theorem dX5_bearing_28 : decode cX5_bearing 28 = .ok (.lconst 0, 1) := by decide +kernel
theorem dX5_bearing_29 : decode cX5_bearing 29 = .ok (.lcmp, 1) := by decide +kernel
theorem dX5_bearing_30 : decode cX5_bearing 30 = .ok (.ifCond .eq 11, 3) := by decide +kernel
theorem dX5_bearing_33 : decode cX5_bearing 33 = .ok (.lload_n 2, 1) := by decide +kernel
theorem dX5_bearing_34 : decode cX5_bearing 34 = .ok (.iload 4, 2) := by decide +kernel
theorem dX5_bearing_36 : decode cX5_bearing 36 = .ok (.invokestatic 143, 3) := by decide +kernel
theorem dX5_bearing_39 : decode cX5_bearing 39 = .ok (.lor, 1) := by decide +kernel
theorem dX5_bearing_40 : decode cX5_bearing 40 = .ok (.lstore_n 2, 1) := by decide +kernel
theorem dX5_bearing_41 : decode cX5_bearing 41 = .ok (.iinc 4 (-1), 3) := by decide +kernel
theorem dX5_bearing_44 : decode cX5_bearing 44 = .ok (.goto (-37), 3) := by decide +kernel
theorem dX5_bearing_47 : decode cX5_bearing 47 = .ok (.lload_n 2, 1) := by decide +kernel
theorem dX5_bearing_48 : decode cX5_bearing 48 = .ok (.lreturn, 1) := by decide +kernel
theorem dX5_borneOf_0 : decode cX5_borneOf 0 = .ok (.iconst 0, 1) := by decide +kernel
theorem dX5_borneOf_1 : decode cX5_borneOf 1 = .ok (.istore_n 2, 1) := by decide +kernel
theorem dX5_borneOf_2 : decode cX5_borneOf 2 = .ok (.iconst 0, 1) := by decide +kernel
theorem dX5_borneOf_3 : decode cX5_borneOf 3 = .ok (.istore_n 3, 1) := by decide +kernel
theorem dX5_borneOf_4 : decode cX5_borneOf 4 = .ok (.iload_n 3, 1) := by decide +kernel
theorem dX5_borneOf_5 : decode cX5_borneOf 5 = .ok (.bipush 6, 2) := by decide +kernel
theorem dX5_borneOf_7 : decode cX5_borneOf 7 = .ok (.if_icmp .ge 30, 3) := by decide +kernel
theorem dX5_borneOf_10 : decode cX5_borneOf 10 = .ok (.aload_n 0, 1) := by decide +kernel
theorem dX5_borneOf_11 : decode cX5_borneOf 11 = .ok (.getfield 10, 3) := by decide +kernel
theorem dX5_borneOf_14 : decode cX5_borneOf 14 = .ok (.iload_n 1, 1) := by decide +kernel
theorem dX5_borneOf_15 : decode cX5_borneOf 15 = .ok (.bipush 6, 2) := by decide +kernel
theorem dX5_borneOf_17 : decode cX5_borneOf 17 = .ok (.imul, 1) := by decide +kernel
theorem dX5_borneOf_18 : decode cX5_borneOf 18 = .ok (.iload_n 3, 1) := by decide +kernel
theorem dX5_borneOf_19 : decode cX5_borneOf 19 = .ok (.iadd, 1) := by decide +kernel
theorem dX5_borneOf_20 : decode cX5_borneOf 20 = .ok (.invokevirtual 151, 3) := by decide +kernel
theorem dX5_borneOf_23 : decode cX5_borneOf 23 = .ok (.lconst 0, 1) := by decide +kernel
theorem dX5_borneOf_24 : decode cX5_borneOf 24 = .ok (.lcmp, 1) := by decide +kernel
theorem dX5_borneOf_25 : decode cX5_borneOf 25 = .ok (.ifCond .eq 6, 3) := by decide +kernel
theorem dX5_borneOf_28 : decode cX5_borneOf 28 = .ok (.iinc 2 1, 3) := by decide +kernel
theorem dX5_borneOf_31 : decode cX5_borneOf 31 = .ok (.iinc 3 1, 3) := by decide +kernel
theorem dX5_borneOf_34 : decode cX5_borneOf 34 = .ok (.goto (-30), 3) := by decide +kernel
theorem dX5_borneOf_37 : decode cX5_borneOf 37 = .ok (.iload_n 2, 1) := by decide +kernel
theorem dX5_borneOf_38 : decode cX5_borneOf 38 = .ok (.ireturn, 1) := by decide +kernel
theorem dX5_placesUnder_0 : decode cX5_placesUnder 0 = .ok (.iload_n 1, 1) := by decide +kernel
theorem dX5_placesUnder_1 : decode cX5_placesUnder 1 = .ok (.ifCond .ne 5, 3) := by decide +kernel
theorem dX5_placesUnder_4 : decode cX5_placesUnder 4 = .ok (.iconst 0, 1) := by decide +kernel
theorem dX5_placesUnder_5 : decode cX5_placesUnder 5 = .ok (.ireturn, 1) := by decide +kernel
theorem dX5_placesUnder_6 : decode cX5_placesUnder 6 = .ok (.iconst 0, 1) := by decide +kernel
theorem dX5_placesUnder_7 : decode cX5_placesUnder 7 = .ok (.istore_n 2, 1) := by decide +kernel
theorem dX5_placesUnder_8 : decode cX5_placesUnder 8 = .ok (.iconst 0, 1) := by decide +kernel
theorem dX5_placesUnder_9 : decode cX5_placesUnder 9 = .ok (.istore_n 3, 1) := by decide +kernel
theorem dX5_placesUnder_10 : decode cX5_placesUnder 10 = .ok (.iload_n 3, 1) := by decide +kernel
theorem dX5_placesUnder_11 : decode cX5_placesUnder 11 = .ok (.bipush 6, 2) := by decide +kernel
theorem dX5_placesUnder_13 : decode cX5_placesUnder 13 = .ok (.if_icmp .ge 25, 3) := by decide +kernel
theorem dX5_placesUnder_16 : decode cX5_placesUnder 16 = .ok (.iload_n 2, 1) := by decide +kernel
theorem dX5_placesUnder_17 : decode cX5_placesUnder 17 = .ok (.aload_n 0, 1) := by decide +kernel
theorem dX5_placesUnder_18 : decode cX5_placesUnder 18 = .ok (.getfield 10, 3) := by decide +kernel
theorem dX5_placesUnder_21 : decode cX5_placesUnder 21 = .ok (.iload_n 1, 1) := by decide +kernel
theorem dX5_placesUnder_22 : decode cX5_placesUnder 22 = .ok (.bipush 6, 2) := by decide +kernel
theorem dX5_placesUnder_24 : decode cX5_placesUnder 24 = .ok (.imul, 1) := by decide +kernel
theorem dX5_placesUnder_25 : decode cX5_placesUnder 25 = .ok (.iload_n 3, 1) := by decide +kernel
theorem dX5_placesUnder_26 : decode cX5_placesUnder 26 = .ok (.iadd, 1) := by decide +kernel
theorem dX5_placesUnder_27 : decode cX5_placesUnder 27 = .ok (.invokevirtual 132, 3) := by decide +kernel
theorem dX5_placesUnder_30 : decode cX5_placesUnder 30 = .ok (.ior, 1) := by decide +kernel
theorem dX5_placesUnder_31 : decode cX5_placesUnder 31 = .ok (.istore_n 2, 1) := by decide +kernel
theorem dX5_placesUnder_32 : decode cX5_placesUnder 32 = .ok (.iinc 3 1, 3) := by decide +kernel
theorem dX5_placesUnder_35 : decode cX5_placesUnder 35 = .ok (.goto (-25), 3) := by decide +kernel
theorem dX5_placesUnder_38 : decode cX5_placesUnder 38 = .ok (.iload_n 2, 1) := by decide +kernel
theorem dX5_placesUnder_39 : decode cX5_placesUnder 39 = .ok (.invokestatic 290, 3) := by decide +kernel
theorem dX5_placesUnder_42 : decode cX5_placesUnder 42 = .ok (.ireturn, 1) := by decide +kernel
theorem dX5_unevenOf_0 : decode cX5_unevenOf 0 = .ok (.iconst 0, 1) := by decide +kernel
theorem dX5_unevenOf_1 : decode cX5_unevenOf 1 = .ok (.istore_n 2, 1) := by decide +kernel
theorem dX5_unevenOf_2 : decode cX5_unevenOf 2 = .ok (.iconst 0, 1) := by decide +kernel
theorem dX5_unevenOf_3 : decode cX5_unevenOf 3 = .ok (.istore_n 3, 1) := by decide +kernel
theorem dX5_unevenOf_4 : decode cX5_unevenOf 4 = .ok (.iload_n 3, 1) := by decide +kernel
theorem dX5_unevenOf_5 : decode cX5_unevenOf 5 = .ok (.bipush 6, 2) := by decide +kernel
theorem dX5_unevenOf_7 : decode cX5_unevenOf 7 = .ok (.if_icmp .ge 32, 3) := by decide +kernel
theorem dX5_unevenOf_10 : decode cX5_unevenOf 10 = .ok (.aload_n 0, 1) := by decide +kernel
theorem dX5_unevenOf_11 : decode cX5_unevenOf 11 = .ok (.getfield 10, 3) := by decide +kernel
theorem dX5_unevenOf_14 : decode cX5_unevenOf 14 = .ok (.iload_n 1, 1) := by decide +kernel
theorem dX5_unevenOf_15 : decode cX5_unevenOf 15 = .ok (.bipush 6, 2) := by decide +kernel
theorem dX5_unevenOf_17 : decode cX5_unevenOf 17 = .ok (.imul, 1) := by decide +kernel
theorem dX5_unevenOf_18 : decode cX5_unevenOf 18 = .ok (.iload_n 3, 1) := by decide +kernel
theorem dX5_unevenOf_19 : decode cX5_unevenOf 19 = .ok (.iadd, 1) := by decide +kernel
theorem dX5_unevenOf_20 : decode cX5_unevenOf 20 = .ok (.invokevirtual 132, 3) := by decide +kernel
theorem dX5_unevenOf_23 : decode cX5_unevenOf 23 = .ok (.invokestatic 290, 3) := by decide +kernel
theorem dX5_unevenOf_26 : decode cX5_unevenOf 26 = .ok (.iconst 1, 1) := by decide +kernel
theorem dX5_unevenOf_27 : decode cX5_unevenOf 27 = .ok (.if_icmp .eq 6, 3) := by decide +kernel
theorem dX5_unevenOf_30 : decode cX5_unevenOf 30 = .ok (.iinc 2 1, 3) := by decide +kernel
theorem dX5_unevenOf_33 : decode cX5_unevenOf 33 = .ok (.iinc 3 1, 3) := by decide +kernel
theorem dX5_unevenOf_36 : decode cX5_unevenOf 36 = .ok (.goto (-32), 3) := by decide +kernel
theorem dX5_unevenOf_39 : decode cX5_unevenOf 39 = .ok (.iload_n 2, 1) := by decide +kernel
theorem dX5_unevenOf_40 : decode cX5_unevenOf 40 = .ok (.ireturn, 1) := by decide +kernel
theorem dX5_pinnedPlaces_0 : decode cX5_pinnedPlaces 0 = .ok (.iconst 0, 1) := by decide +kernel
theorem dX5_pinnedPlaces_1 : decode cX5_pinnedPlaces 1 = .ok (.istore_n 2, 1) := by decide +kernel
theorem dX5_pinnedPlaces_2 : decode cX5_pinnedPlaces 2 = .ok (.iconst 0, 1) := by decide +kernel
theorem dX5_pinnedPlaces_3 : decode cX5_pinnedPlaces 3 = .ok (.istore_n 3, 1) := by decide +kernel
theorem dX5_pinnedPlaces_4 : decode cX5_pinnedPlaces 4 = .ok (.iload_n 3, 1) := by decide +kernel
theorem dX5_pinnedPlaces_5 : decode cX5_pinnedPlaces 5 = .ok (.bipush 6, 2) := by decide +kernel
theorem dX5_pinnedPlaces_7 : decode cX5_pinnedPlaces 7 = .ok (.if_icmp .ge 34, 3) := by decide +kernel
theorem dX5_pinnedPlaces_10 : decode cX5_pinnedPlaces 10 = .ok (.aload_n 0, 1) := by decide +kernel
theorem dX5_pinnedPlaces_11 : decode cX5_pinnedPlaces 11 = .ok (.getfield 10, 3) := by decide +kernel
theorem dX5_pinnedPlaces_14 : decode cX5_pinnedPlaces 14 = .ok (.getfield 70, 3) := by decide +kernel
theorem dX5_pinnedPlaces_17 : decode cX5_pinnedPlaces 17 = .ok (.iload_n 1, 1) := by decide +kernel
theorem dX5_pinnedPlaces_18 : decode cX5_pinnedPlaces 18 = .ok (.bipush 6, 2) := by decide +kernel
theorem dX5_pinnedPlaces_20 : decode cX5_pinnedPlaces 20 = .ok (.imul, 1) := by decide +kernel
theorem dX5_pinnedPlaces_21 : decode cX5_pinnedPlaces 21 = .ok (.iload_n 3, 1) := by decide +kernel
theorem dX5_pinnedPlaces_22 : decode cX5_pinnedPlaces 22 = .ok (.iadd, 1) := by decide +kernel
theorem dX5_pinnedPlaces_23 : decode cX5_pinnedPlaces 23 = .ok (.invokestatic 139, 3) := by decide +kernel
theorem dX5_pinnedPlaces_26 : decode cX5_pinnedPlaces 26 = .ok (.ifCond .eq 9, 3) := by decide +kernel
theorem dX5_pinnedPlaces_29 : decode cX5_pinnedPlaces 29 = .ok (.iload_n 2, 1) := by decide +kernel
theorem dX5_pinnedPlaces_30 : decode cX5_pinnedPlaces 30 = .ok (.iconst 1, 1) := by decide +kernel
theorem dX5_pinnedPlaces_31 : decode cX5_pinnedPlaces 31 = .ok (.iload_n 3, 1) := by decide +kernel
theorem dX5_pinnedPlaces_32 : decode cX5_pinnedPlaces 32 = .ok (.ishl, 1) := by decide +kernel
theorem dX5_pinnedPlaces_33 : decode cX5_pinnedPlaces 33 = .ok (.ior, 1) := by decide +kernel
theorem dX5_pinnedPlaces_34 : decode cX5_pinnedPlaces 34 = .ok (.istore_n 2, 1) := by decide +kernel
theorem dX5_pinnedPlaces_35 : decode cX5_pinnedPlaces 35 = .ok (.iinc 3 1, 3) := by decide +kernel
theorem dX5_pinnedPlaces_38 : decode cX5_pinnedPlaces 38 = .ok (.goto (-34), 3) := by decide +kernel
theorem dX5_pinnedPlaces_41 : decode cX5_pinnedPlaces 41 = .ok (.iload_n 2, 1) := by decide +kernel
theorem dX5_pinnedPlaces_42 : decode cX5_pinnedPlaces 42 = .ok (.ireturn, 1) := by decide +kernel
theorem dX5_isUnlikeThoseBeside_0 : decode cX5_isUnlikeThoseBeside 0 = .ok (.aload_n 0, 1) := by decide +kernel
theorem dX5_isUnlikeThoseBeside_1 : decode cX5_isUnlikeThoseBeside 1 = .ok (.getfield 10, 3) := by decide +kernel
theorem dX5_isUnlikeThoseBeside_4 : decode cX5_isUnlikeThoseBeside 4 = .ok (.getfield 118, 3) := by decide +kernel
theorem dX5_isUnlikeThoseBeside_7 : decode cX5_isUnlikeThoseBeside 7 = .ok (.iload_n 1, 1) := by decide +kernel
theorem dX5_isUnlikeThoseBeside_8 : decode cX5_isUnlikeThoseBeside 8 = .ok (.iaload, 1) := by decide +kernel
theorem dX5_isUnlikeThoseBeside_9 : decode cX5_isUnlikeThoseBeside 9 = .ok (.invokestatic 136, 3) := by decide +kernel
theorem dX5_isUnlikeThoseBeside_12 : decode cX5_isUnlikeThoseBeside 12 = .ok (.istore_n 2, 1) := by decide +kernel
theorem dX5_isUnlikeThoseBeside_13 : decode cX5_isUnlikeThoseBeside 13 = .ok (.iload_n 1, 1) := by decide +kernel
theorem dX5_isUnlikeThoseBeside_14 : decode cX5_isUnlikeThoseBeside 14 = .ok (.bipush 6, 2) := by decide +kernel
theorem dX5_isUnlikeThoseBeside_16 : decode cX5_isUnlikeThoseBeside 16 = .ok (.irem, 1) := by decide +kernel
theorem dX5_isUnlikeThoseBeside_17 : decode cX5_isUnlikeThoseBeside 17 = .ok (.istore_n 3, 1) := by decide +kernel
theorem dX5_isUnlikeThoseBeside_18 : decode cX5_isUnlikeThoseBeside 18 = .ok (.iload_n 3, 1) := by decide +kernel
theorem dX5_isUnlikeThoseBeside_19 : decode cX5_isUnlikeThoseBeside 19 = .ok (.ifCond .le 23, 3) := by decide +kernel
theorem dX5_isUnlikeThoseBeside_22 : decode cX5_isUnlikeThoseBeside 22 = .ok (.aload_n 0, 1) := by decide +kernel
theorem dX5_isUnlikeThoseBeside_23 : decode cX5_isUnlikeThoseBeside 23 = .ok (.getfield 10, 3) := by decide +kernel
theorem dX5_isUnlikeThoseBeside_26 : decode cX5_isUnlikeThoseBeside 26 = .ok (.getfield 118, 3) := by decide +kernel
theorem dX5_isUnlikeThoseBeside_29 : decode cX5_isUnlikeThoseBeside 29 = .ok (.iload_n 1, 1) := by decide +kernel
theorem dX5_isUnlikeThoseBeside_30 : decode cX5_isUnlikeThoseBeside 30 = .ok (.iconst 1, 1) := by decide +kernel
theorem dX5_isUnlikeThoseBeside_31 : decode cX5_isUnlikeThoseBeside 31 = .ok (.isub, 1) := by decide +kernel
theorem dX5_isUnlikeThoseBeside_32 : decode cX5_isUnlikeThoseBeside 32 = .ok (.iaload, 1) := by decide +kernel
theorem dX5_isUnlikeThoseBeside_33 : decode cX5_isUnlikeThoseBeside 33 = .ok (.invokestatic 136, 3) := by decide +kernel
theorem dX5_isUnlikeThoseBeside_36 : decode cX5_isUnlikeThoseBeside 36 = .ok (.iload_n 2, 1) := by decide +kernel
theorem dX5_isUnlikeThoseBeside_37 : decode cX5_isUnlikeThoseBeside 37 = .ok (.if_icmp .ne 5, 3) := by decide +kernel
theorem dX5_isUnlikeThoseBeside_40 : decode cX5_isUnlikeThoseBeside 40 = .ok (.iconst 0, 1) := by decide +kernel
theorem dX5_isUnlikeThoseBeside_41 : decode cX5_isUnlikeThoseBeside 41 = .ok (.ireturn, 1) := by decide +kernel
theorem dX5_isUnlikeThoseBeside_42 : decode cX5_isUnlikeThoseBeside 42 = .ok (.iload_n 3, 1) := by decide +kernel
theorem dX5_isUnlikeThoseBeside_43 : decode cX5_isUnlikeThoseBeside 43 = .ok (.iconst 5, 1) := by decide +kernel
theorem dX5_isUnlikeThoseBeside_44 : decode cX5_isUnlikeThoseBeside 44 = .ok (.if_icmp .eq 21, 3) := by decide +kernel
theorem dX5_isUnlikeThoseBeside_47 : decode cX5_isUnlikeThoseBeside 47 = .ok (.aload_n 0, 1) := by decide +kernel
theorem dX5_isUnlikeThoseBeside_48 : decode cX5_isUnlikeThoseBeside 48 = .ok (.getfield 10, 3) := by decide +kernel
theorem dX5_isUnlikeThoseBeside_51 : decode cX5_isUnlikeThoseBeside 51 = .ok (.getfield 118, 3) := by decide +kernel
theorem dX5_isUnlikeThoseBeside_54 : decode cX5_isUnlikeThoseBeside 54 = .ok (.iload_n 1, 1) := by decide +kernel
theorem dX5_isUnlikeThoseBeside_55 : decode cX5_isUnlikeThoseBeside 55 = .ok (.iconst 1, 1) := by decide +kernel
theorem dX5_isUnlikeThoseBeside_56 : decode cX5_isUnlikeThoseBeside 56 = .ok (.iadd, 1) := by decide +kernel
theorem dX5_isUnlikeThoseBeside_57 : decode cX5_isUnlikeThoseBeside 57 = .ok (.iaload, 1) := by decide +kernel
theorem dX5_isUnlikeThoseBeside_58 : decode cX5_isUnlikeThoseBeside 58 = .ok (.invokestatic 136, 3) := by decide +kernel
theorem dX5_isUnlikeThoseBeside_61 : decode cX5_isUnlikeThoseBeside 61 = .ok (.iload_n 2, 1) := by decide +kernel
theorem dX5_isUnlikeThoseBeside_62 : decode cX5_isUnlikeThoseBeside 62 = .ok (.if_icmp .eq 7, 3) := by decide +kernel
theorem dX5_isUnlikeThoseBeside_65 : decode cX5_isUnlikeThoseBeside 65 = .ok (.iconst 1, 1) := by decide +kernel
theorem dX5_isUnlikeThoseBeside_66 : decode cX5_isUnlikeThoseBeside 66 = .ok (.goto 4, 3) := by decide +kernel
theorem dX5_isUnlikeThoseBeside_69 : decode cX5_isUnlikeThoseBeside 69 = .ok (.iconst 0, 1) := by decide +kernel
theorem dX5_isUnlikeThoseBeside_70 : decode cX5_isUnlikeThoseBeside 70 = .ok (.ireturn, 1) := by decide +kernel
theorem dX5_missed_0 : decode cX5_missed 0 = .ok (.iload_n 1, 1) := by decide +kernel
theorem dX5_missed_1 : decode cX5_missed 1 = .ok (.iconst 1, 1) := by decide +kernel
theorem dX5_missed_2 : decode cX5_missed 2 = .ok (.iadd, 1) := by decide +kernel
theorem dX5_missed_3 : decode cX5_missed 3 = .ok (.i2l, 1) := by decide +kernel
theorem dX5_missed_4 : decode cX5_missed 4 = .ok (.ldc2_w 294, 3) := by decide +kernel
theorem dX5_missed_7 : decode cX5_missed 7 = .ok (.lmul, 1) := by decide +kernel
theorem dX5_missed_8 : decode cX5_missed 8 = .ok (.ldc2_w 296, 3) := by decide +kernel
theorem dX5_missed_11 : decode cX5_missed 11 = .ok (.lrem, 1) := by decide +kernel
theorem dX5_missed_12 : decode cX5_missed 12 = .ok (.lstore_n 3, 1) := by decide +kernel
theorem dX5_missed_13 : decode cX5_missed 13 = .ok (.iconst 0, 1) := by decide +kernel
theorem dX5_missed_14 : decode cX5_missed 14 = .ok (.istore 5, 2) := by decide +kernel
theorem dX5_missed_16 : decode cX5_missed 16 = .ok (.iconst 0, 1) := by decide +kernel
theorem dX5_missed_17 : decode cX5_missed 17 = .ok (.istore 6, 2) := by decide +kernel
theorem dX5_missed_19 : decode cX5_missed 19 = .ok (.iload 6, 2) := by decide +kernel
theorem dX5_missed_21 : decode cX5_missed 21 = .ok (.bipush 48, 2) := by decide +kernel
theorem dX5_missed_23 : decode cX5_missed 23 = .ok (.if_icmp .ge 48, 3) := by decide +kernel
theorem dX5_missed_26 : decode cX5_missed 26 = .ok (.aload_n 0, 1) := by decide +kernel
theorem dX5_missed_27 : decode cX5_missed 27 = .ok (.getfield 35, 3) := by decide +kernel
theorem dX5_missed_30 : decode cX5_missed 30 = .ok (.getfield 167, 3) := by decide +kernel
theorem dX5_missed_33 : decode cX5_missed 33 = .ok (.iload 6, 2) := by decide +kernel
theorem dX5_missed_35 : decode cX5_missed 35 = .ok (.invokestatic 139, 3) := by decide +kernel
theorem dX5_missed_38 : decode cX5_missed 38 = .ok (.ifCond .eq 27, 3) := by decide +kernel
theorem dX5_missed_41 : decode cX5_missed 41 = .ok (.lload_n 3, 1) := by decide +kernel
theorem dX5_missed_42 : decode cX5_missed 42 = .ok (.ldc2_w 298, 3) := by decide +kernel
theorem dX5_missed_45 : decode cX5_missed 45 = .ok (.lrem, 1) := by decide +kernel
theorem dX5_missed_46 : decode cX5_missed 46 = .ok (.iload_n 2, 1) := by decide +kernel
theorem dX5_missed_47 : decode cX5_missed 47 = .ok (.i2l, 1) := by decide +kernel
theorem dX5_missed_48 : decode cX5_missed 48 = .ok (.lcmp, 1) := by decide +kernel
theorem dX5_missed_49 : decode cX5_missed 49 = .ok (.ifCond .ge 6, 3) := by decide +kernel
theorem dX5_missed_52 : decode cX5_missed 52 = .ok (.iinc 5 1, 3) := by decide +kernel
theorem dX5_missed_55 : decode cX5_missed 55 = .ok (.lload_n 3, 1) := by decide +kernel
theorem dX5_missed_56 : decode cX5_missed 56 = .ok (.ldc2_w 294, 3) := by decide +kernel
theorem dX5_missed_59 : decode cX5_missed 59 = .ok (.lmul, 1) := by decide +kernel
theorem dX5_missed_60 : decode cX5_missed 60 = .ok (.ldc2_w 296, 3) := by decide +kernel
theorem dX5_missed_63 : decode cX5_missed 63 = .ok (.lrem, 1) := by decide +kernel
theorem dX5_missed_64 : decode cX5_missed 64 = .ok (.lstore_n 3, 1) := by decide +kernel
theorem dX5_missed_65 : decode cX5_missed 65 = .ok (.iinc 6 1, 3) := by decide +kernel
theorem dX5_missed_68 : decode cX5_missed 68 = .ok (.goto (-49), 3) := by decide +kernel
theorem dX5_missed_71 : decode cX5_missed 71 = .ok (.iload 5, 2) := by decide +kernel
theorem dX5_missed_73 : decode cX5_missed 73 = .ok (.ireturn, 1) := by decide +kernel
theorem dX5_sheetRefusal_0 : decode cX5_sheetRefusal 0 = .ok (.iload_n 1, 1) := by decide +kernel
theorem dX5_sheetRefusal_1 : decode cX5_sheetRefusal 1 = .ok (.invokestatic 222, 3) := by decide +kernel
theorem dX5_sheetRefusal_4 : decode cX5_sheetRefusal 4 = .ok (.ifCond .ne 6, 3) := by decide +kernel
theorem dX5_sheetRefusal_7 : decode cX5_sheetRefusal 7 = .ok (.bipush (-2), 2) := by decide +kernel
theorem dX5_sheetRefusal_9 : decode cX5_sheetRefusal 9 = .ok (.ireturn, 1) := by decide +kernel
theorem dX5_sheetRefusal_10 : decode cX5_sheetRefusal 10 = .ok (.aload_n 0, 1) := by decide +kernel
theorem dX5_sheetRefusal_11 : decode cX5_sheetRefusal 11 = .ok (.getfield 41, 3) := by decide +kernel
theorem dX5_sheetRefusal_14 : decode cX5_sheetRefusal 14 = .ok (.iload_n 1, 1) := by decide +kernel
theorem dX5_sheetRefusal_15 : decode cX5_sheetRefusal 15 = .ok (.aaload, 1) := by decide +kernel
theorem dX5_sheetRefusal_16 : decode cX5_sheetRefusal 16 = .ok (.invokevirtual 246, 3) := by decide +kernel
theorem dX5_sheetRefusal_19 : decode cX5_sheetRefusal 19 = .ok (.ifCond .eq 6, 3) := by decide +kernel
theorem dX5_sheetRefusal_22 : decode cX5_sheetRefusal 22 = .ok (.bipush (-11), 2) := by decide +kernel
theorem dX5_sheetRefusal_24 : decode cX5_sheetRefusal 24 = .ok (.ireturn, 1) := by decide +kernel
theorem dX5_sheetRefusal_25 : decode cX5_sheetRefusal 25 = .ok (.aload_n 0, 1) := by decide +kernel
theorem dX5_sheetRefusal_26 : decode cX5_sheetRefusal 26 = .ok (.getfield 41, 3) := by decide +kernel
theorem dX5_sheetRefusal_29 : decode cX5_sheetRefusal 29 = .ok (.iload_n 1, 1) := by decide +kernel
theorem dX5_sheetRefusal_30 : decode cX5_sheetRefusal 30 = .ok (.aaload, 1) := by decide +kernel
theorem dX5_sheetRefusal_31 : decode cX5_sheetRefusal 31 = .ok (.getfield 250, 3) := by decide +kernel
theorem dX5_sheetRefusal_34 : decode cX5_sheetRefusal 34 = .ok (.iload_n 2, 1) := by decide +kernel
theorem dX5_sheetRefusal_35 : decode cX5_sheetRefusal 35 = .ok (.if_icmp .ne 7, 3) := by decide +kernel
theorem dX5_sheetRefusal_38 : decode cX5_sheetRefusal 38 = .ok (.iconst 0, 1) := by decide +kernel
theorem dX5_sheetRefusal_39 : decode cX5_sheetRefusal 39 = .ok (.goto 5, 3) := by decide +kernel
theorem dX5_sheetRefusal_42 : decode cX5_sheetRefusal 42 = .ok (.bipush (-2), 2) := by decide +kernel
theorem dX5_sheetRefusal_44 : decode cX5_sheetRefusal 44 = .ok (.ireturn, 1) := by decide +kernel
theorem dX5_ragRefusal_0 : decode cX5_ragRefusal 0 = .ok (.aload_n 0, 1) := by decide +kernel
theorem dX5_ragRefusal_1 : decode cX5_ragRefusal 1 = .ok (.iload_n 1, 1) := by decide +kernel
theorem dX5_ragRefusal_2 : decode cX5_ragRefusal 2 = .ok (.bipush 48, 2) := by decide +kernel
theorem dX5_ragRefusal_4 : decode cX5_ragRefusal 4 = .ok (.invokevirtual 199, 3) := by decide +kernel
theorem dX5_ragRefusal_7 : decode cX5_ragRefusal 7 = .ok (.istore_n 3, 1) := by decide +kernel
theorem dX5_ragRefusal_8 : decode cX5_ragRefusal 8 = .ok (.iload_n 3, 1) := by decide +kernel
theorem dX5_ragRefusal_9 : decode cX5_ragRefusal 9 = .ok (.ifCond .eq 5, 3) := by decide +kernel
theorem dX5_ragRefusal_12 : decode cX5_ragRefusal 12 = .ok (.iload_n 3, 1) := by decide +kernel
theorem dX5_ragRefusal_13 : decode cX5_ragRefusal 13 = .ok (.ireturn, 1) := by decide +kernel
theorem dX5_ragRefusal_14 : decode cX5_ragRefusal 14 = .ok (.iload_n 2, 1) := by decide +kernel
theorem dX5_ragRefusal_15 : decode cX5_ragRefusal 15 = .ok (.invokestatic 101, 3) := by decide +kernel
theorem dX5_ragRefusal_18 : decode cX5_ragRefusal 18 = .ok (.ifCond .eq 7, 3) := by decide +kernel
theorem dX5_ragRefusal_21 : decode cX5_ragRefusal 21 = .ok (.iconst 0, 1) := by decide +kernel
theorem dX5_ragRefusal_22 : decode cX5_ragRefusal 22 = .ok (.goto 5, 3) := by decide +kernel
theorem dX5_ragRefusal_25 : decode cX5_ragRefusal 25 = .ok (.bipush (-5), 2) := by decide +kernel
theorem dX5_ragRefusal_27 : decode cX5_ragRefusal 27 = .ok (.ireturn, 1) := by decide +kernel
theorem dJ6_numberOfTrailingZeros_0f7a4_0 : decode cJ6_numberOfTrailingZeros_0f7a4 0 = .ok (.iload_n 0, 1) := by decide +kernel
theorem dJ6_numberOfTrailingZeros_0f7a4_1 : decode cJ6_numberOfTrailingZeros_0f7a4 1 = .ok (.iconst (-1), 1) := by decide +kernel
theorem dJ6_numberOfTrailingZeros_0f7a4_2 : decode cJ6_numberOfTrailingZeros_0f7a4 2 = .ok (.ixor, 1) := by decide +kernel
theorem dJ6_numberOfTrailingZeros_0f7a4_3 : decode cJ6_numberOfTrailingZeros_0f7a4 3 = .ok (.iload_n 0, 1) := by decide +kernel
theorem dJ6_numberOfTrailingZeros_0f7a4_4 : decode cJ6_numberOfTrailingZeros_0f7a4 4 = .ok (.iconst 1, 1) := by decide +kernel
theorem dJ6_numberOfTrailingZeros_0f7a4_5 : decode cJ6_numberOfTrailingZeros_0f7a4 5 = .ok (.isub, 1) := by decide +kernel
theorem dJ6_numberOfTrailingZeros_0f7a4_6 : decode cJ6_numberOfTrailingZeros_0f7a4 6 = .ok (.iand, 1) := by decide +kernel
theorem dJ6_numberOfTrailingZeros_0f7a4_7 : decode cJ6_numberOfTrailingZeros_0f7a4 7 = .ok (.istore_n 0, 1) := by decide +kernel
theorem dJ6_numberOfTrailingZeros_0f7a4_8 : decode cJ6_numberOfTrailingZeros_0f7a4 8 = .ok (.iload_n 0, 1) := by decide +kernel
theorem dJ6_numberOfTrailingZeros_0f7a4_9 : decode cJ6_numberOfTrailingZeros_0f7a4 9 = .ok (.ifCond .gt 8, 3) := by decide +kernel
theorem dJ6_numberOfTrailingZeros_0f7a4_12 : decode cJ6_numberOfTrailingZeros_0f7a4 12 = .ok (.iload_n 0, 1) := by decide +kernel
theorem dJ6_numberOfTrailingZeros_0f7a4_13 : decode cJ6_numberOfTrailingZeros_0f7a4 13 = .ok (.bipush 32, 2) := by decide +kernel
theorem dJ6_numberOfTrailingZeros_0f7a4_15 : decode cJ6_numberOfTrailingZeros_0f7a4 15 = .ok (.iand, 1) := by decide +kernel
theorem dJ6_numberOfTrailingZeros_0f7a4_16 : decode cJ6_numberOfTrailingZeros_0f7a4 16 = .ok (.ireturn, 1) := by decide +kernel
theorem dJ6_numberOfTrailingZeros_0f7a4_17 : decode cJ6_numberOfTrailingZeros_0f7a4 17 = .ok (.iconst 1, 1) := by decide +kernel
theorem dJ6_numberOfTrailingZeros_0f7a4_18 : decode cJ6_numberOfTrailingZeros_0f7a4 18 = .ok (.istore_n 1, 1) := by decide +kernel
theorem dJ6_numberOfTrailingZeros_0f7a4_19 : decode cJ6_numberOfTrailingZeros_0f7a4 19 = .ok (.iload_n 0, 1) := by decide +kernel
theorem dJ6_numberOfTrailingZeros_0f7a4_20 : decode cJ6_numberOfTrailingZeros_0f7a4 20 = .ok (.ldc_w 264, 3) := by decide +kernel
theorem dJ6_numberOfTrailingZeros_0f7a4_23 : decode cJ6_numberOfTrailingZeros_0f7a4 23 = .ok (.if_icmp .le 11, 3) := by decide +kernel
theorem dJ6_numberOfTrailingZeros_0f7a4_26 : decode cJ6_numberOfTrailingZeros_0f7a4 26 = .ok (.iinc 1 16, 3) := by decide +kernel
theorem dJ6_numberOfTrailingZeros_0f7a4_29 : decode cJ6_numberOfTrailingZeros_0f7a4 29 = .ok (.iload_n 0, 1) := by decide +kernel
theorem dJ6_numberOfTrailingZeros_0f7a4_30 : decode cJ6_numberOfTrailingZeros_0f7a4 30 = .ok (.bipush 16, 2) := by decide +kernel
theorem dJ6_numberOfTrailingZeros_0f7a4_32 : decode cJ6_numberOfTrailingZeros_0f7a4 32 = .ok (.iushr, 1) := by decide +kernel
theorem dJ6_numberOfTrailingZeros_0f7a4_33 : decode cJ6_numberOfTrailingZeros_0f7a4 33 = .ok (.istore_n 0, 1) := by decide +kernel
theorem dJ6_numberOfTrailingZeros_0f7a4_34 : decode cJ6_numberOfTrailingZeros_0f7a4 34 = .ok (.iload_n 0, 1) := by decide +kernel
theorem dJ6_numberOfTrailingZeros_0f7a4_35 : decode cJ6_numberOfTrailingZeros_0f7a4 35 = .ok (.sipush 256, 3) := by decide +kernel
theorem dJ6_numberOfTrailingZeros_0f7a4_38 : decode cJ6_numberOfTrailingZeros_0f7a4 38 = .ok (.if_icmp .le 11, 3) := by decide +kernel
theorem dJ6_numberOfTrailingZeros_0f7a4_41 : decode cJ6_numberOfTrailingZeros_0f7a4 41 = .ok (.iinc 1 8, 3) := by decide +kernel
theorem dJ6_numberOfTrailingZeros_0f7a4_44 : decode cJ6_numberOfTrailingZeros_0f7a4 44 = .ok (.iload_n 0, 1) := by decide +kernel
theorem dJ6_numberOfTrailingZeros_0f7a4_45 : decode cJ6_numberOfTrailingZeros_0f7a4 45 = .ok (.bipush 8, 2) := by decide +kernel
theorem dJ6_numberOfTrailingZeros_0f7a4_47 : decode cJ6_numberOfTrailingZeros_0f7a4 47 = .ok (.iushr, 1) := by decide +kernel
theorem dJ6_numberOfTrailingZeros_0f7a4_48 : decode cJ6_numberOfTrailingZeros_0f7a4 48 = .ok (.istore_n 0, 1) := by decide +kernel
theorem dJ6_numberOfTrailingZeros_0f7a4_49 : decode cJ6_numberOfTrailingZeros_0f7a4 49 = .ok (.iload_n 0, 1) := by decide +kernel
theorem dJ6_numberOfTrailingZeros_0f7a4_50 : decode cJ6_numberOfTrailingZeros_0f7a4 50 = .ok (.bipush 16, 2) := by decide +kernel
theorem dJ6_numberOfTrailingZeros_0f7a4_52 : decode cJ6_numberOfTrailingZeros_0f7a4 52 = .ok (.if_icmp .le 10, 3) := by decide +kernel
theorem dJ6_numberOfTrailingZeros_0f7a4_55 : decode cJ6_numberOfTrailingZeros_0f7a4 55 = .ok (.iinc 1 4, 3) := by decide +kernel
theorem dJ6_numberOfTrailingZeros_0f7a4_58 : decode cJ6_numberOfTrailingZeros_0f7a4 58 = .ok (.iload_n 0, 1) := by decide +kernel
theorem dJ6_numberOfTrailingZeros_0f7a4_59 : decode cJ6_numberOfTrailingZeros_0f7a4 59 = .ok (.iconst 4, 1) := by decide +kernel
theorem dJ6_numberOfTrailingZeros_0f7a4_60 : decode cJ6_numberOfTrailingZeros_0f7a4 60 = .ok (.iushr, 1) := by decide +kernel
theorem dJ6_numberOfTrailingZeros_0f7a4_61 : decode cJ6_numberOfTrailingZeros_0f7a4 61 = .ok (.istore_n 0, 1) := by decide +kernel
theorem dJ6_numberOfTrailingZeros_0f7a4_62 : decode cJ6_numberOfTrailingZeros_0f7a4 62 = .ok (.iload_n 0, 1) := by decide +kernel
theorem dJ6_numberOfTrailingZeros_0f7a4_63 : decode cJ6_numberOfTrailingZeros_0f7a4 63 = .ok (.iconst 4, 1) := by decide +kernel
theorem dJ6_numberOfTrailingZeros_0f7a4_64 : decode cJ6_numberOfTrailingZeros_0f7a4 64 = .ok (.if_icmp .le 10, 3) := by decide +kernel
theorem dJ6_numberOfTrailingZeros_0f7a4_67 : decode cJ6_numberOfTrailingZeros_0f7a4 67 = .ok (.iinc 1 2, 3) := by decide +kernel
theorem dJ6_numberOfTrailingZeros_0f7a4_70 : decode cJ6_numberOfTrailingZeros_0f7a4 70 = .ok (.iload_n 0, 1) := by decide +kernel
theorem dJ6_numberOfTrailingZeros_0f7a4_71 : decode cJ6_numberOfTrailingZeros_0f7a4 71 = .ok (.iconst 2, 1) := by decide +kernel
theorem dJ6_numberOfTrailingZeros_0f7a4_72 : decode cJ6_numberOfTrailingZeros_0f7a4 72 = .ok (.iushr, 1) := by decide +kernel
theorem dJ6_numberOfTrailingZeros_0f7a4_73 : decode cJ6_numberOfTrailingZeros_0f7a4 73 = .ok (.istore_n 0, 1) := by decide +kernel
theorem dJ6_numberOfTrailingZeros_0f7a4_74 : decode cJ6_numberOfTrailingZeros_0f7a4 74 = .ok (.iload_n 1, 1) := by decide +kernel
theorem dJ6_numberOfTrailingZeros_0f7a4_75 : decode cJ6_numberOfTrailingZeros_0f7a4 75 = .ok (.iload_n 0, 1) := by decide +kernel
theorem dJ6_numberOfTrailingZeros_0f7a4_76 : decode cJ6_numberOfTrailingZeros_0f7a4 76 = .ok (.iconst 1, 1) := by decide +kernel
theorem dJ6_numberOfTrailingZeros_0f7a4_77 : decode cJ6_numberOfTrailingZeros_0f7a4 77 = .ok (.iushr, 1) := by decide +kernel
theorem dJ6_numberOfTrailingZeros_0f7a4_78 : decode cJ6_numberOfTrailingZeros_0f7a4 78 = .ok (.iadd, 1) := by decide +kernel
theorem dJ6_numberOfTrailingZeros_0f7a4_79 : decode cJ6_numberOfTrailingZeros_0f7a4 79 = .ok (.ireturn, 1) := by decide +kernel
theorem dJ6_bitCount_0f7a4_0 : decode cJ6_bitCount_0f7a4 0 = .ok (.iload_n 0, 1) := by decide +kernel
theorem dJ6_bitCount_0f7a4_1 : decode cJ6_bitCount_0f7a4 1 = .ok (.iload_n 0, 1) := by decide +kernel
theorem dJ6_bitCount_0f7a4_2 : decode cJ6_bitCount_0f7a4 2 = .ok (.iconst 1, 1) := by decide +kernel
theorem dJ6_bitCount_0f7a4_3 : decode cJ6_bitCount_0f7a4 3 = .ok (.iushr, 1) := by decide +kernel
theorem dJ6_bitCount_0f7a4_4 : decode cJ6_bitCount_0f7a4 4 = .ok (.ldc_w 265, 3) := by decide +kernel
theorem dJ6_bitCount_0f7a4_7 : decode cJ6_bitCount_0f7a4 7 = .ok (.iand, 1) := by decide +kernel
theorem dJ6_bitCount_0f7a4_8 : decode cJ6_bitCount_0f7a4 8 = .ok (.isub, 1) := by decide +kernel
theorem dJ6_bitCount_0f7a4_9 : decode cJ6_bitCount_0f7a4 9 = .ok (.istore_n 0, 1) := by decide +kernel
theorem dJ6_bitCount_0f7a4_10 : decode cJ6_bitCount_0f7a4 10 = .ok (.iload_n 0, 1) := by decide +kernel
theorem dJ6_bitCount_0f7a4_11 : decode cJ6_bitCount_0f7a4 11 = .ok (.ldc_w 266, 3) := by decide +kernel
theorem dJ6_bitCount_0f7a4_14 : decode cJ6_bitCount_0f7a4 14 = .ok (.iand, 1) := by decide +kernel
theorem dJ6_bitCount_0f7a4_15 : decode cJ6_bitCount_0f7a4 15 = .ok (.iload_n 0, 1) := by decide +kernel
theorem dJ6_bitCount_0f7a4_16 : decode cJ6_bitCount_0f7a4 16 = .ok (.iconst 2, 1) := by decide +kernel
theorem dJ6_bitCount_0f7a4_17 : decode cJ6_bitCount_0f7a4 17 = .ok (.iushr, 1) := by decide +kernel
theorem dJ6_bitCount_0f7a4_18 : decode cJ6_bitCount_0f7a4 18 = .ok (.ldc_w 266, 3) := by decide +kernel
theorem dJ6_bitCount_0f7a4_21 : decode cJ6_bitCount_0f7a4 21 = .ok (.iand, 1) := by decide +kernel
theorem dJ6_bitCount_0f7a4_22 : decode cJ6_bitCount_0f7a4 22 = .ok (.iadd, 1) := by decide +kernel
theorem dJ6_bitCount_0f7a4_23 : decode cJ6_bitCount_0f7a4 23 = .ok (.istore_n 0, 1) := by decide +kernel
theorem dJ6_bitCount_0f7a4_24 : decode cJ6_bitCount_0f7a4 24 = .ok (.iload_n 0, 1) := by decide +kernel
theorem dJ6_bitCount_0f7a4_25 : decode cJ6_bitCount_0f7a4 25 = .ok (.iload_n 0, 1) := by decide +kernel
theorem dJ6_bitCount_0f7a4_26 : decode cJ6_bitCount_0f7a4 26 = .ok (.iconst 4, 1) := by decide +kernel
theorem dJ6_bitCount_0f7a4_27 : decode cJ6_bitCount_0f7a4 27 = .ok (.iushr, 1) := by decide +kernel
theorem dJ6_bitCount_0f7a4_28 : decode cJ6_bitCount_0f7a4 28 = .ok (.iadd, 1) := by decide +kernel
theorem dJ6_bitCount_0f7a4_29 : decode cJ6_bitCount_0f7a4 29 = .ok (.ldc_w 267, 3) := by decide +kernel
theorem dJ6_bitCount_0f7a4_32 : decode cJ6_bitCount_0f7a4 32 = .ok (.iand, 1) := by decide +kernel
theorem dJ6_bitCount_0f7a4_33 : decode cJ6_bitCount_0f7a4 33 = .ok (.istore_n 0, 1) := by decide +kernel
theorem dJ6_bitCount_0f7a4_34 : decode cJ6_bitCount_0f7a4 34 = .ok (.iload_n 0, 1) := by decide +kernel
theorem dJ6_bitCount_0f7a4_35 : decode cJ6_bitCount_0f7a4 35 = .ok (.iload_n 0, 1) := by decide +kernel
theorem dJ6_bitCount_0f7a4_36 : decode cJ6_bitCount_0f7a4 36 = .ok (.bipush 8, 2) := by decide +kernel
theorem dJ6_bitCount_0f7a4_38 : decode cJ6_bitCount_0f7a4 38 = .ok (.iushr, 1) := by decide +kernel
theorem dJ6_bitCount_0f7a4_39 : decode cJ6_bitCount_0f7a4 39 = .ok (.iadd, 1) := by decide +kernel
theorem dJ6_bitCount_0f7a4_40 : decode cJ6_bitCount_0f7a4 40 = .ok (.istore_n 0, 1) := by decide +kernel
theorem dJ6_bitCount_0f7a4_41 : decode cJ6_bitCount_0f7a4 41 = .ok (.iload_n 0, 1) := by decide +kernel
theorem dJ6_bitCount_0f7a4_42 : decode cJ6_bitCount_0f7a4 42 = .ok (.iload_n 0, 1) := by decide +kernel
theorem dJ6_bitCount_0f7a4_43 : decode cJ6_bitCount_0f7a4 43 = .ok (.bipush 16, 2) := by decide +kernel
theorem dJ6_bitCount_0f7a4_45 : decode cJ6_bitCount_0f7a4 45 = .ok (.iushr, 1) := by decide +kernel
theorem dJ6_bitCount_0f7a4_46 : decode cJ6_bitCount_0f7a4 46 = .ok (.iadd, 1) := by decide +kernel
theorem dJ6_bitCount_0f7a4_47 : decode cJ6_bitCount_0f7a4 47 = .ok (.istore_n 0, 1) := by decide +kernel
theorem dJ6_bitCount_0f7a4_48 : decode cJ6_bitCount_0f7a4 48 = .ok (.iload_n 0, 1) := by decide +kernel
theorem dJ6_bitCount_0f7a4_49 : decode cJ6_bitCount_0f7a4 49 = .ok (.bipush 63, 2) := by decide +kernel
theorem dJ6_bitCount_0f7a4_51 : decode cJ6_bitCount_0f7a4 51 = .ok (.iand, 1) := by decide +kernel
theorem dJ6_bitCount_0f7a4_52 : decode cJ6_bitCount_0f7a4 52 = .ok (.ireturn, 1) := by decide +kernel
theorem dJ13_numberOfTrailingZeros_95d88_0 : decode cJ13_numberOfTrailingZeros_95d88 0 = .ok (.lload_n 0, 1) := by decide +kernel
theorem dJ13_numberOfTrailingZeros_95d88_1 : decode cJ13_numberOfTrailingZeros_95d88 1 = .ok (.l2i, 1) := by decide +kernel
theorem dJ13_numberOfTrailingZeros_95d88_2 : decode cJ13_numberOfTrailingZeros_95d88 2 = .ok (.istore_n 2, 1) := by decide +kernel
theorem dJ13_numberOfTrailingZeros_95d88_3 : decode cJ13_numberOfTrailingZeros_95d88 3 = .ok (.iload_n 2, 1) := by decide +kernel
theorem dJ13_numberOfTrailingZeros_95d88_4 : decode cJ13_numberOfTrailingZeros_95d88 4 = .ok (.ifCond .ne 17, 3) := by decide +kernel
theorem dJ13_numberOfTrailingZeros_95d88_7 : decode cJ13_numberOfTrailingZeros_95d88 7 = .ok (.bipush 32, 2) := by decide +kernel
theorem dJ13_numberOfTrailingZeros_95d88_9 : decode cJ13_numberOfTrailingZeros_95d88 9 = .ok (.lload_n 0, 1) := by decide +kernel
theorem dJ13_numberOfTrailingZeros_95d88_10 : decode cJ13_numberOfTrailingZeros_95d88 10 = .ok (.bipush 32, 2) := by decide +kernel
theorem dJ13_numberOfTrailingZeros_95d88_12 : decode cJ13_numberOfTrailingZeros_95d88 12 = .ok (.lushr, 1) := by decide +kernel
theorem dJ13_numberOfTrailingZeros_95d88_13 : decode cJ13_numberOfTrailingZeros_95d88 13 = .ok (.l2i, 1) := by decide +kernel
theorem dJ13_numberOfTrailingZeros_95d88_14 : decode cJ13_numberOfTrailingZeros_95d88 14 = .ok (.invokestatic 311, 3) := by decide +kernel
theorem dJ13_numberOfTrailingZeros_95d88_17 : decode cJ13_numberOfTrailingZeros_95d88 17 = .ok (.iadd, 1) := by decide +kernel
theorem dJ13_numberOfTrailingZeros_95d88_18 : decode cJ13_numberOfTrailingZeros_95d88 18 = .ok (.goto 7, 3) := by decide +kernel
theorem dJ13_numberOfTrailingZeros_95d88_21 : decode cJ13_numberOfTrailingZeros_95d88 21 = .ok (.iload_n 2, 1) := by decide +kernel
theorem dJ13_numberOfTrailingZeros_95d88_22 : decode cJ13_numberOfTrailingZeros_95d88 22 = .ok (.invokestatic 311, 3) := by decide +kernel
theorem dJ13_numberOfTrailingZeros_95d88_25 : decode cJ13_numberOfTrailingZeros_95d88 25 = .ok (.ireturn, 1) := by decide +kernel
theorem dJ13_bitCount_95d88_0 : decode cJ13_bitCount_95d88 0 = .ok (.lload_n 0, 1) := by decide +kernel
theorem dJ13_bitCount_95d88_1 : decode cJ13_bitCount_95d88 1 = .ok (.lload_n 0, 1) := by decide +kernel
theorem dJ13_bitCount_95d88_2 : decode cJ13_bitCount_95d88 2 = .ok (.iconst 1, 1) := by decide +kernel
theorem dJ13_bitCount_95d88_3 : decode cJ13_bitCount_95d88 3 = .ok (.lushr, 1) := by decide +kernel
theorem dJ13_bitCount_95d88_4 : decode cJ13_bitCount_95d88 4 = .ok (.ldc2_w 314, 3) := by decide +kernel
theorem dJ13_bitCount_95d88_7 : decode cJ13_bitCount_95d88 7 = .ok (.land, 1) := by decide +kernel
theorem dJ13_bitCount_95d88_8 : decode cJ13_bitCount_95d88 8 = .ok (.lsub, 1) := by decide +kernel
theorem dJ13_bitCount_95d88_9 : decode cJ13_bitCount_95d88 9 = .ok (.lstore_n 0, 1) := by decide +kernel
theorem dJ13_bitCount_95d88_10 : decode cJ13_bitCount_95d88 10 = .ok (.lload_n 0, 1) := by decide +kernel
theorem dJ13_bitCount_95d88_11 : decode cJ13_bitCount_95d88 11 = .ok (.ldc2_w 316, 3) := by decide +kernel
theorem dJ13_bitCount_95d88_14 : decode cJ13_bitCount_95d88 14 = .ok (.land, 1) := by decide +kernel
theorem dJ13_bitCount_95d88_15 : decode cJ13_bitCount_95d88 15 = .ok (.lload_n 0, 1) := by decide +kernel
theorem dJ13_bitCount_95d88_16 : decode cJ13_bitCount_95d88 16 = .ok (.iconst 2, 1) := by decide +kernel
theorem dJ13_bitCount_95d88_17 : decode cJ13_bitCount_95d88 17 = .ok (.lushr, 1) := by decide +kernel
theorem dJ13_bitCount_95d88_18 : decode cJ13_bitCount_95d88 18 = .ok (.ldc2_w 316, 3) := by decide +kernel
theorem dJ13_bitCount_95d88_21 : decode cJ13_bitCount_95d88 21 = .ok (.land, 1) := by decide +kernel
theorem dJ13_bitCount_95d88_22 : decode cJ13_bitCount_95d88 22 = .ok (.ladd, 1) := by decide +kernel
theorem dJ13_bitCount_95d88_23 : decode cJ13_bitCount_95d88 23 = .ok (.lstore_n 0, 1) := by decide +kernel
theorem dJ13_bitCount_95d88_24 : decode cJ13_bitCount_95d88 24 = .ok (.lload_n 0, 1) := by decide +kernel
theorem dJ13_bitCount_95d88_25 : decode cJ13_bitCount_95d88 25 = .ok (.lload_n 0, 1) := by decide +kernel
theorem dJ13_bitCount_95d88_26 : decode cJ13_bitCount_95d88 26 = .ok (.iconst 4, 1) := by decide +kernel
theorem dJ13_bitCount_95d88_27 : decode cJ13_bitCount_95d88 27 = .ok (.lushr, 1) := by decide +kernel
theorem dJ13_bitCount_95d88_28 : decode cJ13_bitCount_95d88 28 = .ok (.ladd, 1) := by decide +kernel
theorem dJ13_bitCount_95d88_29 : decode cJ13_bitCount_95d88 29 = .ok (.ldc2_w 318, 3) := by decide +kernel
theorem dJ13_bitCount_95d88_32 : decode cJ13_bitCount_95d88 32 = .ok (.land, 1) := by decide +kernel
theorem dJ13_bitCount_95d88_33 : decode cJ13_bitCount_95d88 33 = .ok (.lstore_n 0, 1) := by decide +kernel
theorem dJ13_bitCount_95d88_34 : decode cJ13_bitCount_95d88 34 = .ok (.lload_n 0, 1) := by decide +kernel
theorem dJ13_bitCount_95d88_35 : decode cJ13_bitCount_95d88 35 = .ok (.lload_n 0, 1) := by decide +kernel
theorem dJ13_bitCount_95d88_36 : decode cJ13_bitCount_95d88 36 = .ok (.bipush 8, 2) := by decide +kernel
theorem dJ13_bitCount_95d88_38 : decode cJ13_bitCount_95d88 38 = .ok (.lushr, 1) := by decide +kernel
theorem dJ13_bitCount_95d88_39 : decode cJ13_bitCount_95d88 39 = .ok (.ladd, 1) := by decide +kernel
theorem dJ13_bitCount_95d88_40 : decode cJ13_bitCount_95d88 40 = .ok (.lstore_n 0, 1) := by decide +kernel
theorem dJ13_bitCount_95d88_41 : decode cJ13_bitCount_95d88 41 = .ok (.lload_n 0, 1) := by decide +kernel
theorem dJ13_bitCount_95d88_42 : decode cJ13_bitCount_95d88 42 = .ok (.lload_n 0, 1) := by decide +kernel
theorem dJ13_bitCount_95d88_43 : decode cJ13_bitCount_95d88 43 = .ok (.bipush 16, 2) := by decide +kernel
theorem dJ13_bitCount_95d88_45 : decode cJ13_bitCount_95d88 45 = .ok (.lushr, 1) := by decide +kernel
theorem dJ13_bitCount_95d88_46 : decode cJ13_bitCount_95d88 46 = .ok (.ladd, 1) := by decide +kernel
theorem dJ13_bitCount_95d88_47 : decode cJ13_bitCount_95d88 47 = .ok (.lstore_n 0, 1) := by decide +kernel
theorem dJ13_bitCount_95d88_48 : decode cJ13_bitCount_95d88 48 = .ok (.lload_n 0, 1) := by decide +kernel
theorem dJ13_bitCount_95d88_49 : decode cJ13_bitCount_95d88 49 = .ok (.lload_n 0, 1) := by decide +kernel
theorem dJ13_bitCount_95d88_50 : decode cJ13_bitCount_95d88 50 = .ok (.bipush 32, 2) := by decide +kernel
theorem dJ13_bitCount_95d88_52 : decode cJ13_bitCount_95d88 52 = .ok (.lushr, 1) := by decide +kernel
theorem dJ13_bitCount_95d88_53 : decode cJ13_bitCount_95d88 53 = .ok (.ladd, 1) := by decide +kernel
theorem dJ13_bitCount_95d88_54 : decode cJ13_bitCount_95d88 54 = .ok (.lstore_n 0, 1) := by decide +kernel
theorem dJ13_bitCount_95d88_55 : decode cJ13_bitCount_95d88 55 = .ok (.lload_n 0, 1) := by decide +kernel
theorem dJ13_bitCount_95d88_56 : decode cJ13_bitCount_95d88 56 = .ok (.l2i, 1) := by decide +kernel
theorem dJ13_bitCount_95d88_57 : decode cJ13_bitCount_95d88 57 = .ok (.bipush 127, 2) := by decide +kernel
theorem dJ13_bitCount_95d88_59 : decode cJ13_bitCount_95d88 59 = .ok (.iand, 1) := by decide +kernel
theorem dJ13_bitCount_95d88_60 : decode cJ13_bitCount_95d88 60 = .ok (.ireturn, 1) := by decide +kernel
theorem dJ9_max_7cf53_0 : decode cJ9_max_7cf53 0 = .ok (.iload_n 0, 1) := by decide +kernel
theorem dJ9_max_7cf53_1 : decode cJ9_max_7cf53 1 = .ok (.iload_n 1, 1) := by decide +kernel
theorem dJ9_max_7cf53_2 : decode cJ9_max_7cf53 2 = .ok (.if_icmp .lt 7, 3) := by decide +kernel
theorem dJ9_max_7cf53_5 : decode cJ9_max_7cf53 5 = .ok (.iload_n 0, 1) := by decide +kernel
theorem dJ9_max_7cf53_6 : decode cJ9_max_7cf53 6 = .ok (.goto 4, 3) := by decide +kernel
theorem dJ9_max_7cf53_9 : decode cJ9_max_7cf53 9 = .ok (.iload_n 1, 1) := by decide +kernel
theorem dJ9_max_7cf53_10 : decode cJ9_max_7cf53 10 = .ok (.ireturn, 1) := by decide +kernel
theorem dJ9_min_7cf53_0 : decode cJ9_min_7cf53 0 = .ok (.iload_n 0, 1) := by decide +kernel
theorem dJ9_min_7cf53_1 : decode cJ9_min_7cf53 1 = .ok (.iload_n 1, 1) := by decide +kernel
theorem dJ9_min_7cf53_2 : decode cJ9_min_7cf53 2 = .ok (.if_icmp .gt 7, 3) := by decide +kernel
theorem dJ9_min_7cf53_5 : decode cJ9_min_7cf53 5 = .ok (.iload_n 0, 1) := by decide +kernel
theorem dJ9_min_7cf53_6 : decode cJ9_min_7cf53 6 = .ok (.goto 4, 3) := by decide +kernel
theorem dJ9_min_7cf53_9 : decode cJ9_min_7cf53 9 = .ok (.iload_n 1, 1) := by decide +kernel
theorem dJ9_min_7cf53_10 : decode cJ9_min_7cf53 10 = .ok (.ireturn, 1) := by decide +kernel
theorem dJ0_length_8abf5_0 : decode cJ0_length_8abf5 0 = .ok (.aload_n 0, 1) := by decide +kernel
theorem dJ0_length_8abf5_1 : decode cJ0_length_8abf5 1 = .ok (.getfield 9, 3) := by decide +kernel
theorem dJ0_length_8abf5_4 : decode cJ0_length_8abf5 4 = .ok (.arraylength, 1) := by decide +kernel
theorem dJ0_length_8abf5_5 : decode cJ0_length_8abf5 5 = .ok (.aload_n 0, 1) := by decide +kernel
theorem dJ0_length_8abf5_6 : decode cJ0_length_8abf5 6 = .ok (.invokevirtual 335, 3) := by decide +kernel
theorem dJ0_length_8abf5_9 : decode cJ0_length_8abf5 9 = .ok (.ishr, 1) := by decide +kernel
theorem dJ0_length_8abf5_10 : decode cJ0_length_8abf5 10 = .ok (.ireturn, 1) := by decide +kernel
theorem dJ0_charAt_5068e_0 : decode cJ0_charAt_5068e 0 = .ok (.aload_n 0, 1) := by decide +kernel
theorem dJ0_charAt_5068e_1 : decode cJ0_charAt_5068e 1 = .ok (.invokevirtual 492, 3) := by decide +kernel
theorem dJ0_charAt_5068e_4 : decode cJ0_charAt_5068e 4 = .ok (.ifCond .eq 12, 3) := by decide +kernel
theorem dJ0_charAt_5068e_7 : decode cJ0_charAt_5068e 7 = .ok (.aload_n 0, 1) := by decide +kernel
theorem dJ0_charAt_5068e_8 : decode cJ0_charAt_5068e 8 = .ok (.getfield 9, 3) := by decide +kernel
theorem dJ0_charAt_5068e_11 : decode cJ0_charAt_5068e 11 = .ok (.iload_n 1, 1) := by decide +kernel
theorem dJ0_charAt_5068e_12 : decode cJ0_charAt_5068e 12 = .ok (.invokestatic 495, 3) := by decide +kernel
theorem dJ0_charAt_5068e_15 : decode cJ0_charAt_5068e 15 = .ok (.ireturn, 1) := by decide +kernel
theorem dJ0_charAt_5068e_16 : decode cJ0_charAt_5068e 16 = .ok (.aload_n 0, 1) := by decide +kernel
theorem dJ0_charAt_5068e_17 : decode cJ0_charAt_5068e 17 = .ok (.getfield 9, 3) := by decide +kernel
theorem dJ0_charAt_5068e_20 : decode cJ0_charAt_5068e 20 = .ok (.iload_n 1, 1) := by decide +kernel
theorem dJ0_charAt_5068e_21 : decode cJ0_charAt_5068e 21 = .ok (.invokestatic 498, 3) := by decide +kernel
theorem dJ0_charAt_5068e_24 : decode cJ0_charAt_5068e 24 = .ok (.ireturn, 1) := by decide +kernel
theorem dJ0_coder_7d493_0 : decode cJ0_coder_7d493 0 = .ok (.getstatic 38, 3) := by decide +kernel
theorem dJ0_coder_7d493_3 : decode cJ0_coder_7d493 3 = .ok (.ifCond .eq 10, 3) := by decide +kernel
theorem dJ0_coder_7d493_6 : decode cJ0_coder_7d493 6 = .ok (.aload_n 0, 1) := by decide +kernel
theorem dJ0_coder_7d493_7 : decode cJ0_coder_7d493 7 = .ok (.getfield 15, 3) := by decide +kernel
theorem dJ0_coder_7d493_10 : decode cJ0_coder_7d493 10 = .ok (.goto 4, 3) := by decide +kernel
theorem dJ0_coder_7d493_13 : decode cJ0_coder_7d493 13 = .ok (.iconst 1, 1) := by decide +kernel
theorem dJ0_coder_7d493_14 : decode cJ0_coder_7d493 14 = .ok (.ireturn, 1) := by decide +kernel
theorem dJ0_isLatin1_aae02_0 : decode cJ0_isLatin1_aae02 0 = .ok (.getstatic 38, 3) := by decide +kernel
theorem dJ0_isLatin1_aae02_3 : decode cJ0_isLatin1_aae02 3 = .ok (.ifCond .eq 14, 3) := by decide +kernel
theorem dJ0_isLatin1_aae02_6 : decode cJ0_isLatin1_aae02 6 = .ok (.aload_n 0, 1) := by decide +kernel
theorem dJ0_isLatin1_aae02_7 : decode cJ0_isLatin1_aae02 7 = .ok (.getfield 15, 3) := by decide +kernel
theorem dJ0_isLatin1_aae02_10 : decode cJ0_isLatin1_aae02 10 = .ok (.ifCond .ne 7, 3) := by decide +kernel
theorem dJ0_isLatin1_aae02_13 : decode cJ0_isLatin1_aae02 13 = .ok (.iconst 1, 1) := by decide +kernel
theorem dJ0_isLatin1_aae02_14 : decode cJ0_isLatin1_aae02 14 = .ok (.goto 4, 3) := by decide +kernel
theorem dJ0_isLatin1_aae02_17 : decode cJ0_isLatin1_aae02 17 = .ok (.iconst 0, 1) := by decide +kernel
theorem dJ0_isLatin1_aae02_18 : decode cJ0_isLatin1_aae02 18 = .ok (.ireturn, 1) := by decide +kernel
theorem dJ0_checkIndex_df160_0 : decode cJ0_checkIndex_df160 0 = .ok (.iload_n 0, 1) := by decide +kernel
theorem dJ0_checkIndex_df160_1 : decode cJ0_checkIndex_df160 1 = .ok (.iload_n 1, 1) := by decide +kernel
theorem dJ0_checkIndex_df160_2 : decode cJ0_checkIndex_df160 2 = .ok (.getstatic 1053, 3) := by decide +kernel
theorem dJ0_checkIndex_df160_5 : decode cJ0_checkIndex_df160 5 = .ok (.invokestatic 1059, 3) := by decide +kernel
theorem dJ0_checkIndex_df160_8 : decode cJ0_checkIndex_df160 8 = .ok (.pop, 1) := by decide +kernel
theorem dJ0_checkIndex_df160_9 : decode cJ0_checkIndex_df160 9 = .ok (.return_, 1) := by decide +kernel
theorem dJ1_charAt_3b067_0 : decode cJ1_charAt_3b067 0 = .ok (.iload_n 1, 1) := by decide +kernel
theorem dJ1_charAt_3b067_1 : decode cJ1_charAt_3b067 1 = .ok (.aload_n 0, 1) := by decide +kernel
theorem dJ1_charAt_3b067_2 : decode cJ1_charAt_3b067 2 = .ok (.arraylength, 1) := by decide +kernel
theorem dJ1_charAt_3b067_3 : decode cJ1_charAt_3b067 3 = .ok (.invokestatic 9, 3) := by decide +kernel
theorem dJ1_charAt_3b067_6 : decode cJ1_charAt_3b067 6 = .ok (.aload_n 0, 1) := by decide +kernel
theorem dJ1_charAt_3b067_7 : decode cJ1_charAt_3b067 7 = .ok (.iload_n 1, 1) := by decide +kernel
theorem dJ1_charAt_3b067_8 : decode cJ1_charAt_3b067 8 = .ok (.baload, 1) := by decide +kernel
theorem dJ1_charAt_3b067_9 : decode cJ1_charAt_3b067 9 = .ok (.sipush 255, 3) := by decide +kernel
theorem dJ1_charAt_3b067_12 : decode cJ1_charAt_3b067 12 = .ok (.iand, 1) := by decide +kernel
theorem dJ1_charAt_3b067_13 : decode cJ1_charAt_3b067 13 = .ok (.i2c, 1) := by decide +kernel
theorem dJ1_charAt_3b067_14 : decode cJ1_charAt_3b067 14 = .ok (.ireturn, 1) := by decide +kernel
theorem dJ2_getChar_3b067_0 : decode cJ2_getChar_3b067 0 = .ok (.getstatic 44, 3) := by decide +kernel
theorem dJ2_getChar_3b067_3 : decode cJ2_getChar_3b067 3 = .ok (.ifCond .ne 25, 3) := by decide +kernel
theorem dJ2_getChar_3b067_6 : decode cJ2_getChar_3b067 6 = .ok (.iload_n 1, 1) := by decide +kernel
theorem dJ2_getChar_3b067_7 : decode cJ2_getChar_3b067 7 = .ok (.ifCond .lt 11, 3) := by decide +kernel
theorem dJ2_getChar_3b067_10 : decode cJ2_getChar_3b067 10 = .ok (.iload_n 1, 1) := by decide +kernel
theorem dJ2_getChar_3b067_11 : decode cJ2_getChar_3b067 11 = .ok (.aload_n 0, 1) := by decide +kernel
theorem dJ2_getChar_3b067_12 : decode cJ2_getChar_3b067 12 = .ok (.invokestatic 48, 3) := by decide +kernel
theorem dJ2_getChar_3b067_15 : decode cJ2_getChar_3b067 15 = .ok (.if_icmp .lt 13, 3) := by decide +kernel
theorem dJ2_getChar_3b067_18 : decode cJ2_getChar_3b067 18 = .ok (.new 52, 3) := by decide +kernel
theorem dJ2_getChar_3b067_21 : decode cJ2_getChar_3b067 21 = .ok (.dup, 1) := by decide +kernel
theorem dJ2_getChar_3b067_22 : decode cJ2_getChar_3b067 22 = .ok (.ldc 54, 2) := by decide +kernel
theorem dJ2_getChar_3b067_24 : decode cJ2_getChar_3b067 24 = .ok (.invokespecial 56, 3) := by decide +kernel
theorem dJ2_getChar_3b067_27 : decode cJ2_getChar_3b067 27 = .ok (.athrow, 1) := by decide +kernel
theorem dJ2_getChar_3b067_28 : decode cJ2_getChar_3b067 28 = .ok (.iload_n 1, 1) := by decide +kernel
theorem dJ2_getChar_3b067_29 : decode cJ2_getChar_3b067 29 = .ok (.iconst 1, 1) := by decide +kernel
theorem dJ2_getChar_3b067_30 : decode cJ2_getChar_3b067 30 = .ok (.ishl, 1) := by decide +kernel
theorem dJ2_getChar_3b067_31 : decode cJ2_getChar_3b067 31 = .ok (.istore_n 1, 1) := by decide +kernel
theorem dJ2_getChar_3b067_32 : decode cJ2_getChar_3b067 32 = .ok (.aload_n 0, 1) := by decide +kernel
theorem dJ2_getChar_3b067_33 : decode cJ2_getChar_3b067 33 = .ok (.iload_n 1, 1) := by decide +kernel
theorem dJ2_getChar_3b067_34 : decode cJ2_getChar_3b067 34 = .ok (.iinc 1 1, 3) := by decide +kernel
theorem dJ2_getChar_3b067_37 : decode cJ2_getChar_3b067 37 = .ok (.baload, 1) := by decide +kernel
theorem dJ2_getChar_3b067_38 : decode cJ2_getChar_3b067 38 = .ok (.sipush 255, 3) := by decide +kernel
theorem dJ2_getChar_3b067_41 : decode cJ2_getChar_3b067 41 = .ok (.iand, 1) := by decide +kernel
theorem dJ2_getChar_3b067_42 : decode cJ2_getChar_3b067 42 = .ok (.getstatic 59, 3) := by decide +kernel
theorem dJ2_getChar_3b067_45 : decode cJ2_getChar_3b067 45 = .ok (.ishl, 1) := by decide +kernel
theorem dJ2_getChar_3b067_46 : decode cJ2_getChar_3b067 46 = .ok (.aload_n 0, 1) := by decide +kernel
theorem dJ2_getChar_3b067_47 : decode cJ2_getChar_3b067 47 = .ok (.iload_n 1, 1) := by decide +kernel
theorem dJ2_getChar_3b067_48 : decode cJ2_getChar_3b067 48 = .ok (.baload, 1) := by decide +kernel
theorem dJ2_getChar_3b067_49 : decode cJ2_getChar_3b067 49 = .ok (.sipush 255, 3) := by decide +kernel
theorem dJ2_getChar_3b067_52 : decode cJ2_getChar_3b067 52 = .ok (.iand, 1) := by decide +kernel
theorem dJ2_getChar_3b067_53 : decode cJ2_getChar_3b067 53 = .ok (.getstatic 63, 3) := by decide +kernel
theorem dJ2_getChar_3b067_56 : decode cJ2_getChar_3b067 56 = .ok (.ishl, 1) := by decide +kernel
theorem dJ2_getChar_3b067_57 : decode cJ2_getChar_3b067 57 = .ok (.ior, 1) := by decide +kernel
theorem dJ2_getChar_3b067_58 : decode cJ2_getChar_3b067 58 = .ok (.i2c, 1) := by decide +kernel
theorem dJ2_getChar_3b067_59 : decode cJ2_getChar_3b067 59 = .ok (.ireturn, 1) := by decide +kernel
theorem dJ2_length_9d52b_0 : decode cJ2_length_9d52b 0 = .ok (.aload_n 0, 1) := by decide +kernel
theorem dJ2_length_9d52b_1 : decode cJ2_length_9d52b 1 = .ok (.arraylength, 1) := by decide +kernel
theorem dJ2_length_9d52b_2 : decode cJ2_length_9d52b 2 = .ok (.iconst 1, 1) := by decide +kernel
theorem dJ2_length_9d52b_3 : decode cJ2_length_9d52b 3 = .ok (.ishr, 1) := by decide +kernel
theorem dJ2_length_9d52b_4 : decode cJ2_length_9d52b 4 = .ok (.ireturn, 1) := by decide +kernel
theorem dJ2_charAt_3b067_0 : decode cJ2_charAt_3b067 0 = .ok (.iload_n 1, 1) := by decide +kernel
theorem dJ2_charAt_3b067_1 : decode cJ2_charAt_3b067 1 = .ok (.aload_n 0, 1) := by decide +kernel
theorem dJ2_charAt_3b067_2 : decode cJ2_charAt_3b067 2 = .ok (.invokestatic 67, 3) := by decide +kernel
theorem dJ2_charAt_3b067_5 : decode cJ2_charAt_3b067 5 = .ok (.aload_n 0, 1) := by decide +kernel
theorem dJ2_charAt_3b067_6 : decode cJ2_charAt_3b067 6 = .ok (.iload_n 1, 1) := by decide +kernel
theorem dJ2_charAt_3b067_7 : decode cJ2_charAt_3b067 7 = .ok (.invokestatic 71, 3) := by decide +kernel
theorem dJ2_charAt_3b067_10 : decode cJ2_charAt_3b067 10 = .ok (.ireturn, 1) := by decide +kernel
theorem dJ2_checkIndex_2214a_0 : decode cJ2_checkIndex_2214a 0 = .ok (.iload_n 0, 1) := by decide +kernel
theorem dJ2_checkIndex_2214a_1 : decode cJ2_checkIndex_2214a 1 = .ok (.aload_n 1, 1) := by decide +kernel
theorem dJ2_checkIndex_2214a_2 : decode cJ2_checkIndex_2214a 2 = .ok (.invokestatic 48, 3) := by decide +kernel
theorem dJ2_checkIndex_2214a_5 : decode cJ2_checkIndex_2214a 5 = .ok (.invokestatic 414, 3) := by decide +kernel
theorem dJ2_checkIndex_2214a_8 : decode cJ2_checkIndex_2214a 8 = .ok (.return_, 1) := by decide +kernel
theorem dJ3_checkIndex_8e157_0 : decode cJ3_checkIndex_8e157 0 = .ok (.iload_n 0, 1) := by decide +kernel
theorem dJ3_checkIndex_8e157_1 : decode cJ3_checkIndex_8e157 1 = .ok (.ifCond .lt 8, 3) := by decide +kernel
theorem dJ3_checkIndex_8e157_4 : decode cJ3_checkIndex_8e157 4 = .ok (.iload_n 0, 1) := by decide +kernel
theorem dJ3_checkIndex_8e157_5 : decode cJ3_checkIndex_8e157 5 = .ok (.iload_n 1, 1) := by decide +kernel
theorem dJ3_checkIndex_8e157_6 : decode cJ3_checkIndex_8e157 6 = .ok (.if_icmp .lt 10, 3) := by decide +kernel
theorem dJ3_checkIndex_8e157_9 : decode cJ3_checkIndex_8e157 9 = .ok (.aload_n 2, 1) := by decide +kernel
theorem dJ3_checkIndex_8e157_10 : decode cJ3_checkIndex_8e157 10 = .ok (.iload_n 0, 1) := by decide +kernel
theorem dJ3_checkIndex_8e157_11 : decode cJ3_checkIndex_8e157 11 = .ok (.iload_n 1, 1) := by decide +kernel
theorem dJ3_checkIndex_8e157_12 : decode cJ3_checkIndex_8e157 12 = .ok (.invokestatic 95, 3) := by decide +kernel
theorem dJ3_checkIndex_8e157_15 : decode cJ3_checkIndex_8e157 15 = .ok (.athrow, 1) := by decide +kernel
theorem dJ3_checkIndex_8e157_16 : decode cJ3_checkIndex_8e157 16 = .ok (.iload_n 0, 1) := by decide +kernel
theorem dJ3_checkIndex_8e157_17 : decode cJ3_checkIndex_8e157 17 = .ok (.ireturn, 1) := by decide +kernel
end
section
theorem dX6_init_0 : decode cX6_init 0 = .ok (.aload_n 0, 1) := by decide +kernel
theorem dX6_init_1 : decode cX6_init 1 = .ok (.invokespecial 1, 3) := by decide +kernel
theorem dX6_init_4 : decode cX6_init 4 = .ok (.aload_n 0, 1) := by decide +kernel
theorem dX6_init_5 : decode cX6_init 5 = .ok (.bipush 48, 2) := by decide +kernel
theorem dX6_init_7 : decode cX6_init 7 = .ok (.newarray .int, 2) := by decide +kernel
theorem dX6_init_9 : decode cX6_init 9 = .ok (.putfield 7, 3) := by decide +kernel
theorem dX6_init_12 : decode cX6_init 12 = .ok (.aload_n 0, 1) := by decide +kernel
theorem dX6_init_13 : decode cX6_init 13 = .ok (.bipush 48, 2) := by decide +kernel
theorem dX6_init_15 : decode cX6_init 15 = .ok (.newarray .int, 2) := by decide +kernel
theorem dX6_init_17 : decode cX6_init 17 = .ok (.putfield 13, 3) := by decide +kernel
theorem dX6_init_20 : decode cX6_init 20 = .ok (.aload_n 0, 1) := by decide +kernel
theorem dX6_init_21 : decode cX6_init 21 = .ok (.bipush 48, 2) := by decide +kernel
theorem dX6_init_23 : decode cX6_init 23 = .ok (.newarray .int, 2) := by decide +kernel
theorem dX6_init_25 : decode cX6_init 25 = .ok (.putfield 16, 3) := by decide +kernel
theorem dX6_init_28 : decode cX6_init 28 = .ok (.aload_n 0, 1) := by decide +kernel
theorem dX6_init_29 : decode cX6_init 29 = .ok (.bipush 48, 2) := by decide +kernel
theorem dX6_init_31 : decode cX6_init 31 = .ok (.newarray .int, 2) := by decide +kernel
theorem dX6_init_33 : decode cX6_init 33 = .ok (.putfield 19, 3) := by decide +kernel
theorem dX6_init_36 : decode cX6_init 36 = .ok (.aload_n 0, 1) := by decide +kernel
theorem dX6_init_37 : decode cX6_init 37 = .ok (.sipush 160, 3) := by decide +kernel
theorem dX6_init_40 : decode cX6_init 40 = .ok (.newarray .int, 2) := by decide +kernel
theorem dX6_init_42 : decode cX6_init 42 = .ok (.putfield 22, 3) := by decide +kernel
theorem dX6_init_45 : decode cX6_init 45 = .ok (.aload_n 0, 1) := by decide +kernel
theorem dX6_init_46 : decode cX6_init 46 = .ok (.sipush 1200, 3) := by decide +kernel
theorem dX6_init_49 : decode cX6_init 49 = .ok (.newarray .int, 2) := by decide +kernel
theorem dX6_init_51 : decode cX6_init 51 = .ok (.putfield 25, 3) := by decide +kernel
theorem dX6_init_54 : decode cX6_init 54 = .ok (.aload_n 0, 1) := by decide +kernel
theorem dX6_init_55 : decode cX6_init 55 = .ok (.bipush 24, 2) := by decide +kernel
theorem dX6_init_57 : decode cX6_init 57 = .ok (.newarray .int, 2) := by decide +kernel
theorem dX6_init_59 : decode cX6_init 59 = .ok (.putfield 28, 3) := by decide +kernel
theorem dX6_init_62 : decode cX6_init 62 = .ok (.aload_n 0, 1) := by decide +kernel
theorem dX6_init_63 : decode cX6_init 63 = .ok (.sipush 192, 3) := by decide +kernel
theorem dX6_init_66 : decode cX6_init 66 = .ok (.newarray .int, 2) := by decide +kernel
theorem dX6_init_68 : decode cX6_init 68 = .ok (.putfield 31, 3) := by decide +kernel
theorem dX6_init_71 : decode cX6_init 71 = .ok (.aload_n 0, 1) := by decide +kernel
theorem dX6_init_72 : decode cX6_init 72 = .ok (.iconst 4, 1) := by decide +kernel
theorem dX6_init_73 : decode cX6_init 73 = .ok (.newarray .int, 2) := by decide +kernel
theorem dX6_init_75 : decode cX6_init 75 = .ok (.dup, 1) := by decide +kernel
theorem dX6_init_76 : decode cX6_init 76 = .ok (.iconst 0, 1) := by decide +kernel
theorem dX6_init_77 : decode cX6_init 77 = .ok (.iconst (-1), 1) := by decide +kernel
theorem dX6_init_78 : decode cX6_init 78 = .ok (.iastore, 1) := by decide +kernel
theorem dX6_init_79 : decode cX6_init 79 = .ok (.dup, 1) := by decide +kernel
theorem dX6_init_80 : decode cX6_init 80 = .ok (.iconst 1, 1) := by decide +kernel
theorem dX6_init_81 : decode cX6_init 81 = .ok (.iconst (-1), 1) := by decide +kernel
theorem dX6_init_82 : decode cX6_init 82 = .ok (.iastore, 1) := by decide +kernel
theorem dX6_init_83 : decode cX6_init 83 = .ok (.dup, 1) := by decide +kernel
theorem dX6_init_84 : decode cX6_init 84 = .ok (.iconst 2, 1) := by decide +kernel
theorem dX6_init_85 : decode cX6_init 85 = .ok (.iconst (-1), 1) := by decide +kernel
theorem dX6_init_86 : decode cX6_init 86 = .ok (.iastore, 1) := by decide +kernel
theorem dX6_init_87 : decode cX6_init 87 = .ok (.dup, 1) := by decide +kernel
theorem dX6_init_88 : decode cX6_init 88 = .ok (.iconst 3, 1) := by decide +kernel
theorem dX6_init_89 : decode cX6_init 89 = .ok (.iconst (-1), 1) := by decide +kernel
theorem dX6_init_90 : decode cX6_init 90 = .ok (.iastore, 1) := by decide +kernel
theorem dX6_init_91 : decode cX6_init 91 = .ok (.putfield 34, 3) := by decide +kernel
theorem dX6_init_94 : decode cX6_init 94 = .ok (.aload_n 0, 1) := by decide +kernel
theorem dX6_init_95 : decode cX6_init 95 = .ok (.iconst 4, 1) := by decide +kernel
theorem dX6_init_96 : decode cX6_init 96 = .ok (.newarray .int, 2) := by decide +kernel
theorem dX6_init_98 : decode cX6_init 98 = .ok (.putfield 37, 3) := by decide +kernel
theorem dX6_init_101 : decode cX6_init 101 = .ok (.aload_n 0, 1) := by decide +kernel
theorem dX6_init_102 : decode cX6_init 102 = .ok (.sipush 192, 3) := by decide +kernel
theorem dX6_init_105 : decode cX6_init 105 = .ok (.newarray .int, 2) := by decide +kernel
theorem dX6_init_107 : decode cX6_init 107 = .ok (.putfield 40, 3) := by decide +kernel
theorem dX6_init_110 : decode cX6_init 110 = .ok (.aload_n 0, 1) := by decide +kernel
theorem dX6_init_111 : decode cX6_init 111 = .ok (.bipush 61, 2) := by decide +kernel
theorem dX6_init_113 : decode cX6_init 113 = .ok (.newarray .int, 2) := by decide +kernel
theorem dX6_init_115 : decode cX6_init 115 = .ok (.dup, 1) := by decide +kernel
theorem dX6_init_116 : decode cX6_init 116 = .ok (.iconst 0, 1) := by decide +kernel
theorem dX6_init_117 : decode cX6_init 117 = .ok (.bipush 114, 2) := by decide +kernel
theorem dX6_init_119 : decode cX6_init 119 = .ok (.iastore, 1) := by decide +kernel
theorem dX6_init_120 : decode cX6_init 120 = .ok (.dup, 1) := by decide +kernel
theorem dX6_init_121 : decode cX6_init 121 = .ok (.iconst 1, 1) := by decide +kernel
theorem dX6_init_122 : decode cX6_init 122 = .ok (.bipush 117, 2) := by decide +kernel
theorem dX6_init_124 : decode cX6_init 124 = .ok (.iastore, 1) := by decide +kernel
theorem dX6_init_125 : decode cX6_init 125 = .ok (.dup, 1) := by decide +kernel
theorem dX6_init_126 : decode cX6_init 126 = .ok (.iconst 2, 1) := by decide +kernel
theorem dX6_init_127 : decode cX6_init 127 = .ok (.bipush 98, 2) := by decide +kernel
theorem dX6_init_129 : decode cX6_init 129 = .ok (.iastore, 1) := by decide +kernel
theorem dX6_init_130 : decode cX6_init 130 = .ok (.dup, 1) := by decide +kernel
theorem dX6_init_131 : decode cX6_init 131 = .ok (.iconst 3, 1) := by decide +kernel
theorem dX6_init_132 : decode cX6_init 132 = .ok (.bipush 32, 2) := by decide +kernel
theorem dX6_init_134 : decode cX6_init 134 = .ok (.iastore, 1) := by decide +kernel
theorem dX6_init_135 : decode cX6_init 135 = .ok (.dup, 1) := by decide +kernel
theorem dX6_init_136 : decode cX6_init 136 = .ok (.iconst 4, 1) := by decide +kernel
theorem dX6_init_137 : decode cX6_init 137 = .ok (.bipush 49, 2) := by decide +kernel
theorem dX6_init_139 : decode cX6_init 139 = .ok (.iastore, 1) := by decide +kernel
theorem dX6_init_140 : decode cX6_init 140 = .ok (.dup, 1) := by decide +kernel
theorem dX6_init_141 : decode cX6_init 141 = .ok (.iconst 5, 1) := by decide +kernel
theorem dX6_init_142 : decode cX6_init 142 = .ok (.bipush 48, 2) := by decide +kernel
theorem dX6_init_144 : decode cX6_init 144 = .ok (.iastore, 1) := by decide +kernel
theorem dX6_init_145 : decode cX6_init 145 = .ok (.dup, 1) := by decide +kernel
theorem dX6_init_146 : decode cX6_init 146 = .ok (.bipush 6, 2) := by decide +kernel
theorem dX6_init_148 : decode cX6_init 148 = .ok (.bipush 32, 2) := by decide +kernel
theorem dX6_init_150 : decode cX6_init 150 = .ok (.iastore, 1) := by decide +kernel
theorem dX6_init_151 : decode cX6_init 151 = .ok (.dup, 1) := by decide +kernel
theorem dX6_init_152 : decode cX6_init 152 = .ok (.bipush 7, 2) := by decide +kernel
theorem dX6_init_154 : decode cX6_init 154 = .ok (.bipush 43, 2) := by decide +kernel
theorem dX6_init_156 : decode cX6_init 156 = .ok (.iastore, 1) := by decide +kernel
theorem dX6_init_157 : decode cX6_init 157 = .ok (.dup, 1) := by decide +kernel
theorem dX6_init_158 : decode cX6_init 158 = .ok (.bipush 8, 2) := by decide +kernel
theorem dX6_init_160 : decode cX6_init 160 = .ok (.bipush 32, 2) := by decide +kernel
theorem dX6_init_162 : decode cX6_init 162 = .ok (.iastore, 1) := by decide +kernel
theorem dX6_init_163 : decode cX6_init 163 = .ok (.dup, 1) := by decide +kernel
theorem dX6_init_164 : decode cX6_init 164 = .ok (.bipush 9, 2) := by decide +kernel
theorem dX6_init_166 : decode cX6_init 166 = .ok (.bipush 109, 2) := by decide +kernel
theorem dX6_init_168 : decode cX6_init 168 = .ok (.iastore, 1) := by decide +kernel
theorem dX6_init_169 : decode cX6_init 169 = .ok (.dup, 1) := by decide +kernel
theorem dX6_init_170 : decode cX6_init 170 = .ok (.bipush 10, 2) := by decide +kernel
theorem dX6_init_172 : decode cX6_init 172 = .ok (.bipush 111, 2) := by decide +kernel
theorem dX6_init_174 : decode cX6_init 174 = .ok (.iastore, 1) := by decide +kernel
theorem dX6_init_175 : decode cX6_init 175 = .ok (.dup, 1) := by decide +kernel
theorem dX6_init_176 : decode cX6_init 176 = .ok (.bipush 11, 2) := by decide +kernel
theorem dX6_init_178 : decode cX6_init 178 = .ok (.bipush 114, 2) := by decide +kernel
theorem dX6_init_180 : decode cX6_init 180 = .ok (.iastore, 1) := by decide +kernel
theorem dX6_init_181 : decode cX6_init 181 = .ok (.dup, 1) := by decide +kernel
theorem dX6_init_182 : decode cX6_init 182 = .ok (.bipush 12, 2) := by decide +kernel
theorem dX6_init_184 : decode cX6_init 184 = .ok (.bipush 101, 2) := by decide +kernel
theorem dX6_init_186 : decode cX6_init 186 = .ok (.iastore, 1) := by decide +kernel
theorem dX6_init_187 : decode cX6_init 187 = .ok (.dup, 1) := by decide +kernel
theorem dX6_init_188 : decode cX6_init 188 = .ok (.bipush 13, 2) := by decide +kernel
theorem dX6_init_190 : decode cX6_init 190 = .ok (.bipush 32, 2) := by decide +kernel
theorem dX6_init_192 : decode cX6_init 192 = .ok (.iastore, 1) := by decide +kernel
theorem dX6_init_193 : decode cX6_init 193 = .ok (.dup, 1) := by decide +kernel
theorem dX6_init_194 : decode cX6_init 194 = .ok (.bipush 14, 2) := by decide +kernel
theorem dX6_init_196 : decode cX6_init 196 = .ok (.bipush 45, 2) := by decide +kernel
theorem dX6_init_198 : decode cX6_init 198 = .ok (.iastore, 1) := by decide +kernel
theorem dX6_init_199 : decode cX6_init 199 = .ok (.dup, 1) := by decide +kernel
theorem dX6_init_200 : decode cX6_init 200 = .ok (.bipush 15, 2) := by decide +kernel
theorem dX6_init_202 : decode cX6_init 202 = .ok (.bipush 32, 2) := by decide +kernel
theorem dX6_init_204 : decode cX6_init 204 = .ok (.iastore, 1) := by decide +kernel
theorem dX6_init_205 : decode cX6_init 205 = .ok (.dup, 1) := by decide +kernel
theorem dX6_init_206 : decode cX6_init 206 = .ok (.bipush 16, 2) := by decide +kernel
theorem dX6_init_208 : decode cX6_init 208 = .ok (.bipush 102, 2) := by decide +kernel
theorem dX6_init_210 : decode cX6_init 210 = .ok (.iastore, 1) := by decide +kernel
theorem dX6_init_211 : decode cX6_init 211 = .ok (.dup, 1) := by decide +kernel
theorem dX6_init_212 : decode cX6_init 212 = .ok (.bipush 17, 2) := by decide +kernel
theorem dX6_init_214 : decode cX6_init 214 = .ok (.bipush 97, 2) := by decide +kernel
theorem dX6_init_216 : decode cX6_init 216 = .ok (.iastore, 1) := by decide +kernel
theorem dX6_init_217 : decode cX6_init 217 = .ok (.dup, 1) := by decide +kernel
theorem dX6_init_218 : decode cX6_init 218 = .ok (.bipush 18, 2) := by decide +kernel
theorem dX6_init_220 : decode cX6_init 220 = .ok (.bipush 99, 2) := by decide +kernel
theorem dX6_init_222 : decode cX6_init 222 = .ok (.iastore, 1) := by decide +kernel
theorem dX6_init_223 : decode cX6_init 223 = .ok (.dup, 1) := by decide +kernel
theorem dX6_init_224 : decode cX6_init 224 = .ok (.bipush 19, 2) := by decide +kernel
theorem dX6_init_226 : decode cX6_init 226 = .ok (.bipush 101, 2) := by decide +kernel
theorem dX6_init_228 : decode cX6_init 228 = .ok (.iastore, 1) := by decide +kernel
theorem dX6_init_229 : decode cX6_init 229 = .ok (.dup, 1) := by decide +kernel
theorem dX6_init_230 : decode cX6_init 230 = .ok (.bipush 20, 2) := by decide +kernel
theorem dX6_init_232 : decode cX6_init 232 = .ok (.bipush 32, 2) := by decide +kernel
theorem dX6_init_234 : decode cX6_init 234 = .ok (.iastore, 1) := by decide +kernel
theorem dX6_init_235 : decode cX6_init 235 = .ok (.dup, 1) := by decide +kernel
theorem dX6_init_236 : decode cX6_init 236 = .ok (.bipush 21, 2) := by decide +kernel
theorem dX6_init_238 : decode cX6_init 238 = .ok (.bipush 42, 2) := by decide +kernel
theorem dX6_init_240 : decode cX6_init 240 = .ok (.iastore, 1) := by decide +kernel
theorem dX6_init_241 : decode cX6_init 241 = .ok (.dup, 1) := by decide +kernel
theorem dX6_init_242 : decode cX6_init 242 = .ok (.bipush 22, 2) := by decide +kernel
theorem dX6_init_244 : decode cX6_init 244 = .ok (.bipush 32, 2) := by decide +kernel
theorem dX6_init_246 : decode cX6_init 246 = .ok (.iastore, 1) := by decide +kernel
theorem dX6_init_247 : decode cX6_init 247 = .ok (.dup, 1) := by decide +kernel
theorem dX6_init_248 : decode cX6_init 248 = .ok (.bipush 23, 2) := by decide +kernel
theorem dX6_init_250 : decode cX6_init 250 = .ok (.bipush 51, 2) := by decide +kernel
theorem dX6_init_252 : decode cX6_init 252 = .ok (.iastore, 1) := by decide +kernel
theorem dX6_init_253 : decode cX6_init 253 = .ok (.dup, 1) := by decide +kernel
theorem dX6_init_254 : decode cX6_init 254 = .ok (.bipush 24, 2) := by decide +kernel
theorem dX6_init_256 : decode cX6_init 256 = .ok (.bipush 32, 2) := by decide +kernel
theorem dX6_init_258 : decode cX6_init 258 = .ok (.iastore, 1) := by decide +kernel
theorem dX6_init_259 : decode cX6_init 259 = .ok (.dup, 1) := by decide +kernel
theorem dX6_init_260 : decode cX6_init 260 = .ok (.bipush 25, 2) := by decide +kernel
theorem dX6_init_262 : decode cX6_init 262 = .ok (.bipush 59, 2) := by decide +kernel
theorem dX6_init_264 : decode cX6_init 264 = .ok (.iastore, 1) := by decide +kernel
theorem dX6_init_265 : decode cX6_init 265 = .ok (.dup, 1) := by decide +kernel
theorem dX6_init_266 : decode cX6_init 266 = .ok (.bipush 26, 2) := by decide +kernel
theorem dX6_init_268 : decode cX6_init 268 = .ok (.bipush 32, 2) := by decide +kernel
theorem dX6_init_270 : decode cX6_init 270 = .ok (.iastore, 1) := by decide +kernel
theorem dX6_init_271 : decode cX6_init 271 = .ok (.dup, 1) := by decide +kernel
theorem dX6_init_272 : decode cX6_init 272 = .ok (.bipush 27, 2) := by decide +kernel
theorem dX6_init_274 : decode cX6_init 274 = .ok (.bipush 109, 2) := by decide +kernel
theorem dX6_init_276 : decode cX6_init 276 = .ok (.iastore, 1) := by decide +kernel
theorem dX6_init_277 : decode cX6_init 277 = .ok (.dup, 1) := by decide +kernel
theorem dX6_init_278 : decode cX6_init 278 = .ok (.bipush 28, 2) := by decide +kernel
theorem dX6_init_280 : decode cX6_init 280 = .ok (.bipush 105, 2) := by decide +kernel
theorem dX6_init_282 : decode cX6_init 282 = .ok (.iastore, 1) := by decide +kernel
theorem dX6_init_283 : decode cX6_init 283 = .ok (.dup, 1) := by decide +kernel
theorem dX6_init_284 : decode cX6_init 284 = .ok (.bipush 29, 2) := by decide +kernel
theorem dX6_init_286 : decode cX6_init 286 = .ok (.bipush 110, 2) := by decide +kernel
theorem dX6_init_288 : decode cX6_init 288 = .ok (.iastore, 1) := by decide +kernel
theorem dX6_init_289 : decode cX6_init 289 = .ok (.dup, 1) := by decide +kernel
theorem dX6_init_290 : decode cX6_init 290 = .ok (.bipush 30, 2) := by decide +kernel
theorem dX6_init_292 : decode cX6_init 292 = .ok (.bipush 117, 2) := by decide +kernel
theorem dX6_init_294 : decode cX6_init 294 = .ok (.iastore, 1) := by decide +kernel
theorem dX6_init_295 : decode cX6_init 295 = .ok (.dup, 1) := by decide +kernel
theorem dX6_init_296 : decode cX6_init 296 = .ok (.bipush 31, 2) := by decide +kernel
theorem dX6_init_298 : decode cX6_init 298 = .ok (.bipush 116, 2) := by decide +kernel
theorem dX6_init_300 : decode cX6_init 300 = .ok (.iastore, 1) := by decide +kernel
theorem dX6_init_301 : decode cX6_init 301 = .ok (.dup, 1) := by decide +kernel
theorem dX6_init_302 : decode cX6_init 302 = .ok (.bipush 32, 2) := by decide +kernel
theorem dX6_init_304 : decode cX6_init 304 = .ok (.bipush 101, 2) := by decide +kernel
theorem dX6_init_306 : decode cX6_init 306 = .ok (.iastore, 1) := by decide +kernel
theorem dX6_init_307 : decode cX6_init 307 = .ok (.dup, 1) := by decide +kernel
theorem dX6_init_308 : decode cX6_init 308 = .ok (.bipush 33, 2) := by decide +kernel
theorem dX6_init_310 : decode cX6_init 310 = .ok (.bipush 115, 2) := by decide +kernel
theorem dX6_init_312 : decode cX6_init 312 = .ok (.iastore, 1) := by decide +kernel
theorem dX6_init_313 : decode cX6_init 313 = .ok (.dup, 1) := by decide +kernel
theorem dX6_init_314 : decode cX6_init 314 = .ok (.bipush 34, 2) := by decide +kernel
theorem dX6_init_316 : decode cX6_init 316 = .ok (.bipush 32, 2) := by decide +kernel
theorem dX6_init_318 : decode cX6_init 318 = .ok (.iastore, 1) := by decide +kernel
theorem dX6_init_319 : decode cX6_init 319 = .ok (.dup, 1) := by decide +kernel
theorem dX6_init_320 : decode cX6_init 320 = .ok (.bipush 35, 2) := by decide +kernel
theorem dX6_init_322 : decode cX6_init 322 = .ok (.bipush 50, 2) := by decide +kernel
theorem dX6_init_324 : decode cX6_init 324 = .ok (.iastore, 1) := by decide +kernel
theorem dX6_init_325 : decode cX6_init 325 = .ok (.dup, 1) := by decide +kernel
theorem dX6_init_326 : decode cX6_init 326 = .ok (.bipush 36, 2) := by decide +kernel
theorem dX6_init_328 : decode cX6_init 328 = .ok (.bipush 32, 2) := by decide +kernel
theorem dX6_init_330 : decode cX6_init 330 = .ok (.iastore, 1) := by decide +kernel
theorem dX6_init_331 : decode cX6_init 331 = .ok (.dup, 1) := by decide +kernel
theorem dX6_init_332 : decode cX6_init 332 = .ok (.bipush 37, 2) := by decide +kernel
theorem dX6_init_334 : decode cX6_init 334 = .ok (.bipush 43, 2) := by decide +kernel
theorem dX6_init_336 : decode cX6_init 336 = .ok (.iastore, 1) := by decide +kernel
theorem dX6_init_337 : decode cX6_init 337 = .ok (.dup, 1) := by decide +kernel
theorem dX6_init_338 : decode cX6_init 338 = .ok (.bipush 38, 2) := by decide +kernel
theorem dX6_init_340 : decode cX6_init 340 = .ok (.bipush 32, 2) := by decide +kernel
theorem dX6_init_342 : decode cX6_init 342 = .ok (.iastore, 1) := by decide +kernel
theorem dX6_init_343 : decode cX6_init 343 = .ok (.dup, 1) := by decide +kernel
theorem dX6_init_344 : decode cX6_init 344 = .ok (.bipush 39, 2) := by decide +kernel
theorem dX6_init_346 : decode cX6_init 346 = .ok (.bipush 109, 2) := by decide +kernel
theorem dX6_init_348 : decode cX6_init 348 = .ok (.iastore, 1) := by decide +kernel
theorem dX6_init_349 : decode cX6_init 349 = .ok (.dup, 1) := by decide +kernel
theorem dX6_init_350 : decode cX6_init 350 = .ok (.bipush 40, 2) := by decide +kernel
theorem dX6_init_352 : decode cX6_init 352 = .ok (.bipush 111, 2) := by decide +kernel
theorem dX6_init_354 : decode cX6_init 354 = .ok (.iastore, 1) := by decide +kernel
theorem dX6_init_355 : decode cX6_init 355 = .ok (.dup, 1) := by decide +kernel
theorem dX6_init_356 : decode cX6_init 356 = .ok (.bipush 41, 2) := by decide +kernel
theorem dX6_init_358 : decode cX6_init 358 = .ok (.bipush 114, 2) := by decide +kernel
theorem dX6_init_360 : decode cX6_init 360 = .ok (.iastore, 1) := by decide +kernel
theorem dX6_init_361 : decode cX6_init 361 = .ok (.dup, 1) := by decide +kernel
theorem dX6_init_362 : decode cX6_init 362 = .ok (.bipush 42, 2) := by decide +kernel
theorem dX6_init_364 : decode cX6_init 364 = .ok (.bipush 101, 2) := by decide +kernel
theorem dX6_init_366 : decode cX6_init 366 = .ok (.iastore, 1) := by decide +kernel
theorem dX6_init_367 : decode cX6_init 367 = .ok (.dup, 1) := by decide +kernel
theorem dX6_init_368 : decode cX6_init 368 = .ok (.bipush 43, 2) := by decide +kernel
theorem dX6_init_370 : decode cX6_init 370 = .ok (.bipush 32, 2) := by decide +kernel
theorem dX6_init_372 : decode cX6_init 372 = .ok (.iastore, 1) := by decide +kernel
theorem dX6_init_373 : decode cX6_init 373 = .ok (.dup, 1) := by decide +kernel
theorem dX6_init_374 : decode cX6_init 374 = .ok (.bipush 44, 2) := by decide +kernel
theorem dX6_init_376 : decode cX6_init 376 = .ok (.bipush 59, 2) := by decide +kernel
theorem dX6_init_378 : decode cX6_init 378 = .ok (.iastore, 1) := by decide +kernel
theorem dX6_init_379 : decode cX6_init 379 = .ok (.dup, 1) := by decide +kernel
theorem dX6_init_380 : decode cX6_init 380 = .ok (.bipush 45, 2) := by decide +kernel
theorem dX6_init_382 : decode cX6_init 382 = .ok (.bipush 32, 2) := by decide +kernel
theorem dX6_init_384 : decode cX6_init 384 = .ok (.iastore, 1) := by decide +kernel
theorem dX6_init_385 : decode cX6_init 385 = .ok (.dup, 1) := by decide +kernel
theorem dX6_init_386 : decode cX6_init 386 = .ok (.bipush 46, 2) := by decide +kernel
theorem dX6_init_388 : decode cX6_init 388 = .ok (.bipush 115, 2) := by decide +kernel
theorem dX6_init_390 : decode cX6_init 390 = .ok (.iastore, 1) := by decide +kernel
theorem dX6_init_391 : decode cX6_init 391 = .ok (.dup, 1) := by decide +kernel
theorem dX6_init_392 : decode cX6_init 392 = .ok (.bipush 47, 2) := by decide +kernel
theorem dX6_init_394 : decode cX6_init 394 = .ok (.bipush 101, 2) := by decide +kernel
theorem dX6_init_396 : decode cX6_init 396 = .ok (.iastore, 1) := by decide +kernel
theorem dX6_init_397 : decode cX6_init 397 = .ok (.dup, 1) := by decide +kernel
theorem dX6_init_398 : decode cX6_init 398 = .ok (.bipush 48, 2) := by decide +kernel
theorem dX6_init_400 : decode cX6_init 400 = .ok (.bipush 101, 2) := by decide +kernel
theorem dX6_init_402 : decode cX6_init 402 = .ok (.iastore, 1) := by decide +kernel
theorem dX6_init_403 : decode cX6_init 403 = .ok (.dup, 1) := by decide +kernel
theorem dX6_init_404 : decode cX6_init 404 = .ok (.bipush 49, 2) := by decide +kernel
theorem dX6_init_406 : decode cX6_init 406 = .ok (.bipush 110, 2) := by decide +kernel
theorem dX6_init_408 : decode cX6_init 408 = .ok (.iastore, 1) := by decide +kernel
theorem dX6_init_409 : decode cX6_init 409 = .ok (.dup, 1) := by decide +kernel
theorem dX6_init_410 : decode cX6_init 410 = .ok (.bipush 50, 2) := by decide +kernel
theorem dX6_init_412 : decode cX6_init 412 = .ok (.bipush 32, 2) := by decide +kernel
theorem dX6_init_414 : decode cX6_init 414 = .ok (.iastore, 1) := by decide +kernel
theorem dX6_init_415 : decode cX6_init 415 = .ok (.dup, 1) := by decide +kernel
theorem dX6_init_416 : decode cX6_init 416 = .ok (.bipush 51, 2) := by decide +kernel
theorem dX6_init_418 : decode cX6_init 418 = .ok (.bipush 49, 2) := by decide +kernel
theorem dX6_init_420 : decode cX6_init 420 = .ok (.iastore, 1) := by decide +kernel
theorem dX6_init_421 : decode cX6_init 421 = .ok (.dup, 1) := by decide +kernel
theorem dX6_init_422 : decode cX6_init 422 = .ok (.bipush 52, 2) := by decide +kernel
theorem dX6_init_424 : decode cX6_init 424 = .ok (.bipush 32, 2) := by decide +kernel
theorem dX6_init_426 : decode cX6_init 426 = .ok (.iastore, 1) := by decide +kernel
theorem dX6_init_427 : decode cX6_init 427 = .ok (.dup, 1) := by decide +kernel
theorem dX6_init_428 : decode cX6_init 428 = .ok (.bipush 53, 2) := by decide +kernel
theorem dX6_init_430 : decode cX6_init 430 = .ok (.bipush 43, 2) := by decide +kernel
theorem dX6_init_432 : decode cX6_init 432 = .ok (.iastore, 1) := by decide +kernel
theorem dX6_init_433 : decode cX6_init 433 = .ok (.dup, 1) := by decide +kernel
theorem dX6_init_434 : decode cX6_init 434 = .ok (.bipush 54, 2) := by decide +kernel
theorem dX6_init_436 : decode cX6_init 436 = .ok (.bipush 32, 2) := by decide +kernel
theorem dX6_init_438 : decode cX6_init 438 = .ok (.iastore, 1) := by decide +kernel
theorem dX6_init_439 : decode cX6_init 439 = .ok (.dup, 1) := by decide +kernel
theorem dX6_init_440 : decode cX6_init 440 = .ok (.bipush 55, 2) := by decide +kernel
theorem dX6_init_442 : decode cX6_init 442 = .ok (.bipush 102, 2) := by decide +kernel
theorem dX6_init_444 : decode cX6_init 444 = .ok (.iastore, 1) := by decide +kernel
theorem dX6_init_445 : decode cX6_init 445 = .ok (.dup, 1) := by decide +kernel
theorem dX6_init_446 : decode cX6_init 446 = .ok (.bipush 56, 2) := by decide +kernel
theorem dX6_init_448 : decode cX6_init 448 = .ok (.bipush 97, 2) := by decide +kernel
theorem dX6_init_450 : decode cX6_init 450 = .ok (.iastore, 1) := by decide +kernel
theorem dX6_init_451 : decode cX6_init 451 = .ok (.dup, 1) := by decide +kernel
theorem dX6_init_452 : decode cX6_init 452 = .ok (.bipush 57, 2) := by decide +kernel
theorem dX6_init_454 : decode cX6_init 454 = .ok (.bipush 99, 2) := by decide +kernel
theorem dX6_init_456 : decode cX6_init 456 = .ok (.iastore, 1) := by decide +kernel
theorem dX6_init_457 : decode cX6_init 457 = .ok (.dup, 1) := by decide +kernel
theorem dX6_init_458 : decode cX6_init 458 = .ok (.bipush 58, 2) := by decide +kernel
theorem dX6_init_460 : decode cX6_init 460 = .ok (.bipush 101, 2) := by decide +kernel
theorem dX6_init_462 : decode cX6_init 462 = .ok (.iastore, 1) := by decide +kernel
theorem dX6_init_463 : decode cX6_init 463 = .ok (.dup, 1) := by decide +kernel
theorem dX6_init_464 : decode cX6_init 464 = .ok (.bipush 59, 2) := by decide +kernel
theorem dX6_init_466 : decode cX6_init 466 = .ok (.bipush 32, 2) := by decide +kernel
theorem dX6_init_468 : decode cX6_init 468 = .ok (.iastore, 1) := by decide +kernel
theorem dX6_init_469 : decode cX6_init 469 = .ok (.dup, 1) := by decide +kernel
theorem dX6_init_470 : decode cX6_init 470 = .ok (.bipush 60, 2) := by decide +kernel
theorem dX6_init_472 : decode cX6_init 472 = .ok (.bipush 59, 2) := by decide +kernel
theorem dX6_init_474 : decode cX6_init 474 = .ok (.iastore, 1) := by decide +kernel
theorem dX6_init_475 : decode cX6_init 475 = .ok (.putfield 43, 3) := by decide +kernel
theorem dX6_init_478 : decode cX6_init 478 = .ok (.aload_n 0, 1) := by decide +kernel
theorem dX6_init_479 : decode cX6_init 479 = .ok (.bipush 96, 2) := by decide +kernel
theorem dX6_init_481 : decode cX6_init 481 = .ok (.newarray .int, 2) := by decide +kernel
theorem dX6_init_483 : decode cX6_init 483 = .ok (.dup, 1) := by decide +kernel
theorem dX6_init_484 : decode cX6_init 484 = .ok (.iconst 0, 1) := by decide +kernel
theorem dX6_init_485 : decode cX6_init 485 = .ok (.bipush 114, 2) := by decide +kernel
theorem dX6_init_487 : decode cX6_init 487 = .ok (.iastore, 1) := by decide +kernel
theorem dX6_init_488 : decode cX6_init 488 = .ok (.dup, 1) := by decide +kernel
theorem dX6_init_489 : decode cX6_init 489 = .ok (.iconst 1, 1) := by decide +kernel
theorem dX6_init_490 : decode cX6_init 490 = .ok (.bipush 117, 2) := by decide +kernel
theorem dX6_init_492 : decode cX6_init 492 = .ok (.iastore, 1) := by decide +kernel
theorem dX6_init_493 : decode cX6_init 493 = .ok (.dup, 1) := by decide +kernel
theorem dX6_init_494 : decode cX6_init 494 = .ok (.iconst 2, 1) := by decide +kernel
theorem dX6_init_495 : decode cX6_init 495 = .ok (.bipush 98, 2) := by decide +kernel
theorem dX6_init_497 : decode cX6_init 497 = .ok (.iastore, 1) := by decide +kernel
theorem dX6_init_498 : decode cX6_init 498 = .ok (.dup, 1) := by decide +kernel
theorem dX6_init_499 : decode cX6_init 499 = .ok (.iconst 3, 1) := by decide +kernel
theorem dX6_init_500 : decode cX6_init 500 = .ok (.bipush 32, 2) := by decide +kernel
theorem dX6_init_502 : decode cX6_init 502 = .ok (.iastore, 1) := by decide +kernel
theorem dX6_init_503 : decode cX6_init 503 = .ok (.dup, 1) := by decide +kernel
theorem dX6_init_504 : decode cX6_init 504 = .ok (.iconst 4, 1) := by decide +kernel
theorem dX6_init_505 : decode cX6_init 505 = .ok (.bipush 32, 2) := by decide +kernel
theorem dX6_init_507 : decode cX6_init 507 = .ok (.iastore, 1) := by decide +kernel
theorem dX6_init_508 : decode cX6_init 508 = .ok (.dup, 1) := by decide +kernel
theorem dX6_init_509 : decode cX6_init 509 = .ok (.iconst 5, 1) := by decide +kernel
theorem dX6_init_510 : decode cX6_init 510 = .ok (.bipush 32, 2) := by decide +kernel
theorem dX6_init_512 : decode cX6_init 512 = .ok (.iastore, 1) := by decide +kernel
theorem dX6_init_513 : decode cX6_init 513 = .ok (.dup, 1) := by decide +kernel
theorem dX6_init_514 : decode cX6_init 514 = .ok (.bipush 6, 2) := by decide +kernel
theorem dX6_init_516 : decode cX6_init 516 = .ok (.bipush 32, 2) := by decide +kernel
theorem dX6_init_518 : decode cX6_init 518 = .ok (.iastore, 1) := by decide +kernel
theorem dX6_init_519 : decode cX6_init 519 = .ok (.dup, 1) := by decide +kernel
theorem dX6_init_520 : decode cX6_init 520 = .ok (.bipush 7, 2) := by decide +kernel
theorem dX6_init_522 : decode cX6_init 522 = .ok (.bipush 32, 2) := by decide +kernel
theorem dX6_init_524 : decode cX6_init 524 = .ok (.iastore, 1) := by decide +kernel
theorem dX6_init_525 : decode cX6_init 525 = .ok (.dup, 1) := by decide +kernel
theorem dX6_init_526 : decode cX6_init 526 = .ok (.bipush 8, 2) := by decide +kernel
theorem dX6_init_528 : decode cX6_init 528 = .ok (.bipush 109, 2) := by decide +kernel
theorem dX6_init_530 : decode cX6_init 530 = .ok (.iastore, 1) := by decide +kernel
theorem dX6_init_531 : decode cX6_init 531 = .ok (.dup, 1) := by decide +kernel
theorem dX6_init_532 : decode cX6_init 532 = .ok (.bipush 9, 2) := by decide +kernel
theorem dX6_init_534 : decode cX6_init 534 = .ok (.bipush 105, 2) := by decide +kernel
theorem dX6_init_536 : decode cX6_init 536 = .ok (.iastore, 1) := by decide +kernel
theorem dX6_init_537 : decode cX6_init 537 = .ok (.dup, 1) := by decide +kernel
theorem dX6_init_538 : decode cX6_init 538 = .ok (.bipush 10, 2) := by decide +kernel
theorem dX6_init_540 : decode cX6_init 540 = .ok (.bipush 110, 2) := by decide +kernel
theorem dX6_init_542 : decode cX6_init 542 = .ok (.iastore, 1) := by decide +kernel
theorem dX6_init_543 : decode cX6_init 543 = .ok (.dup, 1) := by decide +kernel
theorem dX6_init_544 : decode cX6_init 544 = .ok (.bipush 11, 2) := by decide +kernel
theorem dX6_init_546 : decode cX6_init 546 = .ok (.bipush 117, 2) := by decide +kernel
theorem dX6_init_548 : decode cX6_init 548 = .ok (.iastore, 1) := by decide +kernel
theorem dX6_init_549 : decode cX6_init 549 = .ok (.dup, 1) := by decide +kernel
theorem dX6_init_550 : decode cX6_init 550 = .ok (.bipush 12, 2) := by decide +kernel
theorem dX6_init_552 : decode cX6_init 552 = .ok (.bipush 116, 2) := by decide +kernel
theorem dX6_init_554 : decode cX6_init 554 = .ok (.iastore, 1) := by decide +kernel
theorem dX6_init_555 : decode cX6_init 555 = .ok (.dup, 1) := by decide +kernel
theorem dX6_init_556 : decode cX6_init 556 = .ok (.bipush 13, 2) := by decide +kernel
theorem dX6_init_558 : decode cX6_init 558 = .ok (.bipush 101, 2) := by decide +kernel
theorem dX6_init_560 : decode cX6_init 560 = .ok (.iastore, 1) := by decide +kernel
theorem dX6_init_561 : decode cX6_init 561 = .ok (.dup, 1) := by decide +kernel
theorem dX6_init_562 : decode cX6_init 562 = .ok (.bipush 14, 2) := by decide +kernel
theorem dX6_init_564 : decode cX6_init 564 = .ok (.bipush 115, 2) := by decide +kernel
theorem dX6_init_566 : decode cX6_init 566 = .ok (.iastore, 1) := by decide +kernel
theorem dX6_init_567 : decode cX6_init 567 = .ok (.dup, 1) := by decide +kernel
theorem dX6_init_568 : decode cX6_init 568 = .ok (.bipush 15, 2) := by decide +kernel
theorem dX6_init_570 : decode cX6_init 570 = .ok (.bipush 32, 2) := by decide +kernel
theorem dX6_init_572 : decode cX6_init 572 = .ok (.iastore, 1) := by decide +kernel
theorem dX6_init_573 : decode cX6_init 573 = .ok (.dup, 1) := by decide +kernel
theorem dX6_init_574 : decode cX6_init 574 = .ok (.bipush 16, 2) := by decide +kernel
theorem dX6_init_576 : decode cX6_init 576 = .ok (.bipush 115, 2) := by decide +kernel
theorem dX6_init_578 : decode cX6_init 578 = .ok (.iastore, 1) := by decide +kernel
theorem dX6_init_579 : decode cX6_init 579 = .ok (.dup, 1) := by decide +kernel
theorem dX6_init_580 : decode cX6_init 580 = .ok (.bipush 17, 2) := by decide +kernel
theorem dX6_init_582 : decode cX6_init 582 = .ok (.bipush 101, 2) := by decide +kernel
theorem dX6_init_584 : decode cX6_init 584 = .ok (.iastore, 1) := by decide +kernel
theorem dX6_init_585 : decode cX6_init 585 = .ok (.dup, 1) := by decide +kernel
theorem dX6_init_586 : decode cX6_init 586 = .ok (.bipush 18, 2) := by decide +kernel
theorem dX6_init_588 : decode cX6_init 588 = .ok (.bipush 101, 2) := by decide +kernel
theorem dX6_init_590 : decode cX6_init 590 = .ok (.iastore, 1) := by decide +kernel
theorem dX6_init_591 : decode cX6_init 591 = .ok (.dup, 1) := by decide +kernel
theorem dX6_init_592 : decode cX6_init 592 = .ok (.bipush 19, 2) := by decide +kernel
theorem dX6_init_594 : decode cX6_init 594 = .ok (.bipush 110, 2) := by decide +kernel
theorem dX6_init_596 : decode cX6_init 596 = .ok (.iastore, 1) := by decide +kernel
theorem dX6_init_597 : decode cX6_init 597 = .ok (.dup, 1) := by decide +kernel
theorem dX6_init_598 : decode cX6_init 598 = .ok (.bipush 20, 2) := by decide +kernel
theorem dX6_init_600 : decode cX6_init 600 = .ok (.bipush 32, 2) := by decide +kernel
theorem dX6_init_602 : decode cX6_init 602 = .ok (.iastore, 1) := by decide +kernel
theorem dX6_init_603 : decode cX6_init 603 = .ok (.dup, 1) := by decide +kernel
theorem dX6_init_604 : decode cX6_init 604 = .ok (.bipush 21, 2) := by decide +kernel
theorem dX6_init_606 : decode cX6_init 606 = .ok (.bipush 32, 2) := by decide +kernel
theorem dX6_init_608 : decode cX6_init 608 = .ok (.iastore, 1) := by decide +kernel
theorem dX6_init_609 : decode cX6_init 609 = .ok (.dup, 1) := by decide +kernel
theorem dX6_init_610 : decode cX6_init 610 = .ok (.bipush 22, 2) := by decide +kernel
theorem dX6_init_612 : decode cX6_init 612 = .ok (.bipush 32, 2) := by decide +kernel
theorem dX6_init_614 : decode cX6_init 614 = .ok (.iastore, 1) := by decide +kernel
theorem dX6_init_615 : decode cX6_init 615 = .ok (.dup, 1) := by decide +kernel
theorem dX6_init_616 : decode cX6_init 616 = .ok (.bipush 23, 2) := by decide +kernel
theorem dX6_init_618 : decode cX6_init 618 = .ok (.bipush 32, 2) := by decide +kernel
theorem dX6_init_620 : decode cX6_init 620 = .ok (.iastore, 1) := by decide +kernel
theorem dX6_init_621 : decode cX6_init 621 = .ok (.dup, 1) := by decide +kernel
theorem dX6_init_622 : decode cX6_init 622 = .ok (.bipush 24, 2) := by decide +kernel
theorem dX6_init_624 : decode cX6_init 624 = .ok (.bipush 114, 2) := by decide +kernel
theorem dX6_init_626 : decode cX6_init 626 = .ok (.iastore, 1) := by decide +kernel
theorem dX6_init_627 : decode cX6_init 627 = .ok (.dup, 1) := by decide +kernel
theorem dX6_init_628 : decode cX6_init 628 = .ok (.bipush 25, 2) := by decide +kernel
theorem dX6_init_630 : decode cX6_init 630 = .ok (.bipush 111, 2) := by decide +kernel
theorem dX6_init_632 : decode cX6_init 632 = .ok (.iastore, 1) := by decide +kernel
theorem dX6_init_633 : decode cX6_init 633 = .ok (.dup, 1) := by decide +kernel
theorem dX6_init_634 : decode cX6_init 634 = .ok (.bipush 26, 2) := by decide +kernel
theorem dX6_init_636 : decode cX6_init 636 = .ok (.bipush 119, 2) := by decide +kernel
theorem dX6_init_638 : decode cX6_init 638 = .ok (.iastore, 1) := by decide +kernel
theorem dX6_init_639 : decode cX6_init 639 = .ok (.dup, 1) := by decide +kernel
theorem dX6_init_640 : decode cX6_init 640 = .ok (.bipush 27, 2) := by decide +kernel
theorem dX6_init_642 : decode cX6_init 642 = .ok (.bipush 32, 2) := by decide +kernel
theorem dX6_init_644 : decode cX6_init 644 = .ok (.iastore, 1) := by decide +kernel
theorem dX6_init_645 : decode cX6_init 645 = .ok (.dup, 1) := by decide +kernel
theorem dX6_init_646 : decode cX6_init 646 = .ok (.bipush 28, 2) := by decide +kernel
theorem dX6_init_648 : decode cX6_init 648 = .ok (.bipush 32, 2) := by decide +kernel
theorem dX6_init_650 : decode cX6_init 650 = .ok (.iastore, 1) := by decide +kernel
theorem dX6_init_651 : decode cX6_init 651 = .ok (.dup, 1) := by decide +kernel
theorem dX6_init_652 : decode cX6_init 652 = .ok (.bipush 29, 2) := by decide +kernel
theorem dX6_init_654 : decode cX6_init 654 = .ok (.bipush 32, 2) := by decide +kernel
theorem dX6_init_656 : decode cX6_init 656 = .ok (.iastore, 1) := by decide +kernel
theorem dX6_init_657 : decode cX6_init 657 = .ok (.dup, 1) := by decide +kernel
theorem dX6_init_658 : decode cX6_init 658 = .ok (.bipush 30, 2) := by decide +kernel
theorem dX6_init_660 : decode cX6_init 660 = .ok (.bipush 32, 2) := by decide +kernel
theorem dX6_init_662 : decode cX6_init 662 = .ok (.iastore, 1) := by decide +kernel
theorem dX6_init_663 : decode cX6_init 663 = .ok (.dup, 1) := by decide +kernel
theorem dX6_init_664 : decode cX6_init 664 = .ok (.bipush 31, 2) := by decide +kernel
theorem dX6_init_666 : decode cX6_init 666 = .ok (.bipush 32, 2) := by decide +kernel
theorem dX6_init_668 : decode cX6_init 668 = .ok (.iastore, 1) := by decide +kernel
theorem dX6_init_669 : decode cX6_init 669 = .ok (.dup, 1) := by decide +kernel
theorem dX6_init_670 : decode cX6_init 670 = .ok (.bipush 32, 2) := by decide +kernel
theorem dX6_init_672 : decode cX6_init 672 = .ok (.bipush 112, 2) := by decide +kernel
theorem dX6_init_674 : decode cX6_init 674 = .ok (.iastore, 1) := by decide +kernel
theorem dX6_init_675 : decode cX6_init 675 = .ok (.dup, 1) := by decide +kernel
theorem dX6_init_676 : decode cX6_init 676 = .ok (.bipush 33, 2) := by decide +kernel
theorem dX6_init_678 : decode cX6_init 678 = .ok (.bipush 108, 2) := by decide +kernel
theorem dX6_init_680 : decode cX6_init 680 = .ok (.iastore, 1) := by decide +kernel
theorem dX6_init_681 : decode cX6_init 681 = .ok (.dup, 1) := by decide +kernel
theorem dX6_init_682 : decode cX6_init 682 = .ok (.bipush 34, 2) := by decide +kernel
theorem dX6_init_684 : decode cX6_init 684 = .ok (.bipush 97, 2) := by decide +kernel
theorem dX6_init_686 : decode cX6_init 686 = .ok (.iastore, 1) := by decide +kernel
theorem dX6_init_687 : decode cX6_init 687 = .ok (.dup, 1) := by decide +kernel
theorem dX6_init_688 : decode cX6_init 688 = .ok (.bipush 35, 2) := by decide +kernel
theorem dX6_init_690 : decode cX6_init 690 = .ok (.bipush 99, 2) := by decide +kernel
theorem dX6_init_692 : decode cX6_init 692 = .ok (.iastore, 1) := by decide +kernel
theorem dX6_init_693 : decode cX6_init 693 = .ok (.dup, 1) := by decide +kernel
theorem dX6_init_694 : decode cX6_init 694 = .ok (.bipush 36, 2) := by decide +kernel
theorem dX6_init_696 : decode cX6_init 696 = .ok (.bipush 101, 2) := by decide +kernel
theorem dX6_init_698 : decode cX6_init 698 = .ok (.iastore, 1) := by decide +kernel
theorem dX6_init_699 : decode cX6_init 699 = .ok (.dup, 1) := by decide +kernel
theorem dX6_init_700 : decode cX6_init 700 = .ok (.bipush 37, 2) := by decide +kernel
theorem dX6_init_702 : decode cX6_init 702 = .ok (.bipush 32, 2) := by decide +kernel
theorem dX6_init_704 : decode cX6_init 704 = .ok (.iastore, 1) := by decide +kernel
theorem dX6_init_705 : decode cX6_init 705 = .ok (.dup, 1) := by decide +kernel
theorem dX6_init_706 : decode cX6_init 706 = .ok (.bipush 38, 2) := by decide +kernel
theorem dX6_init_708 : decode cX6_init 708 = .ok (.bipush 32, 2) := by decide +kernel
theorem dX6_init_710 : decode cX6_init 710 = .ok (.iastore, 1) := by decide +kernel
theorem dX6_init_711 : decode cX6_init 711 = .ok (.dup, 1) := by decide +kernel
theorem dX6_init_712 : decode cX6_init 712 = .ok (.bipush 39, 2) := by decide +kernel
theorem dX6_init_714 : decode cX6_init 714 = .ok (.bipush 32, 2) := by decide +kernel
theorem dX6_init_716 : decode cX6_init 716 = .ok (.iastore, 1) := by decide +kernel
theorem dX6_init_717 : decode cX6_init 717 = .ok (.dup, 1) := by decide +kernel
theorem dX6_init_718 : decode cX6_init 718 = .ok (.bipush 40, 2) := by decide +kernel
theorem dX6_init_720 : decode cX6_init 720 = .ok (.bipush 109, 2) := by decide +kernel
theorem dX6_init_722 : decode cX6_init 722 = .ok (.iastore, 1) := by decide +kernel
theorem dX6_init_723 : decode cX6_init 723 = .ok (.dup, 1) := by decide +kernel
theorem dX6_init_724 : decode cX6_init 724 = .ok (.bipush 41, 2) := by decide +kernel
theorem dX6_init_726 : decode cX6_init 726 = .ok (.bipush 111, 2) := by decide +kernel
theorem dX6_init_728 : decode cX6_init 728 = .ok (.iastore, 1) := by decide +kernel
theorem dX6_init_729 : decode cX6_init 729 = .ok (.dup, 1) := by decide +kernel
theorem dX6_init_730 : decode cX6_init 730 = .ok (.bipush 42, 2) := by decide +kernel
theorem dX6_init_732 : decode cX6_init 732 = .ok (.bipush 114, 2) := by decide +kernel
theorem dX6_init_734 : decode cX6_init 734 = .ok (.iastore, 1) := by decide +kernel
theorem dX6_init_735 : decode cX6_init 735 = .ok (.dup, 1) := by decide +kernel
theorem dX6_init_736 : decode cX6_init 736 = .ok (.bipush 43, 2) := by decide +kernel
theorem dX6_init_738 : decode cX6_init 738 = .ok (.bipush 101, 2) := by decide +kernel
theorem dX6_init_740 : decode cX6_init 740 = .ok (.iastore, 1) := by decide +kernel
theorem dX6_init_741 : decode cX6_init 741 = .ok (.dup, 1) := by decide +kernel
theorem dX6_init_742 : decode cX6_init 742 = .ok (.bipush 44, 2) := by decide +kernel
theorem dX6_init_744 : decode cX6_init 744 = .ok (.bipush 32, 2) := by decide +kernel
theorem dX6_init_746 : decode cX6_init 746 = .ok (.iastore, 1) := by decide +kernel
theorem dX6_init_747 : decode cX6_init 747 = .ok (.dup, 1) := by decide +kernel
theorem dX6_init_748 : decode cX6_init 748 = .ok (.bipush 45, 2) := by decide +kernel
theorem dX6_init_750 : decode cX6_init 750 = .ok (.bipush 32, 2) := by decide +kernel
theorem dX6_init_752 : decode cX6_init 752 = .ok (.iastore, 1) := by decide +kernel
theorem dX6_init_753 : decode cX6_init 753 = .ok (.dup, 1) := by decide +kernel
theorem dX6_init_754 : decode cX6_init 754 = .ok (.bipush 46, 2) := by decide +kernel
theorem dX6_init_756 : decode cX6_init 756 = .ok (.bipush 32, 2) := by decide +kernel
theorem dX6_init_758 : decode cX6_init 758 = .ok (.iastore, 1) := by decide +kernel
theorem dX6_init_759 : decode cX6_init 759 = .ok (.dup, 1) := by decide +kernel
theorem dX6_init_760 : decode cX6_init 760 = .ok (.bipush 47, 2) := by decide +kernel
theorem dX6_init_762 : decode cX6_init 762 = .ok (.bipush 32, 2) := by decide +kernel
theorem dX6_init_764 : decode cX6_init 764 = .ok (.iastore, 1) := by decide +kernel
theorem dX6_init_765 : decode cX6_init 765 = .ok (.dup, 1) := by decide +kernel
theorem dX6_init_766 : decode cX6_init 766 = .ok (.bipush 48, 2) := by decide +kernel
theorem dX6_init_768 : decode cX6_init 768 = .ok (.bipush 112, 2) := by decide +kernel
theorem dX6_init_770 : decode cX6_init 770 = .ok (.iastore, 1) := by decide +kernel
theorem dX6_init_771 : decode cX6_init 771 = .ok (.dup, 1) := by decide +kernel
theorem dX6_init_772 : decode cX6_init 772 = .ok (.bipush 49, 2) := by decide +kernel
theorem dX6_init_774 : decode cX6_init 774 = .ok (.bipush 117, 2) := by decide +kernel
theorem dX6_init_776 : decode cX6_init 776 = .ok (.iastore, 1) := by decide +kernel
theorem dX6_init_777 : decode cX6_init 777 = .ok (.dup, 1) := by decide +kernel
theorem dX6_init_778 : decode cX6_init 778 = .ok (.bipush 50, 2) := by decide +kernel
theorem dX6_init_780 : decode cX6_init 780 = .ok (.bipush 108, 2) := by decide +kernel
theorem dX6_init_782 : decode cX6_init 782 = .ok (.iastore, 1) := by decide +kernel
theorem dX6_init_783 : decode cX6_init 783 = .ok (.dup, 1) := by decide +kernel
theorem dX6_init_784 : decode cX6_init 784 = .ok (.bipush 51, 2) := by decide +kernel
theorem dX6_init_786 : decode cX6_init 786 = .ok (.bipush 108, 2) := by decide +kernel
theorem dX6_init_788 : decode cX6_init 788 = .ok (.iastore, 1) := by decide +kernel
theorem dX6_init_789 : decode cX6_init 789 = .ok (.dup, 1) := by decide +kernel
theorem dX6_init_790 : decode cX6_init 790 = .ok (.bipush 52, 2) := by decide +kernel
theorem dX6_init_792 : decode cX6_init 792 = .ok (.bipush 32, 2) := by decide +kernel
theorem dX6_init_794 : decode cX6_init 794 = .ok (.iastore, 1) := by decide +kernel
theorem dX6_init_795 : decode cX6_init 795 = .ok (.dup, 1) := by decide +kernel
theorem dX6_init_796 : decode cX6_init 796 = .ok (.bipush 53, 2) := by decide +kernel
theorem dX6_init_798 : decode cX6_init 798 = .ok (.bipush 32, 2) := by decide +kernel
theorem dX6_init_800 : decode cX6_init 800 = .ok (.iastore, 1) := by decide +kernel
theorem dX6_init_801 : decode cX6_init 801 = .ok (.dup, 1) := by decide +kernel
theorem dX6_init_802 : decode cX6_init 802 = .ok (.bipush 54, 2) := by decide +kernel
theorem dX6_init_804 : decode cX6_init 804 = .ok (.bipush 32, 2) := by decide +kernel
theorem dX6_init_806 : decode cX6_init 806 = .ok (.iastore, 1) := by decide +kernel
theorem dX6_init_807 : decode cX6_init 807 = .ok (.dup, 1) := by decide +kernel
theorem dX6_init_808 : decode cX6_init 808 = .ok (.bipush 55, 2) := by decide +kernel
theorem dX6_init_810 : decode cX6_init 810 = .ok (.bipush 32, 2) := by decide +kernel
theorem dX6_init_812 : decode cX6_init 812 = .ok (.iastore, 1) := by decide +kernel
theorem dX6_init_813 : decode cX6_init 813 = .ok (.dup, 1) := by decide +kernel
theorem dX6_init_814 : decode cX6_init 814 = .ok (.bipush 56, 2) := by decide +kernel
theorem dX6_init_816 : decode cX6_init 816 = .ok (.bipush 102, 2) := by decide +kernel
theorem dX6_init_818 : decode cX6_init 818 = .ok (.iastore, 1) := by decide +kernel
theorem dX6_init_819 : decode cX6_init 819 = .ok (.dup, 1) := by decide +kernel
theorem dX6_init_820 : decode cX6_init 820 = .ok (.bipush 57, 2) := by decide +kernel
theorem dX6_init_822 : decode cX6_init 822 = .ok (.bipush 97, 2) := by decide +kernel
theorem dX6_init_824 : decode cX6_init 824 = .ok (.iastore, 1) := by decide +kernel
theorem dX6_init_825 : decode cX6_init 825 = .ok (.dup, 1) := by decide +kernel
theorem dX6_init_826 : decode cX6_init 826 = .ok (.bipush 58, 2) := by decide +kernel
theorem dX6_init_828 : decode cX6_init 828 = .ok (.bipush 99, 2) := by decide +kernel
theorem dX6_init_830 : decode cX6_init 830 = .ok (.iastore, 1) := by decide +kernel
theorem dX6_init_831 : decode cX6_init 831 = .ok (.dup, 1) := by decide +kernel
theorem dX6_init_832 : decode cX6_init 832 = .ok (.bipush 59, 2) := by decide +kernel
theorem dX6_init_834 : decode cX6_init 834 = .ok (.bipush 101, 2) := by decide +kernel
theorem dX6_init_836 : decode cX6_init 836 = .ok (.iastore, 1) := by decide +kernel
theorem dX6_init_837 : decode cX6_init 837 = .ok (.dup, 1) := by decide +kernel
theorem dX6_init_838 : decode cX6_init 838 = .ok (.bipush 60, 2) := by decide +kernel
theorem dX6_init_840 : decode cX6_init 840 = .ok (.bipush 32, 2) := by decide +kernel
theorem dX6_init_842 : decode cX6_init 842 = .ok (.iastore, 1) := by decide +kernel
theorem dX6_init_843 : decode cX6_init 843 = .ok (.dup, 1) := by decide +kernel
theorem dX6_init_844 : decode cX6_init 844 = .ok (.bipush 61, 2) := by decide +kernel
theorem dX6_init_846 : decode cX6_init 846 = .ok (.bipush 32, 2) := by decide +kernel
theorem dX6_init_848 : decode cX6_init 848 = .ok (.iastore, 1) := by decide +kernel
theorem dX6_init_849 : decode cX6_init 849 = .ok (.dup, 1) := by decide +kernel
theorem dX6_init_850 : decode cX6_init 850 = .ok (.bipush 62, 2) := by decide +kernel
theorem dX6_init_852 : decode cX6_init 852 = .ok (.bipush 32, 2) := by decide +kernel
theorem dX6_init_854 : decode cX6_init 854 = .ok (.iastore, 1) := by decide +kernel
theorem dX6_init_855 : decode cX6_init 855 = .ok (.dup, 1) := by decide +kernel
theorem dX6_init_856 : decode cX6_init 856 = .ok (.bipush 63, 2) := by decide +kernel
theorem dX6_init_858 : decode cX6_init 858 = .ok (.bipush 32, 2) := by decide +kernel
theorem dX6_init_860 : decode cX6_init 860 = .ok (.iastore, 1) := by decide +kernel
theorem dX6_init_861 : decode cX6_init 861 = .ok (.dup, 1) := by decide +kernel
theorem dX6_init_862 : decode cX6_init 862 = .ok (.bipush 64, 2) := by decide +kernel
theorem dX6_init_864 : decode cX6_init 864 = .ok (.bipush 109, 2) := by decide +kernel
theorem dX6_init_866 : decode cX6_init 866 = .ok (.iastore, 1) := by decide +kernel
theorem dX6_init_867 : decode cX6_init 867 = .ok (.dup, 1) := by decide +kernel
theorem dX6_init_868 : decode cX6_init 868 = .ok (.bipush 65, 2) := by decide +kernel
theorem dX6_init_870 : decode cX6_init 870 = .ok (.bipush 101, 2) := by decide +kernel
theorem dX6_init_872 : decode cX6_init 872 = .ok (.iastore, 1) := by decide +kernel
theorem dX6_init_873 : decode cX6_init 873 = .ok (.dup, 1) := by decide +kernel
theorem dX6_init_874 : decode cX6_init 874 = .ok (.bipush 66, 2) := by decide +kernel
theorem dX6_init_876 : decode cX6_init 876 = .ok (.bipush 110, 2) := by decide +kernel
theorem dX6_init_878 : decode cX6_init 878 = .ok (.iastore, 1) := by decide +kernel
theorem dX6_init_879 : decode cX6_init 879 = .ok (.dup, 1) := by decide +kernel
theorem dX6_init_880 : decode cX6_init 880 = .ok (.bipush 67, 2) := by decide +kernel
theorem dX6_init_882 : decode cX6_init 882 = .ok (.bipush 100, 2) := by decide +kernel
theorem dX6_init_884 : decode cX6_init 884 = .ok (.iastore, 1) := by decide +kernel
theorem dX6_init_885 : decode cX6_init 885 = .ok (.dup, 1) := by decide +kernel
theorem dX6_init_886 : decode cX6_init 886 = .ok (.bipush 68, 2) := by decide +kernel
theorem dX6_init_888 : decode cX6_init 888 = .ok (.bipush 101, 2) := by decide +kernel
theorem dX6_init_890 : decode cX6_init 890 = .ok (.iastore, 1) := by decide +kernel
theorem dX6_init_891 : decode cX6_init 891 = .ok (.dup, 1) := by decide +kernel
theorem dX6_init_892 : decode cX6_init 892 = .ok (.bipush 69, 2) := by decide +kernel
theorem dX6_init_894 : decode cX6_init 894 = .ok (.bipush 100, 2) := by decide +kernel
theorem dX6_init_896 : decode cX6_init 896 = .ok (.iastore, 1) := by decide +kernel
theorem dX6_init_897 : decode cX6_init 897 = .ok (.dup, 1) := by decide +kernel
theorem dX6_init_898 : decode cX6_init 898 = .ok (.bipush 70, 2) := by decide +kernel
theorem dX6_init_900 : decode cX6_init 900 = .ok (.bipush 32, 2) := by decide +kernel
theorem dX6_init_902 : decode cX6_init 902 = .ok (.iastore, 1) := by decide +kernel
theorem dX6_init_903 : decode cX6_init 903 = .ok (.dup, 1) := by decide +kernel
theorem dX6_init_904 : decode cX6_init 904 = .ok (.bipush 71, 2) := by decide +kernel
theorem dX6_init_906 : decode cX6_init 906 = .ok (.bipush 32, 2) := by decide +kernel
theorem dX6_init_908 : decode cX6_init 908 = .ok (.iastore, 1) := by decide +kernel
theorem dX6_init_909 : decode cX6_init 909 = .ok (.dup, 1) := by decide +kernel
theorem dX6_init_910 : decode cX6_init 910 = .ok (.bipush 72, 2) := by decide +kernel
theorem dX6_init_912 : decode cX6_init 912 = .ok (.bipush 111, 2) := by decide +kernel
theorem dX6_init_914 : decode cX6_init 914 = .ok (.iastore, 1) := by decide +kernel
theorem dX6_init_915 : decode cX6_init 915 = .ok (.dup, 1) := by decide +kernel
theorem dX6_init_916 : decode cX6_init 916 = .ok (.bipush 73, 2) := by decide +kernel
theorem dX6_init_918 : decode cX6_init 918 = .ok (.bipush 114, 2) := by decide +kernel
theorem dX6_init_920 : decode cX6_init 920 = .ok (.iastore, 1) := by decide +kernel
theorem dX6_init_921 : decode cX6_init 921 = .ok (.dup, 1) := by decide +kernel
theorem dX6_init_922 : decode cX6_init 922 = .ok (.bipush 74, 2) := by decide +kernel
theorem dX6_init_924 : decode cX6_init 924 = .ok (.bipush 32, 2) := by decide +kernel
theorem dX6_init_926 : decode cX6_init 926 = .ok (.iastore, 1) := by decide +kernel
theorem dX6_init_927 : decode cX6_init 927 = .ok (.dup, 1) := by decide +kernel
theorem dX6_init_928 : decode cX6_init 928 = .ok (.bipush 75, 2) := by decide +kernel
theorem dX6_init_930 : decode cX6_init 930 = .ok (.bipush 32, 2) := by decide +kernel
theorem dX6_init_932 : decode cX6_init 932 = .ok (.iastore, 1) := by decide +kernel
theorem dX6_init_933 : decode cX6_init 933 = .ok (.dup, 1) := by decide +kernel
theorem dX6_init_934 : decode cX6_init 934 = .ok (.bipush 76, 2) := by decide +kernel
theorem dX6_init_936 : decode cX6_init 936 = .ok (.bipush 32, 2) := by decide +kernel
theorem dX6_init_938 : decode cX6_init 938 = .ok (.iastore, 1) := by decide +kernel
theorem dX6_init_939 : decode cX6_init 939 = .ok (.dup, 1) := by decide +kernel
theorem dX6_init_940 : decode cX6_init 940 = .ok (.bipush 77, 2) := by decide +kernel
theorem dX6_init_942 : decode cX6_init 942 = .ok (.bipush 32, 2) := by decide +kernel
theorem dX6_init_944 : decode cX6_init 944 = .ok (.iastore, 1) := by decide +kernel
theorem dX6_init_945 : decode cX6_init 945 = .ok (.dup, 1) := by decide +kernel
theorem dX6_init_946 : decode cX6_init 946 = .ok (.bipush 78, 2) := by decide +kernel
theorem dX6_init_948 : decode cX6_init 948 = .ok (.bipush 32, 2) := by decide +kernel
theorem dX6_init_950 : decode cX6_init 950 = .ok (.iastore, 1) := by decide +kernel
theorem dX6_init_951 : decode cX6_init 951 = .ok (.dup, 1) := by decide +kernel
theorem dX6_init_952 : decode cX6_init 952 = .ok (.bipush 79, 2) := by decide +kernel
theorem dX6_init_954 : decode cX6_init 954 = .ok (.bipush 32, 2) := by decide +kernel
theorem dX6_init_956 : decode cX6_init 956 = .ok (.iastore, 1) := by decide +kernel
theorem dX6_init_957 : decode cX6_init 957 = .ok (.dup, 1) := by decide +kernel
theorem dX6_init_958 : decode cX6_init 958 = .ok (.bipush 80, 2) := by decide +kernel
theorem dX6_init_960 : decode cX6_init 960 = .ok (.bipush 97, 2) := by decide +kernel
theorem dX6_init_962 : decode cX6_init 962 = .ok (.iastore, 1) := by decide +kernel
theorem dX6_init_963 : decode cX6_init 963 = .ok (.dup, 1) := by decide +kernel
theorem dX6_init_964 : decode cX6_init 964 = .ok (.bipush 81, 2) := by decide +kernel
theorem dX6_init_966 : decode cX6_init 966 = .ok (.bipush 110, 2) := by decide +kernel
theorem dX6_init_968 : decode cX6_init 968 = .ok (.iastore, 1) := by decide +kernel
theorem dX6_init_969 : decode cX6_init 969 = .ok (.dup, 1) := by decide +kernel
theorem dX6_init_970 : decode cX6_init 970 = .ok (.bipush 82, 2) := by decide +kernel
theorem dX6_init_972 : decode cX6_init 972 = .ok (.bipush 100, 2) := by decide +kernel
theorem dX6_init_974 : decode cX6_init 974 = .ok (.iastore, 1) := by decide +kernel
theorem dX6_init_975 : decode cX6_init 975 = .ok (.dup, 1) := by decide +kernel
theorem dX6_init_976 : decode cX6_init 976 = .ok (.bipush 83, 2) := by decide +kernel
theorem dX6_init_978 : decode cX6_init 978 = .ok (.bipush 32, 2) := by decide +kernel
theorem dX6_init_980 : decode cX6_init 980 = .ok (.iastore, 1) := by decide +kernel
theorem dX6_init_981 : decode cX6_init 981 = .ok (.dup, 1) := by decide +kernel
theorem dX6_init_982 : decode cX6_init 982 = .ok (.bipush 84, 2) := by decide +kernel
theorem dX6_init_984 : decode cX6_init 984 = .ok (.bipush 32, 2) := by decide +kernel
theorem dX6_init_986 : decode cX6_init 986 = .ok (.iastore, 1) := by decide +kernel
theorem dX6_init_987 : decode cX6_init 987 = .ok (.dup, 1) := by decide +kernel
theorem dX6_init_988 : decode cX6_init 988 = .ok (.bipush 85, 2) := by decide +kernel
theorem dX6_init_990 : decode cX6_init 990 = .ok (.bipush 32, 2) := by decide +kernel
theorem dX6_init_992 : decode cX6_init 992 = .ok (.iastore, 1) := by decide +kernel
theorem dX6_init_993 : decode cX6_init 993 = .ok (.dup, 1) := by decide +kernel
theorem dX6_init_994 : decode cX6_init 994 = .ok (.bipush 86, 2) := by decide +kernel
theorem dX6_init_996 : decode cX6_init 996 = .ok (.bipush 32, 2) := by decide +kernel
theorem dX6_init_998 : decode cX6_init 998 = .ok (.iastore, 1) := by decide +kernel
theorem dX6_init_999 : decode cX6_init 999 = .ok (.dup, 1) := by decide +kernel
theorem dX6_init_1000 : decode cX6_init 1000 = .ok (.bipush 87, 2) := by decide +kernel
theorem dX6_init_1002 : decode cX6_init 1002 = .ok (.bipush 32, 2) := by decide +kernel
theorem dX6_init_1004 : decode cX6_init 1004 = .ok (.iastore, 1) := by decide +kernel
theorem dX6_init_1005 : decode cX6_init 1005 = .ok (.dup, 1) := by decide +kernel
theorem dX6_init_1006 : decode cX6_init 1006 = .ok (.bipush 88, 2) := by decide +kernel
theorem dX6_init_1008 : decode cX6_init 1008 = .ok (.bipush 110, 2) := by decide +kernel
theorem dX6_init_1010 : decode cX6_init 1010 = .ok (.iastore, 1) := by decide +kernel
theorem dX6_init_1011 : decode cX6_init 1011 = .ok (.dup, 1) := by decide +kernel
theorem dX6_init_1012 : decode cX6_init 1012 = .ok (.bipush 89, 2) := by decide +kernel
theorem dX6_init_1014 : decode cX6_init 1014 = .ok (.bipush 111, 2) := by decide +kernel
theorem dX6_init_1016 : decode cX6_init 1016 = .ok (.iastore, 1) := by decide +kernel
theorem dX6_init_1017 : decode cX6_init 1017 = .ok (.dup, 1) := by decide +kernel
theorem dX6_init_1018 : decode cX6_init 1018 = .ok (.bipush 90, 2) := by decide +kernel
theorem dX6_init_1020 : decode cX6_init 1020 = .ok (.bipush 116, 2) := by decide +kernel
theorem dX6_init_1022 : decode cX6_init 1022 = .ok (.iastore, 1) := by decide +kernel
theorem dX6_init_1023 : decode cX6_init 1023 = .ok (.dup, 1) := by decide +kernel
theorem dX6_init_1024 : decode cX6_init 1024 = .ok (.bipush 91, 2) := by decide +kernel
theorem dX6_init_1026 : decode cX6_init 1026 = .ok (.bipush 32, 2) := by decide +kernel
theorem dX6_init_1028 : decode cX6_init 1028 = .ok (.iastore, 1) := by decide +kernel
theorem dX6_init_1029 : decode cX6_init 1029 = .ok (.dup, 1) := by decide +kernel
theorem dX6_init_1030 : decode cX6_init 1030 = .ok (.bipush 92, 2) := by decide +kernel
theorem dX6_init_1032 : decode cX6_init 1032 = .ok (.bipush 32, 2) := by decide +kernel
theorem dX6_init_1034 : decode cX6_init 1034 = .ok (.iastore, 1) := by decide +kernel
theorem dX6_init_1035 : decode cX6_init 1035 = .ok (.dup, 1) := by decide +kernel
theorem dX6_init_1036 : decode cX6_init 1036 = .ok (.bipush 93, 2) := by decide +kernel
theorem dX6_init_1038 : decode cX6_init 1038 = .ok (.bipush 32, 2) := by decide +kernel
theorem dX6_init_1040 : decode cX6_init 1040 = .ok (.iastore, 1) := by decide +kernel
theorem dX6_init_1041 : decode cX6_init 1041 = .ok (.dup, 1) := by decide +kernel
theorem dX6_init_1042 : decode cX6_init 1042 = .ok (.bipush 94, 2) := by decide +kernel
theorem dX6_init_1044 : decode cX6_init 1044 = .ok (.bipush 32, 2) := by decide +kernel
theorem dX6_init_1046 : decode cX6_init 1046 = .ok (.iastore, 1) := by decide +kernel
theorem dX6_init_1047 : decode cX6_init 1047 = .ok (.dup, 1) := by decide +kernel
theorem dX6_init_1048 : decode cX6_init 1048 = .ok (.bipush 95, 2) := by decide +kernel
theorem dX6_init_1050 : decode cX6_init 1050 = .ok (.bipush 32, 2) := by decide +kernel
theorem dX6_init_1052 : decode cX6_init 1052 = .ok (.iastore, 1) := by decide +kernel
theorem dX6_init_1053 : decode cX6_init 1053 = .ok (.putfield 46, 3) := by decide +kernel
theorem dX6_init_1056 : decode cX6_init 1056 = .ok (.aload_n 0, 1) := by decide +kernel
theorem dX6_init_1057 : decode cX6_init 1057 = .ok (.sipush 200, 3) := by decide +kernel
theorem dX6_init_1060 : decode cX6_init 1060 = .ok (.newarray .int, 2) := by decide +kernel
theorem dX6_init_1062 : decode cX6_init 1062 = .ok (.putfield 49, 3) := by decide +kernel
theorem dX6_init_1065 : decode cX6_init 1065 = .ok (.aload_n 0, 1) := by decide +kernel
theorem dX6_init_1066 : decode cX6_init 1066 = .ok (.sipush 200, 3) := by decide +kernel
theorem dX6_init_1069 : decode cX6_init 1069 = .ok (.newarray .int, 2) := by decide +kernel
theorem dX6_init_1071 : decode cX6_init 1071 = .ok (.putfield 52, 3) := by decide +kernel
theorem dX6_init_1074 : decode cX6_init 1074 = .ok (.aload_n 0, 1) := by decide +kernel
theorem dX6_init_1075 : decode cX6_init 1075 = .ok (.bipush 6, 2) := by decide +kernel
theorem dX6_init_1077 : decode cX6_init 1077 = .ok (.newarray .int, 2) := by decide +kernel
theorem dX6_init_1079 : decode cX6_init 1079 = .ok (.putfield 55, 3) := by decide +kernel
theorem dX6_init_1082 : decode cX6_init 1082 = .ok (.aload_n 0, 1) := by decide +kernel
theorem dX6_init_1083 : decode cX6_init 1083 = .ok (.bipush 48, 2) := by decide +kernel
theorem dX6_init_1085 : decode cX6_init 1085 = .ok (.newarray .int, 2) := by decide +kernel
theorem dX6_init_1087 : decode cX6_init 1087 = .ok (.putfield 58, 3) := by decide +kernel
theorem dX6_init_1090 : decode cX6_init 1090 = .ok (.iconst 0, 1) := by decide +kernel
theorem dX6_init_1091 : decode cX6_init 1091 = .ok (.istore_n 1, 1) := by decide +kernel
theorem dX6_init_1092 : decode cX6_init 1092 = .ok (.iload_n 1, 1) := by decide +kernel
theorem dX6_init_1093 : decode cX6_init 1093 = .ok (.bipush 61, 2) := by decide +kernel
theorem dX6_init_1095 : decode cX6_init 1095 = .ok (.if_icmp .ge 21, 3) := by decide +kernel
theorem dX6_init_1098 : decode cX6_init 1098 = .ok (.aload_n 0, 1) := by decide +kernel
theorem dX6_init_1099 : decode cX6_init 1099 = .ok (.getfield 22, 3) := by decide +kernel
theorem dX6_init_1102 : decode cX6_init 1102 = .ok (.iload_n 1, 1) := by decide +kernel
theorem dX6_init_1103 : decode cX6_init 1103 = .ok (.aload_n 0, 1) := by decide +kernel
theorem dX6_init_1104 : decode cX6_init 1104 = .ok (.getfield 43, 3) := by decide +kernel
theorem dX6_init_1107 : decode cX6_init 1107 = .ok (.iload_n 1, 1) := by decide +kernel
theorem dX6_init_1108 : decode cX6_init 1108 = .ok (.iaload, 1) := by decide +kernel
theorem dX6_init_1109 : decode cX6_init 1109 = .ok (.iastore, 1) := by decide +kernel
theorem dX6_init_1110 : decode cX6_init 1110 = .ok (.iinc 1 1, 3) := by decide +kernel
theorem dX6_init_1113 : decode cX6_init 1113 = .ok (.goto (-21), 3) := by decide +kernel
theorem dX6_init_1116 : decode cX6_init 1116 = .ok (.aload_n 0, 1) := by decide +kernel
theorem dX6_init_1117 : decode cX6_init 1117 = .ok (.bipush 61, 2) := by decide +kernel
theorem dX6_init_1119 : decode cX6_init 1119 = .ok (.putfield 61, 3) := by decide +kernel
theorem dX6_init_1122 : decode cX6_init 1122 = .ok (.aload_n 0, 1) := by decide +kernel
theorem dX6_init_1123 : decode cX6_init 1123 = .ok (.invokevirtual 65, 3) := by decide +kernel
theorem dX6_init_1126 : decode cX6_init 1126 = .ok (.pop, 1) := by decide +kernel
theorem dX6_init_1127 : decode cX6_init 1127 = .ok (.return_, 1) := by decide +kernel
theorem dX6_in_0 : decode cX6_in 0 = .ok (.iload_n 0, 1) := by decide +kernel
theorem dX6_in_1 : decode cX6_in 1 = .ok (.iload_n 1, 1) := by decide +kernel
theorem dX6_in_2 : decode cX6_in 2 = .ok (.if_icmp .lt 12, 3) := by decide +kernel
theorem dX6_in_5 : decode cX6_in 5 = .ok (.iload_n 0, 1) := by decide +kernel
theorem dX6_in_6 : decode cX6_in 6 = .ok (.iload_n 2, 1) := by decide +kernel
theorem dX6_in_7 : decode cX6_in 7 = .ok (.if_icmp .gt 7, 3) := by decide +kernel
theorem dX6_in_10 : decode cX6_in 10 = .ok (.iconst 1, 1) := by decide +kernel
theorem dX6_in_11 : decode cX6_in 11 = .ok (.goto 4, 3) := by decide +kernel
theorem dX6_in_14 : decode cX6_in 14 = .ok (.iconst 0, 1) := by decide +kernel
theorem dX6_in_15 : decode cX6_in 15 = .ok (.ireturn, 1) := by decide +kernel
theorem dX6_within_0 : decode cX6_within 0 = .ok (.iload_n 0, 1) := by decide +kernel
theorem dX6_within_1 : decode cX6_within 1 = .ok (.iload_n 1, 1) := by decide +kernel
theorem dX6_within_2 : decode cX6_within 2 = .ok (.if_icmp .ge 7, 3) := by decide +kernel
theorem dX6_within_5 : decode cX6_within 5 = .ok (.iload_n 1, 1) := by decide +kernel
theorem dX6_within_6 : decode cX6_within 6 = .ok (.goto 13, 3) := by decide +kernel
theorem dX6_within_9 : decode cX6_within 9 = .ok (.iload_n 0, 1) := by decide +kernel
theorem dX6_within_10 : decode cX6_within 10 = .ok (.iload_n 2, 1) := by decide +kernel
theorem dX6_within_11 : decode cX6_within 11 = .ok (.if_icmp .le 7, 3) := by decide +kernel
theorem dX6_within_14 : decode cX6_within 14 = .ok (.iload_n 2, 1) := by decide +kernel
theorem dX6_within_15 : decode cX6_within 15 = .ok (.goto 4, 3) := by decide +kernel
theorem dX6_within_18 : decode cX6_within 18 = .ok (.iload_n 0, 1) := by decide +kernel
theorem dX6_within_19 : decode cX6_within 19 = .ok (.ireturn, 1) := by decide +kernel
theorem dX6_isLoop_0 : decode cX6_isLoop 0 = .ok (.iload_n 0, 1) := by decide +kernel
theorem dX6_isLoop_1 : decode cX6_isLoop 1 = .ok (.iconst 0, 1) := by decide +kernel
theorem dX6_isLoop_2 : decode cX6_isLoop 2 = .ok (.bipush 47, 2) := by decide +kernel
theorem dX6_isLoop_4 : decode cX6_isLoop 4 = .ok (.invokestatic 69, 3) := by decide +kernel
theorem dX6_isLoop_7 : decode cX6_isLoop 7 = .ok (.ireturn, 1) := by decide +kernel
theorem dX6_isPull_0 : decode cX6_isPull 0 = .ok (.iload_n 0, 1) := by decide +kernel
theorem dX6_isPull_1 : decode cX6_isPull 1 = .ok (.iconst 0, 1) := by decide +kernel
theorem dX6_isPull_2 : decode cX6_isPull 2 = .ok (.bipush 99, 2) := by decide +kernel
theorem dX6_isPull_4 : decode cX6_isPull 4 = .ok (.invokestatic 69, 3) := by decide +kernel
theorem dX6_isPull_7 : decode cX6_isPull 7 = .ok (.ireturn, 1) := by decide +kernel
theorem dX6_manyIn_0 : decode cX6_manyIn 0 = .ok (.iconst 0, 1) := by decide +kernel
theorem dX6_manyIn_1 : decode cX6_manyIn 1 = .ok (.istore_n 2, 1) := by decide +kernel
theorem dX6_manyIn_2 : decode cX6_manyIn 2 = .ok (.iconst 0, 1) := by decide +kernel
theorem dX6_manyIn_3 : decode cX6_manyIn 3 = .ok (.istore_n 3, 1) := by decide +kernel
theorem dX6_manyIn_4 : decode cX6_manyIn 4 = .ok (.iload_n 3, 1) := by decide +kernel
theorem dX6_manyIn_5 : decode cX6_manyIn 5 = .ok (.bipush 48, 2) := by decide +kernel
theorem dX6_manyIn_7 : decode cX6_manyIn 7 = .ok (.if_icmp .ge 31, 3) := by decide +kernel
theorem dX6_manyIn_10 : decode cX6_manyIn 10 = .ok (.iload_n 2, 1) := by decide +kernel
theorem dX6_manyIn_11 : decode cX6_manyIn 11 = .ok (.iload_n 1, 1) := by decide +kernel
theorem dX6_manyIn_12 : decode cX6_manyIn 12 = .ok (.ifCond .ne 12, 3) := by decide +kernel
theorem dX6_manyIn_15 : decode cX6_manyIn 15 = .ok (.aload_n 0, 1) := by decide +kernel
theorem dX6_manyIn_16 : decode cX6_manyIn 16 = .ok (.getfield 16, 3) := by decide +kernel
theorem dX6_manyIn_19 : decode cX6_manyIn 19 = .ok (.iload_n 3, 1) := by decide +kernel
theorem dX6_manyIn_20 : decode cX6_manyIn 20 = .ok (.iaload, 1) := by decide +kernel
theorem dX6_manyIn_21 : decode cX6_manyIn 21 = .ok (.goto 9, 3) := by decide +kernel
theorem dX6_manyIn_24 : decode cX6_manyIn 24 = .ok (.aload_n 0, 1) := by decide +kernel
theorem dX6_manyIn_25 : decode cX6_manyIn 25 = .ok (.getfield 19, 3) := by decide +kernel
theorem dX6_manyIn_28 : decode cX6_manyIn 28 = .ok (.iload_n 3, 1) := by decide +kernel
theorem dX6_manyIn_29 : decode cX6_manyIn 29 = .ok (.iaload, 1) := by decide +kernel
theorem dX6_manyIn_30 : decode cX6_manyIn 30 = .ok (.iadd, 1) := by decide +kernel
theorem dX6_manyIn_31 : decode cX6_manyIn 31 = .ok (.istore_n 2, 1) := by decide +kernel
theorem dX6_manyIn_32 : decode cX6_manyIn 32 = .ok (.iinc 3 1, 3) := by decide +kernel
theorem dX6_manyIn_35 : decode cX6_manyIn 35 = .ok (.goto (-31), 3) := by decide +kernel
theorem dX6_manyIn_38 : decode cX6_manyIn 38 = .ok (.iload_n 2, 1) := by decide +kernel
theorem dX6_manyIn_39 : decode cX6_manyIn 39 = .ok (.ireturn, 1) := by decide +kernel
theorem dX6_count_0 : decode cX6_count 0 = .ok (.iload_n 1, 1) := by decide +kernel
theorem dX6_count_1 : decode cX6_count 1 = .ok (.tableswitch 56 0 4 #[35, 35, 41, 46, 51], 35) := by decide +kernel
theorem dX6_count_36 : decode cX6_count 36 = .ok (.aload_n 0, 1) := by decide +kernel
theorem dX6_count_37 : decode cX6_count 37 = .ok (.iload_n 1, 1) := by decide +kernel
theorem dX6_count_38 : decode cX6_count 38 = .ok (.invokevirtual 73, 3) := by decide +kernel
theorem dX6_count_41 : decode cX6_count 41 = .ok (.ireturn, 1) := by decide +kernel
theorem dX6_count_42 : decode cX6_count 42 = .ok (.aload_n 0, 1) := by decide +kernel
theorem dX6_count_43 : decode cX6_count 43 = .ok (.getfield 77, 3) := by decide +kernel
theorem dX6_count_46 : decode cX6_count 46 = .ok (.ireturn, 1) := by decide +kernel
theorem dX6_count_47 : decode cX6_count 47 = .ok (.aload_n 0, 1) := by decide +kernel
theorem dX6_count_48 : decode cX6_count 48 = .ok (.getfield 80, 3) := by decide +kernel
theorem dX6_count_51 : decode cX6_count 51 = .ok (.ireturn, 1) := by decide +kernel
theorem dX6_count_52 : decode cX6_count 52 = .ok (.aload_n 0, 1) := by decide +kernel
theorem dX6_count_53 : decode cX6_count 53 = .ok (.getfield 61, 3) := by decide +kernel
theorem dX6_count_56 : decode cX6_count 56 = .ok (.ireturn, 1) := by decide +kernel
theorem dX6_count_57 : decode cX6_count 57 = .ok (.bipush (-2), 2) := by decide +kernel
theorem dX6_count_59 : decode cX6_count 59 = .ok (.ireturn, 1) := by decide +kernel
theorem dX6_isByte_0 : decode cX6_isByte 0 = .ok (.iload_n 0, 1) := by decide +kernel
theorem dX6_isByte_1 : decode cX6_isByte 1 = .ok (.iconst 0, 1) := by decide +kernel
theorem dX6_isByte_2 : decode cX6_isByte 2 = .ok (.sipush 255, 3) := by decide +kernel
theorem dX6_isByte_5 : decode cX6_isByte 5 = .ok (.invokestatic 69, 3) := by decide +kernel
theorem dX6_isByte_8 : decode cX6_isByte 8 = .ok (.ireturn, 1) := by decide +kernel
theorem dX6_feed_0 : decode cX6_feed 0 = .ok (.iload_n 1, 1) := by decide +kernel
theorem dX6_feed_1 : decode cX6_feed 1 = .ok (.iconst 1, 1) := by decide +kernel
theorem dX6_feed_2 : decode cX6_feed 2 = .ok (.iconst 5, 1) := by decide +kernel
theorem dX6_feed_3 : decode cX6_feed 3 = .ok (.invokestatic 69, 3) := by decide +kernel
theorem dX6_feed_6 : decode cX6_feed 6 = .ok (.ifCond .eq 41, 3) := by decide +kernel
theorem dX6_feed_9 : decode cX6_feed 9 = .ok (.iload_n 2, 1) := by decide +kernel
theorem dX6_feed_10 : decode cX6_feed 10 = .ok (.invokestatic 83, 3) := by decide +kernel
theorem dX6_feed_13 : decode cX6_feed 13 = .ok (.ifCond .eq 34, 3) := by decide +kernel
theorem dX6_feed_16 : decode cX6_feed 16 = .ok (.iload_n 3, 1) := by decide +kernel
theorem dX6_feed_17 : decode cX6_feed 17 = .ok (.invokestatic 83, 3) := by decide +kernel
theorem dX6_feed_20 : decode cX6_feed 20 = .ok (.ifCond .eq 27, 3) := by decide +kernel
theorem dX6_feed_23 : decode cX6_feed 23 = .ok (.iload 4, 2) := by decide +kernel
theorem dX6_feed_25 : decode cX6_feed 25 = .ok (.invokestatic 83, 3) := by decide +kernel
theorem dX6_feed_28 : decode cX6_feed 28 = .ok (.ifCond .eq 19, 3) := by decide +kernel
theorem dX6_feed_31 : decode cX6_feed 31 = .ok (.iload 5, 2) := by decide +kernel
theorem dX6_feed_33 : decode cX6_feed 33 = .ok (.invokestatic 83, 3) := by decide +kernel
theorem dX6_feed_36 : decode cX6_feed 36 = .ok (.ifCond .eq 11, 3) := by decide +kernel
theorem dX6_feed_39 : decode cX6_feed 39 = .ok (.iload 6, 2) := by decide +kernel
theorem dX6_feed_41 : decode cX6_feed 41 = .ok (.invokestatic 83, 3) := by decide +kernel
theorem dX6_feed_44 : decode cX6_feed 44 = .ok (.ifCond .ne 6, 3) := by decide +kernel
theorem dX6_feed_47 : decode cX6_feed 47 = .ok (.bipush (-2), 2) := by decide +kernel
theorem dX6_feed_49 : decode cX6_feed 49 = .ok (.ireturn, 1) := by decide +kernel
theorem dX6_feed_50 : decode cX6_feed 50 = .ok (.aload_n 0, 1) := by decide +kernel
theorem dX6_feed_51 : decode cX6_feed 51 = .ok (.getfield 61, 3) := by decide +kernel
theorem dX6_feed_54 : decode cX6_feed 54 = .ok (.iload_n 1, 1) := by decide +kernel
theorem dX6_feed_55 : decode cX6_feed 55 = .ok (.iadd, 1) := by decide +kernel
theorem dX6_feed_56 : decode cX6_feed 56 = .ok (.sipush 160, 3) := by decide +kernel
theorem dX6_feed_59 : decode cX6_feed 59 = .ok (.if_icmp .le 6, 3) := by decide +kernel
theorem dX6_feed_62 : decode cX6_feed 62 = .ok (.bipush (-4), 2) := by decide +kernel
theorem dX6_feed_64 : decode cX6_feed 64 = .ok (.ireturn, 1) := by decide +kernel
theorem dX6_feed_65 : decode cX6_feed 65 = .ok (.iconst 0, 1) := by decide +kernel
theorem dX6_feed_66 : decode cX6_feed 66 = .ok (.istore 7, 2) := by decide +kernel
theorem dX6_feed_68 : decode cX6_feed 68 = .ok (.iload 7, 2) := by decide +kernel
theorem dX6_feed_70 : decode cX6_feed 70 = .ok (.iload_n 1, 1) := by decide +kernel
theorem dX6_feed_71 : decode cX6_feed 71 = .ok (.if_icmp .ge 71, 3) := by decide +kernel
theorem dX6_feed_74 : decode cX6_feed 74 = .ok (.aload_n 0, 1) := by decide +kernel
theorem dX6_feed_75 : decode cX6_feed 75 = .ok (.getfield 22, 3) := by decide +kernel
theorem dX6_feed_78 : decode cX6_feed 78 = .ok (.aload_n 0, 1) := by decide +kernel
theorem dX6_feed_79 : decode cX6_feed 79 = .ok (.getfield 61, 3) := by decide +kernel
theorem dX6_feed_82 : decode cX6_feed 82 = .ok (.iload 7, 2) := by decide +kernel
theorem dX6_feed_84 : decode cX6_feed 84 = .ok (.ifCond .ne 7, 3) := by decide +kernel
theorem dX6_feed_87 : decode cX6_feed 87 = .ok (.iload_n 2, 1) := by decide +kernel
theorem dX6_feed_88 : decode cX6_feed 88 = .ok (.goto 37, 3) := by decide +kernel
theorem dX6_feed_91 : decode cX6_feed 91 = .ok (.iload 7, 2) := by decide +kernel
theorem dX6_feed_93 : decode cX6_feed 93 = .ok (.iconst 1, 1) := by decide +kernel
theorem dX6_feed_94 : decode cX6_feed 94 = .ok (.if_icmp .ne 7, 3) := by decide +kernel
theorem dX6_feed_97 : decode cX6_feed 97 = .ok (.iload_n 3, 1) := by decide +kernel
theorem dX6_feed_98 : decode cX6_feed 98 = .ok (.goto 27, 3) := by decide +kernel
theorem dX6_feed_101 : decode cX6_feed 101 = .ok (.iload 7, 2) := by decide +kernel
theorem dX6_feed_103 : decode cX6_feed 103 = .ok (.iconst 2, 1) := by decide +kernel
theorem dX6_feed_104 : decode cX6_feed 104 = .ok (.if_icmp .ne 8, 3) := by decide +kernel
theorem dX6_feed_107 : decode cX6_feed 107 = .ok (.iload 4, 2) := by decide +kernel
theorem dX6_feed_109 : decode cX6_feed 109 = .ok (.goto 16, 3) := by decide +kernel
theorem dX6_feed_112 : decode cX6_feed 112 = .ok (.iload 7, 2) := by decide +kernel
theorem dX6_feed_114 : decode cX6_feed 114 = .ok (.iconst 3, 1) := by decide +kernel
theorem dX6_feed_115 : decode cX6_feed 115 = .ok (.if_icmp .ne 8, 3) := by decide +kernel
theorem dX6_feed_118 : decode cX6_feed 118 = .ok (.iload 5, 2) := by decide +kernel
theorem dX6_feed_120 : decode cX6_feed 120 = .ok (.goto 5, 3) := by decide +kernel
theorem dX6_feed_123 : decode cX6_feed 123 = .ok (.iload 6, 2) := by decide +kernel
theorem dX6_feed_125 : decode cX6_feed 125 = .ok (.iastore, 1) := by decide +kernel
theorem dX6_feed_126 : decode cX6_feed 126 = .ok (.aload_n 0, 1) := by decide +kernel
theorem dX6_feed_127 : decode cX6_feed 127 = .ok (.dup, 1) := by decide +kernel
theorem dX6_feed_128 : decode cX6_feed 128 = .ok (.getfield 61, 3) := by decide +kernel
theorem dX6_feed_131 : decode cX6_feed 131 = .ok (.iconst 1, 1) := by decide +kernel
theorem dX6_feed_132 : decode cX6_feed 132 = .ok (.iadd, 1) := by decide +kernel
theorem dX6_feed_133 : decode cX6_feed 133 = .ok (.putfield 61, 3) := by decide +kernel
theorem dX6_feed_136 : decode cX6_feed 136 = .ok (.iinc 7 1, 3) := by decide +kernel
theorem dX6_feed_139 : decode cX6_feed 139 = .ok (.goto (-71), 3) := by decide +kernel
theorem dX6_feed_142 : decode cX6_feed 142 = .ok (.aload_n 0, 1) := by decide +kernel
theorem dX6_feed_143 : decode cX6_feed 143 = .ok (.getfield 61, 3) := by decide +kernel
theorem dX6_feed_146 : decode cX6_feed 146 = .ok (.ireturn, 1) := by decide +kernel
theorem dX6_wordFrom_0 : decode cX6_wordFrom 0 = .ok (.iconst 0, 1) := by decide +kernel
theorem dX6_wordFrom_1 : decode cX6_wordFrom 1 = .ok (.istore_n 3, 1) := by decide +kernel
theorem dX6_wordFrom_2 : decode cX6_wordFrom 2 = .ok (.iload_n 3, 1) := by decide +kernel
theorem dX6_wordFrom_3 : decode cX6_wordFrom 3 = .ok (.bipush 12, 2) := by decide +kernel
theorem dX6_wordFrom_5 : decode cX6_wordFrom 5 = .ok (.if_icmp .ge 96, 3) := by decide +kernel
theorem dX6_wordFrom_8 : decode cX6_wordFrom 8 = .ok (.iload_n 2, 1) := by decide +kernel
theorem dX6_wordFrom_9 : decode cX6_wordFrom 9 = .ok (.iload_n 1, 1) := by decide +kernel
theorem dX6_wordFrom_10 : decode cX6_wordFrom 10 = .ok (.isub, 1) := by decide +kernel
theorem dX6_wordFrom_11 : decode cX6_wordFrom 11 = .ok (.bipush 8, 2) := by decide +kernel
theorem dX6_wordFrom_13 : decode cX6_wordFrom 13 = .ok (.if_icmp .gt 7, 3) := by decide +kernel
theorem dX6_wordFrom_16 : decode cX6_wordFrom 16 = .ok (.iconst 1, 1) := by decide +kernel
theorem dX6_wordFrom_17 : decode cX6_wordFrom 17 = .ok (.goto 4, 3) := by decide +kernel
theorem dX6_wordFrom_20 : decode cX6_wordFrom 20 = .ok (.iconst 0, 1) := by decide +kernel
theorem dX6_wordFrom_21 : decode cX6_wordFrom 21 = .ok (.istore 4, 2) := by decide +kernel
theorem dX6_wordFrom_23 : decode cX6_wordFrom 23 = .ok (.iconst 0, 1) := by decide +kernel
theorem dX6_wordFrom_24 : decode cX6_wordFrom 24 = .ok (.istore 5, 2) := by decide +kernel
theorem dX6_wordFrom_26 : decode cX6_wordFrom 26 = .ok (.iload 5, 2) := by decide +kernel
theorem dX6_wordFrom_28 : decode cX6_wordFrom 28 = .ok (.bipush 8, 2) := by decide +kernel
theorem dX6_wordFrom_30 : decode cX6_wordFrom 30 = .ok (.if_icmp .ge 58, 3) := by decide +kernel
theorem dX6_wordFrom_33 : decode cX6_wordFrom 33 = .ok (.iload 4, 2) := by decide +kernel
theorem dX6_wordFrom_35 : decode cX6_wordFrom 35 = .ok (.ifCond .eq 53, 3) := by decide +kernel
theorem dX6_wordFrom_38 : decode cX6_wordFrom 38 = .ok (.aload_n 0, 1) := by decide +kernel
theorem dX6_wordFrom_39 : decode cX6_wordFrom 39 = .ok (.getfield 46, 3) := by decide +kernel
theorem dX6_wordFrom_42 : decode cX6_wordFrom 42 = .ok (.bipush 8, 2) := by decide +kernel
theorem dX6_wordFrom_44 : decode cX6_wordFrom 44 = .ok (.iload_n 3, 1) := by decide +kernel
theorem dX6_wordFrom_45 : decode cX6_wordFrom 45 = .ok (.imul, 1) := by decide +kernel
theorem dX6_wordFrom_46 : decode cX6_wordFrom 46 = .ok (.iload 5, 2) := by decide +kernel
theorem dX6_wordFrom_48 : decode cX6_wordFrom 48 = .ok (.iadd, 1) := by decide +kernel
theorem dX6_wordFrom_49 : decode cX6_wordFrom 49 = .ok (.iaload, 1) := by decide +kernel
theorem dX6_wordFrom_50 : decode cX6_wordFrom 50 = .ok (.iload_n 1, 1) := by decide +kernel
theorem dX6_wordFrom_51 : decode cX6_wordFrom 51 = .ok (.iload 5, 2) := by decide +kernel
theorem dX6_wordFrom_53 : decode cX6_wordFrom 53 = .ok (.iadd, 1) := by decide +kernel
theorem dX6_wordFrom_54 : decode cX6_wordFrom 54 = .ok (.iload_n 2, 1) := by decide +kernel
theorem dX6_wordFrom_55 : decode cX6_wordFrom 55 = .ok (.if_icmp .ge 15, 3) := by decide +kernel
theorem dX6_wordFrom_58 : decode cX6_wordFrom 58 = .ok (.aload_n 0, 1) := by decide +kernel
theorem dX6_wordFrom_59 : decode cX6_wordFrom 59 = .ok (.getfield 22, 3) := by decide +kernel
theorem dX6_wordFrom_62 : decode cX6_wordFrom 62 = .ok (.iload_n 1, 1) := by decide +kernel
theorem dX6_wordFrom_63 : decode cX6_wordFrom 63 = .ok (.iload 5, 2) := by decide +kernel
theorem dX6_wordFrom_65 : decode cX6_wordFrom 65 = .ok (.iadd, 1) := by decide +kernel
theorem dX6_wordFrom_66 : decode cX6_wordFrom 66 = .ok (.iaload, 1) := by decide +kernel
theorem dX6_wordFrom_67 : decode cX6_wordFrom 67 = .ok (.goto 5, 3) := by decide +kernel
theorem dX6_wordFrom_70 : decode cX6_wordFrom 70 = .ok (.bipush 32, 2) := by decide +kernel
theorem dX6_wordFrom_72 : decode cX6_wordFrom 72 = .ok (.if_icmp .ne 7, 3) := by decide +kernel
theorem dX6_wordFrom_75 : decode cX6_wordFrom 75 = .ok (.iconst 1, 1) := by decide +kernel
theorem dX6_wordFrom_76 : decode cX6_wordFrom 76 = .ok (.goto 4, 3) := by decide +kernel
theorem dX6_wordFrom_79 : decode cX6_wordFrom 79 = .ok (.iconst 0, 1) := by decide +kernel
theorem dX6_wordFrom_80 : decode cX6_wordFrom 80 = .ok (.istore 4, 2) := by decide +kernel
theorem dX6_wordFrom_82 : decode cX6_wordFrom 82 = .ok (.iinc 5 1, 3) := by decide +kernel
theorem dX6_wordFrom_85 : decode cX6_wordFrom 85 = .ok (.goto (-59), 3) := by decide +kernel
theorem dX6_wordFrom_88 : decode cX6_wordFrom 88 = .ok (.iload 4, 2) := by decide +kernel
theorem dX6_wordFrom_90 : decode cX6_wordFrom 90 = .ok (.ifCond .eq 5, 3) := by decide +kernel
theorem dX6_wordFrom_93 : decode cX6_wordFrom 93 = .ok (.iload_n 3, 1) := by decide +kernel
theorem dX6_wordFrom_94 : decode cX6_wordFrom 94 = .ok (.ireturn, 1) := by decide +kernel
theorem dX6_wordFrom_95 : decode cX6_wordFrom 95 = .ok (.iinc 3 1, 3) := by decide +kernel
theorem dX6_wordFrom_98 : decode cX6_wordFrom 98 = .ok (.goto (-96), 3) := by decide +kernel
theorem dX6_wordFrom_101 : decode cX6_wordFrom 101 = .ok (.bipush 12, 2) := by decide +kernel
theorem dX6_wordFrom_103 : decode cX6_wordFrom 103 = .ok (.ireturn, 1) := by decide +kernel
theorem dX6_next_0 : decode cX6_next 0 = .ok (.aload_n 0, 1) := by decide +kernel
theorem dX6_next_1 : decode cX6_next 1 = .ok (.getfield 87, 3) := by decide +kernel
theorem dX6_next_4 : decode cX6_next 4 = .ok (.aload_n 0, 1) := by decide +kernel
theorem dX6_next_5 : decode cX6_next 5 = .ok (.getfield 61, 3) := by decide +kernel
theorem dX6_next_8 : decode cX6_next 8 = .ok (.if_icmp .ge 44, 3) := by decide +kernel
theorem dX6_next_11 : decode cX6_next 11 = .ok (.aload_n 0, 1) := by decide +kernel
theorem dX6_next_12 : decode cX6_next 12 = .ok (.getfield 22, 3) := by decide +kernel
theorem dX6_next_15 : decode cX6_next 15 = .ok (.aload_n 0, 1) := by decide +kernel
theorem dX6_next_16 : decode cX6_next 16 = .ok (.getfield 87, 3) := by decide +kernel
theorem dX6_next_19 : decode cX6_next 19 = .ok (.iaload, 1) := by decide +kernel
theorem dX6_next_20 : decode cX6_next 20 = .ok (.bipush 32, 2) := by decide +kernel
theorem dX6_next_22 : decode cX6_next 22 = .ok (.if_icmp .eq 17, 3) := by decide +kernel
theorem dX6_next_25 : decode cX6_next 25 = .ok (.aload_n 0, 1) := by decide +kernel
theorem dX6_next_26 : decode cX6_next 26 = .ok (.getfield 22, 3) := by decide +kernel
theorem dX6_next_29 : decode cX6_next 29 = .ok (.aload_n 0, 1) := by decide +kernel
theorem dX6_next_30 : decode cX6_next 30 = .ok (.getfield 87, 3) := by decide +kernel
theorem dX6_next_33 : decode cX6_next 33 = .ok (.iaload, 1) := by decide +kernel
theorem dX6_next_34 : decode cX6_next 34 = .ok (.bipush 10, 2) := by decide +kernel
theorem dX6_next_36 : decode cX6_next 36 = .ok (.if_icmp .ne 16, 3) := by decide +kernel
theorem dX6_next_39 : decode cX6_next 39 = .ok (.aload_n 0, 1) := by decide +kernel
theorem dX6_next_40 : decode cX6_next 40 = .ok (.dup, 1) := by decide +kernel
theorem dX6_next_41 : decode cX6_next 41 = .ok (.getfield 87, 3) := by decide +kernel
theorem dX6_next_44 : decode cX6_next 44 = .ok (.iconst 1, 1) := by decide +kernel
theorem dX6_next_45 : decode cX6_next 45 = .ok (.iadd, 1) := by decide +kernel
theorem dX6_next_46 : decode cX6_next 46 = .ok (.putfield 87, 3) := by decide +kernel
theorem dX6_next_49 : decode cX6_next 49 = .ok (.goto (-49), 3) := by decide +kernel
theorem dX6_next_52 : decode cX6_next 52 = .ok (.aload_n 0, 1) := by decide +kernel
theorem dX6_next_53 : decode cX6_next 53 = .ok (.aload_n 0, 1) := by decide +kernel
theorem dX6_next_54 : decode cX6_next 54 = .ok (.getfield 87, 3) := by decide +kernel
theorem dX6_next_57 : decode cX6_next 57 = .ok (.putfield 90, 3) := by decide +kernel
theorem dX6_next_60 : decode cX6_next 60 = .ok (.aload_n 0, 1) := by decide +kernel
theorem dX6_next_61 : decode cX6_next 61 = .ok (.iconst 0, 1) := by decide +kernel
theorem dX6_next_62 : decode cX6_next 62 = .ok (.putfield 93, 3) := by decide +kernel
theorem dX6_next_65 : decode cX6_next 65 = .ok (.aload_n 0, 1) := by decide +kernel
theorem dX6_next_66 : decode cX6_next 66 = .ok (.iconst 0, 1) := by decide +kernel
theorem dX6_next_67 : decode cX6_next 67 = .ok (.putfield 96, 3) := by decide +kernel
theorem dX6_next_70 : decode cX6_next 70 = .ok (.aload_n 0, 1) := by decide +kernel
theorem dX6_next_71 : decode cX6_next 71 = .ok (.getfield 87, 3) := by decide +kernel
theorem dX6_next_74 : decode cX6_next 74 = .ok (.aload_n 0, 1) := by decide +kernel
theorem dX6_next_75 : decode cX6_next 75 = .ok (.getfield 61, 3) := by decide +kernel
theorem dX6_next_78 : decode cX6_next 78 = .ok (.if_icmp .ne 4, 3) := by decide +kernel
theorem dX6_next_81 : decode cX6_next 81 = .ok (.return_, 1) := by decide +kernel
theorem dX6_next_82 : decode cX6_next 82 = .ok (.aload_n 0, 1) := by decide +kernel
theorem dX6_next_83 : decode cX6_next 83 = .ok (.getfield 22, 3) := by decide +kernel
theorem dX6_next_86 : decode cX6_next 86 = .ok (.aload_n 0, 1) := by decide +kernel
theorem dX6_next_87 : decode cX6_next 87 = .ok (.getfield 87, 3) := by decide +kernel
theorem dX6_next_90 : decode cX6_next 90 = .ok (.iaload, 1) := by decide +kernel
theorem dX6_next_91 : decode cX6_next 91 = .ok (.istore_n 1, 1) := by decide +kernel
theorem dX6_next_92 : decode cX6_next 92 = .ok (.iload_n 1, 1) := by decide +kernel
theorem dX6_next_93 : decode cX6_next 93 = .ok (.bipush 97, 2) := by decide +kernel
theorem dX6_next_95 : decode cX6_next 95 = .ok (.bipush 122, 2) := by decide +kernel
theorem dX6_next_97 : decode cX6_next 97 = .ok (.invokestatic 69, 3) := by decide +kernel
theorem dX6_next_100 : decode cX6_next 100 = .ok (.ifCond .eq 117, 3) := by decide +kernel
theorem dX6_next_103 : decode cX6_next 103 = .ok (.aload_n 0, 1) := by decide +kernel
theorem dX6_next_104 : decode cX6_next 104 = .ok (.getfield 87, 3) := by decide +kernel
theorem dX6_next_107 : decode cX6_next 107 = .ok (.aload_n 0, 1) := by decide +kernel
theorem dX6_next_108 : decode cX6_next 108 = .ok (.getfield 61, 3) := by decide +kernel
theorem dX6_next_111 : decode cX6_next 111 = .ok (.if_icmp .ge 35, 3) := by decide +kernel
theorem dX6_next_114 : decode cX6_next 114 = .ok (.aload_n 0, 1) := by decide +kernel
theorem dX6_next_115 : decode cX6_next 115 = .ok (.getfield 22, 3) := by decide +kernel
theorem dX6_next_118 : decode cX6_next 118 = .ok (.aload_n 0, 1) := by decide +kernel
theorem dX6_next_119 : decode cX6_next 119 = .ok (.getfield 87, 3) := by decide +kernel
theorem dX6_next_122 : decode cX6_next 122 = .ok (.iaload, 1) := by decide +kernel
theorem dX6_next_123 : decode cX6_next 123 = .ok (.bipush 97, 2) := by decide +kernel
theorem dX6_next_125 : decode cX6_next 125 = .ok (.bipush 122, 2) := by decide +kernel
theorem dX6_next_127 : decode cX6_next 127 = .ok (.invokestatic 69, 3) := by decide +kernel
theorem dX6_next_130 : decode cX6_next 130 = .ok (.ifCond .eq 16, 3) := by decide +kernel
theorem dX6_next_133 : decode cX6_next 133 = .ok (.aload_n 0, 1) := by decide +kernel
theorem dX6_next_134 : decode cX6_next 134 = .ok (.dup, 1) := by decide +kernel
theorem dX6_next_135 : decode cX6_next 135 = .ok (.getfield 87, 3) := by decide +kernel
theorem dX6_next_138 : decode cX6_next 138 = .ok (.iconst 1, 1) := by decide +kernel
theorem dX6_next_139 : decode cX6_next 139 = .ok (.iadd, 1) := by decide +kernel
theorem dX6_next_140 : decode cX6_next 140 = .ok (.putfield 87, 3) := by decide +kernel
theorem dX6_next_143 : decode cX6_next 143 = .ok (.goto (-40), 3) := by decide +kernel
theorem dX6_next_146 : decode cX6_next 146 = .ok (.aload_n 0, 1) := by decide +kernel
theorem dX6_next_147 : decode cX6_next 147 = .ok (.aload_n 0, 1) := by decide +kernel
theorem dX6_next_148 : decode cX6_next 148 = .ok (.getfield 90, 3) := by decide +kernel
theorem dX6_next_151 : decode cX6_next 151 = .ok (.aload_n 0, 1) := by decide +kernel
theorem dX6_next_152 : decode cX6_next 152 = .ok (.getfield 87, 3) := by decide +kernel
theorem dX6_next_155 : decode cX6_next 155 = .ok (.invokevirtual 99, 3) := by decide +kernel
theorem dX6_next_158 : decode cX6_next 158 = .ok (.istore_n 2, 1) := by decide +kernel
theorem dX6_next_159 : decode cX6_next 159 = .ok (.aload_n 0, 1) := by decide +kernel
theorem dX6_next_160 : decode cX6_next 160 = .ok (.iload_n 2, 1) := by decide +kernel
theorem dX6_next_161 : decode cX6_next 161 = .ok (.iconst 3, 1) := by decide +kernel
theorem dX6_next_162 : decode cX6_next 162 = .ok (.if_icmp .ge 7, 3) := by decide +kernel
theorem dX6_next_165 : decode cX6_next 165 = .ok (.iconst 3, 1) := by decide +kernel
theorem dX6_next_166 : decode cX6_next 166 = .ok (.goto 29, 3) := by decide +kernel
theorem dX6_next_169 : decode cX6_next 169 = .ok (.iload_n 2, 1) := by decide +kernel
theorem dX6_next_170 : decode cX6_next 170 = .ok (.bipush 9, 2) := by decide +kernel
theorem dX6_next_172 : decode cX6_next 172 = .ok (.if_icmp .ge 7, 3) := by decide +kernel
theorem dX6_next_175 : decode cX6_next 175 = .ok (.iconst 2, 1) := by decide +kernel
theorem dX6_next_176 : decode cX6_next 176 = .ok (.goto 19, 3) := by decide +kernel
theorem dX6_next_179 : decode cX6_next 179 = .ok (.iload_n 2, 1) := by decide +kernel
theorem dX6_next_180 : decode cX6_next 180 = .ok (.bipush 12, 2) := by decide +kernel
theorem dX6_next_182 : decode cX6_next 182 = .ok (.if_icmp .ne 7, 3) := by decide +kernel
theorem dX6_next_185 : decode cX6_next 185 = .ok (.iconst (-1), 1) := by decide +kernel
theorem dX6_next_186 : decode cX6_next 186 = .ok (.goto 9, 3) := by decide +kernel
theorem dX6_next_189 : decode cX6_next 189 = .ok (.iconst 4, 1) := by decide +kernel
theorem dX6_next_190 : decode cX6_next 190 = .ok (.iload_n 2, 1) := by decide +kernel
theorem dX6_next_191 : decode cX6_next 191 = .ok (.iadd, 1) := by decide +kernel
theorem dX6_next_192 : decode cX6_next 192 = .ok (.bipush 9, 2) := by decide +kernel
theorem dX6_next_194 : decode cX6_next 194 = .ok (.isub, 1) := by decide +kernel
theorem dX6_next_195 : decode cX6_next 195 = .ok (.putfield 93, 3) := by decide +kernel
theorem dX6_next_198 : decode cX6_next 198 = .ok (.aload_n 0, 1) := by decide +kernel
theorem dX6_next_199 : decode cX6_next 199 = .ok (.iload_n 2, 1) := by decide +kernel
theorem dX6_next_200 : decode cX6_next 200 = .ok (.iconst 3, 1) := by decide +kernel
theorem dX6_next_201 : decode cX6_next 201 = .ok (.if_icmp .ge 7, 3) := by decide +kernel
theorem dX6_next_204 : decode cX6_next 204 = .ok (.iload_n 2, 1) := by decide +kernel
theorem dX6_next_205 : decode cX6_next 205 = .ok (.goto 6, 3) := by decide +kernel
theorem dX6_next_208 : decode cX6_next 208 = .ok (.iload_n 2, 1) := by decide +kernel
theorem dX6_next_209 : decode cX6_next 209 = .ok (.iconst 3, 1) := by decide +kernel
theorem dX6_next_210 : decode cX6_next 210 = .ok (.isub, 1) := by decide +kernel
theorem dX6_next_211 : decode cX6_next 211 = .ok (.putfield 96, 3) := by decide +kernel
theorem dX6_next_214 : decode cX6_next 214 = .ok (.goto 189, 3) := by decide +kernel
theorem dX6_next_217 : decode cX6_next 217 = .ok (.iload_n 1, 1) := by decide +kernel
theorem dX6_next_218 : decode cX6_next 218 = .ok (.bipush 48, 2) := by decide +kernel
theorem dX6_next_220 : decode cX6_next 220 = .ok (.bipush 57, 2) := by decide +kernel
theorem dX6_next_222 : decode cX6_next 222 = .ok (.invokestatic 69, 3) := by decide +kernel
theorem dX6_next_225 : decode cX6_next 225 = .ok (.ifCond .eq 101, 3) := by decide +kernel
theorem dX6_next_228 : decode cX6_next 228 = .ok (.iconst 0, 1) := by decide +kernel
theorem dX6_next_229 : decode cX6_next 229 = .ok (.istore_n 2, 1) := by decide +kernel
theorem dX6_next_230 : decode cX6_next 230 = .ok (.aload_n 0, 1) := by decide +kernel
theorem dX6_next_231 : decode cX6_next 231 = .ok (.getfield 87, 3) := by decide +kernel
theorem dX6_next_234 : decode cX6_next 234 = .ok (.aload_n 0, 1) := by decide +kernel
theorem dX6_next_235 : decode cX6_next 235 = .ok (.getfield 61, 3) := by decide +kernel
theorem dX6_next_238 : decode cX6_next 238 = .ok (.if_icmp .ge 71, 3) := by decide +kernel
theorem dX6_next_241 : decode cX6_next 241 = .ok (.aload_n 0, 1) := by decide +kernel
theorem dX6_next_242 : decode cX6_next 242 = .ok (.getfield 22, 3) := by decide +kernel
theorem dX6_next_245 : decode cX6_next 245 = .ok (.aload_n 0, 1) := by decide +kernel
theorem dX6_next_246 : decode cX6_next 246 = .ok (.getfield 87, 3) := by decide +kernel
theorem dX6_next_249 : decode cX6_next 249 = .ok (.iaload, 1) := by decide +kernel
theorem dX6_next_250 : decode cX6_next 250 = .ok (.bipush 48, 2) := by decide +kernel
theorem dX6_next_252 : decode cX6_next 252 = .ok (.bipush 57, 2) := by decide +kernel
theorem dX6_next_254 : decode cX6_next 254 = .ok (.invokestatic 69, 3) := by decide +kernel
theorem dX6_next_257 : decode cX6_next 257 = .ok (.ifCond .eq 52, 3) := by decide +kernel
theorem dX6_next_260 : decode cX6_next 260 = .ok (.aload_n 0, 1) := by decide +kernel
theorem dX6_next_261 : decode cX6_next 261 = .ok (.iload_n 2, 1) := by decide +kernel
theorem dX6_next_262 : decode cX6_next 262 = .ok (.iconst 4, 1) := by decide +kernel
theorem dX6_next_263 : decode cX6_next 263 = .ok (.if_icmp .ge 26, 3) := by decide +kernel
theorem dX6_next_266 : decode cX6_next 266 = .ok (.bipush 10, 2) := by decide +kernel
theorem dX6_next_268 : decode cX6_next 268 = .ok (.aload_n 0, 1) := by decide +kernel
theorem dX6_next_269 : decode cX6_next 269 = .ok (.getfield 96, 3) := by decide +kernel
theorem dX6_next_272 : decode cX6_next 272 = .ok (.imul, 1) := by decide +kernel
theorem dX6_next_273 : decode cX6_next 273 = .ok (.aload_n 0, 1) := by decide +kernel
theorem dX6_next_274 : decode cX6_next 274 = .ok (.getfield 22, 3) := by decide +kernel
theorem dX6_next_277 : decode cX6_next 277 = .ok (.aload_n 0, 1) := by decide +kernel
theorem dX6_next_278 : decode cX6_next 278 = .ok (.getfield 87, 3) := by decide +kernel
theorem dX6_next_281 : decode cX6_next 281 = .ok (.iaload, 1) := by decide +kernel
theorem dX6_next_282 : decode cX6_next 282 = .ok (.iadd, 1) := by decide +kernel
theorem dX6_next_283 : decode cX6_next 283 = .ok (.bipush 48, 2) := by decide +kernel
theorem dX6_next_285 : decode cX6_next 285 = .ok (.isub, 1) := by decide +kernel
theorem dX6_next_286 : decode cX6_next 286 = .ok (.goto 4, 3) := by decide +kernel
theorem dX6_next_289 : decode cX6_next 289 = .ok (.iconst 0, 1) := by decide +kernel
theorem dX6_next_290 : decode cX6_next 290 = .ok (.putfield 96, 3) := by decide +kernel
theorem dX6_next_293 : decode cX6_next 293 = .ok (.iinc 2 1, 3) := by decide +kernel
theorem dX6_next_296 : decode cX6_next 296 = .ok (.aload_n 0, 1) := by decide +kernel
theorem dX6_next_297 : decode cX6_next 297 = .ok (.dup, 1) := by decide +kernel
theorem dX6_next_298 : decode cX6_next 298 = .ok (.getfield 87, 3) := by decide +kernel
theorem dX6_next_301 : decode cX6_next 301 = .ok (.iconst 1, 1) := by decide +kernel
theorem dX6_next_302 : decode cX6_next 302 = .ok (.iadd, 1) := by decide +kernel
theorem dX6_next_303 : decode cX6_next 303 = .ok (.putfield 87, 3) := by decide +kernel
theorem dX6_next_306 : decode cX6_next 306 = .ok (.goto (-76), 3) := by decide +kernel
theorem dX6_next_309 : decode cX6_next 309 = .ok (.aload_n 0, 1) := by decide +kernel
theorem dX6_next_310 : decode cX6_next 310 = .ok (.iload_n 2, 1) := by decide +kernel
theorem dX6_next_311 : decode cX6_next 311 = .ok (.iconst 4, 1) := by decide +kernel
theorem dX6_next_312 : decode cX6_next 312 = .ok (.if_icmp .le 7, 3) := by decide +kernel
theorem dX6_next_315 : decode cX6_next 315 = .ok (.iconst (-1), 1) := by decide +kernel
theorem dX6_next_316 : decode cX6_next 316 = .ok (.goto 4, 3) := by decide +kernel
theorem dX6_next_319 : decode cX6_next 319 = .ok (.iconst 1, 1) := by decide +kernel
theorem dX6_next_320 : decode cX6_next 320 = .ok (.putfield 93, 3) := by decide +kernel
theorem dX6_next_323 : decode cX6_next 323 = .ok (.goto 80, 3) := by decide +kernel
theorem dX6_next_326 : decode cX6_next 326 = .ok (.iload_n 1, 1) := by decide +kernel
theorem dX6_next_327 : decode cX6_next 327 = .ok (.bipush 40, 2) := by decide +kernel
theorem dX6_next_329 : decode cX6_next 329 = .ok (.if_icmp .eq 45, 3) := by decide +kernel
theorem dX6_next_332 : decode cX6_next 332 = .ok (.iload_n 1, 1) := by decide +kernel
theorem dX6_next_333 : decode cX6_next 333 = .ok (.bipush 41, 2) := by decide +kernel
theorem dX6_next_335 : decode cX6_next 335 = .ok (.if_icmp .eq 39, 3) := by decide +kernel
theorem dX6_next_338 : decode cX6_next 338 = .ok (.iload_n 1, 1) := by decide +kernel
theorem dX6_next_339 : decode cX6_next 339 = .ok (.bipush 59, 2) := by decide +kernel
theorem dX6_next_341 : decode cX6_next 341 = .ok (.if_icmp .eq 33, 3) := by decide +kernel
theorem dX6_next_344 : decode cX6_next 344 = .ok (.iload_n 1, 1) := by decide +kernel
theorem dX6_next_345 : decode cX6_next 345 = .ok (.bipush 43, 2) := by decide +kernel
theorem dX6_next_347 : decode cX6_next 347 = .ok (.if_icmp .eq 27, 3) := by decide +kernel
theorem dX6_next_350 : decode cX6_next 350 = .ok (.iload_n 1, 1) := by decide +kernel
theorem dX6_next_351 : decode cX6_next 351 = .ok (.bipush 45, 2) := by decide +kernel
theorem dX6_next_353 : decode cX6_next 353 = .ok (.if_icmp .eq 21, 3) := by decide +kernel
theorem dX6_next_356 : decode cX6_next 356 = .ok (.iload_n 1, 1) := by decide +kernel
theorem dX6_next_357 : decode cX6_next 357 = .ok (.bipush 42, 2) := by decide +kernel
theorem dX6_next_359 : decode cX6_next 359 = .ok (.if_icmp .eq 15, 3) := by decide +kernel
theorem dX6_next_362 : decode cX6_next 362 = .ok (.iload_n 1, 1) := by decide +kernel
theorem dX6_next_363 : decode cX6_next 363 = .ok (.bipush 60, 2) := by decide +kernel
theorem dX6_next_365 : decode cX6_next 365 = .ok (.if_icmp .eq 9, 3) := by decide +kernel
theorem dX6_next_368 : decode cX6_next 368 = .ok (.iload_n 1, 1) := by decide +kernel
theorem dX6_next_369 : decode cX6_next 369 = .ok (.bipush 61, 2) := by decide +kernel
theorem dX6_next_371 : decode cX6_next 371 = .ok (.if_icmp .ne 7, 3) := by decide +kernel
theorem dX6_next_374 : decode cX6_next 374 = .ok (.iconst 1, 1) := by decide +kernel
theorem dX6_next_375 : decode cX6_next 375 = .ok (.goto 4, 3) := by decide +kernel
theorem dX6_next_378 : decode cX6_next 378 = .ok (.iconst 0, 1) := by decide +kernel
theorem dX6_next_379 : decode cX6_next 379 = .ok (.istore_n 2, 1) := by decide +kernel
theorem dX6_next_380 : decode cX6_next 380 = .ok (.aload_n 0, 1) := by decide +kernel
theorem dX6_next_381 : decode cX6_next 381 = .ok (.iload_n 2, 1) := by decide +kernel
theorem dX6_next_382 : decode cX6_next 382 = .ok (.ifCond .eq 7, 3) := by decide +kernel
theorem dX6_next_385 : decode cX6_next 385 = .ok (.iload_n 1, 1) := by decide +kernel
theorem dX6_next_386 : decode cX6_next 386 = .ok (.goto 4, 3) := by decide +kernel
theorem dX6_next_389 : decode cX6_next 389 = .ok (.iconst (-1), 1) := by decide +kernel
theorem dX6_next_390 : decode cX6_next 390 = .ok (.putfield 93, 3) := by decide +kernel
theorem dX6_next_393 : decode cX6_next 393 = .ok (.aload_n 0, 1) := by decide +kernel
theorem dX6_next_394 : decode cX6_next 394 = .ok (.dup, 1) := by decide +kernel
theorem dX6_next_395 : decode cX6_next 395 = .ok (.getfield 87, 3) := by decide +kernel
theorem dX6_next_398 : decode cX6_next 398 = .ok (.iconst 1, 1) := by decide +kernel
theorem dX6_next_399 : decode cX6_next 399 = .ok (.iadd, 1) := by decide +kernel
theorem dX6_next_400 : decode cX6_next 400 = .ok (.putfield 87, 3) := by decide +kernel
theorem dX6_next_403 : decode cX6_next 403 = .ok (.return_, 1) := by decide +kernel
theorem dX6_rank_0 : decode cX6_rank 0 = .ok (.iload_n 0, 1) := by decide +kernel
theorem dX6_rank_1 : decode cX6_rank 1 = .ok (.ifCond .ne 7, 3) := by decide +kernel
theorem dX6_rank_4 : decode cX6_rank 4 = .ok (.iconst 0, 1) := by decide +kernel
theorem dX6_rank_5 : decode cX6_rank 5 = .ok (.goto 66, 3) := by decide +kernel
theorem dX6_rank_8 : decode cX6_rank 8 = .ok (.iload_n 0, 1) := by decide +kernel
theorem dX6_rank_9 : decode cX6_rank 9 = .ok (.bipush 11, 2) := by decide +kernel
theorem dX6_rank_11 : decode cX6_rank 11 = .ok (.if_icmp .ne 7, 3) := by decide +kernel
theorem dX6_rank_14 : decode cX6_rank 14 = .ok (.iconst 1, 1) := by decide +kernel
theorem dX6_rank_15 : decode cX6_rank 15 = .ok (.goto 56, 3) := by decide +kernel
theorem dX6_rank_18 : decode cX6_rank 18 = .ok (.iload_n 0, 1) := by decide +kernel
theorem dX6_rank_19 : decode cX6_rank 19 = .ok (.bipush 12, 2) := by decide +kernel
theorem dX6_rank_21 : decode cX6_rank 21 = .ok (.if_icmp .ne 7, 3) := by decide +kernel
theorem dX6_rank_24 : decode cX6_rank 24 = .ok (.iconst 2, 1) := by decide +kernel
theorem dX6_rank_25 : decode cX6_rank 25 = .ok (.goto 46, 3) := by decide +kernel
theorem dX6_rank_28 : decode cX6_rank 28 = .ok (.iload_n 0, 1) := by decide +kernel
theorem dX6_rank_29 : decode cX6_rank 29 = .ok (.bipush 13, 2) := by decide +kernel
theorem dX6_rank_31 : decode cX6_rank 31 = .ok (.if_icmp .ne 7, 3) := by decide +kernel
theorem dX6_rank_34 : decode cX6_rank 34 = .ok (.iconst 3, 1) := by decide +kernel
theorem dX6_rank_35 : decode cX6_rank 35 = .ok (.goto 36, 3) := by decide +kernel
theorem dX6_rank_38 : decode cX6_rank 38 = .ok (.iload_n 0, 1) := by decide +kernel
theorem dX6_rank_39 : decode cX6_rank 39 = .ok (.bipush 15, 2) := by decide +kernel
theorem dX6_rank_41 : decode cX6_rank 41 = .ok (.if_icmp .gt 7, 3) := by decide +kernel
theorem dX6_rank_44 : decode cX6_rank 44 = .ok (.iconst 4, 1) := by decide +kernel
theorem dX6_rank_45 : decode cX6_rank 45 = .ok (.goto 26, 3) := by decide +kernel
theorem dX6_rank_48 : decode cX6_rank 48 = .ok (.iload_n 0, 1) := by decide +kernel
theorem dX6_rank_49 : decode cX6_rank 49 = .ok (.bipush 17, 2) := by decide +kernel
theorem dX6_rank_51 : decode cX6_rank 51 = .ok (.if_icmp .gt 7, 3) := by decide +kernel
theorem dX6_rank_54 : decode cX6_rank 54 = .ok (.iconst 5, 1) := by decide +kernel
theorem dX6_rank_55 : decode cX6_rank 55 = .ok (.goto 16, 3) := by decide +kernel
theorem dX6_rank_58 : decode cX6_rank 58 = .ok (.iload_n 0, 1) := by decide +kernel
theorem dX6_rank_59 : decode cX6_rank 59 = .ok (.bipush 18, 2) := by decide +kernel
theorem dX6_rank_61 : decode cX6_rank 61 = .ok (.if_icmp .ne 8, 3) := by decide +kernel
theorem dX6_rank_64 : decode cX6_rank 64 = .ok (.bipush 6, 2) := by decide +kernel
theorem dX6_rank_66 : decode cX6_rank 66 = .ok (.goto 5, 3) := by decide +kernel
theorem dX6_rank_69 : decode cX6_rank 69 = .ok (.bipush 7, 2) := by decide +kernel
theorem dX6_rank_71 : decode cX6_rank 71 = .ok (.ireturn, 1) := by decide +kernel
theorem dX6_puts_0 : decode cX6_puts 0 = .ok (.aload_n 0, 1) := by decide +kernel
theorem dX6_puts_1 : decode cX6_puts 1 = .ok (.getfield 25, 3) := by decide +kernel
theorem dX6_puts_4 : decode cX6_puts 4 = .ok (.sipush 200, 3) := by decide +kernel
theorem dX6_puts_7 : decode cX6_puts 7 = .ok (.aload_n 0, 1) := by decide +kernel
theorem dX6_puts_8 : decode cX6_puts 8 = .ok (.getfield 77, 3) := by decide +kernel
theorem dX6_puts_11 : decode cX6_puts 11 = .ok (.imul, 1) := by decide +kernel
theorem dX6_puts_12 : decode cX6_puts 12 = .ok (.aload_n 0, 1) := by decide +kernel
theorem dX6_puts_13 : decode cX6_puts 13 = .ok (.getfield 103, 3) := by decide +kernel
theorem dX6_puts_16 : decode cX6_puts 16 = .ok (.iadd, 1) := by decide +kernel
theorem dX6_puts_17 : decode cX6_puts 17 = .ok (.iload_n 1, 1) := by decide +kernel
theorem dX6_puts_18 : decode cX6_puts 18 = .ok (.iastore, 1) := by decide +kernel
theorem dX6_puts_19 : decode cX6_puts 19 = .ok (.aload_n 0, 1) := by decide +kernel
theorem dX6_puts_20 : decode cX6_puts 20 = .ok (.dup, 1) := by decide +kernel
theorem dX6_puts_21 : decode cX6_puts 21 = .ok (.getfield 103, 3) := by decide +kernel
theorem dX6_puts_24 : decode cX6_puts 24 = .ok (.iconst 1, 1) := by decide +kernel
theorem dX6_puts_25 : decode cX6_puts 25 = .ok (.iadd, 1) := by decide +kernel
theorem dX6_puts_26 : decode cX6_puts 26 = .ok (.putfield 103, 3) := by decide +kernel
theorem dX6_puts_29 : decode cX6_puts 29 = .ok (.return_, 1) := by decide +kernel
theorem dX6_unwinds_0 : decode cX6_unwinds 0 = .ok (.aload_n 0, 1) := by decide +kernel
theorem dX6_unwinds_1 : decode cX6_unwinds 1 = .ok (.getfield 106, 3) := by decide +kernel
theorem dX6_unwinds_4 : decode cX6_unwinds 4 = .ok (.ifCond .le 75, 3) := by decide +kernel
theorem dX6_unwinds_7 : decode cX6_unwinds 7 = .ok (.aload_n 0, 1) := by decide +kernel
theorem dX6_unwinds_8 : decode cX6_unwinds 8 = .ok (.getfield 49, 3) := by decide +kernel
theorem dX6_unwinds_11 : decode cX6_unwinds 11 = .ok (.aload_n 0, 1) := by decide +kernel
theorem dX6_unwinds_12 : decode cX6_unwinds 12 = .ok (.getfield 106, 3) := by decide +kernel
theorem dX6_unwinds_15 : decode cX6_unwinds 15 = .ok (.iconst 1, 1) := by decide +kernel
theorem dX6_unwinds_16 : decode cX6_unwinds 16 = .ok (.isub, 1) := by decide +kernel
theorem dX6_unwinds_17 : decode cX6_unwinds 17 = .ok (.iaload, 1) := by decide +kernel
theorem dX6_unwinds_18 : decode cX6_unwinds 18 = .ok (.invokestatic 109, 3) := by decide +kernel
theorem dX6_unwinds_21 : decode cX6_unwinds 21 = .ok (.iload_n 1, 1) := by decide +kernel
theorem dX6_unwinds_22 : decode cX6_unwinds 22 = .ok (.if_icmp .lt 57, 3) := by decide +kernel
theorem dX6_unwinds_25 : decode cX6_unwinds 25 = .ok (.aload_n 0, 1) := by decide +kernel
theorem dX6_unwinds_26 : decode cX6_unwinds 26 = .ok (.dup, 1) := by decide +kernel
theorem dX6_unwinds_27 : decode cX6_unwinds 27 = .ok (.getfield 106, 3) := by decide +kernel
theorem dX6_unwinds_30 : decode cX6_unwinds 30 = .ok (.iconst 1, 1) := by decide +kernel
theorem dX6_unwinds_31 : decode cX6_unwinds 31 = .ok (.isub, 1) := by decide +kernel
theorem dX6_unwinds_32 : decode cX6_unwinds 32 = .ok (.putfield 106, 3) := by decide +kernel
theorem dX6_unwinds_35 : decode cX6_unwinds 35 = .ok (.aload_n 0, 1) := by decide +kernel
theorem dX6_unwinds_36 : decode cX6_unwinds 36 = .ok (.getfield 49, 3) := by decide +kernel
theorem dX6_unwinds_39 : decode cX6_unwinds 39 = .ok (.aload_n 0, 1) := by decide +kernel
theorem dX6_unwinds_40 : decode cX6_unwinds 40 = .ok (.getfield 106, 3) := by decide +kernel
theorem dX6_unwinds_43 : decode cX6_unwinds 43 = .ok (.iaload, 1) := by decide +kernel
theorem dX6_unwinds_44 : decode cX6_unwinds 44 = .ok (.istore_n 2, 1) := by decide +kernel
theorem dX6_unwinds_45 : decode cX6_unwinds 45 = .ok (.aload_n 0, 1) := by decide +kernel
theorem dX6_unwinds_46 : decode cX6_unwinds 46 = .ok (.dup, 1) := by decide +kernel
theorem dX6_unwinds_47 : decode cX6_unwinds 47 = .ok (.getfield 112, 3) := by decide +kernel
theorem dX6_unwinds_50 : decode cX6_unwinds 50 = .ok (.iload_n 2, 1) := by decide +kernel
theorem dX6_unwinds_51 : decode cX6_unwinds 51 = .ok (.bipush 13, 2) := by decide +kernel
theorem dX6_unwinds_53 : decode cX6_unwinds 53 = .ok (.if_icmp .eq 9, 3) := by decide +kernel
theorem dX6_unwinds_56 : decode cX6_unwinds 56 = .ok (.iload_n 2, 1) := by decide +kernel
theorem dX6_unwinds_57 : decode cX6_unwinds 57 = .ok (.bipush 19, 2) := by decide +kernel
theorem dX6_unwinds_59 : decode cX6_unwinds 59 = .ok (.if_icmp .ne 7, 3) := by decide +kernel
theorem dX6_unwinds_62 : decode cX6_unwinds 62 = .ok (.iconst 1, 1) := by decide +kernel
theorem dX6_unwinds_63 : decode cX6_unwinds 63 = .ok (.goto 4, 3) := by decide +kernel
theorem dX6_unwinds_66 : decode cX6_unwinds 66 = .ok (.iconst 0, 1) := by decide +kernel
theorem dX6_unwinds_67 : decode cX6_unwinds 67 = .ok (.isub, 1) := by decide +kernel
theorem dX6_unwinds_68 : decode cX6_unwinds 68 = .ok (.putfield 112, 3) := by decide +kernel
theorem dX6_unwinds_71 : decode cX6_unwinds 71 = .ok (.aload_n 0, 1) := by decide +kernel
theorem dX6_unwinds_72 : decode cX6_unwinds 72 = .ok (.iload_n 2, 1) := by decide +kernel
theorem dX6_unwinds_73 : decode cX6_unwinds 73 = .ok (.invokevirtual 115, 3) := by decide +kernel
theorem dX6_unwinds_76 : decode cX6_unwinds 76 = .ok (.goto (-76), 3) := by decide +kernel
theorem dX6_unwinds_79 : decode cX6_unwinds 79 = .ok (.return_, 1) := by decide +kernel
theorem dX6_holds_0 : decode cX6_holds 0 = .ok (.aload_n 0, 1) := by decide +kernel
theorem dX6_holds_1 : decode cX6_holds 1 = .ok (.getfield 49, 3) := by decide +kernel
theorem dX6_holds_4 : decode cX6_holds 4 = .ok (.aload_n 0, 1) := by decide +kernel
theorem dX6_holds_5 : decode cX6_holds 5 = .ok (.getfield 106, 3) := by decide +kernel
theorem dX6_holds_8 : decode cX6_holds 8 = .ok (.iload_n 1, 1) := by decide +kernel
theorem dX6_holds_9 : decode cX6_holds 9 = .ok (.iastore, 1) := by decide +kernel
theorem dX6_holds_10 : decode cX6_holds 10 = .ok (.aload_n 0, 1) := by decide +kernel
theorem dX6_holds_11 : decode cX6_holds 11 = .ok (.dup, 1) := by decide +kernel
theorem dX6_holds_12 : decode cX6_holds 12 = .ok (.getfield 106, 3) := by decide +kernel
theorem dX6_holds_15 : decode cX6_holds 15 = .ok (.iconst 1, 1) := by decide +kernel
theorem dX6_holds_16 : decode cX6_holds 16 = .ok (.iadd, 1) := by decide +kernel
theorem dX6_holds_17 : decode cX6_holds 17 = .ok (.putfield 106, 3) := by decide +kernel
theorem dX6_holds_20 : decode cX6_holds 20 = .ok (.return_, 1) := by decide +kernel
theorem dX6_opensOne_0 : decode cX6_opensOne 0 = .ok (.aload_n 0, 1) := by decide +kernel
theorem dX6_opensOne_1 : decode cX6_opensOne 1 = .ok (.getfield 112, 3) := by decide +kernel
theorem dX6_opensOne_4 : decode cX6_opensOne 4 = .ok (.iconst 5, 1) := by decide +kernel
theorem dX6_opensOne_5 : decode cX6_opensOne 5 = .ok (.if_icmp .ne 5, 3) := by decide +kernel
theorem dX6_opensOne_8 : decode cX6_opensOne 8 = .ok (.iconst 0, 1) := by decide +kernel
theorem dX6_opensOne_9 : decode cX6_opensOne 9 = .ok (.ireturn, 1) := by decide +kernel
theorem dX6_opensOne_10 : decode cX6_opensOne 10 = .ok (.aload_n 0, 1) := by decide +kernel
theorem dX6_opensOne_11 : decode cX6_opensOne 11 = .ok (.dup, 1) := by decide +kernel
theorem dX6_opensOne_12 : decode cX6_opensOne 12 = .ok (.getfield 112, 3) := by decide +kernel
theorem dX6_opensOne_15 : decode cX6_opensOne 15 = .ok (.iconst 1, 1) := by decide +kernel
theorem dX6_opensOne_16 : decode cX6_opensOne 16 = .ok (.iadd, 1) := by decide +kernel
theorem dX6_opensOne_17 : decode cX6_opensOne 17 = .ok (.putfield 112, 3) := by decide +kernel
theorem dX6_opensOne_20 : decode cX6_opensOne 20 = .ok (.aload_n 0, 1) := by decide +kernel
theorem dX6_opensOne_21 : decode cX6_opensOne 21 = .ok (.iload_n 1, 1) := by decide +kernel
theorem dX6_opensOne_22 : decode cX6_opensOne 22 = .ok (.invokevirtual 119, 3) := by decide +kernel
theorem dX6_opensOne_25 : decode cX6_opensOne 25 = .ok (.iconst 1, 1) := by decide +kernel
theorem dX6_opensOne_26 : decode cX6_opensOne 26 = .ok (.ireturn, 1) := by decide +kernel
theorem dX6_between_0 : decode cX6_between 0 = .ok (.aload_n 0, 1) := by decide +kernel
theorem dX6_between_1 : decode cX6_between 1 = .ok (.iload_n 1, 1) := by decide +kernel
theorem dX6_between_2 : decode cX6_between 2 = .ok (.invokestatic 109, 3) := by decide +kernel
theorem dX6_between_5 : decode cX6_between 5 = .ok (.iconst 4, 1) := by decide +kernel
theorem dX6_between_6 : decode cX6_between 6 = .ok (.if_icmp .ne 7, 3) := by decide +kernel
theorem dX6_between_9 : decode cX6_between 9 = .ok (.iconst 5, 1) := by decide +kernel
theorem dX6_between_10 : decode cX6_between 10 = .ok (.goto 7, 3) := by decide +kernel
theorem dX6_between_13 : decode cX6_between 13 = .ok (.iload_n 1, 1) := by decide +kernel
theorem dX6_between_14 : decode cX6_between 14 = .ok (.invokestatic 109, 3) := by decide +kernel
theorem dX6_between_17 : decode cX6_between 17 = .ok (.invokevirtual 122, 3) := by decide +kernel
theorem dX6_between_20 : decode cX6_between 20 = .ok (.iload_n 1, 1) := by decide +kernel
theorem dX6_between_21 : decode cX6_between 21 = .ok (.invokestatic 109, 3) := by decide +kernel
theorem dX6_between_24 : decode cX6_between 24 = .ok (.iconst 4, 1) := by decide +kernel
theorem dX6_between_25 : decode cX6_between 25 = .ok (.if_icmp .ne 30, 3) := by decide +kernel
theorem dX6_between_28 : decode cX6_between 28 = .ok (.aload_n 0, 1) := by decide +kernel
theorem dX6_between_29 : decode cX6_between 29 = .ok (.getfield 106, 3) := by decide +kernel
theorem dX6_between_32 : decode cX6_between 32 = .ok (.ifCond .le 23, 3) := by decide +kernel
theorem dX6_between_35 : decode cX6_between 35 = .ok (.aload_n 0, 1) := by decide +kernel
theorem dX6_between_36 : decode cX6_between 36 = .ok (.getfield 49, 3) := by decide +kernel
theorem dX6_between_39 : decode cX6_between 39 = .ok (.aload_n 0, 1) := by decide +kernel
theorem dX6_between_40 : decode cX6_between 40 = .ok (.getfield 106, 3) := by decide +kernel
theorem dX6_between_43 : decode cX6_between 43 = .ok (.iconst 1, 1) := by decide +kernel
theorem dX6_between_44 : decode cX6_between 44 = .ok (.isub, 1) := by decide +kernel
theorem dX6_between_45 : decode cX6_between 45 = .ok (.iaload, 1) := by decide +kernel
theorem dX6_between_46 : decode cX6_between 46 = .ok (.invokestatic 109, 3) := by decide +kernel
theorem dX6_between_49 : decode cX6_between 49 = .ok (.iconst 4, 1) := by decide +kernel
theorem dX6_between_50 : decode cX6_between 50 = .ok (.if_icmp .ne 5, 3) := by decide +kernel
theorem dX6_between_53 : decode cX6_between 53 = .ok (.iconst 0, 1) := by decide +kernel
theorem dX6_between_54 : decode cX6_between 54 = .ok (.ireturn, 1) := by decide +kernel
theorem dX6_between_55 : decode cX6_between 55 = .ok (.aload_n 0, 1) := by decide +kernel
theorem dX6_between_56 : decode cX6_between 56 = .ok (.iload_n 1, 1) := by decide +kernel
theorem dX6_between_57 : decode cX6_between 57 = .ok (.invokevirtual 119, 3) := by decide +kernel
theorem dX6_between_60 : decode cX6_between 60 = .ok (.iconst 1, 1) := by decide +kernel
theorem dX6_between_61 : decode cX6_between 61 = .ok (.ireturn, 1) := by decide +kernel
theorem dX6_signOf_0 : decode cX6_signOf 0 = .ok (.aload_n 0, 1) := by decide +kernel
theorem dX6_signOf_1 : decode cX6_signOf 1 = .ok (.getfield 93, 3) := by decide +kernel
theorem dX6_signOf_4 : decode cX6_signOf 4 = .ok (.iconst 4, 1) := by decide +kernel
theorem dX6_signOf_5 : decode cX6_signOf 5 = .ok (.if_icmp .ne 8, 3) := by decide +kernel
theorem dX6_signOf_8 : decode cX6_signOf 8 = .ok (.bipush 11, 2) := by decide +kernel
theorem dX6_signOf_10 : decode cX6_signOf 10 = .ok (.goto 87, 3) := by decide +kernel
theorem dX6_signOf_13 : decode cX6_signOf 13 = .ok (.aload_n 0, 1) := by decide +kernel
theorem dX6_signOf_14 : decode cX6_signOf 14 = .ok (.getfield 93, 3) := by decide +kernel
theorem dX6_signOf_17 : decode cX6_signOf 17 = .ok (.iconst 5, 1) := by decide +kernel
theorem dX6_signOf_18 : decode cX6_signOf 18 = .ok (.if_icmp .ne 8, 3) := by decide +kernel
theorem dX6_signOf_21 : decode cX6_signOf 21 = .ok (.bipush 12, 2) := by decide +kernel
theorem dX6_signOf_23 : decode cX6_signOf 23 = .ok (.goto 74, 3) := by decide +kernel
theorem dX6_signOf_26 : decode cX6_signOf 26 = .ok (.aload_n 0, 1) := by decide +kernel
theorem dX6_signOf_27 : decode cX6_signOf 27 = .ok (.getfield 93, 3) := by decide +kernel
theorem dX6_signOf_30 : decode cX6_signOf 30 = .ok (.bipush 60, 2) := by decide +kernel
theorem dX6_signOf_32 : decode cX6_signOf 32 = .ok (.if_icmp .ne 8, 3) := by decide +kernel
theorem dX6_signOf_35 : decode cX6_signOf 35 = .ok (.bipush 14, 2) := by decide +kernel
theorem dX6_signOf_37 : decode cX6_signOf 37 = .ok (.goto 60, 3) := by decide +kernel
theorem dX6_signOf_40 : decode cX6_signOf 40 = .ok (.aload_n 0, 1) := by decide +kernel
theorem dX6_signOf_41 : decode cX6_signOf 41 = .ok (.getfield 93, 3) := by decide +kernel
theorem dX6_signOf_44 : decode cX6_signOf 44 = .ok (.bipush 61, 2) := by decide +kernel
theorem dX6_signOf_46 : decode cX6_signOf 46 = .ok (.if_icmp .ne 8, 3) := by decide +kernel
theorem dX6_signOf_49 : decode cX6_signOf 49 = .ok (.bipush 15, 2) := by decide +kernel
theorem dX6_signOf_51 : decode cX6_signOf 51 = .ok (.goto 46, 3) := by decide +kernel
theorem dX6_signOf_54 : decode cX6_signOf 54 = .ok (.aload_n 0, 1) := by decide +kernel
theorem dX6_signOf_55 : decode cX6_signOf 55 = .ok (.getfield 93, 3) := by decide +kernel
theorem dX6_signOf_58 : decode cX6_signOf 58 = .ok (.bipush 43, 2) := by decide +kernel
theorem dX6_signOf_60 : decode cX6_signOf 60 = .ok (.if_icmp .ne 8, 3) := by decide +kernel
theorem dX6_signOf_63 : decode cX6_signOf 63 = .ok (.bipush 16, 2) := by decide +kernel
theorem dX6_signOf_65 : decode cX6_signOf 65 = .ok (.goto 32, 3) := by decide +kernel
theorem dX6_signOf_68 : decode cX6_signOf 68 = .ok (.aload_n 0, 1) := by decide +kernel
theorem dX6_signOf_69 : decode cX6_signOf 69 = .ok (.getfield 93, 3) := by decide +kernel
theorem dX6_signOf_72 : decode cX6_signOf 72 = .ok (.bipush 45, 2) := by decide +kernel
theorem dX6_signOf_74 : decode cX6_signOf 74 = .ok (.if_icmp .ne 8, 3) := by decide +kernel
theorem dX6_signOf_77 : decode cX6_signOf 77 = .ok (.bipush 17, 2) := by decide +kernel
theorem dX6_signOf_79 : decode cX6_signOf 79 = .ok (.goto 18, 3) := by decide +kernel
theorem dX6_signOf_82 : decode cX6_signOf 82 = .ok (.aload_n 0, 1) := by decide +kernel
theorem dX6_signOf_83 : decode cX6_signOf 83 = .ok (.getfield 93, 3) := by decide +kernel
theorem dX6_signOf_86 : decode cX6_signOf 86 = .ok (.bipush 42, 2) := by decide +kernel
theorem dX6_signOf_88 : decode cX6_signOf 88 = .ok (.if_icmp .ne 8, 3) := by decide +kernel
theorem dX6_signOf_91 : decode cX6_signOf 91 = .ok (.bipush 18, 2) := by decide +kernel
theorem dX6_signOf_93 : decode cX6_signOf 93 = .ok (.goto 4, 3) := by decide +kernel
theorem dX6_signOf_96 : decode cX6_signOf 96 = .ok (.iconst (-1), 1) := by decide +kernel
theorem dX6_signOf_97 : decode cX6_signOf 97 = .ok (.ireturn, 1) := by decide +kernel
theorem dX6_eRead_0 : decode cX6_eRead 0 = .ok (.aload_n 0, 1) := by decide +kernel
theorem dX6_eRead_1 : decode cX6_eRead 1 = .ok (.iconst 0, 1) := by decide +kernel
theorem dX6_eRead_2 : decode cX6_eRead 2 = .ok (.putfield 106, 3) := by decide +kernel
theorem dX6_eRead_5 : decode cX6_eRead 5 = .ok (.aload_n 0, 1) := by decide +kernel
theorem dX6_eRead_6 : decode cX6_eRead 6 = .ok (.iconst 0, 1) := by decide +kernel
theorem dX6_eRead_7 : decode cX6_eRead 7 = .ok (.putfield 112, 3) := by decide +kernel
theorem dX6_eRead_10 : decode cX6_eRead 10 = .ok (.iconst 1, 1) := by decide +kernel
theorem dX6_eRead_11 : decode cX6_eRead 11 = .ok (.istore_n 1, 1) := by decide +kernel
theorem dX6_eRead_12 : decode cX6_eRead 12 = .ok (.iconst 1, 1) := by decide +kernel
theorem dX6_eRead_13 : decode cX6_eRead 13 = .ok (.istore_n 2, 1) := by decide +kernel
theorem dX6_eRead_14 : decode cX6_eRead 14 = .ok (.aload_n 0, 1) := by decide +kernel
theorem dX6_eRead_15 : decode cX6_eRead 15 = .ok (.invokevirtual 125, 3) := by decide +kernel
theorem dX6_eRead_18 : decode cX6_eRead 18 = .ok (.iload_n 1, 1) := by decide +kernel
theorem dX6_eRead_19 : decode cX6_eRead 19 = .ok (.ifCond .eq 131, 3) := by decide +kernel
theorem dX6_eRead_22 : decode cX6_eRead 22 = .ok (.aload_n 0, 1) := by decide +kernel
theorem dX6_eRead_23 : decode cX6_eRead 23 = .ok (.getfield 93, 3) := by decide +kernel
theorem dX6_eRead_26 : decode cX6_eRead 26 = .ok (.iconst 1, 1) := by decide +kernel
theorem dX6_eRead_27 : decode cX6_eRead 27 = .ok (.if_icmp .eq 11, 3) := by decide +kernel
theorem dX6_eRead_30 : decode cX6_eRead 30 = .ok (.aload_n 0, 1) := by decide +kernel
theorem dX6_eRead_31 : decode cX6_eRead 31 = .ok (.getfield 93, 3) := by decide +kernel
theorem dX6_eRead_34 : decode cX6_eRead 34 = .ok (.iconst 2, 1) := by decide +kernel
theorem dX6_eRead_35 : decode cX6_eRead 35 = .ok (.if_icmp .ne 40, 3) := by decide +kernel
theorem dX6_eRead_38 : decode cX6_eRead 38 = .ok (.aload_n 0, 1) := by decide +kernel
theorem dX6_eRead_39 : decode cX6_eRead 39 = .ok (.aload_n 0, 1) := by decide +kernel
theorem dX6_eRead_40 : decode cX6_eRead 40 = .ok (.getfield 93, 3) := by decide +kernel
theorem dX6_eRead_43 : decode cX6_eRead 43 = .ok (.iconst 1, 1) := by decide +kernel
theorem dX6_eRead_44 : decode cX6_eRead 44 = .ok (.if_icmp .ne 13, 3) := by decide +kernel
theorem dX6_eRead_47 : decode cX6_eRead 47 = .ok (.ldc 128, 2) := by decide +kernel
theorem dX6_eRead_49 : decode cX6_eRead 49 = .ok (.aload_n 0, 1) := by decide +kernel
theorem dX6_eRead_50 : decode cX6_eRead 50 = .ok (.getfield 96, 3) := by decide +kernel
theorem dX6_eRead_53 : decode cX6_eRead 53 = .ok (.iadd, 1) := by decide +kernel
theorem dX6_eRead_54 : decode cX6_eRead 54 = .ok (.goto 7, 3) := by decide +kernel
theorem dX6_eRead_57 : decode cX6_eRead 57 = .ok (.aload_n 0, 1) := by decide +kernel
theorem dX6_eRead_58 : decode cX6_eRead 58 = .ok (.getfield 96, 3) := by decide +kernel
theorem dX6_eRead_61 : decode cX6_eRead 61 = .ok (.invokevirtual 115, 3) := by decide +kernel
theorem dX6_eRead_64 : decode cX6_eRead 64 = .ok (.aload_n 0, 1) := by decide +kernel
theorem dX6_eRead_65 : decode cX6_eRead 65 = .ok (.bipush 7, 2) := by decide +kernel
theorem dX6_eRead_67 : decode cX6_eRead 67 = .ok (.invokevirtual 122, 3) := by decide +kernel
theorem dX6_eRead_70 : decode cX6_eRead 70 = .ok (.iconst 0, 1) := by decide +kernel
theorem dX6_eRead_71 : decode cX6_eRead 71 = .ok (.istore_n 1, 1) := by decide +kernel
theorem dX6_eRead_72 : decode cX6_eRead 72 = .ok (.goto (-58), 3) := by decide +kernel
theorem dX6_eRead_75 : decode cX6_eRead 75 = .ok (.aload_n 0, 1) := by decide +kernel
theorem dX6_eRead_76 : decode cX6_eRead 76 = .ok (.getfield 93, 3) := by decide +kernel
theorem dX6_eRead_79 : decode cX6_eRead 79 = .ok (.bipush 6, 2) := by decide +kernel
theorem dX6_eRead_81 : decode cX6_eRead 81 = .ok (.if_icmp .ne 18, 3) := by decide +kernel
theorem dX6_eRead_84 : decode cX6_eRead 84 = .ok (.iload_n 2, 1) := by decide +kernel
theorem dX6_eRead_85 : decode cX6_eRead 85 = .ok (.ifCond .eq 14, 3) := by decide +kernel
theorem dX6_eRead_88 : decode cX6_eRead 88 = .ok (.aload_n 0, 1) := by decide +kernel
theorem dX6_eRead_89 : decode cX6_eRead 89 = .ok (.bipush 13, 2) := by decide +kernel
theorem dX6_eRead_91 : decode cX6_eRead 91 = .ok (.invokevirtual 129, 3) := by decide +kernel
theorem dX6_eRead_94 : decode cX6_eRead 94 = .ok (.ifCond .ne (-80), 3) := by decide +kernel
theorem dX6_eRead_97 : decode cX6_eRead 97 = .ok (.iconst 0, 1) := by decide +kernel
theorem dX6_eRead_98 : decode cX6_eRead 98 = .ok (.ireturn, 1) := by decide +kernel
theorem dX6_eRead_99 : decode cX6_eRead 99 = .ok (.aload_n 0, 1) := by decide +kernel
theorem dX6_eRead_100 : decode cX6_eRead 100 = .ok (.getfield 93, 3) := by decide +kernel
theorem dX6_eRead_103 : decode cX6_eRead 103 = .ok (.bipush 45, 2) := by decide +kernel
theorem dX6_eRead_105 : decode cX6_eRead 105 = .ok (.if_icmp .ne 19, 3) := by decide +kernel
theorem dX6_eRead_108 : decode cX6_eRead 108 = .ok (.aload_n 0, 1) := by decide +kernel
theorem dX6_eRead_109 : decode cX6_eRead 109 = .ok (.bipush 19, 2) := by decide +kernel
theorem dX6_eRead_111 : decode cX6_eRead 111 = .ok (.invokevirtual 129, 3) := by decide +kernel
theorem dX6_eRead_114 : decode cX6_eRead 114 = .ok (.ifCond .ne 5, 3) := by decide +kernel
theorem dX6_eRead_117 : decode cX6_eRead 117 = .ok (.iconst 0, 1) := by decide +kernel
theorem dX6_eRead_118 : decode cX6_eRead 118 = .ok (.ireturn, 1) := by decide +kernel
theorem dX6_eRead_119 : decode cX6_eRead 119 = .ok (.iconst 0, 1) := by decide +kernel
theorem dX6_eRead_120 : decode cX6_eRead 120 = .ok (.istore_n 2, 1) := by decide +kernel
theorem dX6_eRead_121 : decode cX6_eRead 121 = .ok (.goto (-107), 3) := by decide +kernel
theorem dX6_eRead_124 : decode cX6_eRead 124 = .ok (.aload_n 0, 1) := by decide +kernel
theorem dX6_eRead_125 : decode cX6_eRead 125 = .ok (.getfield 93, 3) := by decide +kernel
theorem dX6_eRead_128 : decode cX6_eRead 128 = .ok (.bipush 40, 2) := by decide +kernel
theorem dX6_eRead_130 : decode cX6_eRead 130 = .ok (.if_icmp .ne 18, 3) := by decide +kernel
theorem dX6_eRead_133 : decode cX6_eRead 133 = .ok (.aload_n 0, 1) := by decide +kernel
theorem dX6_eRead_134 : decode cX6_eRead 134 = .ok (.iconst 0, 1) := by decide +kernel
theorem dX6_eRead_135 : decode cX6_eRead 135 = .ok (.invokevirtual 129, 3) := by decide +kernel
theorem dX6_eRead_138 : decode cX6_eRead 138 = .ok (.ifCond .ne 5, 3) := by decide +kernel
theorem dX6_eRead_141 : decode cX6_eRead 141 = .ok (.iconst 0, 1) := by decide +kernel
theorem dX6_eRead_142 : decode cX6_eRead 142 = .ok (.ireturn, 1) := by decide +kernel
theorem dX6_eRead_143 : decode cX6_eRead 143 = .ok (.iconst 1, 1) := by decide +kernel
theorem dX6_eRead_144 : decode cX6_eRead 144 = .ok (.istore_n 2, 1) := by decide +kernel
theorem dX6_eRead_145 : decode cX6_eRead 145 = .ok (.goto (-131), 3) := by decide +kernel
theorem dX6_eRead_148 : decode cX6_eRead 148 = .ok (.iconst 0, 1) := by decide +kernel
theorem dX6_eRead_149 : decode cX6_eRead 149 = .ok (.ireturn, 1) := by decide +kernel
theorem dX6_eRead_150 : decode cX6_eRead 150 = .ok (.aload_n 0, 1) := by decide +kernel
theorem dX6_eRead_151 : decode cX6_eRead 151 = .ok (.getfield 93, 3) := by decide +kernel
theorem dX6_eRead_154 : decode cX6_eRead 154 = .ok (.bipush 59, 2) := by decide +kernel
theorem dX6_eRead_156 : decode cX6_eRead 156 = .ok (.if_icmp .ne 21, 3) := by decide +kernel
theorem dX6_eRead_159 : decode cX6_eRead 159 = .ok (.aload_n 0, 1) := by decide +kernel
theorem dX6_eRead_160 : decode cX6_eRead 160 = .ok (.iconst 1, 1) := by decide +kernel
theorem dX6_eRead_161 : decode cX6_eRead 161 = .ok (.invokevirtual 122, 3) := by decide +kernel
theorem dX6_eRead_164 : decode cX6_eRead 164 = .ok (.aload_n 0, 1) := by decide +kernel
theorem dX6_eRead_165 : decode cX6_eRead 165 = .ok (.getfield 106, 3) := by decide +kernel
theorem dX6_eRead_168 : decode cX6_eRead 168 = .ok (.ifCond .ne 7, 3) := by decide +kernel
theorem dX6_eRead_171 : decode cX6_eRead 171 = .ok (.iconst 1, 1) := by decide +kernel
theorem dX6_eRead_172 : decode cX6_eRead 172 = .ok (.goto 4, 3) := by decide +kernel
theorem dX6_eRead_175 : decode cX6_eRead 175 = .ok (.iconst 0, 1) := by decide +kernel
theorem dX6_eRead_176 : decode cX6_eRead 176 = .ok (.ireturn, 1) := by decide +kernel
theorem dX6_eRead_177 : decode cX6_eRead 177 = .ok (.aload_n 0, 1) := by decide +kernel
theorem dX6_eRead_178 : decode cX6_eRead 178 = .ok (.getfield 93, 3) := by decide +kernel
theorem dX6_eRead_181 : decode cX6_eRead 181 = .ok (.bipush 41, 2) := by decide +kernel
theorem dX6_eRead_183 : decode cX6_eRead 183 = .ok (.if_icmp .ne 46, 3) := by decide +kernel
theorem dX6_eRead_186 : decode cX6_eRead 186 = .ok (.aload_n 0, 1) := by decide +kernel
theorem dX6_eRead_187 : decode cX6_eRead 187 = .ok (.iconst 1, 1) := by decide +kernel
theorem dX6_eRead_188 : decode cX6_eRead 188 = .ok (.invokevirtual 122, 3) := by decide +kernel
theorem dX6_eRead_191 : decode cX6_eRead 191 = .ok (.aload_n 0, 1) := by decide +kernel
theorem dX6_eRead_192 : decode cX6_eRead 192 = .ok (.getfield 106, 3) := by decide +kernel
theorem dX6_eRead_195 : decode cX6_eRead 195 = .ok (.ifCond .ne 5, 3) := by decide +kernel
theorem dX6_eRead_198 : decode cX6_eRead 198 = .ok (.iconst 0, 1) := by decide +kernel
theorem dX6_eRead_199 : decode cX6_eRead 199 = .ok (.ireturn, 1) := by decide +kernel
theorem dX6_eRead_200 : decode cX6_eRead 200 = .ok (.aload_n 0, 1) := by decide +kernel
theorem dX6_eRead_201 : decode cX6_eRead 201 = .ok (.dup, 1) := by decide +kernel
theorem dX6_eRead_202 : decode cX6_eRead 202 = .ok (.getfield 106, 3) := by decide +kernel
theorem dX6_eRead_205 : decode cX6_eRead 205 = .ok (.iconst 1, 1) := by decide +kernel
theorem dX6_eRead_206 : decode cX6_eRead 206 = .ok (.isub, 1) := by decide +kernel
theorem dX6_eRead_207 : decode cX6_eRead 207 = .ok (.putfield 106, 3) := by decide +kernel
theorem dX6_eRead_210 : decode cX6_eRead 210 = .ok (.aload_n 0, 1) := by decide +kernel
theorem dX6_eRead_211 : decode cX6_eRead 211 = .ok (.dup, 1) := by decide +kernel
theorem dX6_eRead_212 : decode cX6_eRead 212 = .ok (.getfield 112, 3) := by decide +kernel
theorem dX6_eRead_215 : decode cX6_eRead 215 = .ok (.iconst 1, 1) := by decide +kernel
theorem dX6_eRead_216 : decode cX6_eRead 216 = .ok (.isub, 1) := by decide +kernel
theorem dX6_eRead_217 : decode cX6_eRead 217 = .ok (.putfield 112, 3) := by decide +kernel
theorem dX6_eRead_220 : decode cX6_eRead 220 = .ok (.aload_n 0, 1) := by decide +kernel
theorem dX6_eRead_221 : decode cX6_eRead 221 = .ok (.bipush 7, 2) := by decide +kernel
theorem dX6_eRead_223 : decode cX6_eRead 223 = .ok (.invokevirtual 122, 3) := by decide +kernel
theorem dX6_eRead_226 : decode cX6_eRead 226 = .ok (.goto (-212), 3) := by decide +kernel
theorem dX6_eRead_229 : decode cX6_eRead 229 = .ok (.aload_n 0, 1) := by decide +kernel
theorem dX6_eRead_230 : decode cX6_eRead 230 = .ok (.invokevirtual 132, 3) := by decide +kernel
theorem dX6_eRead_233 : decode cX6_eRead 233 = .ok (.istore_n 3, 1) := by decide +kernel
theorem dX6_eRead_234 : decode cX6_eRead 234 = .ok (.iload_n 3, 1) := by decide +kernel
theorem dX6_eRead_235 : decode cX6_eRead 235 = .ok (.iconst (-1), 1) := by decide +kernel
theorem dX6_eRead_236 : decode cX6_eRead 236 = .ok (.if_icmp .eq 11, 3) := by decide +kernel
theorem dX6_eRead_239 : decode cX6_eRead 239 = .ok (.aload_n 0, 1) := by decide +kernel
theorem dX6_eRead_240 : decode cX6_eRead 240 = .ok (.iload_n 3, 1) := by decide +kernel
theorem dX6_eRead_241 : decode cX6_eRead 241 = .ok (.invokevirtual 135, 3) := by decide +kernel
theorem dX6_eRead_244 : decode cX6_eRead 244 = .ok (.ifCond .ne 5, 3) := by decide +kernel
theorem dX6_eRead_247 : decode cX6_eRead 247 = .ok (.iconst 0, 1) := by decide +kernel
theorem dX6_eRead_248 : decode cX6_eRead 248 = .ok (.ireturn, 1) := by decide +kernel
theorem dX6_eRead_249 : decode cX6_eRead 249 = .ok (.iconst 1, 1) := by decide +kernel
theorem dX6_eRead_250 : decode cX6_eRead 250 = .ok (.istore_n 1, 1) := by decide +kernel
theorem dX6_eRead_251 : decode cX6_eRead 251 = .ok (.iload_n 3, 1) := by decide +kernel
theorem dX6_eRead_252 : decode cX6_eRead 252 = .ok (.bipush 12, 2) := by decide +kernel
theorem dX6_eRead_254 : decode cX6_eRead 254 = .ok (.if_icmp .gt 7, 3) := by decide +kernel
theorem dX6_eRead_257 : decode cX6_eRead 257 = .ok (.iconst 1, 1) := by decide +kernel
theorem dX6_eRead_258 : decode cX6_eRead 258 = .ok (.goto 4, 3) := by decide +kernel
theorem dX6_eRead_261 : decode cX6_eRead 261 = .ok (.iconst 0, 1) := by decide +kernel
theorem dX6_eRead_262 : decode cX6_eRead 262 = .ok (.istore_n 2, 1) := by decide +kernel
theorem dX6_eRead_263 : decode cX6_eRead 263 = .ok (.goto (-249), 3) := by decide +kernel
theorem dX6_text_0 : decode cX6_text 0 = .ok (.aload_n 0, 1) := by decide +kernel
theorem dX6_text_1 : decode cX6_text 1 = .ok (.getfield 77, 3) := by decide +kernel
theorem dX6_text_4 : decode cX6_text 4 = .ok (.bipush 6, 2) := by decide +kernel
theorem dX6_text_6 : decode cX6_text 6 = .ok (.if_icmp .ne 6, 3) := by decide +kernel
theorem dX6_text_9 : decode cX6_text 9 = .ok (.bipush (-4), 2) := by decide +kernel
theorem dX6_text_11 : decode cX6_text 11 = .ok (.ireturn, 1) := by decide +kernel
theorem dX6_text_12 : decode cX6_text 12 = .ok (.aload_n 0, 1) := by decide +kernel
theorem dX6_text_13 : decode cX6_text 13 = .ok (.iconst 0, 1) := by decide +kernel
theorem dX6_text_14 : decode cX6_text 14 = .ok (.putfield 87, 3) := by decide +kernel
theorem dX6_text_17 : decode cX6_text 17 = .ok (.aload_n 0, 1) := by decide +kernel
theorem dX6_text_18 : decode cX6_text 18 = .ok (.iconst 0, 1) := by decide +kernel
theorem dX6_text_19 : decode cX6_text 19 = .ok (.putfield 103, 3) := by decide +kernel
theorem dX6_text_22 : decode cX6_text 22 = .ok (.iconst 1, 1) := by decide +kernel
theorem dX6_text_23 : decode cX6_text 23 = .ok (.istore_n 1, 1) := by decide +kernel
theorem dX6_text_24 : decode cX6_text 24 = .ok (.iconst 0, 1) := by decide +kernel
theorem dX6_text_25 : decode cX6_text 25 = .ok (.istore_n 2, 1) := by decide +kernel
theorem dX6_text_26 : decode cX6_text 26 = .ok (.iload_n 2, 1) := by decide +kernel
theorem dX6_text_27 : decode cX6_text 27 = .ok (.iconst 3, 1) := by decide +kernel
theorem dX6_text_28 : decode cX6_text 28 = .ok (.if_icmp .ge 73, 3) := by decide +kernel
theorem dX6_text_31 : decode cX6_text 31 = .ok (.iload_n 1, 1) := by decide +kernel
theorem dX6_text_32 : decode cX6_text 32 = .ok (.ifCond .eq 69, 3) := by decide +kernel
theorem dX6_text_35 : decode cX6_text 35 = .ok (.aload_n 0, 1) := by decide +kernel
theorem dX6_text_36 : decode cX6_text 36 = .ok (.invokevirtual 125, 3) := by decide +kernel
theorem dX6_text_39 : decode cX6_text 39 = .ok (.aload_n 0, 1) := by decide +kernel
theorem dX6_text_40 : decode cX6_text 40 = .ok (.getfield 93, 3) := by decide +kernel
theorem dX6_text_43 : decode cX6_text 43 = .ok (.iconst 3, 1) := by decide +kernel
theorem dX6_text_44 : decode cX6_text 44 = .ok (.if_icmp .ne 15, 3) := by decide +kernel
theorem dX6_text_47 : decode cX6_text 47 = .ok (.aload_n 0, 1) := by decide +kernel
theorem dX6_text_48 : decode cX6_text 48 = .ok (.getfield 96, 3) := by decide +kernel
theorem dX6_text_51 : decode cX6_text 51 = .ok (.iload_n 2, 1) := by decide +kernel
theorem dX6_text_52 : decode cX6_text 52 = .ok (.if_icmp .ne 7, 3) := by decide +kernel
theorem dX6_text_55 : decode cX6_text 55 = .ok (.iconst 1, 1) := by decide +kernel
theorem dX6_text_56 : decode cX6_text 56 = .ok (.goto 4, 3) := by decide +kernel
theorem dX6_text_59 : decode cX6_text 59 = .ok (.iconst 0, 1) := by decide +kernel
theorem dX6_text_60 : decode cX6_text 60 = .ok (.istore_n 1, 1) := by decide +kernel
theorem dX6_text_61 : decode cX6_text 61 = .ok (.aload_n 0, 1) := by decide +kernel
theorem dX6_text_62 : decode cX6_text 62 = .ok (.getfield 28, 3) := by decide +kernel
theorem dX6_text_65 : decode cX6_text 65 = .ok (.iconst 4, 1) := by decide +kernel
theorem dX6_text_66 : decode cX6_text 66 = .ok (.aload_n 0, 1) := by decide +kernel
theorem dX6_text_67 : decode cX6_text 67 = .ok (.getfield 77, 3) := by decide +kernel
theorem dX6_text_70 : decode cX6_text 70 = .ok (.imul, 1) := by decide +kernel
theorem dX6_text_71 : decode cX6_text 71 = .ok (.iload_n 2, 1) := by decide +kernel
theorem dX6_text_72 : decode cX6_text 72 = .ok (.iadd, 1) := by decide +kernel
theorem dX6_text_73 : decode cX6_text 73 = .ok (.aload_n 0, 1) := by decide +kernel
theorem dX6_text_74 : decode cX6_text 74 = .ok (.getfield 103, 3) := by decide +kernel
theorem dX6_text_77 : decode cX6_text 77 = .ok (.iastore, 1) := by decide +kernel
theorem dX6_text_78 : decode cX6_text 78 = .ok (.iload_n 1, 1) := by decide +kernel
theorem dX6_text_79 : decode cX6_text 79 = .ok (.ifCond .eq 14, 3) := by decide +kernel
theorem dX6_text_82 : decode cX6_text 82 = .ok (.aload_n 0, 1) := by decide +kernel
theorem dX6_text_83 : decode cX6_text 83 = .ok (.invokevirtual 138, 3) := by decide +kernel
theorem dX6_text_86 : decode cX6_text 86 = .ok (.ifCond .eq 7, 3) := by decide +kernel
theorem dX6_text_89 : decode cX6_text 89 = .ok (.iconst 1, 1) := by decide +kernel
theorem dX6_text_90 : decode cX6_text 90 = .ok (.goto 4, 3) := by decide +kernel
theorem dX6_text_93 : decode cX6_text 93 = .ok (.iconst 0, 1) := by decide +kernel
theorem dX6_text_94 : decode cX6_text 94 = .ok (.istore_n 1, 1) := by decide +kernel
theorem dX6_text_95 : decode cX6_text 95 = .ok (.iinc 2 1, 3) := by decide +kernel
theorem dX6_text_98 : decode cX6_text 98 = .ok (.goto (-72), 3) := by decide +kernel
theorem dX6_text_101 : decode cX6_text 101 = .ok (.iload_n 1, 1) := by decide +kernel
theorem dX6_text_102 : decode cX6_text 102 = .ok (.ifCond .eq 20, 3) := by decide +kernel
theorem dX6_text_105 : decode cX6_text 105 = .ok (.aload_n 0, 1) := by decide +kernel
theorem dX6_text_106 : decode cX6_text 106 = .ok (.invokevirtual 125, 3) := by decide +kernel
theorem dX6_text_109 : decode cX6_text 109 = .ok (.aload_n 0, 1) := by decide +kernel
theorem dX6_text_110 : decode cX6_text 110 = .ok (.getfield 93, 3) := by decide +kernel
theorem dX6_text_113 : decode cX6_text 113 = .ok (.ifCond .ne 7, 3) := by decide +kernel
theorem dX6_text_116 : decode cX6_text 116 = .ok (.iconst 1, 1) := by decide +kernel
theorem dX6_text_117 : decode cX6_text 117 = .ok (.goto 4, 3) := by decide +kernel
theorem dX6_text_120 : decode cX6_text 120 = .ok (.iconst 0, 1) := by decide +kernel
theorem dX6_text_121 : decode cX6_text 121 = .ok (.istore_n 1, 1) := by decide +kernel
theorem dX6_text_122 : decode cX6_text 122 = .ok (.aload_n 0, 1) := by decide +kernel
theorem dX6_text_123 : decode cX6_text 123 = .ok (.getfield 28, 3) := by decide +kernel
theorem dX6_text_126 : decode cX6_text 126 = .ok (.iconst 4, 1) := by decide +kernel
theorem dX6_text_127 : decode cX6_text 127 = .ok (.aload_n 0, 1) := by decide +kernel
theorem dX6_text_128 : decode cX6_text 128 = .ok (.getfield 77, 3) := by decide +kernel
theorem dX6_text_131 : decode cX6_text 131 = .ok (.imul, 1) := by decide +kernel
theorem dX6_text_132 : decode cX6_text 132 = .ok (.iconst 3, 1) := by decide +kernel
theorem dX6_text_133 : decode cX6_text 133 = .ok (.iadd, 1) := by decide +kernel
theorem dX6_text_134 : decode cX6_text 134 = .ok (.aload_n 0, 1) := by decide +kernel
theorem dX6_text_135 : decode cX6_text 135 = .ok (.getfield 103, 3) := by decide +kernel
theorem dX6_text_138 : decode cX6_text 138 = .ok (.iastore, 1) := by decide +kernel
theorem dX6_text_139 : decode cX6_text 139 = .ok (.aload_n 0, 1) := by decide +kernel
theorem dX6_text_140 : decode cX6_text 140 = .ok (.iconst 0, 1) := by decide +kernel
theorem dX6_text_141 : decode cX6_text 141 = .ok (.putfield 61, 3) := by decide +kernel
theorem dX6_text_144 : decode cX6_text 144 = .ok (.iload_n 1, 1) := by decide +kernel
theorem dX6_text_145 : decode cX6_text 145 = .ok (.ifCond .ne 11, 3) := by decide +kernel
theorem dX6_text_148 : decode cX6_text 148 = .ok (.bipush (-100), 2) := by decide +kernel
theorem dX6_text_150 : decode cX6_text 150 = .ok (.aload_n 0, 1) := by decide +kernel
theorem dX6_text_151 : decode cX6_text 151 = .ok (.getfield 90, 3) := by decide +kernel
theorem dX6_text_154 : decode cX6_text 154 = .ok (.isub, 1) := by decide +kernel
theorem dX6_text_155 : decode cX6_text 155 = .ok (.ireturn, 1) := by decide +kernel
theorem dX6_text_156 : decode cX6_text 156 = .ok (.aload_n 0, 1) := by decide +kernel
theorem dX6_text_157 : decode cX6_text 157 = .ok (.dup, 1) := by decide +kernel
theorem dX6_text_158 : decode cX6_text 158 = .ok (.getfield 77, 3) := by decide +kernel
theorem dX6_text_161 : decode cX6_text 161 = .ok (.iconst 1, 1) := by decide +kernel
theorem dX6_text_162 : decode cX6_text 162 = .ok (.iadd, 1) := by decide +kernel
theorem dX6_text_163 : decode cX6_text 163 = .ok (.putfield 77, 3) := by decide +kernel
theorem dX6_text_166 : decode cX6_text 166 = .ok (.aload_n 0, 1) := by decide +kernel
theorem dX6_text_167 : decode cX6_text 167 = .ok (.getfield 77, 3) := by decide +kernel
theorem dX6_text_170 : decode cX6_text 170 = .ok (.iconst 1, 1) := by decide +kernel
theorem dX6_text_171 : decode cX6_text 171 = .ok (.isub, 1) := by decide +kernel
theorem dX6_text_172 : decode cX6_text 172 = .ok (.ireturn, 1) := by decide +kernel
theorem dX6_two_0 : decode cX6_two 0 = .ok (.iload_n 0, 1) := by decide +kernel
theorem dX6_two_1 : decode cX6_two 1 = .ok (.tableswitch 101 11 17 #[43, 57, 101, 71, 82, 93, 97], 43) := by decide +kernel
theorem dX6_two_44 : decode cX6_two 44 = .ok (.iload_n 1, 1) := by decide +kernel
theorem dX6_two_45 : decode cX6_two 45 = .ok (.ifCond .ne 7, 3) := by decide +kernel
theorem dX6_two_48 : decode cX6_two 48 = .ok (.iload_n 2, 1) := by decide +kernel
theorem dX6_two_49 : decode cX6_two 49 = .ok (.ifCond .eq 7, 3) := by decide +kernel
theorem dX6_two_52 : decode cX6_two 52 = .ok (.iconst 1, 1) := by decide +kernel
theorem dX6_two_53 : decode cX6_two 53 = .ok (.goto 4, 3) := by decide +kernel
theorem dX6_two_56 : decode cX6_two 56 = .ok (.iconst 0, 1) := by decide +kernel
theorem dX6_two_57 : decode cX6_two 57 = .ok (.ireturn, 1) := by decide +kernel
theorem dX6_two_58 : decode cX6_two 58 = .ok (.iload_n 1, 1) := by decide +kernel
theorem dX6_two_59 : decode cX6_two 59 = .ok (.ifCond .eq 11, 3) := by decide +kernel
theorem dX6_two_62 : decode cX6_two 62 = .ok (.iload_n 2, 1) := by decide +kernel
theorem dX6_two_63 : decode cX6_two 63 = .ok (.ifCond .eq 7, 3) := by decide +kernel
theorem dX6_two_66 : decode cX6_two 66 = .ok (.iconst 1, 1) := by decide +kernel
theorem dX6_two_67 : decode cX6_two 67 = .ok (.goto 4, 3) := by decide +kernel
theorem dX6_two_70 : decode cX6_two 70 = .ok (.iconst 0, 1) := by decide +kernel
theorem dX6_two_71 : decode cX6_two 71 = .ok (.ireturn, 1) := by decide +kernel
theorem dX6_two_72 : decode cX6_two 72 = .ok (.iload_n 1, 1) := by decide +kernel
theorem dX6_two_73 : decode cX6_two 73 = .ok (.iload_n 2, 1) := by decide +kernel
theorem dX6_two_74 : decode cX6_two 74 = .ok (.if_icmp .ge 7, 3) := by decide +kernel
theorem dX6_two_77 : decode cX6_two 77 = .ok (.iconst 1, 1) := by decide +kernel
theorem dX6_two_78 : decode cX6_two 78 = .ok (.goto 4, 3) := by decide +kernel
theorem dX6_two_81 : decode cX6_two 81 = .ok (.iconst 0, 1) := by decide +kernel
theorem dX6_two_82 : decode cX6_two 82 = .ok (.ireturn, 1) := by decide +kernel
theorem dX6_two_83 : decode cX6_two 83 = .ok (.iload_n 1, 1) := by decide +kernel
theorem dX6_two_84 : decode cX6_two 84 = .ok (.iload_n 2, 1) := by decide +kernel
theorem dX6_two_85 : decode cX6_two 85 = .ok (.if_icmp .ne 7, 3) := by decide +kernel
theorem dX6_two_88 : decode cX6_two 88 = .ok (.iconst 1, 1) := by decide +kernel
theorem dX6_two_89 : decode cX6_two 89 = .ok (.goto 4, 3) := by decide +kernel
theorem dX6_two_92 : decode cX6_two 92 = .ok (.iconst 0, 1) := by decide +kernel
theorem dX6_two_93 : decode cX6_two 93 = .ok (.ireturn, 1) := by decide +kernel
theorem dX6_two_94 : decode cX6_two 94 = .ok (.iload_n 1, 1) := by decide +kernel
theorem dX6_two_95 : decode cX6_two 95 = .ok (.iload_n 2, 1) := by decide +kernel
theorem dX6_two_96 : decode cX6_two 96 = .ok (.iadd, 1) := by decide +kernel
theorem dX6_two_97 : decode cX6_two 97 = .ok (.ireturn, 1) := by decide +kernel
theorem dX6_two_98 : decode cX6_two 98 = .ok (.iload_n 1, 1) := by decide +kernel
theorem dX6_two_99 : decode cX6_two 99 = .ok (.iload_n 2, 1) := by decide +kernel
theorem dX6_two_100 : decode cX6_two 100 = .ok (.isub, 1) := by decide +kernel
theorem dX6_two_101 : decode cX6_two 101 = .ok (.ireturn, 1) := by decide +kernel
theorem dX6_two_102 : decode cX6_two 102 = .ok (.iload_n 1, 1) := by decide +kernel
theorem dX6_two_103 : decode cX6_two 103 = .ok (.iload_n 2, 1) := by decide +kernel
theorem dX6_two_104 : decode cX6_two 104 = .ok (.imul, 1) := by decide +kernel
theorem dX6_two_105 : decode cX6_two 105 = .ok (.ireturn, 1) := by decide +kernel
theorem dX6_worth_0 : decode cX6_worth 0 = .ok (.iconst 0, 1) := by decide +kernel
theorem dX6_worth_1 : decode cX6_worth 1 = .ok (.istore_n 2, 1) := by decide +kernel
theorem dX6_worth_2 : decode cX6_worth 2 = .ok (.aload_n 0, 1) := by decide +kernel
theorem dX6_worth_3 : decode cX6_worth 3 = .ok (.getfield 28, 3) := by decide +kernel
theorem dX6_worth_6 : decode cX6_worth 6 = .ok (.iconst 4, 1) := by decide +kernel
theorem dX6_worth_7 : decode cX6_worth 7 = .ok (.aload_n 0, 1) := by decide +kernel
theorem dX6_worth_8 : decode cX6_worth 8 = .ok (.getfield 80, 3) := by decide +kernel
theorem dX6_worth_11 : decode cX6_worth 11 = .ok (.imul, 1) := by decide +kernel
theorem dX6_worth_12 : decode cX6_worth 12 = .ok (.iload_n 1, 1) := by decide +kernel
theorem dX6_worth_13 : decode cX6_worth 13 = .ok (.iadd, 1) := by decide +kernel
theorem dX6_worth_14 : decode cX6_worth 14 = .ok (.iaload, 1) := by decide +kernel
theorem dX6_worth_15 : decode cX6_worth 15 = .ok (.istore_n 3, 1) := by decide +kernel
theorem dX6_worth_16 : decode cX6_worth 16 = .ok (.iload_n 3, 1) := by decide +kernel
theorem dX6_worth_17 : decode cX6_worth 17 = .ok (.aload_n 0, 1) := by decide +kernel
theorem dX6_worth_18 : decode cX6_worth 18 = .ok (.getfield 28, 3) := by decide +kernel
theorem dX6_worth_21 : decode cX6_worth 21 = .ok (.iconst 4, 1) := by decide +kernel
theorem dX6_worth_22 : decode cX6_worth 22 = .ok (.aload_n 0, 1) := by decide +kernel
theorem dX6_worth_23 : decode cX6_worth 23 = .ok (.getfield 80, 3) := by decide +kernel
theorem dX6_worth_26 : decode cX6_worth 26 = .ok (.imul, 1) := by decide +kernel
theorem dX6_worth_27 : decode cX6_worth 27 = .ok (.iload_n 1, 1) := by decide +kernel
theorem dX6_worth_28 : decode cX6_worth 28 = .ok (.iadd, 1) := by decide +kernel
theorem dX6_worth_29 : decode cX6_worth 29 = .ok (.iconst 1, 1) := by decide +kernel
theorem dX6_worth_30 : decode cX6_worth 30 = .ok (.iadd, 1) := by decide +kernel
theorem dX6_worth_31 : decode cX6_worth 31 = .ok (.iaload, 1) := by decide +kernel
theorem dX6_worth_32 : decode cX6_worth 32 = .ok (.if_icmp .ge 165, 3) := by decide +kernel
theorem dX6_worth_35 : decode cX6_worth 35 = .ok (.aload_n 0, 1) := by decide +kernel
theorem dX6_worth_36 : decode cX6_worth 36 = .ok (.getfield 25, 3) := by decide +kernel
theorem dX6_worth_39 : decode cX6_worth 39 = .ok (.sipush 200, 3) := by decide +kernel
theorem dX6_worth_42 : decode cX6_worth 42 = .ok (.aload_n 0, 1) := by decide +kernel
theorem dX6_worth_43 : decode cX6_worth 43 = .ok (.getfield 80, 3) := by decide +kernel
theorem dX6_worth_46 : decode cX6_worth 46 = .ok (.imul, 1) := by decide +kernel
theorem dX6_worth_47 : decode cX6_worth 47 = .ok (.iload_n 3, 1) := by decide +kernel
theorem dX6_worth_48 : decode cX6_worth 48 = .ok (.iadd, 1) := by decide +kernel
theorem dX6_worth_49 : decode cX6_worth 49 = .ok (.iaload, 1) := by decide +kernel
theorem dX6_worth_50 : decode cX6_worth 50 = .ok (.istore 4, 2) := by decide +kernel
theorem dX6_worth_52 : decode cX6_worth 52 = .ok (.iload 4, 2) := by decide +kernel
theorem dX6_worth_54 : decode cX6_worth 54 = .ok (.ldc 128, 2) := by decide +kernel
theorem dX6_worth_56 : decode cX6_worth 56 = .ok (.if_icmp .ge 10, 3) := by decide +kernel
theorem dX6_worth_59 : decode cX6_worth 59 = .ok (.iload 4, 2) := by decide +kernel
theorem dX6_worth_61 : decode cX6_worth 61 = .ok (.bipush 11, 2) := by decide +kernel
theorem dX6_worth_63 : decode cX6_worth 63 = .ok (.if_icmp .ge 37, 3) := by decide +kernel
theorem dX6_worth_66 : decode cX6_worth 66 = .ok (.aload_n 0, 1) := by decide +kernel
theorem dX6_worth_67 : decode cX6_worth 67 = .ok (.getfield 52, 3) := by decide +kernel
theorem dX6_worth_70 : decode cX6_worth 70 = .ok (.iload_n 2, 1) := by decide +kernel
theorem dX6_worth_71 : decode cX6_worth 71 = .ok (.iload 4, 2) := by decide +kernel
theorem dX6_worth_73 : decode cX6_worth 73 = .ok (.bipush 11, 2) := by decide +kernel
theorem dX6_worth_75 : decode cX6_worth 75 = .ok (.if_icmp .ge 13, 3) := by decide +kernel
theorem dX6_worth_78 : decode cX6_worth 78 = .ok (.aload_n 0, 1) := by decide +kernel
theorem dX6_worth_79 : decode cX6_worth 79 = .ok (.getfield 55, 3) := by decide +kernel
theorem dX6_worth_82 : decode cX6_worth 82 = .ok (.iload 4, 2) := by decide +kernel
theorem dX6_worth_84 : decode cX6_worth 84 = .ok (.iaload, 1) := by decide +kernel
theorem dX6_worth_85 : decode cX6_worth 85 = .ok (.goto 8, 3) := by decide +kernel
theorem dX6_worth_88 : decode cX6_worth 88 = .ok (.iload 4, 2) := by decide +kernel
theorem dX6_worth_90 : decode cX6_worth 90 = .ok (.ldc 128, 2) := by decide +kernel
theorem dX6_worth_92 : decode cX6_worth 92 = .ok (.isub, 1) := by decide +kernel
theorem dX6_worth_93 : decode cX6_worth 93 = .ok (.iastore, 1) := by decide +kernel
theorem dX6_worth_94 : decode cX6_worth 94 = .ok (.iinc 2 1, 3) := by decide +kernel
theorem dX6_worth_97 : decode cX6_worth 97 = .ok (.goto 94, 3) := by decide +kernel
theorem dX6_worth_100 : decode cX6_worth 100 = .ok (.iload 4, 2) := by decide +kernel
theorem dX6_worth_102 : decode cX6_worth 102 = .ok (.bipush 13, 2) := by decide +kernel
theorem dX6_worth_104 : decode cX6_worth 104 = .ok (.if_icmp .ne 30, 3) := by decide +kernel
theorem dX6_worth_107 : decode cX6_worth 107 = .ok (.aload_n 0, 1) := by decide +kernel
theorem dX6_worth_108 : decode cX6_worth 108 = .ok (.getfield 52, 3) := by decide +kernel
theorem dX6_worth_111 : decode cX6_worth 111 = .ok (.iload_n 2, 1) := by decide +kernel
theorem dX6_worth_112 : decode cX6_worth 112 = .ok (.iconst 1, 1) := by decide +kernel
theorem dX6_worth_113 : decode cX6_worth 113 = .ok (.isub, 1) := by decide +kernel
theorem dX6_worth_114 : decode cX6_worth 114 = .ok (.aload_n 0, 1) := by decide +kernel
theorem dX6_worth_115 : decode cX6_worth 115 = .ok (.getfield 52, 3) := by decide +kernel
theorem dX6_worth_118 : decode cX6_worth 118 = .ok (.iload_n 2, 1) := by decide +kernel
theorem dX6_worth_119 : decode cX6_worth 119 = .ok (.iconst 1, 1) := by decide +kernel
theorem dX6_worth_120 : decode cX6_worth 120 = .ok (.isub, 1) := by decide +kernel
theorem dX6_worth_121 : decode cX6_worth 121 = .ok (.iaload, 1) := by decide +kernel
theorem dX6_worth_122 : decode cX6_worth 122 = .ok (.ifCond .ne 7, 3) := by decide +kernel
theorem dX6_worth_125 : decode cX6_worth 125 = .ok (.iconst 1, 1) := by decide +kernel
theorem dX6_worth_126 : decode cX6_worth 126 = .ok (.goto 4, 3) := by decide +kernel
theorem dX6_worth_129 : decode cX6_worth 129 = .ok (.iconst 0, 1) := by decide +kernel
theorem dX6_worth_130 : decode cX6_worth 130 = .ok (.iastore, 1) := by decide +kernel
theorem dX6_worth_131 : decode cX6_worth 131 = .ok (.goto 60, 3) := by decide +kernel
theorem dX6_worth_134 : decode cX6_worth 134 = .ok (.iload 4, 2) := by decide +kernel
theorem dX6_worth_136 : decode cX6_worth 136 = .ok (.bipush 19, 2) := by decide +kernel
theorem dX6_worth_138 : decode cX6_worth 138 = .ok (.if_icmp .ne 23, 3) := by decide +kernel
theorem dX6_worth_141 : decode cX6_worth 141 = .ok (.aload_n 0, 1) := by decide +kernel
theorem dX6_worth_142 : decode cX6_worth 142 = .ok (.getfield 52, 3) := by decide +kernel
theorem dX6_worth_145 : decode cX6_worth 145 = .ok (.iload_n 2, 1) := by decide +kernel
theorem dX6_worth_146 : decode cX6_worth 146 = .ok (.iconst 1, 1) := by decide +kernel
theorem dX6_worth_147 : decode cX6_worth 147 = .ok (.isub, 1) := by decide +kernel
theorem dX6_worth_148 : decode cX6_worth 148 = .ok (.aload_n 0, 1) := by decide +kernel
theorem dX6_worth_149 : decode cX6_worth 149 = .ok (.getfield 52, 3) := by decide +kernel
theorem dX6_worth_152 : decode cX6_worth 152 = .ok (.iload_n 2, 1) := by decide +kernel
theorem dX6_worth_153 : decode cX6_worth 153 = .ok (.iconst 1, 1) := by decide +kernel
theorem dX6_worth_154 : decode cX6_worth 154 = .ok (.isub, 1) := by decide +kernel
theorem dX6_worth_155 : decode cX6_worth 155 = .ok (.iaload, 1) := by decide +kernel
theorem dX6_worth_156 : decode cX6_worth 156 = .ok (.ineg, 1) := by decide +kernel
theorem dX6_worth_157 : decode cX6_worth 157 = .ok (.iastore, 1) := by decide +kernel
theorem dX6_worth_158 : decode cX6_worth 158 = .ok (.goto 33, 3) := by decide +kernel
theorem dX6_worth_161 : decode cX6_worth 161 = .ok (.iinc 2 (-1), 3) := by decide +kernel
theorem dX6_worth_164 : decode cX6_worth 164 = .ok (.aload_n 0, 1) := by decide +kernel
theorem dX6_worth_165 : decode cX6_worth 165 = .ok (.getfield 52, 3) := by decide +kernel
theorem dX6_worth_168 : decode cX6_worth 168 = .ok (.iload_n 2, 1) := by decide +kernel
theorem dX6_worth_169 : decode cX6_worth 169 = .ok (.iconst 1, 1) := by decide +kernel
theorem dX6_worth_170 : decode cX6_worth 170 = .ok (.isub, 1) := by decide +kernel
theorem dX6_worth_171 : decode cX6_worth 171 = .ok (.iload 4, 2) := by decide +kernel
theorem dX6_worth_173 : decode cX6_worth 173 = .ok (.aload_n 0, 1) := by decide +kernel
theorem dX6_worth_174 : decode cX6_worth 174 = .ok (.getfield 52, 3) := by decide +kernel
theorem dX6_worth_177 : decode cX6_worth 177 = .ok (.iload_n 2, 1) := by decide +kernel
theorem dX6_worth_178 : decode cX6_worth 178 = .ok (.iconst 1, 1) := by decide +kernel
theorem dX6_worth_179 : decode cX6_worth 179 = .ok (.isub, 1) := by decide +kernel
theorem dX6_worth_180 : decode cX6_worth 180 = .ok (.iaload, 1) := by decide +kernel
theorem dX6_worth_181 : decode cX6_worth 181 = .ok (.aload_n 0, 1) := by decide +kernel
theorem dX6_worth_182 : decode cX6_worth 182 = .ok (.getfield 52, 3) := by decide +kernel
theorem dX6_worth_185 : decode cX6_worth 185 = .ok (.iload_n 2, 1) := by decide +kernel
theorem dX6_worth_186 : decode cX6_worth 186 = .ok (.iaload, 1) := by decide +kernel
theorem dX6_worth_187 : decode cX6_worth 187 = .ok (.invokestatic 142, 3) := by decide +kernel
theorem dX6_worth_190 : decode cX6_worth 190 = .ok (.iastore, 1) := by decide +kernel
theorem dX6_worth_191 : decode cX6_worth 191 = .ok (.iinc 3 1, 3) := by decide +kernel
theorem dX6_worth_194 : decode cX6_worth 194 = .ok (.goto (-178), 3) := by decide +kernel
theorem dX6_worth_197 : decode cX6_worth 197 = .ok (.aload_n 0, 1) := by decide +kernel
theorem dX6_worth_198 : decode cX6_worth 198 = .ok (.getfield 52, 3) := by decide +kernel
theorem dX6_worth_201 : decode cX6_worth 201 = .ok (.iconst 0, 1) := by decide +kernel
theorem dX6_worth_202 : decode cX6_worth 202 = .ok (.iaload, 1) := by decide +kernel
theorem dX6_worth_203 : decode cX6_worth 203 = .ok (.ireturn, 1) := by decide +kernel
theorem dX6_force_0 : decode cX6_force 0 = .ok (.iload_n 1, 1) := by decide +kernel
theorem dX6_force_1 : decode cX6_force 1 = .ok (.iconst 0, 1) := by decide +kernel
theorem dX6_force_2 : decode cX6_force 2 = .ok (.aload_n 0, 1) := by decide +kernel
theorem dX6_force_3 : decode cX6_force 3 = .ok (.getfield 77, 3) := by decide +kernel
theorem dX6_force_6 : decode cX6_force 6 = .ok (.iconst 1, 1) := by decide +kernel
theorem dX6_force_7 : decode cX6_force 7 = .ok (.isub, 1) := by decide +kernel
theorem dX6_force_8 : decode cX6_force 8 = .ok (.invokestatic 69, 3) := by decide +kernel
theorem dX6_force_11 : decode cX6_force 11 = .ok (.ifCond .ne 6, 3) := by decide +kernel
theorem dX6_force_14 : decode cX6_force 14 = .ok (.bipush (-2), 2) := by decide +kernel
theorem dX6_force_16 : decode cX6_force 16 = .ok (.ireturn, 1) := by decide +kernel
theorem dX6_force_17 : decode cX6_force 17 = .ok (.aload_n 0, 1) := by decide +kernel
theorem dX6_force_18 : decode cX6_force 18 = .ok (.getfield 80, 3) := by decide +kernel
theorem dX6_force_21 : decode cX6_force 21 = .ok (.istore_n 2, 1) := by decide +kernel
theorem dX6_force_22 : decode cX6_force 22 = .ok (.aload_n 0, 1) := by decide +kernel
theorem dX6_force_23 : decode cX6_force 23 = .ok (.iload_n 1, 1) := by decide +kernel
theorem dX6_force_24 : decode cX6_force 24 = .ok (.putfield 80, 3) := by decide +kernel
theorem dX6_force_27 : decode cX6_force 27 = .ok (.iload_n 2, 1) := by decide +kernel
theorem dX6_force_28 : decode cX6_force 28 = .ok (.ireturn, 1) := by decide +kernel
theorem dX6_faceOf_0 : decode cX6_faceOf 0 = .ok (.iload_n 0, 1) := by decide +kernel
theorem dX6_faceOf_1 : decode cX6_faceOf 1 = .ok (.iconst 1, 1) := by decide +kernel
theorem dX6_faceOf_2 : decode cX6_faceOf 2 = .ok (.if_icmp .ne 7, 3) := by decide +kernel
theorem dX6_faceOf_5 : decode cX6_faceOf 5 = .ok (.iconst 1, 1) := by decide +kernel
theorem dX6_faceOf_6 : decode cX6_faceOf 6 = .ok (.goto 4, 3) := by decide +kernel
theorem dX6_faceOf_9 : decode cX6_faceOf 9 = .ok (.iconst 0, 1) := by decide +kernel
theorem dX6_faceOf_10 : decode cX6_faceOf 10 = .ok (.ireturn, 1) := by decide +kernel
theorem dX6_asksOf_0 : decode cX6_asksOf 0 = .ok (.aload_n 0, 1) := by decide +kernel
theorem dX6_asksOf_1 : decode cX6_asksOf 1 = .ok (.getfield 55, 3) := by decide +kernel
theorem dX6_asksOf_4 : decode cX6_asksOf 4 = .ok (.iconst 0, 1) := by decide +kernel
theorem dX6_asksOf_5 : decode cX6_asksOf 5 = .ok (.iload_n 2, 1) := by decide +kernel
theorem dX6_asksOf_6 : decode cX6_asksOf 6 = .ok (.bipush 6, 2) := by decide +kernel
theorem dX6_asksOf_8 : decode cX6_asksOf 8 = .ok (.idiv, 1) := by decide +kernel
theorem dX6_asksOf_9 : decode cX6_asksOf 9 = .ok (.iastore, 1) := by decide +kernel
theorem dX6_asksOf_10 : decode cX6_asksOf 10 = .ok (.aload_n 0, 1) := by decide +kernel
theorem dX6_asksOf_11 : decode cX6_asksOf 11 = .ok (.getfield 55, 3) := by decide +kernel
theorem dX6_asksOf_14 : decode cX6_asksOf 14 = .ok (.iconst 1, 1) := by decide +kernel
theorem dX6_asksOf_15 : decode cX6_asksOf 15 = .ok (.iload_n 2, 1) := by decide +kernel
theorem dX6_asksOf_16 : decode cX6_asksOf 16 = .ok (.bipush 6, 2) := by decide +kernel
theorem dX6_asksOf_18 : decode cX6_asksOf 18 = .ok (.irem, 1) := by decide +kernel
theorem dX6_asksOf_19 : decode cX6_asksOf 19 = .ok (.iastore, 1) := by decide +kernel
theorem dX6_asksOf_20 : decode cX6_asksOf 20 = .ok (.aload_n 0, 1) := by decide +kernel
theorem dX6_asksOf_21 : decode cX6_asksOf 21 = .ok (.getfield 55, 3) := by decide +kernel
theorem dX6_asksOf_24 : decode cX6_asksOf 24 = .ok (.iconst 2, 1) := by decide +kernel
theorem dX6_asksOf_25 : decode cX6_asksOf 25 = .ok (.aload_n 0, 1) := by decide +kernel
theorem dX6_asksOf_26 : decode cX6_asksOf 26 = .ok (.getfield 13, 3) := by decide +kernel
theorem dX6_asksOf_29 : decode cX6_asksOf 29 = .ok (.iload_n 2, 1) := by decide +kernel
theorem dX6_asksOf_30 : decode cX6_asksOf 30 = .ok (.iaload, 1) := by decide +kernel
theorem dX6_asksOf_31 : decode cX6_asksOf 31 = .ok (.iastore, 1) := by decide +kernel
theorem dX6_asksOf_32 : decode cX6_asksOf 32 = .ok (.aload_n 0, 1) := by decide +kernel
theorem dX6_asksOf_33 : decode cX6_asksOf 33 = .ok (.getfield 55, 3) := by decide +kernel
theorem dX6_asksOf_36 : decode cX6_asksOf 36 = .ok (.iconst 3, 1) := by decide +kernel
theorem dX6_asksOf_37 : decode cX6_asksOf 37 = .ok (.iload_n 3, 1) := by decide +kernel
theorem dX6_asksOf_38 : decode cX6_asksOf 38 = .ok (.iastore, 1) := by decide +kernel
theorem dX6_asksOf_39 : decode cX6_asksOf 39 = .ok (.aload_n 0, 1) := by decide +kernel
theorem dX6_asksOf_40 : decode cX6_asksOf 40 = .ok (.getfield 55, 3) := by decide +kernel
theorem dX6_asksOf_43 : decode cX6_asksOf 43 = .ok (.iconst 4, 1) := by decide +kernel
theorem dX6_asksOf_44 : decode cX6_asksOf 44 = .ok (.aload_n 0, 1) := by decide +kernel
theorem dX6_asksOf_45 : decode cX6_asksOf 45 = .ok (.getfield 7, 3) := by decide +kernel
theorem dX6_asksOf_48 : decode cX6_asksOf 48 = .ok (.iload_n 2, 1) := by decide +kernel
theorem dX6_asksOf_49 : decode cX6_asksOf 49 = .ok (.iaload, 1) := by decide +kernel
theorem dX6_asksOf_50 : decode cX6_asksOf 50 = .ok (.invokestatic 146, 3) := by decide +kernel
theorem dX6_asksOf_53 : decode cX6_asksOf 53 = .ok (.iastore, 1) := by decide +kernel
theorem dX6_asksOf_54 : decode cX6_asksOf 54 = .ok (.aload_n 0, 1) := by decide +kernel
theorem dX6_asksOf_55 : decode cX6_asksOf 55 = .ok (.getfield 55, 3) := by decide +kernel
theorem dX6_asksOf_58 : decode cX6_asksOf 58 = .ok (.iconst 5, 1) := by decide +kernel
theorem dX6_asksOf_59 : decode cX6_asksOf 59 = .ok (.aload_n 0, 1) := by decide +kernel
theorem dX6_asksOf_60 : decode cX6_asksOf 60 = .ok (.getfield 19, 3) := by decide +kernel
theorem dX6_asksOf_63 : decode cX6_asksOf 63 = .ok (.iload_n 2, 1) := by decide +kernel
theorem dX6_asksOf_64 : decode cX6_asksOf 64 = .ok (.iaload, 1) := by decide +kernel
theorem dX6_asksOf_65 : decode cX6_asksOf 65 = .ok (.iastore, 1) := by decide +kernel
theorem dX6_asksOf_66 : decode cX6_asksOf 66 = .ok (.aload_n 0, 1) := by decide +kernel
theorem dX6_asksOf_67 : decode cX6_asksOf 67 = .ok (.iload_n 1, 1) := by decide +kernel
theorem dX6_asksOf_68 : decode cX6_asksOf 68 = .ok (.invokevirtual 149, 3) := by decide +kernel
theorem dX6_asksOf_71 : decode cX6_asksOf 71 = .ok (.iconst 0, 1) := by decide +kernel
theorem dX6_asksOf_72 : decode cX6_asksOf 72 = .ok (.bipush 99, 2) := by decide +kernel
theorem dX6_asksOf_74 : decode cX6_asksOf 74 = .ok (.invokestatic 152, 3) := by decide +kernel
theorem dX6_asksOf_77 : decode cX6_asksOf 77 = .ok (.ireturn, 1) := by decide +kernel
theorem dX6_asks_0 : decode cX6_asks 0 = .ok (.iload_n 2, 1) := by decide +kernel
theorem dX6_asks_1 : decode cX6_asks 1 = .ok (.invokestatic 155, 3) := by decide +kernel
theorem dX6_asks_4 : decode cX6_asks 4 = .ok (.ifCond .ne 6, 3) := by decide +kernel
theorem dX6_asks_7 : decode cX6_asks 7 = .ok (.bipush (-5), 2) := by decide +kernel
theorem dX6_asks_9 : decode cX6_asks 9 = .ok (.ireturn, 1) := by decide +kernel
theorem dX6_asks_10 : decode cX6_asks 10 = .ok (.iload_n 1, 1) := by decide +kernel
theorem dX6_asks_11 : decode cX6_asks 11 = .ok (.iconst 0, 1) := by decide +kernel
theorem dX6_asks_12 : decode cX6_asks 12 = .ok (.iconst 2, 1) := by decide +kernel
theorem dX6_asks_13 : decode cX6_asks 13 = .ok (.invokestatic 69, 3) := by decide +kernel
theorem dX6_asks_16 : decode cX6_asks 16 = .ok (.ifCond .eq 20, 3) := by decide +kernel
theorem dX6_asks_19 : decode cX6_asks 19 = .ok (.iload_n 3, 1) := by decide +kernel
theorem dX6_asks_20 : decode cX6_asks 20 = .ok (.invokestatic 158, 3) := by decide +kernel
theorem dX6_asks_23 : decode cX6_asks 23 = .ok (.ifCond .eq 13, 3) := by decide +kernel
theorem dX6_asks_26 : decode cX6_asks 26 = .ok (.aload_n 0, 1) := by decide +kernel
theorem dX6_asks_27 : decode cX6_asks 27 = .ok (.iload_n 1, 1) := by decide +kernel
theorem dX6_asks_28 : decode cX6_asks 28 = .ok (.iload_n 2, 1) := by decide +kernel
theorem dX6_asks_29 : decode cX6_asks 29 = .ok (.iload_n 3, 1) := by decide +kernel
theorem dX6_asks_30 : decode cX6_asks 30 = .ok (.invokevirtual 161, 3) := by decide +kernel
theorem dX6_asks_33 : decode cX6_asks 33 = .ok (.goto 5, 3) := by decide +kernel
theorem dX6_asks_36 : decode cX6_asks 36 = .ok (.bipush (-7), 2) := by decide +kernel
theorem dX6_asks_38 : decode cX6_asks 38 = .ok (.ireturn, 1) := by decide +kernel
theorem dX6_rubs_0 : decode cX6_rubs 0 = .ok (.aload_n 0, 1) := by decide +kernel
theorem dX6_rubs_1 : decode cX6_rubs 1 = .ok (.iconst 0, 1) := by decide +kernel
theorem dX6_rubs_2 : decode cX6_rubs 2 = .ok (.iload_n 1, 1) := by decide +kernel
theorem dX6_rubs_3 : decode cX6_rubs 3 = .ok (.iload_n 2, 1) := by decide +kernel
theorem dX6_rubs_4 : decode cX6_rubs 4 = .ok (.invokevirtual 161, 3) := by decide +kernel
theorem dX6_rubs_7 : decode cX6_rubs 7 = .ok (.istore_n 3, 1) := by decide +kernel
theorem dX6_rubs_8 : decode cX6_rubs 8 = .ok (.aload_n 0, 1) := by decide +kernel
theorem dX6_rubs_9 : decode cX6_rubs 9 = .ok (.getfield 7, 3) := by decide +kernel
theorem dX6_rubs_12 : decode cX6_rubs 12 = .ok (.iload_n 1, 1) := by decide +kernel
theorem dX6_rubs_13 : decode cX6_rubs 13 = .ok (.iaload, 1) := by decide +kernel
theorem dX6_rubs_14 : decode cX6_rubs 14 = .ok (.istore 4, 2) := by decide +kernel
theorem dX6_rubs_16 : decode cX6_rubs 16 = .ok (.iload 4, 2) := by decide +kernel
theorem dX6_rubs_18 : decode cX6_rubs 18 = .ok (.iconst 1, 1) := by decide +kernel
theorem dX6_rubs_19 : decode cX6_rubs 19 = .ok (.if_icmp .eq 9, 3) := by decide +kernel
theorem dX6_rubs_22 : decode cX6_rubs 22 = .ok (.iload 4, 2) := by decide +kernel
theorem dX6_rubs_24 : decode cX6_rubs 24 = .ok (.iconst 5, 1) := by decide +kernel
theorem dX6_rubs_25 : decode cX6_rubs 25 = .ok (.if_icmp .ne 14, 3) := by decide +kernel
theorem dX6_rubs_28 : decode cX6_rubs 28 = .ok (.iload_n 3, 1) := by decide +kernel
theorem dX6_rubs_29 : decode cX6_rubs 29 = .ok (.aload_n 0, 1) := by decide +kernel
theorem dX6_rubs_30 : decode cX6_rubs 30 = .ok (.getfield 13, 3) := by decide +kernel
theorem dX6_rubs_33 : decode cX6_rubs 33 = .ok (.iload_n 1, 1) := by decide +kernel
theorem dX6_rubs_34 : decode cX6_rubs 34 = .ok (.iaload, 1) := by decide +kernel
theorem dX6_rubs_35 : decode cX6_rubs 35 = .ok (.iadd, 1) := by decide +kernel
theorem dX6_rubs_36 : decode cX6_rubs 36 = .ok (.goto 16, 3) := by decide +kernel
theorem dX6_rubs_39 : decode cX6_rubs 39 = .ok (.iload 4, 2) := by decide +kernel
theorem dX6_rubs_41 : decode cX6_rubs 41 = .ok (.iconst 3, 1) := by decide +kernel
theorem dX6_rubs_42 : decode cX6_rubs 42 = .ok (.if_icmp .ne 9, 3) := by decide +kernel
theorem dX6_rubs_45 : decode cX6_rubs 45 = .ok (.iconst 2, 1) := by decide +kernel
theorem dX6_rubs_46 : decode cX6_rubs 46 = .ok (.iload_n 3, 1) := by decide +kernel
theorem dX6_rubs_47 : decode cX6_rubs 47 = .ok (.imul, 1) := by decide +kernel
theorem dX6_rubs_48 : decode cX6_rubs 48 = .ok (.goto 4, 3) := by decide +kernel
theorem dX6_rubs_51 : decode cX6_rubs 51 = .ok (.iload_n 3, 1) := by decide +kernel
theorem dX6_rubs_52 : decode cX6_rubs 52 = .ok (.iconst 0, 1) := by decide +kernel
theorem dX6_rubs_53 : decode cX6_rubs 53 = .ok (.sipush 999, 3) := by decide +kernel
theorem dX6_rubs_56 : decode cX6_rubs 56 = .ok (.invokestatic 152, 3) := by decide +kernel
theorem dX6_rubs_59 : decode cX6_rubs 59 = .ok (.ireturn, 1) := by decide +kernel
theorem dX6_through_0 : decode cX6_through 0 = .ok (.iconst 1, 1) := by decide +kernel
theorem dX6_through_1 : decode cX6_through 1 = .ok (.iload_n 1, 1) := by decide +kernel
theorem dX6_through_2 : decode cX6_through 2 = .ok (.bipush 6, 2) := by decide +kernel
theorem dX6_through_4 : decode cX6_through 4 = .ok (.irem, 1) := by decide +kernel
theorem dX6_through_5 : decode cX6_through 5 = .ok (.ishl, 1) := by decide +kernel
theorem dX6_through_6 : decode cX6_through 6 = .ok (.istore_n 2, 1) := by decide +kernel
theorem dX6_through_7 : decode cX6_through 7 = .ok (.iconst 1, 1) := by decide +kernel
theorem dX6_through_8 : decode cX6_through 8 = .ok (.iload_n 1, 1) := by decide +kernel
theorem dX6_through_9 : decode cX6_through 9 = .ok (.bipush 6, 2) := by decide +kernel
theorem dX6_through_11 : decode cX6_through 11 = .ok (.irem, 1) := by decide +kernel
theorem dX6_through_12 : decode cX6_through 12 = .ok (.iconst 1, 1) := by decide +kernel
theorem dX6_through_13 : decode cX6_through 13 = .ok (.ixor, 1) := by decide +kernel
theorem dX6_through_14 : decode cX6_through 14 = .ok (.ishl, 1) := by decide +kernel
theorem dX6_through_15 : decode cX6_through 15 = .ok (.istore_n 3, 1) := by decide +kernel
theorem dX6_through_16 : decode cX6_through 16 = .ok (.aload_n 0, 1) := by decide +kernel
theorem dX6_through_17 : decode cX6_through 17 = .ok (.getfield 7, 3) := by decide +kernel
theorem dX6_through_20 : decode cX6_through 20 = .ok (.iload_n 1, 1) := by decide +kernel
theorem dX6_through_21 : decode cX6_through 21 = .ok (.iaload, 1) := by decide +kernel
theorem dX6_through_22 : decode cX6_through 22 = .ok (.istore 4, 2) := by decide +kernel
theorem dX6_through_24 : decode cX6_through 24 = .ok (.iload 4, 2) := by decide +kernel
theorem dX6_through_26 : decode cX6_through 26 = .ok (.iconst 2, 1) := by decide +kernel
theorem dX6_through_27 : decode cX6_through 27 = .ok (.if_icmp .ne 7, 3) := by decide +kernel
theorem dX6_through_30 : decode cX6_through 30 = .ok (.iload_n 3, 1) := by decide +kernel
theorem dX6_through_31 : decode cX6_through 31 = .ok (.goto 26, 3) := by decide +kernel
theorem dX6_through_34 : decode cX6_through 34 = .ok (.iload 4, 2) := by decide +kernel
theorem dX6_through_36 : decode cX6_through 36 = .ok (.iconst 3, 1) := by decide +kernel
theorem dX6_through_37 : decode cX6_through 37 = .ok (.if_icmp .ne 9, 3) := by decide +kernel
theorem dX6_through_40 : decode cX6_through 40 = .ok (.iload_n 2, 1) := by decide +kernel
theorem dX6_through_41 : decode cX6_through 41 = .ok (.iload_n 3, 1) := by decide +kernel
theorem dX6_through_42 : decode cX6_through 42 = .ok (.ior, 1) := by decide +kernel
theorem dX6_through_43 : decode cX6_through 43 = .ok (.goto 14, 3) := by decide +kernel
theorem dX6_through_46 : decode cX6_through 46 = .ok (.iload 4, 2) := by decide +kernel
theorem dX6_through_48 : decode cX6_through 48 = .ok (.iconst 4, 1) := by decide +kernel
theorem dX6_through_49 : decode cX6_through 49 = .ok (.if_icmp .ne 7, 3) := by decide +kernel
theorem dX6_through_52 : decode cX6_through 52 = .ok (.iconst 0, 1) := by decide +kernel
theorem dX6_through_53 : decode cX6_through 53 = .ok (.goto 4, 3) := by decide +kernel
theorem dX6_through_56 : decode cX6_through 56 = .ok (.iload_n 2, 1) := by decide +kernel
theorem dX6_through_57 : decode cX6_through 57 = .ok (.ireturn, 1) := by decide +kernel
theorem dX6_isKnit_0 : decode cX6_isKnit 0 = .ok (.iload_n 0, 1) := by decide +kernel
theorem dX6_isKnit_1 : decode cX6_isKnit 1 = .ok (.iconst 0, 1) := by decide +kernel
theorem dX6_isKnit_2 : decode cX6_isKnit 2 = .ok (.iconst 5, 1) := by decide +kernel
theorem dX6_isKnit_3 : decode cX6_isKnit 3 = .ok (.invokestatic 69, 3) := by decide +kernel
theorem dX6_isKnit_6 : decode cX6_isKnit 6 = .ok (.ifCond .eq 17, 3) := by decide +kernel
theorem dX6_isKnit_9 : decode cX6_isKnit 9 = .ok (.iload_n 1, 1) := by decide +kernel
theorem dX6_isKnit_10 : decode cX6_isKnit 10 = .ok (.iconst 0, 1) := by decide +kernel
theorem dX6_isKnit_11 : decode cX6_isKnit 11 = .ok (.bipush 9, 2) := by decide +kernel
theorem dX6_isKnit_13 : decode cX6_isKnit 13 = .ok (.invokestatic 69, 3) := by decide +kernel
theorem dX6_isKnit_16 : decode cX6_isKnit 16 = .ok (.ifCond .eq 7, 3) := by decide +kernel
theorem dX6_isKnit_19 : decode cX6_isKnit 19 = .ok (.iconst 1, 1) := by decide +kernel
theorem dX6_isKnit_20 : decode cX6_isKnit 20 = .ok (.goto 4, 3) := by decide +kernel
theorem dX6_isKnit_23 : decode cX6_isKnit 23 = .ok (.iconst 0, 1) := by decide +kernel
theorem dX6_isKnit_24 : decode cX6_isKnit 24 = .ok (.ireturn, 1) := by decide +kernel
theorem dX6_knit_0 : decode cX6_knit 0 = .ok (.iload_n 1, 1) := by decide +kernel
theorem dX6_knit_1 : decode cX6_knit 1 = .ok (.invokestatic 155, 3) := by decide +kernel
theorem dX6_knit_4 : decode cX6_knit 4 = .ok (.ifCond .ne 6, 3) := by decide +kernel
theorem dX6_knit_7 : decode cX6_knit 7 = .ok (.bipush (-5), 2) := by decide +kernel
theorem dX6_knit_9 : decode cX6_knit 9 = .ok (.ireturn, 1) := by decide +kernel
theorem dX6_knit_10 : decode cX6_knit 10 = .ok (.iload_n 2, 1) := by decide +kernel
theorem dX6_knit_11 : decode cX6_knit 11 = .ok (.iload_n 3, 1) := by decide +kernel
theorem dX6_knit_12 : decode cX6_knit 12 = .ok (.invokestatic 164, 3) := by decide +kernel
theorem dX6_knit_15 : decode cX6_knit 15 = .ok (.ifCond .ne 6, 3) := by decide +kernel
theorem dX6_knit_18 : decode cX6_knit 18 = .ok (.bipush (-7), 2) := by decide +kernel
theorem dX6_knit_20 : decode cX6_knit 20 = .ok (.ireturn, 1) := by decide +kernel
theorem dX6_knit_21 : decode cX6_knit 21 = .ok (.aload_n 0, 1) := by decide +kernel
theorem dX6_knit_22 : decode cX6_knit 22 = .ok (.getfield 7, 3) := by decide +kernel
theorem dX6_knit_25 : decode cX6_knit 25 = .ok (.iload_n 1, 1) := by decide +kernel
theorem dX6_knit_26 : decode cX6_knit 26 = .ok (.iaload, 1) := by decide +kernel
theorem dX6_knit_27 : decode cX6_knit 27 = .ok (.istore 4, 2) := by decide +kernel
theorem dX6_knit_29 : decode cX6_knit 29 = .ok (.aload_n 0, 1) := by decide +kernel
theorem dX6_knit_30 : decode cX6_knit 30 = .ok (.getfield 7, 3) := by decide +kernel
theorem dX6_knit_33 : decode cX6_knit 33 = .ok (.iload_n 1, 1) := by decide +kernel
theorem dX6_knit_34 : decode cX6_knit 34 = .ok (.iload_n 2, 1) := by decide +kernel
theorem dX6_knit_35 : decode cX6_knit 35 = .ok (.iastore, 1) := by decide +kernel
theorem dX6_knit_36 : decode cX6_knit 36 = .ok (.aload_n 0, 1) := by decide +kernel
theorem dX6_knit_37 : decode cX6_knit 37 = .ok (.getfield 13, 3) := by decide +kernel
theorem dX6_knit_40 : decode cX6_knit 40 = .ok (.iload_n 1, 1) := by decide +kernel
theorem dX6_knit_41 : decode cX6_knit 41 = .ok (.iload_n 3, 1) := by decide +kernel
theorem dX6_knit_42 : decode cX6_knit 42 = .ok (.iastore, 1) := by decide +kernel
theorem dX6_knit_43 : decode cX6_knit 43 = .ok (.iload 4, 2) := by decide +kernel
theorem dX6_knit_45 : decode cX6_knit 45 = .ok (.ireturn, 1) := by decide +kernel
theorem dX6_row_0 : decode cX6_row 0 = .ok (.iload_n 1, 1) := by decide +kernel
theorem dX6_row_1 : decode cX6_row 1 = .ok (.iconst 0, 1) := by decide +kernel
theorem dX6_row_2 : decode cX6_row 2 = .ok (.bipush 7, 2) := by decide +kernel
theorem dX6_row_4 : decode cX6_row 4 = .ok (.invokestatic 69, 3) := by decide +kernel
theorem dX6_row_7 : decode cX6_row 7 = .ok (.ifCond .ne 6, 3) := by decide +kernel
theorem dX6_row_10 : decode cX6_row 10 = .ok (.bipush (-5), 2) := by decide +kernel
theorem dX6_row_12 : decode cX6_row 12 = .ok (.ireturn, 1) := by decide +kernel
theorem dX6_row_13 : decode cX6_row 13 = .ok (.iload_n 2, 1) := by decide +kernel
theorem dX6_row_14 : decode cX6_row 14 = .ok (.iload_n 3, 1) := by decide +kernel
theorem dX6_row_15 : decode cX6_row 15 = .ok (.invokestatic 164, 3) := by decide +kernel
theorem dX6_row_18 : decode cX6_row 18 = .ok (.ifCond .ne 6, 3) := by decide +kernel
theorem dX6_row_21 : decode cX6_row 21 = .ok (.bipush (-7), 2) := by decide +kernel
theorem dX6_row_23 : decode cX6_row 23 = .ok (.ireturn, 1) := by decide +kernel
theorem dX6_row_24 : decode cX6_row 24 = .ok (.iconst 0, 1) := by decide +kernel
theorem dX6_row_25 : decode cX6_row 25 = .ok (.istore 4, 2) := by decide +kernel
theorem dX6_row_27 : decode cX6_row 27 = .ok (.bipush 6, 2) := by decide +kernel
theorem dX6_row_29 : decode cX6_row 29 = .ok (.iload_n 1, 1) := by decide +kernel
theorem dX6_row_30 : decode cX6_row 30 = .ok (.imul, 1) := by decide +kernel
theorem dX6_row_31 : decode cX6_row 31 = .ok (.istore 5, 2) := by decide +kernel
theorem dX6_row_33 : decode cX6_row 33 = .ok (.iload 5, 2) := by decide +kernel
theorem dX6_row_35 : decode cX6_row 35 = .ok (.bipush 6, 2) := by decide +kernel
theorem dX6_row_37 : decode cX6_row 37 = .ok (.iload_n 1, 1) := by decide +kernel
theorem dX6_row_38 : decode cX6_row 38 = .ok (.imul, 1) := by decide +kernel
theorem dX6_row_39 : decode cX6_row 39 = .ok (.bipush 6, 2) := by decide +kernel
theorem dX6_row_41 : decode cX6_row 41 = .ok (.iadd, 1) := by decide +kernel
theorem dX6_row_42 : decode cX6_row 42 = .ok (.if_icmp .ge 31, 3) := by decide +kernel
theorem dX6_row_45 : decode cX6_row 45 = .ok (.iload 4, 2) := by decide +kernel
theorem dX6_row_47 : decode cX6_row 47 = .ok (.aload_n 0, 1) := by decide +kernel
theorem dX6_row_48 : decode cX6_row 48 = .ok (.iload 5, 2) := by decide +kernel
theorem dX6_row_50 : decode cX6_row 50 = .ok (.iload_n 2, 1) := by decide +kernel
theorem dX6_row_51 : decode cX6_row 51 = .ok (.iload_n 3, 1) := by decide +kernel
theorem dX6_row_52 : decode cX6_row 52 = .ok (.invokevirtual 168, 3) := by decide +kernel
theorem dX6_row_55 : decode cX6_row 55 = .ok (.iload_n 2, 1) := by decide +kernel
theorem dX6_row_56 : decode cX6_row 56 = .ok (.if_icmp .eq 7, 3) := by decide +kernel
theorem dX6_row_59 : decode cX6_row 59 = .ok (.iconst 1, 1) := by decide +kernel
theorem dX6_row_60 : decode cX6_row 60 = .ok (.goto 4, 3) := by decide +kernel
theorem dX6_row_63 : decode cX6_row 63 = .ok (.iconst 0, 1) := by decide +kernel
theorem dX6_row_64 : decode cX6_row 64 = .ok (.iadd, 1) := by decide +kernel
theorem dX6_row_65 : decode cX6_row 65 = .ok (.istore 4, 2) := by decide +kernel
theorem dX6_row_67 : decode cX6_row 67 = .ok (.iinc 5 1, 3) := by decide +kernel
theorem dX6_row_70 : decode cX6_row 70 = .ok (.goto (-37), 3) := by decide +kernel
theorem dX6_row_73 : decode cX6_row 73 = .ok (.iload 4, 2) := by decide +kernel
theorem dX6_row_75 : decode cX6_row 75 = .ok (.ireturn, 1) := by decide +kernel
theorem dX6_told_0 : decode cX6_told 0 = .ok (.iload_n 1, 1) := by decide +kernel
theorem dX6_told_1 : decode cX6_told 1 = .ok (.invokestatic 155, 3) := by decide +kernel
theorem dX6_told_4 : decode cX6_told 4 = .ok (.ifCond .ne 6, 3) := by decide +kernel
theorem dX6_told_7 : decode cX6_told 7 = .ok (.bipush (-5), 2) := by decide +kernel
theorem dX6_told_9 : decode cX6_told 9 = .ok (.ireturn, 1) := by decide +kernel
theorem dX6_told_10 : decode cX6_told 10 = .ok (.iload_n 2, 1) := by decide +kernel
theorem dX6_told_11 : decode cX6_told 11 = .ok (.tableswitch 81 0 5 #[37, 44, 51, 57, 67, 74], 37) := by decide +kernel
theorem dX6_told_48 : decode cX6_told 48 = .ok (.aload_n 0, 1) := by decide +kernel
theorem dX6_told_49 : decode cX6_told 49 = .ok (.getfield 7, 3) := by decide +kernel
theorem dX6_told_52 : decode cX6_told 52 = .ok (.iload_n 1, 1) := by decide +kernel
theorem dX6_told_53 : decode cX6_told 53 = .ok (.iaload, 1) := by decide +kernel
theorem dX6_told_54 : decode cX6_told 54 = .ok (.ireturn, 1) := by decide +kernel
theorem dX6_told_55 : decode cX6_told 55 = .ok (.aload_n 0, 1) := by decide +kernel
theorem dX6_told_56 : decode cX6_told 56 = .ok (.getfield 13, 3) := by decide +kernel
theorem dX6_told_59 : decode cX6_told 59 = .ok (.iload_n 1, 1) := by decide +kernel
theorem dX6_told_60 : decode cX6_told 60 = .ok (.iaload, 1) := by decide +kernel
theorem dX6_told_61 : decode cX6_told 61 = .ok (.ireturn, 1) := by decide +kernel
theorem dX6_told_62 : decode cX6_told 62 = .ok (.aload_n 0, 1) := by decide +kernel
theorem dX6_told_63 : decode cX6_told 63 = .ok (.iload_n 1, 1) := by decide +kernel
theorem dX6_told_64 : decode cX6_told 64 = .ok (.invokevirtual 171, 3) := by decide +kernel
theorem dX6_told_67 : decode cX6_told 67 = .ok (.ireturn, 1) := by decide +kernel
theorem dX6_told_68 : decode cX6_told 68 = .ok (.aload_n 0, 1) := by decide +kernel
theorem dX6_told_69 : decode cX6_told 69 = .ok (.getfield 7, 3) := by decide +kernel
theorem dX6_told_72 : decode cX6_told 72 = .ok (.iload_n 1, 1) := by decide +kernel
theorem dX6_told_73 : decode cX6_told 73 = .ok (.iaload, 1) := by decide +kernel
theorem dX6_told_74 : decode cX6_told 74 = .ok (.invokestatic 146, 3) := by decide +kernel
theorem dX6_told_77 : decode cX6_told 77 = .ok (.ireturn, 1) := by decide +kernel
theorem dX6_told_78 : decode cX6_told 78 = .ok (.aload_n 0, 1) := by decide +kernel
theorem dX6_told_79 : decode cX6_told 79 = .ok (.getfield 16, 3) := by decide +kernel
theorem dX6_told_82 : decode cX6_told 82 = .ok (.iload_n 1, 1) := by decide +kernel
theorem dX6_told_83 : decode cX6_told 83 = .ok (.iaload, 1) := by decide +kernel
theorem dX6_told_84 : decode cX6_told 84 = .ok (.ireturn, 1) := by decide +kernel
theorem dX6_told_85 : decode cX6_told 85 = .ok (.aload_n 0, 1) := by decide +kernel
theorem dX6_told_86 : decode cX6_told 86 = .ok (.getfield 19, 3) := by decide +kernel
theorem dX6_told_89 : decode cX6_told 89 = .ok (.iload_n 1, 1) := by decide +kernel
theorem dX6_told_90 : decode cX6_told 90 = .ok (.iaload, 1) := by decide +kernel
theorem dX6_told_91 : decode cX6_told 91 = .ok (.ireturn, 1) := by decide +kernel
theorem dX6_told_92 : decode cX6_told 92 = .ok (.bipush (-7), 2) := by decide +kernel
theorem dX6_told_94 : decode cX6_told 94 = .ok (.ireturn, 1) := by decide +kernel
theorem dX6_pin_0 : decode cX6_pin 0 = .ok (.iload_n 1, 1) := by decide +kernel
theorem dX6_pin_1 : decode cX6_pin 1 = .ok (.invokestatic 155, 3) := by decide +kernel
theorem dX6_pin_4 : decode cX6_pin 4 = .ok (.ifCond .ne 6, 3) := by decide +kernel
theorem dX6_pin_7 : decode cX6_pin 7 = .ok (.bipush (-5), 2) := by decide +kernel
theorem dX6_pin_9 : decode cX6_pin 9 = .ok (.ireturn, 1) := by decide +kernel
theorem dX6_pin_10 : decode cX6_pin 10 = .ok (.iload_n 2, 1) := by decide +kernel
theorem dX6_pin_11 : decode cX6_pin 11 = .ok (.iconst 0, 1) := by decide +kernel
theorem dX6_pin_12 : decode cX6_pin 12 = .ok (.iconst 1, 1) := by decide +kernel
theorem dX6_pin_13 : decode cX6_pin 13 = .ok (.invokestatic 69, 3) := by decide +kernel
theorem dX6_pin_16 : decode cX6_pin 16 = .ok (.ifCond .ne 6, 3) := by decide +kernel
theorem dX6_pin_19 : decode cX6_pin 19 = .ok (.bipush (-7), 2) := by decide +kernel
theorem dX6_pin_21 : decode cX6_pin 21 = .ok (.ireturn, 1) := by decide +kernel
theorem dX6_pin_22 : decode cX6_pin 22 = .ok (.aload_n 0, 1) := by decide +kernel
theorem dX6_pin_23 : decode cX6_pin 23 = .ok (.getfield 16, 3) := by decide +kernel
theorem dX6_pin_26 : decode cX6_pin 26 = .ok (.iload_n 1, 1) := by decide +kernel
theorem dX6_pin_27 : decode cX6_pin 27 = .ok (.iaload, 1) := by decide +kernel
theorem dX6_pin_28 : decode cX6_pin 28 = .ok (.istore_n 3, 1) := by decide +kernel
theorem dX6_pin_29 : decode cX6_pin 29 = .ok (.aload_n 0, 1) := by decide +kernel
theorem dX6_pin_30 : decode cX6_pin 30 = .ok (.getfield 16, 3) := by decide +kernel
theorem dX6_pin_33 : decode cX6_pin 33 = .ok (.iload_n 1, 1) := by decide +kernel
theorem dX6_pin_34 : decode cX6_pin 34 = .ok (.iload_n 2, 1) := by decide +kernel
theorem dX6_pin_35 : decode cX6_pin 35 = .ok (.iastore, 1) := by decide +kernel
theorem dX6_pin_36 : decode cX6_pin 36 = .ok (.iload_n 3, 1) := by decide +kernel
theorem dX6_pin_37 : decode cX6_pin 37 = .ok (.ireturn, 1) := by decide +kernel
theorem dX6_keeps_0 : decode cX6_keeps 0 = .ok (.aload_n 0, 1) := by decide +kernel
theorem dX6_keeps_1 : decode cX6_keeps 1 = .ok (.getfield 7, 3) := by decide +kernel
theorem dX6_keeps_4 : decode cX6_keeps 4 = .ok (.iload_n 1, 1) := by decide +kernel
theorem dX6_keeps_5 : decode cX6_keeps 5 = .ok (.iaload, 1) := by decide +kernel
theorem dX6_keeps_6 : decode cX6_keeps 6 = .ok (.iconst 5, 1) := by decide +kernel
theorem dX6_keeps_7 : decode cX6_keeps 7 = .ok (.if_icmp .eq 13, 3) := by decide +kernel
theorem dX6_keeps_10 : decode cX6_keeps 10 = .ok (.aload_n 0, 1) := by decide +kernel
theorem dX6_keeps_11 : decode cX6_keeps 11 = .ok (.getfield 16, 3) := by decide +kernel
theorem dX6_keeps_14 : decode cX6_keeps 14 = .ok (.iload_n 1, 1) := by decide +kernel
theorem dX6_keeps_15 : decode cX6_keeps 15 = .ok (.iaload, 1) := by decide +kernel
theorem dX6_keeps_16 : decode cX6_keeps 16 = .ok (.iconst 1, 1) := by decide +kernel
theorem dX6_keeps_17 : decode cX6_keeps 17 = .ok (.if_icmp .ne 7, 3) := by decide +kernel
theorem dX6_keeps_20 : decode cX6_keeps 20 = .ok (.iconst 1, 1) := by decide +kernel
theorem dX6_keeps_21 : decode cX6_keeps 21 = .ok (.goto 4, 3) := by decide +kernel
theorem dX6_keeps_24 : decode cX6_keeps 24 = .ok (.iconst 0, 1) := by decide +kernel
theorem dX6_keeps_25 : decode cX6_keeps 25 = .ok (.ireturn, 1) := by decide +kernel
theorem dX6_goesThrough_0 : decode cX6_goesThrough 0 = .ok (.iload_n 1, 1) := by decide +kernel
theorem dX6_goesThrough_1 : decode cX6_goesThrough 1 = .ok (.bipush 6, 2) := by decide +kernel
theorem dX6_goesThrough_3 : decode cX6_goesThrough 3 = .ok (.idiv, 1) := by decide +kernel
theorem dX6_goesThrough_4 : decode cX6_goesThrough 4 = .ok (.iload_n 2, 1) := by decide +kernel
theorem dX6_goesThrough_5 : decode cX6_goesThrough 5 = .ok (.bipush 6, 2) := by decide +kernel
theorem dX6_goesThrough_7 : decode cX6_goesThrough 7 = .ok (.idiv, 1) := by decide +kernel
theorem dX6_goesThrough_8 : decode cX6_goesThrough 8 = .ok (.iconst 1, 1) := by decide +kernel
theorem dX6_goesThrough_9 : decode cX6_goesThrough 9 = .ok (.iadd, 1) := by decide +kernel
theorem dX6_goesThrough_10 : decode cX6_goesThrough 10 = .ok (.if_icmp .ne 23, 3) := by decide +kernel
theorem dX6_goesThrough_13 : decode cX6_goesThrough 13 = .ok (.aload_n 0, 1) := by decide +kernel
theorem dX6_goesThrough_14 : decode cX6_goesThrough 14 = .ok (.iload_n 1, 1) := by decide +kernel
theorem dX6_goesThrough_15 : decode cX6_goesThrough 15 = .ok (.invokevirtual 171, 3) := by decide +kernel
theorem dX6_goesThrough_18 : decode cX6_goesThrough 18 = .ok (.iload_n 2, 1) := by decide +kernel
theorem dX6_goesThrough_19 : decode cX6_goesThrough 19 = .ok (.bipush 6, 2) := by decide +kernel
theorem dX6_goesThrough_21 : decode cX6_goesThrough 21 = .ok (.irem, 1) := by decide +kernel
theorem dX6_goesThrough_22 : decode cX6_goesThrough 22 = .ok (.ishr, 1) := by decide +kernel
theorem dX6_goesThrough_23 : decode cX6_goesThrough 23 = .ok (.iconst 1, 1) := by decide +kernel
theorem dX6_goesThrough_24 : decode cX6_goesThrough 24 = .ok (.iand, 1) := by decide +kernel
theorem dX6_goesThrough_25 : decode cX6_goesThrough 25 = .ok (.iconst 1, 1) := by decide +kernel
theorem dX6_goesThrough_26 : decode cX6_goesThrough 26 = .ok (.if_icmp .ne 7, 3) := by decide +kernel
theorem dX6_goesThrough_29 : decode cX6_goesThrough 29 = .ok (.iconst 1, 1) := by decide +kernel
theorem dX6_goesThrough_30 : decode cX6_goesThrough 30 = .ok (.goto 4, 3) := by decide +kernel
theorem dX6_goesThrough_33 : decode cX6_goesThrough 33 = .ok (.iconst 0, 1) := by decide +kernel
theorem dX6_goesThrough_34 : decode cX6_goesThrough 34 = .ok (.ireturn, 1) := by decide +kernel
theorem dX6_uppers_0 : decode cX6_uppers 0 = .ok (.lconst 0, 1) := by decide +kernel
theorem dX6_uppers_1 : decode cX6_uppers 1 = .ok (.lstore_n 2, 1) := by decide +kernel
theorem dX6_uppers_2 : decode cX6_uppers 2 = .ok (.bipush 6, 2) := by decide +kernel
theorem dX6_uppers_4 : decode cX6_uppers 4 = .ok (.iload_n 1, 1) := by decide +kernel
theorem dX6_uppers_5 : decode cX6_uppers 5 = .ok (.bipush 6, 2) := by decide +kernel
theorem dX6_uppers_7 : decode cX6_uppers 7 = .ok (.idiv, 1) := by decide +kernel
theorem dX6_uppers_8 : decode cX6_uppers 8 = .ok (.imul, 1) := by decide +kernel
theorem dX6_uppers_9 : decode cX6_uppers 9 = .ok (.bipush 6, 2) := by decide +kernel
theorem dX6_uppers_11 : decode cX6_uppers 11 = .ok (.iadd, 1) := by decide +kernel
theorem dX6_uppers_12 : decode cX6_uppers 12 = .ok (.istore 4, 2) := by decide +kernel
theorem dX6_uppers_14 : decode cX6_uppers 14 = .ok (.iload 4, 2) := by decide +kernel
theorem dX6_uppers_16 : decode cX6_uppers 16 = .ok (.bipush 48, 2) := by decide +kernel
theorem dX6_uppers_18 : decode cX6_uppers 18 = .ok (.if_icmp .ge 45, 3) := by decide +kernel
theorem dX6_uppers_21 : decode cX6_uppers 21 = .ok (.iload 4, 2) := by decide +kernel
theorem dX6_uppers_23 : decode cX6_uppers 23 = .ok (.bipush 6, 2) := by decide +kernel
theorem dX6_uppers_25 : decode cX6_uppers 25 = .ok (.iload_n 1, 1) := by decide +kernel
theorem dX6_uppers_26 : decode cX6_uppers 26 = .ok (.bipush 6, 2) := by decide +kernel
theorem dX6_uppers_28 : decode cX6_uppers 28 = .ok (.idiv, 1) := by decide +kernel
theorem dX6_uppers_29 : decode cX6_uppers 29 = .ok (.imul, 1) := by decide +kernel
theorem dX6_uppers_30 : decode cX6_uppers 30 = .ok (.bipush 12, 2) := by decide +kernel
theorem dX6_uppers_32 : decode cX6_uppers 32 = .ok (.iadd, 1) := by decide +kernel
theorem dX6_uppers_33 : decode cX6_uppers 33 = .ok (.if_icmp .ge 30, 3) := by decide +kernel
theorem dX6_uppers_36 : decode cX6_uppers 36 = .ok (.lload_n 2, 1) := by decide +kernel
theorem dX6_uppers_37 : decode cX6_uppers 37 = .ok (.aload_n 0, 1) := by decide +kernel
theorem dX6_uppers_38 : decode cX6_uppers 38 = .ok (.iload 4, 2) := by decide +kernel
theorem dX6_uppers_40 : decode cX6_uppers 40 = .ok (.iload_n 1, 1) := by decide +kernel
theorem dX6_uppers_41 : decode cX6_uppers 41 = .ok (.invokevirtual 174, 3) := by decide +kernel
theorem dX6_uppers_44 : decode cX6_uppers 44 = .ok (.ifCond .eq 10, 3) := by decide +kernel
theorem dX6_uppers_47 : decode cX6_uppers 47 = .ok (.lconst 1, 1) := by decide +kernel
theorem dX6_uppers_48 : decode cX6_uppers 48 = .ok (.iload 4, 2) := by decide +kernel
theorem dX6_uppers_50 : decode cX6_uppers 50 = .ok (.lshl, 1) := by decide +kernel
theorem dX6_uppers_51 : decode cX6_uppers 51 = .ok (.goto 4, 3) := by decide +kernel
theorem dX6_uppers_54 : decode cX6_uppers 54 = .ok (.lconst 0, 1) := by decide +kernel
theorem dX6_uppers_55 : decode cX6_uppers 55 = .ok (.lor, 1) := by decide +kernel
theorem dX6_uppers_56 : decode cX6_uppers 56 = .ok (.lstore_n 2, 1) := by decide +kernel
theorem dX6_uppers_57 : decode cX6_uppers 57 = .ok (.iinc 4 1, 3) := by decide +kernel
theorem dX6_uppers_60 : decode cX6_uppers 60 = .ok (.goto (-46), 3) := by decide +kernel
theorem dX6_uppers_63 : decode cX6_uppers 63 = .ok (.lload_n 2, 1) := by decide +kernel
theorem dX6_uppers_64 : decode cX6_uppers 64 = .ok (.lreturn, 1) := by decide +kernel
theorem dX6_hanging_0 : decode cX6_hanging 0 = .ok (.aload_n 0, 1) := by decide +kernel
theorem dX6_hanging_1 : decode cX6_hanging 1 = .ok (.iload_n 1, 1) := by decide +kernel
theorem dX6_hanging_2 : decode cX6_hanging 2 = .ok (.invokevirtual 177, 3) := by decide +kernel
theorem dX6_hanging_5 : decode cX6_hanging 5 = .ok (.lstore_n 2, 1) := by decide +kernel
theorem dX6_hanging_6 : decode cX6_hanging 6 = .ok (.iload_n 1, 1) := by decide +kernel
theorem dX6_hanging_7 : decode cX6_hanging 7 = .ok (.iconst 1, 1) := by decide +kernel
theorem dX6_hanging_8 : decode cX6_hanging 8 = .ok (.iadd, 1) := by decide +kernel
theorem dX6_hanging_9 : decode cX6_hanging 9 = .ok (.istore 4, 2) := by decide +kernel
theorem dX6_hanging_11 : decode cX6_hanging 11 = .ok (.iload 4, 2) := by decide +kernel
theorem dX6_hanging_13 : decode cX6_hanging 13 = .ok (.bipush 48, 2) := by decide +kernel
theorem dX6_hanging_15 : decode cX6_hanging 15 = .ok (.if_icmp .ge 33, 3) := by decide +kernel
theorem dX6_hanging_18 : decode cX6_hanging 18 = .ok (.lload_n 2, 1) := by decide +kernel
theorem dX6_hanging_19 : decode cX6_hanging 19 = .ok (.lload_n 2, 1) := by decide +kernel
theorem dX6_hanging_20 : decode cX6_hanging 20 = .ok (.iload 4, 2) := by decide +kernel
theorem dX6_hanging_22 : decode cX6_hanging 22 = .ok (.lshr, 1) := by decide +kernel
theorem dX6_hanging_23 : decode cX6_hanging 23 = .ok (.lconst 1, 1) := by decide +kernel
theorem dX6_hanging_24 : decode cX6_hanging 24 = .ok (.land, 1) := by decide +kernel
theorem dX6_hanging_25 : decode cX6_hanging 25 = .ok (.lconst 1, 1) := by decide +kernel
theorem dX6_hanging_26 : decode cX6_hanging 26 = .ok (.lcmp, 1) := by decide +kernel
theorem dX6_hanging_27 : decode cX6_hanging 27 = .ok (.ifCond .ne 12, 3) := by decide +kernel
theorem dX6_hanging_30 : decode cX6_hanging 30 = .ok (.aload_n 0, 1) := by decide +kernel
theorem dX6_hanging_31 : decode cX6_hanging 31 = .ok (.iload 4, 2) := by decide +kernel
theorem dX6_hanging_33 : decode cX6_hanging 33 = .ok (.invokevirtual 177, 3) := by decide +kernel
theorem dX6_hanging_36 : decode cX6_hanging 36 = .ok (.goto 4, 3) := by decide +kernel
theorem dX6_hanging_39 : decode cX6_hanging 39 = .ok (.lconst 0, 1) := by decide +kernel
theorem dX6_hanging_40 : decode cX6_hanging 40 = .ok (.lor, 1) := by decide +kernel
theorem dX6_hanging_41 : decode cX6_hanging 41 = .ok (.lstore_n 2, 1) := by decide +kernel
theorem dX6_hanging_42 : decode cX6_hanging 42 = .ok (.iinc 4 1, 3) := by decide +kernel
theorem dX6_hanging_45 : decode cX6_hanging 45 = .ok (.goto (-34), 3) := by decide +kernel
theorem dX6_hanging_48 : decode cX6_hanging 48 = .ok (.lload_n 2, 1) := by decide +kernel
theorem dX6_hanging_49 : decode cX6_hanging 49 = .ok (.lreturn, 1) := by decide +kernel
theorem dX6_hangs_0 : decode cX6_hangs 0 = .ok (.iload_n 1, 1) := by decide +kernel
theorem dX6_hangs_1 : decode cX6_hangs 1 = .ok (.invokestatic 155, 3) := by decide +kernel
theorem dX6_hangs_4 : decode cX6_hangs 4 = .ok (.ifCond .eq 12, 3) := by decide +kernel
theorem dX6_hangs_7 : decode cX6_hangs 7 = .ok (.iload_n 2, 1) := by decide +kernel
theorem dX6_hangs_8 : decode cX6_hangs 8 = .ok (.iconst 0, 1) := by decide +kernel
theorem dX6_hangs_9 : decode cX6_hangs 9 = .ok (.iconst 2, 1) := by decide +kernel
theorem dX6_hangs_10 : decode cX6_hangs 10 = .ok (.invokestatic 69, 3) := by decide +kernel
theorem dX6_hangs_13 : decode cX6_hangs 13 = .ok (.ifCond .ne 7, 3) := by decide +kernel
theorem dX6_hangs_16 : decode cX6_hangs 16 = .ok (.ldc2_w 181, 3) := by decide +kernel
theorem dX6_hangs_19 : decode cX6_hangs 19 = .ok (.lreturn, 1) := by decide +kernel
theorem dX6_hangs_20 : decode cX6_hangs 20 = .ok (.lconst 0, 1) := by decide +kernel
theorem dX6_hangs_21 : decode cX6_hangs 21 = .ok (.lstore_n 3, 1) := by decide +kernel
theorem dX6_hangs_22 : decode cX6_hangs 22 = .ok (.iconst 0, 1) := by decide +kernel
theorem dX6_hangs_23 : decode cX6_hangs 23 = .ok (.istore 5, 2) := by decide +kernel
theorem dX6_hangs_25 : decode cX6_hangs 25 = .ok (.iload 5, 2) := by decide +kernel
theorem dX6_hangs_27 : decode cX6_hangs 27 = .ok (.bipush 48, 2) := by decide +kernel
theorem dX6_hangs_29 : decode cX6_hangs 29 = .ok (.if_icmp .ge 40, 3) := by decide +kernel
theorem dX6_hangs_32 : decode cX6_hangs 32 = .ok (.iload_n 2, 1) := by decide +kernel
theorem dX6_hangs_33 : decode cX6_hangs 33 = .ok (.iconst 2, 1) := by decide +kernel
theorem dX6_hangs_34 : decode cX6_hangs 34 = .ok (.if_icmp .ne 35, 3) := by decide +kernel
theorem dX6_hangs_37 : decode cX6_hangs 37 = .ok (.lload_n 3, 1) := by decide +kernel
theorem dX6_hangs_38 : decode cX6_hangs 38 = .ok (.aload_n 0, 1) := by decide +kernel
theorem dX6_hangs_39 : decode cX6_hangs 39 = .ok (.iload 5, 2) := by decide +kernel
theorem dX6_hangs_41 : decode cX6_hangs 41 = .ok (.invokevirtual 183, 3) := by decide +kernel
theorem dX6_hangs_44 : decode cX6_hangs 44 = .ok (.iload_n 1, 1) := by decide +kernel
theorem dX6_hangs_45 : decode cX6_hangs 45 = .ok (.lshr, 1) := by decide +kernel
theorem dX6_hangs_46 : decode cX6_hangs 46 = .ok (.lconst 1, 1) := by decide +kernel
theorem dX6_hangs_47 : decode cX6_hangs 47 = .ok (.land, 1) := by decide +kernel
theorem dX6_hangs_48 : decode cX6_hangs 48 = .ok (.lconst 1, 1) := by decide +kernel
theorem dX6_hangs_49 : decode cX6_hangs 49 = .ok (.lcmp, 1) := by decide +kernel
theorem dX6_hangs_50 : decode cX6_hangs 50 = .ok (.ifCond .ne 10, 3) := by decide +kernel
theorem dX6_hangs_53 : decode cX6_hangs 53 = .ok (.lconst 1, 1) := by decide +kernel
theorem dX6_hangs_54 : decode cX6_hangs 54 = .ok (.iload 5, 2) := by decide +kernel
theorem dX6_hangs_56 : decode cX6_hangs 56 = .ok (.lshl, 1) := by decide +kernel
theorem dX6_hangs_57 : decode cX6_hangs 57 = .ok (.goto 4, 3) := by decide +kernel
theorem dX6_hangs_60 : decode cX6_hangs 60 = .ok (.lconst 0, 1) := by decide +kernel
theorem dX6_hangs_61 : decode cX6_hangs 61 = .ok (.lor, 1) := by decide +kernel
theorem dX6_hangs_62 : decode cX6_hangs 62 = .ok (.lstore_n 3, 1) := by decide +kernel
theorem dX6_hangs_63 : decode cX6_hangs 63 = .ok (.iinc 5 1, 3) := by decide +kernel
theorem dX6_hangs_66 : decode cX6_hangs 66 = .ok (.goto (-41), 3) := by decide +kernel
theorem dX6_hangs_69 : decode cX6_hangs 69 = .ok (.iload_n 2, 1) := by decide +kernel
theorem dX6_hangs_70 : decode cX6_hangs 70 = .ok (.ifCond .ne 11, 3) := by decide +kernel
theorem dX6_hangs_73 : decode cX6_hangs 73 = .ok (.aload_n 0, 1) := by decide +kernel
theorem dX6_hangs_74 : decode cX6_hangs 74 = .ok (.iload_n 1, 1) := by decide +kernel
theorem dX6_hangs_75 : decode cX6_hangs 75 = .ok (.invokevirtual 177, 3) := by decide +kernel
theorem dX6_hangs_78 : decode cX6_hangs 78 = .ok (.goto 17, 3) := by decide +kernel
theorem dX6_hangs_81 : decode cX6_hangs 81 = .ok (.iload_n 2, 1) := by decide +kernel
theorem dX6_hangs_82 : decode cX6_hangs 82 = .ok (.iconst 1, 1) := by decide +kernel
theorem dX6_hangs_83 : decode cX6_hangs 83 = .ok (.if_icmp .ne 11, 3) := by decide +kernel
theorem dX6_hangs_86 : decode cX6_hangs 86 = .ok (.aload_n 0, 1) := by decide +kernel
theorem dX6_hangs_87 : decode cX6_hangs 87 = .ok (.iload_n 1, 1) := by decide +kernel
theorem dX6_hangs_88 : decode cX6_hangs 88 = .ok (.invokevirtual 183, 3) := by decide +kernel
theorem dX6_hangs_91 : decode cX6_hangs 91 = .ok (.goto 4, 3) := by decide +kernel
theorem dX6_hangs_94 : decode cX6_hangs 94 = .ok (.lload_n 3, 1) := by decide +kernel
theorem dX6_hangs_95 : decode cX6_hangs 95 = .ok (.lreturn, 1) := by decide +kernel
theorem dX6_bitsOf_0 : decode cX6_bitsOf 0 = .ok (.iconst 0, 1) := by decide +kernel
theorem dX6_bitsOf_1 : decode cX6_bitsOf 1 = .ok (.istore_n 2, 1) := by decide +kernel
theorem dX6_bitsOf_2 : decode cX6_bitsOf 2 = .ok (.iconst 0, 1) := by decide +kernel
theorem dX6_bitsOf_3 : decode cX6_bitsOf 3 = .ok (.istore_n 3, 1) := by decide +kernel
theorem dX6_bitsOf_4 : decode cX6_bitsOf 4 = .ok (.iload_n 3, 1) := by decide +kernel
theorem dX6_bitsOf_5 : decode cX6_bitsOf 5 = .ok (.bipush 48, 2) := by decide +kernel
theorem dX6_bitsOf_7 : decode cX6_bitsOf 7 = .ok (.if_icmp .ge 27, 3) := by decide +kernel
theorem dX6_bitsOf_10 : decode cX6_bitsOf 10 = .ok (.iload_n 2, 1) := by decide +kernel
theorem dX6_bitsOf_11 : decode cX6_bitsOf 11 = .ok (.lload_n 0, 1) := by decide +kernel
theorem dX6_bitsOf_12 : decode cX6_bitsOf 12 = .ok (.iload_n 3, 1) := by decide +kernel
theorem dX6_bitsOf_13 : decode cX6_bitsOf 13 = .ok (.lshr, 1) := by decide +kernel
theorem dX6_bitsOf_14 : decode cX6_bitsOf 14 = .ok (.lconst 1, 1) := by decide +kernel
theorem dX6_bitsOf_15 : decode cX6_bitsOf 15 = .ok (.land, 1) := by decide +kernel
theorem dX6_bitsOf_16 : decode cX6_bitsOf 16 = .ok (.lconst 1, 1) := by decide +kernel
theorem dX6_bitsOf_17 : decode cX6_bitsOf 17 = .ok (.lcmp, 1) := by decide +kernel
theorem dX6_bitsOf_18 : decode cX6_bitsOf 18 = .ok (.ifCond .ne 7, 3) := by decide +kernel
theorem dX6_bitsOf_21 : decode cX6_bitsOf 21 = .ok (.iconst 1, 1) := by decide +kernel
theorem dX6_bitsOf_22 : decode cX6_bitsOf 22 = .ok (.goto 4, 3) := by decide +kernel
theorem dX6_bitsOf_25 : decode cX6_bitsOf 25 = .ok (.iconst 0, 1) := by decide +kernel
theorem dX6_bitsOf_26 : decode cX6_bitsOf 26 = .ok (.iadd, 1) := by decide +kernel
theorem dX6_bitsOf_27 : decode cX6_bitsOf 27 = .ok (.istore_n 2, 1) := by decide +kernel
theorem dX6_bitsOf_28 : decode cX6_bitsOf 28 = .ok (.iinc 3 1, 3) := by decide +kernel
theorem dX6_bitsOf_31 : decode cX6_bitsOf 31 = .ok (.goto (-27), 3) := by decide +kernel
theorem dX6_bitsOf_34 : decode cX6_bitsOf 34 = .ok (.iload_n 2, 1) := by decide +kernel
theorem dX6_bitsOf_35 : decode cX6_bitsOf 35 = .ok (.ireturn, 1) := by decide +kernel
theorem dX6_isLoose_0 : decode cX6_isLoose 0 = .ok (.iload_n 1, 1) := by decide +kernel
theorem dX6_isLoose_1 : decode cX6_isLoose 1 = .ok (.bipush 42, 2) := by decide +kernel
theorem dX6_isLoose_3 : decode cX6_isLoose 3 = .ok (.if_icmp .ge 25, 3) := by decide +kernel
theorem dX6_isLoose_6 : decode cX6_isLoose 6 = .ok (.aload_n 0, 1) := by decide +kernel
theorem dX6_isLoose_7 : decode cX6_isLoose 7 = .ok (.iload_n 1, 1) := by decide +kernel
theorem dX6_isLoose_8 : decode cX6_isLoose 8 = .ok (.invokevirtual 177, 3) := by decide +kernel
theorem dX6_isLoose_11 : decode cX6_isLoose 11 = .ok (.lconst 0, 1) := by decide +kernel
theorem dX6_isLoose_12 : decode cX6_isLoose 12 = .ok (.lcmp, 1) := by decide +kernel
theorem dX6_isLoose_13 : decode cX6_isLoose 13 = .ok (.ifCond .ne 15, 3) := by decide +kernel
theorem dX6_isLoose_16 : decode cX6_isLoose 16 = .ok (.aload_n 0, 1) := by decide +kernel
theorem dX6_isLoose_17 : decode cX6_isLoose 17 = .ok (.iload_n 1, 1) := by decide +kernel
theorem dX6_isLoose_18 : decode cX6_isLoose 18 = .ok (.invokevirtual 186, 3) := by decide +kernel
theorem dX6_isLoose_21 : decode cX6_isLoose 21 = .ok (.ifCond .ne 7, 3) := by decide +kernel
theorem dX6_isLoose_24 : decode cX6_isLoose 24 = .ok (.iconst 1, 1) := by decide +kernel
theorem dX6_isLoose_25 : decode cX6_isLoose 25 = .ok (.goto 4, 3) := by decide +kernel
theorem dX6_isLoose_28 : decode cX6_isLoose 28 = .ok (.iconst 0, 1) := by decide +kernel
theorem dX6_isLoose_29 : decode cX6_isLoose 29 = .ok (.ireturn, 1) := by decide +kernel
theorem dX6_loose_0 : decode cX6_loose 0 = .ok (.lconst 0, 1) := by decide +kernel
theorem dX6_loose_1 : decode cX6_loose 1 = .ok (.lstore_n 1, 1) := by decide +kernel
theorem dX6_loose_2 : decode cX6_loose 2 = .ok (.iconst 0, 1) := by decide +kernel
theorem dX6_loose_3 : decode cX6_loose 3 = .ok (.istore_n 3, 1) := by decide +kernel
theorem dX6_loose_4 : decode cX6_loose 4 = .ok (.iload_n 3, 1) := by decide +kernel
theorem dX6_loose_5 : decode cX6_loose 5 = .ok (.bipush 48, 2) := by decide +kernel
theorem dX6_loose_7 : decode cX6_loose 7 = .ok (.if_icmp .ge 27, 3) := by decide +kernel
theorem dX6_loose_10 : decode cX6_loose 10 = .ok (.lload_n 1, 1) := by decide +kernel
theorem dX6_loose_11 : decode cX6_loose 11 = .ok (.aload_n 0, 1) := by decide +kernel
theorem dX6_loose_12 : decode cX6_loose 12 = .ok (.iload_n 3, 1) := by decide +kernel
theorem dX6_loose_13 : decode cX6_loose 13 = .ok (.invokevirtual 189, 3) := by decide +kernel
theorem dX6_loose_16 : decode cX6_loose 16 = .ok (.ifCond .eq 9, 3) := by decide +kernel
theorem dX6_loose_19 : decode cX6_loose 19 = .ok (.lconst 1, 1) := by decide +kernel
theorem dX6_loose_20 : decode cX6_loose 20 = .ok (.iload_n 3, 1) := by decide +kernel
theorem dX6_loose_21 : decode cX6_loose 21 = .ok (.lshl, 1) := by decide +kernel
theorem dX6_loose_22 : decode cX6_loose 22 = .ok (.goto 4, 3) := by decide +kernel
theorem dX6_loose_25 : decode cX6_loose 25 = .ok (.lconst 0, 1) := by decide +kernel
theorem dX6_loose_26 : decode cX6_loose 26 = .ok (.lor, 1) := by decide +kernel
theorem dX6_loose_27 : decode cX6_loose 27 = .ok (.lstore_n 1, 1) := by decide +kernel
theorem dX6_loose_28 : decode cX6_loose 28 = .ok (.iinc 3 1, 3) := by decide +kernel
theorem dX6_loose_31 : decode cX6_loose 31 = .ok (.goto (-27), 3) := by decide +kernel
theorem dX6_loose_34 : decode cX6_loose 34 = .ok (.lload_n 1, 1) := by decide +kernel
theorem dX6_loose_35 : decode cX6_loose 35 = .ok (.lreturn, 1) := by decide +kernel
theorem dX6_back_0 : decode cX6_back 0 = .ok (.iload_n 1, 1) := by decide +kernel
theorem dX6_back_1 : decode cX6_back 1 = .ok (.invokestatic 155, 3) := by decide +kernel
theorem dX6_back_4 : decode cX6_back 4 = .ok (.ifCond .eq 16, 3) := by decide +kernel
theorem dX6_back_7 : decode cX6_back 7 = .ok (.iconst 1, 1) := by decide +kernel
theorem dX6_back_8 : decode cX6_back 8 = .ok (.aload_n 0, 1) := by decide +kernel
theorem dX6_back_9 : decode cX6_back 9 = .ok (.iload_n 1, 1) := by decide +kernel
theorem dX6_back_10 : decode cX6_back 10 = .ok (.invokevirtual 183, 3) := by decide +kernel
theorem dX6_back_13 : decode cX6_back 13 = .ok (.invokestatic 192, 3) := by decide +kernel
theorem dX6_back_16 : decode cX6_back 16 = .ok (.iadd, 1) := by decide +kernel
theorem dX6_back_17 : decode cX6_back 17 = .ok (.goto 5, 3) := by decide +kernel
theorem dX6_back_20 : decode cX6_back 20 = .ok (.bipush (-5), 2) := by decide +kernel
theorem dX6_back_22 : decode cX6_back 22 = .ok (.ireturn, 1) := by decide +kernel
theorem dX6_leftOf_0 : decode cX6_leftOf 0 = .ok (.aload_n 0, 1) := by decide +kernel
theorem dX6_leftOf_1 : decode cX6_leftOf 1 = .ok (.iload_n 1, 1) := by decide +kernel
theorem dX6_leftOf_2 : decode cX6_leftOf 2 = .ok (.invokevirtual 186, 3) := by decide +kernel
theorem dX6_leftOf_5 : decode cX6_leftOf 5 = .ok (.ifCond .eq 5, 3) := by decide +kernel
theorem dX6_leftOf_8 : decode cX6_leftOf 8 = .ok (.iconst (-1), 1) := by decide +kernel
theorem dX6_leftOf_9 : decode cX6_leftOf 9 = .ok (.ireturn, 1) := by decide +kernel
theorem dX6_leftOf_10 : decode cX6_leftOf 10 = .ok (.iload_n 2, 1) := by decide +kernel
theorem dX6_leftOf_11 : decode cX6_leftOf 11 = .ok (.ifCond .eq 5, 3) := by decide +kernel
theorem dX6_leftOf_14 : decode cX6_leftOf 14 = .ok (.iload_n 3, 1) := by decide +kernel
theorem dX6_leftOf_15 : decode cX6_leftOf 15 = .ok (.ireturn, 1) := by decide +kernel
theorem dX6_leftOf_16 : decode cX6_leftOf 16 = .ok (.aload_n 0, 1) := by decide +kernel
theorem dX6_leftOf_17 : decode cX6_leftOf 17 = .ok (.iload_n 1, 1) := by decide +kernel
theorem dX6_leftOf_18 : decode cX6_leftOf 18 = .ok (.invokevirtual 196, 3) := by decide +kernel
theorem dX6_leftOf_21 : decode cX6_leftOf 21 = .ok (.istore 4, 2) := by decide +kernel
theorem dX6_leftOf_23 : decode cX6_leftOf 23 = .ok (.iload 4, 2) := by decide +kernel
theorem dX6_leftOf_25 : decode cX6_leftOf 25 = .ok (.iconst (-1), 1) := by decide +kernel
theorem dX6_leftOf_26 : decode cX6_leftOf 26 = .ok (.if_icmp .ne 7, 3) := by decide +kernel
theorem dX6_leftOf_29 : decode cX6_leftOf 29 = .ok (.iconst 0, 1) := by decide +kernel
theorem dX6_leftOf_30 : decode cX6_leftOf 30 = .ok (.goto 10, 3) := by decide +kernel
theorem dX6_leftOf_33 : decode cX6_leftOf 33 = .ok (.aload_n 0, 1) := by decide +kernel
theorem dX6_leftOf_34 : decode cX6_leftOf 34 = .ok (.iload_n 1, 1) := by decide +kernel
theorem dX6_leftOf_35 : decode cX6_leftOf 35 = .ok (.iload 4, 2) := by decide +kernel
theorem dX6_leftOf_37 : decode cX6_leftOf 37 = .ok (.invokevirtual 199, 3) := by decide +kernel
theorem dX6_leftOf_40 : decode cX6_leftOf 40 = .ok (.istore 5, 2) := by decide +kernel
theorem dX6_leftOf_42 : decode cX6_leftOf 42 = .ok (.iload 4, 2) := by decide +kernel
theorem dX6_leftOf_44 : decode cX6_leftOf 44 = .ok (.iload 5, 2) := by decide +kernel
theorem dX6_leftOf_46 : decode cX6_leftOf 46 = .ok (.if_icmp .le 11, 3) := by decide +kernel
theorem dX6_leftOf_49 : decode cX6_leftOf 49 = .ok (.iload 4, 2) := by decide +kernel
theorem dX6_leftOf_51 : decode cX6_leftOf 51 = .ok (.iload 5, 2) := by decide +kernel
theorem dX6_leftOf_53 : decode cX6_leftOf 53 = .ok (.isub, 1) := by decide +kernel
theorem dX6_leftOf_54 : decode cX6_leftOf 54 = .ok (.goto 4, 3) := by decide +kernel
theorem dX6_leftOf_57 : decode cX6_leftOf 57 = .ok (.iconst (-1), 1) := by decide +kernel
theorem dX6_leftOf_58 : decode cX6_leftOf 58 = .ok (.ireturn, 1) := by decide +kernel
theorem dX6_allGone_0 : decode cX6_allGone 0 = .ok (.iconst (-1), 1) := by decide +kernel
theorem dX6_allGone_1 : decode cX6_allGone 1 = .ok (.istore_n 2, 1) := by decide +kernel
theorem dX6_allGone_2 : decode cX6_allGone 2 = .ok (.bipush 6, 2) := by decide +kernel
theorem dX6_allGone_4 : decode cX6_allGone 4 = .ok (.iload_n 1, 1) := by decide +kernel
theorem dX6_allGone_5 : decode cX6_allGone 5 = .ok (.bipush 6, 2) := by decide +kernel
theorem dX6_allGone_7 : decode cX6_allGone 7 = .ok (.idiv, 1) := by decide +kernel
theorem dX6_allGone_8 : decode cX6_allGone 8 = .ok (.imul, 1) := by decide +kernel
theorem dX6_allGone_9 : decode cX6_allGone 9 = .ok (.bipush 6, 2) := by decide +kernel
theorem dX6_allGone_11 : decode cX6_allGone 11 = .ok (.iadd, 1) := by decide +kernel
theorem dX6_allGone_12 : decode cX6_allGone 12 = .ok (.istore_n 3, 1) := by decide +kernel
theorem dX6_allGone_13 : decode cX6_allGone 13 = .ok (.iload_n 3, 1) := by decide +kernel
theorem dX6_allGone_14 : decode cX6_allGone 14 = .ok (.bipush 48, 2) := by decide +kernel
theorem dX6_allGone_16 : decode cX6_allGone 16 = .ok (.if_icmp .ge 65, 3) := by decide +kernel
theorem dX6_allGone_19 : decode cX6_allGone 19 = .ok (.iload_n 3, 1) := by decide +kernel
theorem dX6_allGone_20 : decode cX6_allGone 20 = .ok (.bipush 6, 2) := by decide +kernel
theorem dX6_allGone_22 : decode cX6_allGone 22 = .ok (.iload_n 1, 1) := by decide +kernel
theorem dX6_allGone_23 : decode cX6_allGone 23 = .ok (.bipush 6, 2) := by decide +kernel
theorem dX6_allGone_25 : decode cX6_allGone 25 = .ok (.idiv, 1) := by decide +kernel
theorem dX6_allGone_26 : decode cX6_allGone 26 = .ok (.imul, 1) := by decide +kernel
theorem dX6_allGone_27 : decode cX6_allGone 27 = .ok (.bipush 12, 2) := by decide +kernel
theorem dX6_allGone_29 : decode cX6_allGone 29 = .ok (.iadd, 1) := by decide +kernel
theorem dX6_allGone_30 : decode cX6_allGone 30 = .ok (.if_icmp .ge 51, 3) := by decide +kernel
theorem dX6_allGone_33 : decode cX6_allGone 33 = .ok (.aload_n 0, 1) := by decide +kernel
theorem dX6_allGone_34 : decode cX6_allGone 34 = .ok (.iload_n 3, 1) := by decide +kernel
theorem dX6_allGone_35 : decode cX6_allGone 35 = .ok (.iload_n 1, 1) := by decide +kernel
theorem dX6_allGone_36 : decode cX6_allGone 36 = .ok (.invokevirtual 174, 3) := by decide +kernel
theorem dX6_allGone_39 : decode cX6_allGone 39 = .ok (.ifCond .eq 36, 3) := by decide +kernel
theorem dX6_allGone_42 : decode cX6_allGone 42 = .ok (.aload_n 0, 1) := by decide +kernel
theorem dX6_allGone_43 : decode cX6_allGone 43 = .ok (.getfield 58, 3) := by decide +kernel
theorem dX6_allGone_46 : decode cX6_allGone 46 = .ok (.iload_n 3, 1) := by decide +kernel
theorem dX6_allGone_47 : decode cX6_allGone 47 = .ok (.iaload, 1) := by decide +kernel
theorem dX6_allGone_48 : decode cX6_allGone 48 = .ok (.iconst (-1), 1) := by decide +kernel
theorem dX6_allGone_49 : decode cX6_allGone 49 = .ok (.if_icmp .ne 5, 3) := by decide +kernel
theorem dX6_allGone_52 : decode cX6_allGone 52 = .ok (.iconst (-1), 1) := by decide +kernel
theorem dX6_allGone_53 : decode cX6_allGone 53 = .ok (.ireturn, 1) := by decide +kernel
theorem dX6_allGone_54 : decode cX6_allGone 54 = .ok (.aload_n 0, 1) := by decide +kernel
theorem dX6_allGone_55 : decode cX6_allGone 55 = .ok (.getfield 58, 3) := by decide +kernel
theorem dX6_allGone_58 : decode cX6_allGone 58 = .ok (.iload_n 3, 1) := by decide +kernel
theorem dX6_allGone_59 : decode cX6_allGone 59 = .ok (.iaload, 1) := by decide +kernel
theorem dX6_allGone_60 : decode cX6_allGone 60 = .ok (.iload_n 2, 1) := by decide +kernel
theorem dX6_allGone_61 : decode cX6_allGone 61 = .ok (.if_icmp .le 12, 3) := by decide +kernel
theorem dX6_allGone_64 : decode cX6_allGone 64 = .ok (.aload_n 0, 1) := by decide +kernel
theorem dX6_allGone_65 : decode cX6_allGone 65 = .ok (.getfield 58, 3) := by decide +kernel
theorem dX6_allGone_68 : decode cX6_allGone 68 = .ok (.iload_n 3, 1) := by decide +kernel
theorem dX6_allGone_69 : decode cX6_allGone 69 = .ok (.iaload, 1) := by decide +kernel
theorem dX6_allGone_70 : decode cX6_allGone 70 = .ok (.goto 4, 3) := by decide +kernel
theorem dX6_allGone_73 : decode cX6_allGone 73 = .ok (.iload_n 2, 1) := by decide +kernel
theorem dX6_allGone_74 : decode cX6_allGone 74 = .ok (.istore_n 2, 1) := by decide +kernel
theorem dX6_allGone_75 : decode cX6_allGone 75 = .ok (.iinc 3 1, 3) := by decide +kernel
theorem dX6_allGone_78 : decode cX6_allGone 78 = .ok (.goto (-65), 3) := by decide +kernel
theorem dX6_allGone_81 : decode cX6_allGone 81 = .ok (.iload_n 2, 1) := by decide +kernel
theorem dX6_allGone_82 : decode cX6_allGone 82 = .ok (.ireturn, 1) := by decide +kernel
theorem dX6_runs_0 : decode cX6_runs 0 = .ok (.aload_n 0, 1) := by decide +kernel
theorem dX6_runs_1 : decode cX6_runs 1 = .ok (.iconst 0, 1) := by decide +kernel
theorem dX6_runs_2 : decode cX6_runs 2 = .ok (.putfield 202, 3) := by decide +kernel
theorem dX6_runs_5 : decode cX6_runs 5 = .ok (.bipush 7, 2) := by decide +kernel
theorem dX6_runs_7 : decode cX6_runs 7 = .ok (.istore 4, 2) := by decide +kernel
theorem dX6_runs_9 : decode cX6_runs 9 = .ok (.iload 4, 2) := by decide +kernel
theorem dX6_runs_11 : decode cX6_runs 11 = .ok (.ifCond .lt 90, 3) := by decide +kernel
theorem dX6_runs_14 : decode cX6_runs 14 = .ok (.bipush 6, 2) := by decide +kernel
theorem dX6_runs_16 : decode cX6_runs 16 = .ok (.iload 4, 2) := by decide +kernel
theorem dX6_runs_18 : decode cX6_runs 18 = .ok (.imul, 1) := by decide +kernel
theorem dX6_runs_19 : decode cX6_runs 19 = .ok (.istore 5, 2) := by decide +kernel
theorem dX6_runs_21 : decode cX6_runs 21 = .ok (.iload 5, 2) := by decide +kernel
theorem dX6_runs_23 : decode cX6_runs 23 = .ok (.bipush 6, 2) := by decide +kernel
theorem dX6_runs_25 : decode cX6_runs 25 = .ok (.iload 4, 2) := by decide +kernel
theorem dX6_runs_27 : decode cX6_runs 27 = .ok (.imul, 1) := by decide +kernel
theorem dX6_runs_28 : decode cX6_runs 28 = .ok (.bipush 6, 2) := by decide +kernel
theorem dX6_runs_30 : decode cX6_runs 30 = .ok (.iadd, 1) := by decide +kernel
theorem dX6_runs_31 : decode cX6_runs 31 = .ok (.if_icmp .ge 64, 3) := by decide +kernel
theorem dX6_runs_34 : decode cX6_runs 34 = .ok (.aload_n 0, 1) := by decide +kernel
theorem dX6_runs_35 : decode cX6_runs 35 = .ok (.getfield 58, 3) := by decide +kernel
theorem dX6_runs_38 : decode cX6_runs 38 = .ok (.iload 5, 2) := by decide +kernel
theorem dX6_runs_40 : decode cX6_runs 40 = .ok (.aload_n 0, 1) := by decide +kernel
theorem dX6_runs_41 : decode cX6_runs 41 = .ok (.iload 5, 2) := by decide +kernel
theorem dX6_runs_43 : decode cX6_runs 43 = .ok (.lload_n 1, 1) := by decide +kernel
theorem dX6_runs_44 : decode cX6_runs 44 = .ok (.iload 5, 2) := by decide +kernel
theorem dX6_runs_46 : decode cX6_runs 46 = .ok (.lshr, 1) := by decide +kernel
theorem dX6_runs_47 : decode cX6_runs 47 = .ok (.lconst 1, 1) := by decide +kernel
theorem dX6_runs_48 : decode cX6_runs 48 = .ok (.land, 1) := by decide +kernel
theorem dX6_runs_49 : decode cX6_runs 49 = .ok (.lconst 1, 1) := by decide +kernel
theorem dX6_runs_50 : decode cX6_runs 50 = .ok (.lcmp, 1) := by decide +kernel
theorem dX6_runs_51 : decode cX6_runs 51 = .ok (.ifCond .ne 7, 3) := by decide +kernel
theorem dX6_runs_54 : decode cX6_runs 54 = .ok (.iconst 1, 1) := by decide +kernel
theorem dX6_runs_55 : decode cX6_runs 55 = .ok (.goto 4, 3) := by decide +kernel
theorem dX6_runs_58 : decode cX6_runs 58 = .ok (.iconst 0, 1) := by decide +kernel
theorem dX6_runs_59 : decode cX6_runs 59 = .ok (.iload_n 3, 1) := by decide +kernel
theorem dX6_runs_60 : decode cX6_runs 60 = .ok (.invokevirtual 205, 3) := by decide +kernel
theorem dX6_runs_63 : decode cX6_runs 63 = .ok (.iastore, 1) := by decide +kernel
theorem dX6_runs_64 : decode cX6_runs 64 = .ok (.aload_n 0, 1) := by decide +kernel
theorem dX6_runs_65 : decode cX6_runs 65 = .ok (.dup, 1) := by decide +kernel
theorem dX6_runs_66 : decode cX6_runs 66 = .ok (.getfield 202, 3) := by decide +kernel
theorem dX6_runs_69 : decode cX6_runs 69 = .ok (.aload_n 0, 1) := by decide +kernel
theorem dX6_runs_70 : decode cX6_runs 70 = .ok (.getfield 58, 3) := by decide +kernel
theorem dX6_runs_73 : decode cX6_runs 73 = .ok (.iload 5, 2) := by decide +kernel
theorem dX6_runs_75 : decode cX6_runs 75 = .ok (.iaload, 1) := by decide +kernel
theorem dX6_runs_76 : decode cX6_runs 76 = .ok (.iconst (-1), 1) := by decide +kernel
theorem dX6_runs_77 : decode cX6_runs 77 = .ok (.if_icmp .ne 7, 3) := by decide +kernel
theorem dX6_runs_80 : decode cX6_runs 80 = .ok (.iconst 0, 1) := by decide +kernel
theorem dX6_runs_81 : decode cX6_runs 81 = .ok (.goto 4, 3) := by decide +kernel
theorem dX6_runs_84 : decode cX6_runs 84 = .ok (.iconst 1, 1) := by decide +kernel
theorem dX6_runs_85 : decode cX6_runs 85 = .ok (.iadd, 1) := by decide +kernel
theorem dX6_runs_86 : decode cX6_runs 86 = .ok (.putfield 202, 3) := by decide +kernel
theorem dX6_runs_89 : decode cX6_runs 89 = .ok (.iinc 5 1, 3) := by decide +kernel
theorem dX6_runs_92 : decode cX6_runs 92 = .ok (.goto (-71), 3) := by decide +kernel
theorem dX6_runs_95 : decode cX6_runs 95 = .ok (.iinc 4 (-1), 3) := by decide +kernel
theorem dX6_runs_98 : decode cX6_runs 98 = .ok (.goto (-89), 3) := by decide +kernel
theorem dX6_runs_101 : decode cX6_runs 101 = .ok (.return_, 1) := by decide +kernel
theorem dX6_runsFrom_0 : decode cX6_runsFrom 0 = .ok (.aload_n 0, 1) := by decide +kernel
theorem dX6_runsFrom_1 : decode cX6_runsFrom 1 = .ok (.lconst 1, 1) := by decide +kernel
theorem dX6_runsFrom_2 : decode cX6_runsFrom 2 = .ok (.iload_n 1, 1) := by decide +kernel
theorem dX6_runsFrom_3 : decode cX6_runsFrom 3 = .ok (.lshl, 1) := by decide +kernel
theorem dX6_runsFrom_4 : decode cX6_runsFrom 4 = .ok (.iload_n 2, 1) := by decide +kernel
theorem dX6_runsFrom_5 : decode cX6_runsFrom 5 = .ok (.invokevirtual 209, 3) := by decide +kernel
theorem dX6_runsFrom_8 : decode cX6_runsFrom 8 = .ok (.return_, 1) := by decide +kernel
theorem dX6_lowest_0 : decode cX6_lowest 0 = .ok (.iconst 0, 1) := by decide +kernel
theorem dX6_lowest_1 : decode cX6_lowest 1 = .ok (.istore_n 1, 1) := by decide +kernel
theorem dX6_lowest_2 : decode cX6_lowest 2 = .ok (.iload_n 1, 1) := by decide +kernel
theorem dX6_lowest_3 : decode cX6_lowest 3 = .ok (.bipush 48, 2) := by decide +kernel
theorem dX6_lowest_5 : decode cX6_lowest 5 = .ok (.if_icmp .ge 24, 3) := by decide +kernel
theorem dX6_lowest_8 : decode cX6_lowest 8 = .ok (.aload_n 0, 1) := by decide +kernel
theorem dX6_lowest_9 : decode cX6_lowest 9 = .ok (.getfield 58, 3) := by decide +kernel
theorem dX6_lowest_12 : decode cX6_lowest 12 = .ok (.iload_n 1, 1) := by decide +kernel
theorem dX6_lowest_13 : decode cX6_lowest 13 = .ok (.iaload, 1) := by decide +kernel
theorem dX6_lowest_14 : decode cX6_lowest 14 = .ok (.iconst (-1), 1) := by decide +kernel
theorem dX6_lowest_15 : decode cX6_lowest 15 = .ok (.if_icmp .eq 8, 3) := by decide +kernel
theorem dX6_lowest_18 : decode cX6_lowest 18 = .ok (.iload_n 1, 1) := by decide +kernel
theorem dX6_lowest_19 : decode cX6_lowest 19 = .ok (.bipush 6, 2) := by decide +kernel
theorem dX6_lowest_21 : decode cX6_lowest 21 = .ok (.idiv, 1) := by decide +kernel
theorem dX6_lowest_22 : decode cX6_lowest 22 = .ok (.ireturn, 1) := by decide +kernel
theorem dX6_lowest_23 : decode cX6_lowest 23 = .ok (.iinc 1 1, 3) := by decide +kernel
theorem dX6_lowest_26 : decode cX6_lowest 26 = .ok (.goto (-24), 3) := by decide +kernel
theorem dX6_lowest_29 : decode cX6_lowest 29 = .ok (.iconst (-1), 1) := by decide +kernel
theorem dX6_lowest_30 : decode cX6_lowest 30 = .ok (.ireturn, 1) := by decide +kernel
theorem dX6_sumOf_0 : decode cX6_sumOf 0 = .ok (.iconst 0, 1) := by decide +kernel
theorem dX6_sumOf_1 : decode cX6_sumOf 1 = .ok (.istore_n 2, 1) := by decide +kernel
theorem dX6_sumOf_2 : decode cX6_sumOf 2 = .ok (.iconst 0, 1) := by decide +kernel
theorem dX6_sumOf_3 : decode cX6_sumOf 3 = .ok (.istore_n 3, 1) := by decide +kernel
theorem dX6_sumOf_4 : decode cX6_sumOf 4 = .ok (.iload_n 3, 1) := by decide +kernel
theorem dX6_sumOf_5 : decode cX6_sumOf 5 = .ok (.bipush 48, 2) := by decide +kernel
theorem dX6_sumOf_7 : decode cX6_sumOf 7 = .ok (.if_icmp .ge 38, 3) := by decide +kernel
theorem dX6_sumOf_10 : decode cX6_sumOf 10 = .ok (.iload_n 2, 1) := by decide +kernel
theorem dX6_sumOf_11 : decode cX6_sumOf 11 = .ok (.aload_n 0, 1) := by decide +kernel
theorem dX6_sumOf_12 : decode cX6_sumOf 12 = .ok (.getfield 58, 3) := by decide +kernel
theorem dX6_sumOf_15 : decode cX6_sumOf 15 = .ok (.iload_n 3, 1) := by decide +kernel
theorem dX6_sumOf_16 : decode cX6_sumOf 16 = .ok (.iaload, 1) := by decide +kernel
theorem dX6_sumOf_17 : decode cX6_sumOf 17 = .ok (.iconst (-1), 1) := by decide +kernel
theorem dX6_sumOf_18 : decode cX6_sumOf 18 = .ok (.if_icmp .ne 7, 3) := by decide +kernel
theorem dX6_sumOf_21 : decode cX6_sumOf 21 = .ok (.iconst 0, 1) := by decide +kernel
theorem dX6_sumOf_22 : decode cX6_sumOf 22 = .ok (.goto 15, 3) := by decide +kernel
theorem dX6_sumOf_25 : decode cX6_sumOf 25 = .ok (.aload_n 0, 1) := by decide +kernel
theorem dX6_sumOf_26 : decode cX6_sumOf 26 = .ok (.iload_n 1, 1) := by decide +kernel
theorem dX6_sumOf_27 : decode cX6_sumOf 27 = .ok (.iload_n 3, 1) := by decide +kernel
theorem dX6_sumOf_28 : decode cX6_sumOf 28 = .ok (.aload_n 0, 1) := by decide +kernel
theorem dX6_sumOf_29 : decode cX6_sumOf 29 = .ok (.getfield 58, 3) := by decide +kernel
theorem dX6_sumOf_32 : decode cX6_sumOf 32 = .ok (.iload_n 3, 1) := by decide +kernel
theorem dX6_sumOf_33 : decode cX6_sumOf 33 = .ok (.iaload, 1) := by decide +kernel
theorem dX6_sumOf_34 : decode cX6_sumOf 34 = .ok (.invokevirtual 161, 3) := by decide +kernel
theorem dX6_sumOf_37 : decode cX6_sumOf 37 = .ok (.iadd, 1) := by decide +kernel
theorem dX6_sumOf_38 : decode cX6_sumOf 38 = .ok (.istore_n 2, 1) := by decide +kernel
theorem dX6_sumOf_39 : decode cX6_sumOf 39 = .ok (.iinc 3 1, 3) := by decide +kernel
theorem dX6_sumOf_42 : decode cX6_sumOf 42 = .ok (.goto (-38), 3) := by decide +kernel
theorem dX6_sumOf_45 : decode cX6_sumOf 45 = .ok (.iload_n 2, 1) := by decide +kernel
theorem dX6_sumOf_46 : decode cX6_sumOf 46 = .ok (.ireturn, 1) := by decide +kernel
theorem dX6_run_0 : decode cX6_run 0 = .ok (.iload_n 1, 1) := by decide +kernel
theorem dX6_run_1 : decode cX6_run 1 = .ok (.invokestatic 155, 3) := by decide +kernel
theorem dX6_run_4 : decode cX6_run 4 = .ok (.ifCond .ne 6, 3) := by decide +kernel
theorem dX6_run_7 : decode cX6_run 7 = .ok (.bipush (-5), 2) := by decide +kernel
theorem dX6_run_9 : decode cX6_run 9 = .ok (.ireturn, 1) := by decide +kernel
theorem dX6_run_10 : decode cX6_run 10 = .ok (.iload_n 2, 1) := by decide +kernel
theorem dX6_run_11 : decode cX6_run 11 = .ok (.invokestatic 158, 3) := by decide +kernel
theorem dX6_run_14 : decode cX6_run 14 = .ok (.ifCond .eq 12, 3) := by decide +kernel
theorem dX6_run_17 : decode cX6_run 17 = .ok (.iload_n 3, 1) := by decide +kernel
theorem dX6_run_18 : decode cX6_run 18 = .ok (.iconst 0, 1) := by decide +kernel
theorem dX6_run_19 : decode cX6_run 19 = .ok (.iconst 3, 1) := by decide +kernel
theorem dX6_run_20 : decode cX6_run 20 = .ok (.invokestatic 69, 3) := by decide +kernel
theorem dX6_run_23 : decode cX6_run 23 = .ok (.ifCond .ne 6, 3) := by decide +kernel
theorem dX6_run_26 : decode cX6_run 26 = .ok (.bipush (-7), 2) := by decide +kernel
theorem dX6_run_28 : decode cX6_run 28 = .ok (.ireturn, 1) := by decide +kernel
theorem dX6_run_29 : decode cX6_run 29 = .ok (.aload_n 0, 1) := by decide +kernel
theorem dX6_run_30 : decode cX6_run 30 = .ok (.iload_n 1, 1) := by decide +kernel
theorem dX6_run_31 : decode cX6_run 31 = .ok (.iload_n 2, 1) := by decide +kernel
theorem dX6_run_32 : decode cX6_run 32 = .ok (.invokevirtual 213, 3) := by decide +kernel
theorem dX6_run_35 : decode cX6_run 35 = .ok (.iload_n 3, 1) := by decide +kernel
theorem dX6_run_36 : decode cX6_run 36 = .ok (.ifCond .ne 10, 3) := by decide +kernel
theorem dX6_run_39 : decode cX6_run 39 = .ok (.aload_n 0, 1) := by decide +kernel
theorem dX6_run_40 : decode cX6_run 40 = .ok (.getfield 202, 3) := by decide +kernel
theorem dX6_run_43 : decode cX6_run 43 = .ok (.goto 22, 3) := by decide +kernel
theorem dX6_run_46 : decode cX6_run 46 = .ok (.iload_n 3, 1) := by decide +kernel
theorem dX6_run_47 : decode cX6_run 47 = .ok (.iconst 1, 1) := by decide +kernel
theorem dX6_run_48 : decode cX6_run 48 = .ok (.if_icmp .ne 10, 3) := by decide +kernel
theorem dX6_run_51 : decode cX6_run 51 = .ok (.aload_n 0, 1) := by decide +kernel
theorem dX6_run_52 : decode cX6_run 52 = .ok (.invokevirtual 217, 3) := by decide +kernel
theorem dX6_run_55 : decode cX6_run 55 = .ok (.goto 10, 3) := by decide +kernel
theorem dX6_run_58 : decode cX6_run 58 = .ok (.aload_n 0, 1) := by decide +kernel
theorem dX6_run_59 : decode cX6_run 59 = .ok (.iload_n 3, 1) := by decide +kernel
theorem dX6_run_60 : decode cX6_run 60 = .ok (.iconst 1, 1) := by decide +kernel
theorem dX6_run_61 : decode cX6_run 61 = .ok (.isub, 1) := by decide +kernel
theorem dX6_run_62 : decode cX6_run 62 = .ok (.invokevirtual 220, 3) := by decide +kernel
theorem dX6_run_65 : decode cX6_run 65 = .ok (.ireturn, 1) := by decide +kernel
theorem dX6_goes_0 : decode cX6_goes 0 = .ok (.iload_n 1, 1) := by decide +kernel
theorem dX6_goes_1 : decode cX6_goes 1 = .ok (.invokestatic 155, 3) := by decide +kernel
theorem dX6_goes_4 : decode cX6_goes 4 = .ok (.ifCond .eq 19, 3) := by decide +kernel
theorem dX6_goes_7 : decode cX6_goes 7 = .ok (.iload_n 2, 1) := by decide +kernel
theorem dX6_goes_8 : decode cX6_goes 8 = .ok (.invokestatic 158, 3) := by decide +kernel
theorem dX6_goes_11 : decode cX6_goes 11 = .ok (.ifCond .eq 12, 3) := by decide +kernel
theorem dX6_goes_14 : decode cX6_goes 14 = .ok (.iload_n 3, 1) := by decide +kernel
theorem dX6_goes_15 : decode cX6_goes 15 = .ok (.iconst 0, 1) := by decide +kernel
theorem dX6_goes_16 : decode cX6_goes 16 = .ok (.iconst 1, 1) := by decide +kernel
theorem dX6_goes_17 : decode cX6_goes 17 = .ok (.invokestatic 69, 3) := by decide +kernel
theorem dX6_goes_20 : decode cX6_goes 20 = .ok (.ifCond .ne 7, 3) := by decide +kernel
theorem dX6_goes_23 : decode cX6_goes 23 = .ok (.ldc2_w 181, 3) := by decide +kernel
theorem dX6_goes_26 : decode cX6_goes 26 = .ok (.lreturn, 1) := by decide +kernel
theorem dX6_goes_27 : decode cX6_goes 27 = .ok (.aload_n 0, 1) := by decide +kernel
theorem dX6_goes_28 : decode cX6_goes 28 = .ok (.iload_n 1, 1) := by decide +kernel
theorem dX6_goes_29 : decode cX6_goes 29 = .ok (.iload_n 2, 1) := by decide +kernel
theorem dX6_goes_30 : decode cX6_goes 30 = .ok (.invokevirtual 213, 3) := by decide +kernel
theorem dX6_goes_33 : decode cX6_goes 33 = .ok (.lconst 0, 1) := by decide +kernel
theorem dX6_goes_34 : decode cX6_goes 34 = .ok (.lstore 4, 2) := by decide +kernel
theorem dX6_goes_36 : decode cX6_goes 36 = .ok (.iconst 0, 1) := by decide +kernel
theorem dX6_goes_37 : decode cX6_goes 37 = .ok (.istore 6, 2) := by decide +kernel
theorem dX6_goes_39 : decode cX6_goes 39 = .ok (.iload 6, 2) := by decide +kernel
theorem dX6_goes_41 : decode cX6_goes 41 = .ok (.bipush 48, 2) := by decide +kernel
theorem dX6_goes_43 : decode cX6_goes 43 = .ok (.if_icmp .ge 78, 3) := by decide +kernel
theorem dX6_goes_46 : decode cX6_goes 46 = .ok (.iload_n 3, 1) := by decide +kernel
theorem dX6_goes_47 : decode cX6_goes 47 = .ok (.ifCond .ne 22, 3) := by decide +kernel
theorem dX6_goes_50 : decode cX6_goes 50 = .ok (.aload_n 0, 1) := by decide +kernel
theorem dX6_goes_51 : decode cX6_goes 51 = .ok (.getfield 58, 3) := by decide +kernel
theorem dX6_goes_54 : decode cX6_goes 54 = .ok (.iload 6, 2) := by decide +kernel
theorem dX6_goes_56 : decode cX6_goes 56 = .ok (.iaload, 1) := by decide +kernel
theorem dX6_goes_57 : decode cX6_goes 57 = .ok (.iconst (-1), 1) := by decide +kernel
theorem dX6_goes_58 : decode cX6_goes 58 = .ok (.if_icmp .eq 7, 3) := by decide +kernel
theorem dX6_goes_61 : decode cX6_goes 61 = .ok (.iconst 1, 1) := by decide +kernel
theorem dX6_goes_62 : decode cX6_goes 62 = .ok (.goto 33, 3) := by decide +kernel
theorem dX6_goes_65 : decode cX6_goes 65 = .ok (.iconst 0, 1) := by decide +kernel
theorem dX6_goes_66 : decode cX6_goes 66 = .ok (.goto 29, 3) := by decide +kernel
theorem dX6_goes_69 : decode cX6_goes 69 = .ok (.aload_n 0, 1) := by decide +kernel
theorem dX6_goes_70 : decode cX6_goes 70 = .ok (.getfield 58, 3) := by decide +kernel
theorem dX6_goes_73 : decode cX6_goes 73 = .ok (.iload 6, 2) := by decide +kernel
theorem dX6_goes_75 : decode cX6_goes 75 = .ok (.iaload, 1) := by decide +kernel
theorem dX6_goes_76 : decode cX6_goes 76 = .ok (.iconst (-1), 1) := by decide +kernel
theorem dX6_goes_77 : decode cX6_goes 77 = .ok (.if_icmp .ne 17, 3) := by decide +kernel
theorem dX6_goes_80 : decode cX6_goes 80 = .ok (.aload_n 0, 1) := by decide +kernel
theorem dX6_goes_81 : decode cX6_goes 81 = .ok (.iload 6, 2) := by decide +kernel
theorem dX6_goes_83 : decode cX6_goes 83 = .ok (.invokevirtual 196, 3) := by decide +kernel
theorem dX6_goes_86 : decode cX6_goes 86 = .ok (.iconst (-1), 1) := by decide +kernel
theorem dX6_goes_87 : decode cX6_goes 87 = .ok (.if_icmp .eq 7, 3) := by decide +kernel
theorem dX6_goes_90 : decode cX6_goes 90 = .ok (.iconst 1, 1) := by decide +kernel
theorem dX6_goes_91 : decode cX6_goes 91 = .ok (.goto 4, 3) := by decide +kernel
theorem dX6_goes_94 : decode cX6_goes 94 = .ok (.iconst 0, 1) := by decide +kernel
theorem dX6_goes_95 : decode cX6_goes 95 = .ok (.istore 7, 2) := by decide +kernel
theorem dX6_goes_97 : decode cX6_goes 97 = .ok (.lload 4, 2) := by decide +kernel
theorem dX6_goes_99 : decode cX6_goes 99 = .ok (.iload 7, 2) := by decide +kernel
theorem dX6_goes_101 : decode cX6_goes 101 = .ok (.ifCond .eq 10, 3) := by decide +kernel
theorem dX6_goes_104 : decode cX6_goes 104 = .ok (.lconst 1, 1) := by decide +kernel
theorem dX6_goes_105 : decode cX6_goes 105 = .ok (.iload 6, 2) := by decide +kernel
theorem dX6_goes_107 : decode cX6_goes 107 = .ok (.lshl, 1) := by decide +kernel
theorem dX6_goes_108 : decode cX6_goes 108 = .ok (.goto 4, 3) := by decide +kernel
theorem dX6_goes_111 : decode cX6_goes 111 = .ok (.lconst 0, 1) := by decide +kernel
theorem dX6_goes_112 : decode cX6_goes 112 = .ok (.lor, 1) := by decide +kernel
theorem dX6_goes_113 : decode cX6_goes 113 = .ok (.lstore 4, 2) := by decide +kernel
theorem dX6_goes_115 : decode cX6_goes 115 = .ok (.iinc 6 1, 3) := by decide +kernel
theorem dX6_goes_118 : decode cX6_goes 118 = .ok (.goto (-79), 3) := by decide +kernel
theorem dX6_goes_121 : decode cX6_goes 121 = .ok (.lload 4, 2) := by decide +kernel
theorem dX6_goes_123 : decode cX6_goes 123 = .ok (.lreturn, 1) := by decide +kernel
theorem dX6_left_0 : decode cX6_left 0 = .ok (.iload_n 1, 1) := by decide +kernel
theorem dX6_left_1 : decode cX6_left 1 = .ok (.invokestatic 155, 3) := by decide +kernel
theorem dX6_left_4 : decode cX6_left 4 = .ok (.ifCond .eq 10, 3) := by decide +kernel
theorem dX6_left_7 : decode cX6_left 7 = .ok (.iload_n 3, 1) := by decide +kernel
theorem dX6_left_8 : decode cX6_left 8 = .ok (.invokestatic 155, 3) := by decide +kernel
theorem dX6_left_11 : decode cX6_left 11 = .ok (.ifCond .ne 6, 3) := by decide +kernel
theorem dX6_left_14 : decode cX6_left 14 = .ok (.bipush (-5), 2) := by decide +kernel
theorem dX6_left_16 : decode cX6_left 16 = .ok (.ireturn, 1) := by decide +kernel
theorem dX6_left_17 : decode cX6_left 17 = .ok (.iload_n 2, 1) := by decide +kernel
theorem dX6_left_18 : decode cX6_left 18 = .ok (.invokestatic 158, 3) := by decide +kernel
theorem dX6_left_21 : decode cX6_left 21 = .ok (.ifCond .ne 6, 3) := by decide +kernel
theorem dX6_left_24 : decode cX6_left 24 = .ok (.bipush (-7), 2) := by decide +kernel
theorem dX6_left_26 : decode cX6_left 26 = .ok (.ireturn, 1) := by decide +kernel
theorem dX6_left_27 : decode cX6_left 27 = .ok (.aload_n 0, 1) := by decide +kernel
theorem dX6_left_28 : decode cX6_left 28 = .ok (.iload_n 1, 1) := by decide +kernel
theorem dX6_left_29 : decode cX6_left 29 = .ok (.iload_n 2, 1) := by decide +kernel
theorem dX6_left_30 : decode cX6_left 30 = .ok (.invokevirtual 213, 3) := by decide +kernel
theorem dX6_left_33 : decode cX6_left 33 = .ok (.aload_n 0, 1) := by decide +kernel
theorem dX6_left_34 : decode cX6_left 34 = .ok (.getfield 58, 3) := by decide +kernel
theorem dX6_left_37 : decode cX6_left 37 = .ok (.iload_n 3, 1) := by decide +kernel
theorem dX6_left_38 : decode cX6_left 38 = .ok (.iaload, 1) := by decide +kernel
theorem dX6_left_39 : decode cX6_left 39 = .ok (.ireturn, 1) := by decide +kernel
theorem dX6_most_0 : decode cX6_most 0 = .ok (.iload_n 1, 1) := by decide +kernel
theorem dX6_most_1 : decode cX6_most 1 = .ok (.invokestatic 158, 3) := by decide +kernel
theorem dX6_most_4 : decode cX6_most 4 = .ok (.ifCond .eq 12, 3) := by decide +kernel
theorem dX6_most_7 : decode cX6_most 7 = .ok (.iload_n 2, 1) := by decide +kernel
theorem dX6_most_8 : decode cX6_most 8 = .ok (.iconst 0, 1) := by decide +kernel
theorem dX6_most_9 : decode cX6_most 9 = .ok (.iconst 1, 1) := by decide +kernel
theorem dX6_most_10 : decode cX6_most 10 = .ok (.invokestatic 69, 3) := by decide +kernel
theorem dX6_most_13 : decode cX6_most 13 = .ok (.ifCond .ne 6, 3) := by decide +kernel
theorem dX6_most_16 : decode cX6_most 16 = .ok (.bipush (-2), 2) := by decide +kernel
theorem dX6_most_18 : decode cX6_most 18 = .ok (.ireturn, 1) := by decide +kernel
theorem dX6_most_19 : decode cX6_most 19 = .ok (.iconst 0, 1) := by decide +kernel
theorem dX6_most_20 : decode cX6_most 20 = .ok (.istore_n 3, 1) := by decide +kernel
theorem dX6_most_21 : decode cX6_most 21 = .ok (.iconst (-1), 1) := by decide +kernel
theorem dX6_most_22 : decode cX6_most 22 = .ok (.istore 4, 2) := by decide +kernel
theorem dX6_most_24 : decode cX6_most 24 = .ok (.iconst 0, 1) := by decide +kernel
theorem dX6_most_25 : decode cX6_most 25 = .ok (.istore 5, 2) := by decide +kernel
theorem dX6_most_27 : decode cX6_most 27 = .ok (.iload 5, 2) := by decide +kernel
theorem dX6_most_29 : decode cX6_most 29 = .ok (.bipush 48, 2) := by decide +kernel
theorem dX6_most_31 : decode cX6_most 31 = .ok (.if_icmp .ge 52, 3) := by decide +kernel
theorem dX6_most_34 : decode cX6_most 34 = .ok (.aload_n 0, 1) := by decide +kernel
theorem dX6_most_35 : decode cX6_most 35 = .ok (.iload 5, 2) := by decide +kernel
theorem dX6_most_37 : decode cX6_most 37 = .ok (.iload_n 1, 1) := by decide +kernel
theorem dX6_most_38 : decode cX6_most 38 = .ok (.invokevirtual 213, 3) := by decide +kernel
theorem dX6_most_41 : decode cX6_most 41 = .ok (.aload_n 0, 1) := by decide +kernel
theorem dX6_most_42 : decode cX6_most 42 = .ok (.getfield 202, 3) := by decide +kernel
theorem dX6_most_45 : decode cX6_most 45 = .ok (.iload 4, 2) := by decide +kernel
theorem dX6_most_47 : decode cX6_most 47 = .ok (.if_icmp .le 8, 3) := by decide +kernel
theorem dX6_most_50 : decode cX6_most 50 = .ok (.iload 5, 2) := by decide +kernel
theorem dX6_most_52 : decode cX6_most 52 = .ok (.goto 4, 3) := by decide +kernel
theorem dX6_most_55 : decode cX6_most 55 = .ok (.iload_n 3, 1) := by decide +kernel
theorem dX6_most_56 : decode cX6_most 56 = .ok (.istore_n 3, 1) := by decide +kernel
theorem dX6_most_57 : decode cX6_most 57 = .ok (.aload_n 0, 1) := by decide +kernel
theorem dX6_most_58 : decode cX6_most 58 = .ok (.getfield 202, 3) := by decide +kernel
theorem dX6_most_61 : decode cX6_most 61 = .ok (.iload 4, 2) := by decide +kernel
theorem dX6_most_63 : decode cX6_most 63 = .ok (.if_icmp .le 10, 3) := by decide +kernel
theorem dX6_most_66 : decode cX6_most 66 = .ok (.aload_n 0, 1) := by decide +kernel
theorem dX6_most_67 : decode cX6_most 67 = .ok (.getfield 202, 3) := by decide +kernel
theorem dX6_most_70 : decode cX6_most 70 = .ok (.goto 5, 3) := by decide +kernel
theorem dX6_most_73 : decode cX6_most 73 = .ok (.iload 4, 2) := by decide +kernel
theorem dX6_most_75 : decode cX6_most 75 = .ok (.istore 4, 2) := by decide +kernel
theorem dX6_most_77 : decode cX6_most 77 = .ok (.iinc 5 1, 3) := by decide +kernel
theorem dX6_most_80 : decode cX6_most 80 = .ok (.goto (-53), 3) := by decide +kernel
theorem dX6_most_83 : decode cX6_most 83 = .ok (.iload_n 2, 1) := by decide +kernel
theorem dX6_most_84 : decode cX6_most 84 = .ok (.ifCond .ne 7, 3) := by decide +kernel
theorem dX6_most_87 : decode cX6_most 87 = .ok (.iload_n 3, 1) := by decide +kernel
theorem dX6_most_88 : decode cX6_most 88 = .ok (.goto 5, 3) := by decide +kernel
theorem dX6_most_91 : decode cX6_most 91 = .ok (.iload 4, 2) := by decide +kernel
theorem dX6_most_93 : decode cX6_most 93 = .ok (.ireturn, 1) := by decide +kernel
theorem dX6_column_0 : decode cX6_column 0 = .ok (.iload_n 1, 1) := by decide +kernel
theorem dX6_column_1 : decode cX6_column 1 = .ok (.iconst 0, 1) := by decide +kernel
theorem dX6_column_2 : decode cX6_column 2 = .ok (.iconst 5, 1) := by decide +kernel
theorem dX6_column_3 : decode cX6_column 3 = .ok (.invokestatic 69, 3) := by decide +kernel
theorem dX6_column_6 : decode cX6_column 6 = .ok (.ifCond .ne 6, 3) := by decide +kernel
theorem dX6_column_9 : decode cX6_column 9 = .ok (.bipush (-5), 2) := by decide +kernel
theorem dX6_column_11 : decode cX6_column 11 = .ok (.ireturn, 1) := by decide +kernel
theorem dX6_column_12 : decode cX6_column 12 = .ok (.iload_n 2, 1) := by decide +kernel
theorem dX6_column_13 : decode cX6_column 13 = .ok (.invokestatic 158, 3) := by decide +kernel
theorem dX6_column_16 : decode cX6_column 16 = .ok (.ifCond .eq 12, 3) := by decide +kernel
theorem dX6_column_19 : decode cX6_column 19 = .ok (.iload_n 3, 1) := by decide +kernel
theorem dX6_column_20 : decode cX6_column 20 = .ok (.iconst 0, 1) := by decide +kernel
theorem dX6_column_21 : decode cX6_column 21 = .ok (.iconst 1, 1) := by decide +kernel
theorem dX6_column_22 : decode cX6_column 22 = .ok (.invokestatic 69, 3) := by decide +kernel
theorem dX6_column_25 : decode cX6_column 25 = .ok (.ifCond .ne 6, 3) := by decide +kernel
theorem dX6_column_28 : decode cX6_column 28 = .ok (.bipush (-7), 2) := by decide +kernel
theorem dX6_column_30 : decode cX6_column 30 = .ok (.ireturn, 1) := by decide +kernel
theorem dX6_column_31 : decode cX6_column 31 = .ok (.lconst 0, 1) := by decide +kernel
theorem dX6_column_32 : decode cX6_column 32 = .ok (.lstore 4, 2) := by decide +kernel
theorem dX6_column_34 : decode cX6_column 34 = .ok (.iconst 0, 1) := by decide +kernel
theorem dX6_column_35 : decode cX6_column 35 = .ok (.istore 6, 2) := by decide +kernel
theorem dX6_column_37 : decode cX6_column 37 = .ok (.iload 6, 2) := by decide +kernel
theorem dX6_column_39 : decode cX6_column 39 = .ok (.bipush 8, 2) := by decide +kernel
theorem dX6_column_41 : decode cX6_column 41 = .ok (.if_icmp .ge 23, 3) := by decide +kernel
theorem dX6_column_44 : decode cX6_column 44 = .ok (.lload 4, 2) := by decide +kernel
theorem dX6_column_46 : decode cX6_column 46 = .ok (.lconst 1, 1) := by decide +kernel
theorem dX6_column_47 : decode cX6_column 47 = .ok (.bipush 6, 2) := by decide +kernel
theorem dX6_column_49 : decode cX6_column 49 = .ok (.iload 6, 2) := by decide +kernel
theorem dX6_column_51 : decode cX6_column 51 = .ok (.imul, 1) := by decide +kernel
theorem dX6_column_52 : decode cX6_column 52 = .ok (.iload_n 1, 1) := by decide +kernel
theorem dX6_column_53 : decode cX6_column 53 = .ok (.iadd, 1) := by decide +kernel
theorem dX6_column_54 : decode cX6_column 54 = .ok (.lshl, 1) := by decide +kernel
theorem dX6_column_55 : decode cX6_column 55 = .ok (.lor, 1) := by decide +kernel
theorem dX6_column_56 : decode cX6_column 56 = .ok (.lstore 4, 2) := by decide +kernel
theorem dX6_column_58 : decode cX6_column 58 = .ok (.iinc 6 1, 3) := by decide +kernel
theorem dX6_column_61 : decode cX6_column 61 = .ok (.goto (-24), 3) := by decide +kernel
theorem dX6_column_64 : decode cX6_column 64 = .ok (.aload_n 0, 1) := by decide +kernel
theorem dX6_column_65 : decode cX6_column 65 = .ok (.lload 4, 2) := by decide +kernel
theorem dX6_column_67 : decode cX6_column 67 = .ok (.iload_n 2, 1) := by decide +kernel
theorem dX6_column_68 : decode cX6_column 68 = .ok (.invokevirtual 209, 3) := by decide +kernel
theorem dX6_column_71 : decode cX6_column 71 = .ok (.iconst 0, 1) := by decide +kernel
theorem dX6_column_72 : decode cX6_column 72 = .ok (.istore 6, 2) := by decide +kernel
theorem dX6_column_74 : decode cX6_column 74 = .ok (.iconst 0, 1) := by decide +kernel
theorem dX6_column_75 : decode cX6_column 75 = .ok (.istore 7, 2) := by decide +kernel
theorem dX6_column_77 : decode cX6_column 77 = .ok (.iload 7, 2) := by decide +kernel
theorem dX6_column_79 : decode cX6_column 79 = .ok (.bipush 48, 2) := by decide +kernel
theorem dX6_column_81 : decode cX6_column 81 = .ok (.if_icmp .ge 39, 3) := by decide +kernel
theorem dX6_column_84 : decode cX6_column 84 = .ok (.iload 6, 2) := by decide +kernel
theorem dX6_column_86 : decode cX6_column 86 = .ok (.iload 7, 2) := by decide +kernel
theorem dX6_column_88 : decode cX6_column 88 = .ok (.bipush 6, 2) := by decide +kernel
theorem dX6_column_90 : decode cX6_column 90 = .ok (.irem, 1) := by decide +kernel
theorem dX6_column_91 : decode cX6_column 91 = .ok (.iload_n 1, 1) := by decide +kernel
theorem dX6_column_92 : decode cX6_column 92 = .ok (.if_icmp .eq 18, 3) := by decide +kernel
theorem dX6_column_95 : decode cX6_column 95 = .ok (.aload_n 0, 1) := by decide +kernel
theorem dX6_column_96 : decode cX6_column 96 = .ok (.getfield 58, 3) := by decide +kernel
theorem dX6_column_99 : decode cX6_column 99 = .ok (.iload 7, 2) := by decide +kernel
theorem dX6_column_101 : decode cX6_column 101 = .ok (.iaload, 1) := by decide +kernel
theorem dX6_column_102 : decode cX6_column 102 = .ok (.iconst (-1), 1) := by decide +kernel
theorem dX6_column_103 : decode cX6_column 103 = .ok (.if_icmp .eq 7, 3) := by decide +kernel
theorem dX6_column_106 : decode cX6_column 106 = .ok (.iconst 1, 1) := by decide +kernel
theorem dX6_column_107 : decode cX6_column 107 = .ok (.goto 4, 3) := by decide +kernel
theorem dX6_column_110 : decode cX6_column 110 = .ok (.iconst 0, 1) := by decide +kernel
theorem dX6_column_111 : decode cX6_column 111 = .ok (.iadd, 1) := by decide +kernel
theorem dX6_column_112 : decode cX6_column 112 = .ok (.istore 6, 2) := by decide +kernel
theorem dX6_column_114 : decode cX6_column 114 = .ok (.iinc 7 1, 3) := by decide +kernel
theorem dX6_column_117 : decode cX6_column 117 = .ok (.goto (-40), 3) := by decide +kernel
theorem dX6_column_120 : decode cX6_column 120 = .ok (.iload_n 3, 1) := by decide +kernel
theorem dX6_column_121 : decode cX6_column 121 = .ok (.ifCond .ne 10, 3) := by decide +kernel
theorem dX6_column_124 : decode cX6_column 124 = .ok (.aload_n 0, 1) := by decide +kernel
theorem dX6_column_125 : decode cX6_column 125 = .ok (.getfield 202, 3) := by decide +kernel
theorem dX6_column_128 : decode cX6_column 128 = .ok (.goto 5, 3) := by decide +kernel
theorem dX6_column_131 : decode cX6_column 131 = .ok (.iload 6, 2) := by decide +kernel
theorem dX6_column_133 : decode cX6_column 133 = .ok (.ireturn, 1) := by decide +kernel
theorem dX6_line_0 : decode cX6_line 0 = .ok (.iload_n 1, 1) := by decide +kernel
theorem dX6_line_1 : decode cX6_line 1 = .ok (.invokestatic 155, 3) := by decide +kernel
theorem dX6_line_4 : decode cX6_line 4 = .ok (.ifCond .ne 6, 3) := by decide +kernel
theorem dX6_line_7 : decode cX6_line 7 = .ok (.bipush (-5), 2) := by decide +kernel
theorem dX6_line_9 : decode cX6_line 9 = .ok (.ireturn, 1) := by decide +kernel
theorem dX6_line_10 : decode cX6_line 10 = .ok (.iload_n 2, 1) := by decide +kernel
theorem dX6_line_11 : decode cX6_line 11 = .ok (.iconst 0, 1) := by decide +kernel
theorem dX6_line_12 : decode cX6_line 12 = .ok (.bipush 48, 2) := by decide +kernel
theorem dX6_line_14 : decode cX6_line 14 = .ok (.invokestatic 69, 3) := by decide +kernel
theorem dX6_line_17 : decode cX6_line 17 = .ok (.ifCond .ne 6, 3) := by decide +kernel
theorem dX6_line_20 : decode cX6_line 20 = .ok (.bipush (-7), 2) := by decide +kernel
theorem dX6_line_22 : decode cX6_line 22 = .ok (.ireturn, 1) := by decide +kernel
theorem dX6_line_23 : decode cX6_line 23 = .ok (.iconst 0, 1) := by decide +kernel
theorem dX6_line_24 : decode cX6_line 24 = .ok (.istore_n 3, 1) := by decide +kernel
theorem dX6_line_25 : decode cX6_line 25 = .ok (.iload_n 3, 1) := by decide +kernel
theorem dX6_line_26 : decode cX6_line 26 = .ok (.bipush 99, 2) := by decide +kernel
theorem dX6_line_28 : decode cX6_line 28 = .ok (.if_icmp .gt 25, 3) := by decide +kernel
theorem dX6_line_31 : decode cX6_line 31 = .ok (.aload_n 0, 1) := by decide +kernel
theorem dX6_line_32 : decode cX6_line 32 = .ok (.iload_n 1, 1) := by decide +kernel
theorem dX6_line_33 : decode cX6_line 33 = .ok (.iload_n 3, 1) := by decide +kernel
theorem dX6_line_34 : decode cX6_line 34 = .ok (.invokevirtual 213, 3) := by decide +kernel
theorem dX6_line_37 : decode cX6_line 37 = .ok (.aload_n 0, 1) := by decide +kernel
theorem dX6_line_38 : decode cX6_line 38 = .ok (.getfield 202, 3) := by decide +kernel
theorem dX6_line_41 : decode cX6_line 41 = .ok (.iload_n 2, 1) := by decide +kernel
theorem dX6_line_42 : decode cX6_line 42 = .ok (.if_icmp .le 5, 3) := by decide +kernel
theorem dX6_line_45 : decode cX6_line 45 = .ok (.iload_n 3, 1) := by decide +kernel
theorem dX6_line_46 : decode cX6_line 46 = .ok (.ireturn, 1) := by decide +kernel
theorem dX6_line_47 : decode cX6_line 47 = .ok (.iinc 3 1, 3) := by decide +kernel
theorem dX6_line_50 : decode cX6_line 50 = .ok (.goto (-25), 3) := by decide +kernel
theorem dX6_line_53 : decode cX6_line 53 = .ok (.iconst (-1), 1) := by decide +kernel
theorem dX6_line_54 : decode cX6_line 54 = .ok (.ireturn, 1) := by decide +kernel
theorem dX6_reach_0 : decode cX6_reach 0 = .ok (.iload_n 1, 1) := by decide +kernel
theorem dX6_reach_1 : decode cX6_reach 1 = .ok (.invokestatic 155, 3) := by decide +kernel
theorem dX6_reach_4 : decode cX6_reach 4 = .ok (.ifCond .eq 10, 3) := by decide +kernel
theorem dX6_reach_7 : decode cX6_reach 7 = .ok (.iload_n 2, 1) := by decide +kernel
theorem dX6_reach_8 : decode cX6_reach 8 = .ok (.invokestatic 155, 3) := by decide +kernel
theorem dX6_reach_11 : decode cX6_reach 11 = .ok (.ifCond .ne 6, 3) := by decide +kernel
theorem dX6_reach_14 : decode cX6_reach 14 = .ok (.bipush (-5), 2) := by decide +kernel
theorem dX6_reach_16 : decode cX6_reach 16 = .ok (.ireturn, 1) := by decide +kernel
theorem dX6_reach_17 : decode cX6_reach 17 = .ok (.iconst 0, 1) := by decide +kernel
theorem dX6_reach_18 : decode cX6_reach 18 = .ok (.istore_n 3, 1) := by decide +kernel
theorem dX6_reach_19 : decode cX6_reach 19 = .ok (.iload_n 3, 1) := by decide +kernel
theorem dX6_reach_20 : decode cX6_reach 20 = .ok (.bipush 99, 2) := by decide +kernel
theorem dX6_reach_22 : decode cX6_reach 22 = .ok (.if_icmp .gt 27, 3) := by decide +kernel
theorem dX6_reach_25 : decode cX6_reach 25 = .ok (.aload_n 0, 1) := by decide +kernel
theorem dX6_reach_26 : decode cX6_reach 26 = .ok (.iload_n 1, 1) := by decide +kernel
theorem dX6_reach_27 : decode cX6_reach 27 = .ok (.iload_n 3, 1) := by decide +kernel
theorem dX6_reach_28 : decode cX6_reach 28 = .ok (.invokevirtual 213, 3) := by decide +kernel
theorem dX6_reach_31 : decode cX6_reach 31 = .ok (.aload_n 0, 1) := by decide +kernel
theorem dX6_reach_32 : decode cX6_reach 32 = .ok (.getfield 58, 3) := by decide +kernel
theorem dX6_reach_35 : decode cX6_reach 35 = .ok (.iload_n 2, 1) := by decide +kernel
theorem dX6_reach_36 : decode cX6_reach 36 = .ok (.iaload, 1) := by decide +kernel
theorem dX6_reach_37 : decode cX6_reach 37 = .ok (.iconst (-1), 1) := by decide +kernel
theorem dX6_reach_38 : decode cX6_reach 38 = .ok (.if_icmp .eq 5, 3) := by decide +kernel
theorem dX6_reach_41 : decode cX6_reach 41 = .ok (.iload_n 3, 1) := by decide +kernel
theorem dX6_reach_42 : decode cX6_reach 42 = .ok (.ireturn, 1) := by decide +kernel
theorem dX6_reach_43 : decode cX6_reach 43 = .ok (.iinc 3 1, 3) := by decide +kernel
theorem dX6_reach_46 : decode cX6_reach 46 = .ok (.goto (-27), 3) := by decide +kernel
theorem dX6_reach_49 : decode cX6_reach 49 = .ok (.iconst (-1), 1) := by decide +kernel
theorem dX6_reach_50 : decode cX6_reach 50 = .ok (.ireturn, 1) := by decide +kernel
theorem dX6_went_0 : decode cX6_went 0 = .ok (.lconst 0, 1) := by decide +kernel
theorem dX6_went_1 : decode cX6_went 1 = .ok (.lstore_n 1, 1) := by decide +kernel
theorem dX6_went_2 : decode cX6_went 2 = .ok (.iconst 0, 1) := by decide +kernel
theorem dX6_went_3 : decode cX6_went 3 = .ok (.istore_n 3, 1) := by decide +kernel
theorem dX6_went_4 : decode cX6_went 4 = .ok (.iload_n 3, 1) := by decide +kernel
theorem dX6_went_5 : decode cX6_went 5 = .ok (.bipush 48, 2) := by decide +kernel
theorem dX6_went_7 : decode cX6_went 7 = .ok (.if_icmp .ge 29, 3) := by decide +kernel
theorem dX6_went_10 : decode cX6_went 10 = .ok (.lload_n 1, 1) := by decide +kernel
theorem dX6_went_11 : decode cX6_went 11 = .ok (.aload_n 0, 1) := by decide +kernel
theorem dX6_went_12 : decode cX6_went 12 = .ok (.getfield 58, 3) := by decide +kernel
theorem dX6_went_15 : decode cX6_went 15 = .ok (.iload_n 3, 1) := by decide +kernel
theorem dX6_went_16 : decode cX6_went 16 = .ok (.iaload, 1) := by decide +kernel
theorem dX6_went_17 : decode cX6_went 17 = .ok (.iconst (-1), 1) := by decide +kernel
theorem dX6_went_18 : decode cX6_went 18 = .ok (.if_icmp .ne 7, 3) := by decide +kernel
theorem dX6_went_21 : decode cX6_went 21 = .ok (.lconst 0, 1) := by decide +kernel
theorem dX6_went_22 : decode cX6_went 22 = .ok (.goto 6, 3) := by decide +kernel
theorem dX6_went_25 : decode cX6_went 25 = .ok (.lconst 1, 1) := by decide +kernel
theorem dX6_went_26 : decode cX6_went 26 = .ok (.iload_n 3, 1) := by decide +kernel
theorem dX6_went_27 : decode cX6_went 27 = .ok (.lshl, 1) := by decide +kernel
theorem dX6_went_28 : decode cX6_went 28 = .ok (.lor, 1) := by decide +kernel
theorem dX6_went_29 : decode cX6_went 29 = .ok (.lstore_n 1, 1) := by decide +kernel
theorem dX6_went_30 : decode cX6_went 30 = .ok (.iinc 3 1, 3) := by decide +kernel
theorem dX6_went_33 : decode cX6_went 33 = .ok (.goto (-29), 3) := by decide +kernel
theorem dX6_went_36 : decode cX6_went 36 = .ok (.lload_n 1, 1) := by decide +kernel
theorem dX6_went_37 : decode cX6_went 37 = .ok (.lreturn, 1) := by decide +kernel
theorem dX6_alone_0 : decode cX6_alone 0 = .ok (.aload_n 0, 1) := by decide +kernel
theorem dX6_alone_1 : decode cX6_alone 1 = .ok (.iload_n 1, 1) := by decide +kernel
theorem dX6_alone_2 : decode cX6_alone 2 = .ok (.iload_n 3, 1) := by decide +kernel
theorem dX6_alone_3 : decode cX6_alone 3 = .ok (.invokevirtual 213, 3) := by decide +kernel
theorem dX6_alone_6 : decode cX6_alone 6 = .ok (.aload_n 0, 1) := by decide +kernel
theorem dX6_alone_7 : decode cX6_alone 7 = .ok (.invokevirtual 223, 3) := by decide +kernel
theorem dX6_alone_10 : decode cX6_alone 10 = .ok (.lstore 4, 2) := by decide +kernel
theorem dX6_alone_12 : decode cX6_alone 12 = .ok (.aload_n 0, 1) := by decide +kernel
theorem dX6_alone_13 : decode cX6_alone 13 = .ok (.iload_n 2, 1) := by decide +kernel
theorem dX6_alone_14 : decode cX6_alone 14 = .ok (.iload_n 3, 1) := by decide +kernel
theorem dX6_alone_15 : decode cX6_alone 15 = .ok (.invokevirtual 213, 3) := by decide +kernel
theorem dX6_alone_18 : decode cX6_alone 18 = .ok (.lload 4, 2) := by decide +kernel
theorem dX6_alone_20 : decode cX6_alone 20 = .ok (.aload_n 0, 1) := by decide +kernel
theorem dX6_alone_21 : decode cX6_alone 21 = .ok (.invokevirtual 223, 3) := by decide +kernel
theorem dX6_alone_24 : decode cX6_alone 24 = .ok (.lor, 1) := by decide +kernel
theorem dX6_alone_25 : decode cX6_alone 25 = .ok (.invokestatic 192, 3) := by decide +kernel
theorem dX6_alone_28 : decode cX6_alone 28 = .ok (.ireturn, 1) := by decide +kernel
theorem dX6_two__0 : decode cX6_two_ 0 = .ok (.iload_n 1, 1) := by decide +kernel
theorem dX6_two__1 : decode cX6_two_ 1 = .ok (.invokestatic 158, 3) := by decide +kernel
theorem dX6_two__4 : decode cX6_two_ 4 = .ok (.ifCond .eq 12, 3) := by decide +kernel
theorem dX6_two__7 : decode cX6_two_ 7 = .ok (.iload_n 2, 1) := by decide +kernel
theorem dX6_two__8 : decode cX6_two_ 8 = .ok (.iconst 0, 1) := by decide +kernel
theorem dX6_two__9 : decode cX6_two_ 9 = .ok (.iconst 2, 1) := by decide +kernel
theorem dX6_two__10 : decode cX6_two_ 10 = .ok (.invokestatic 69, 3) := by decide +kernel
theorem dX6_two__13 : decode cX6_two_ 13 = .ok (.ifCond .ne 6, 3) := by decide +kernel
theorem dX6_two__16 : decode cX6_two_ 16 = .ok (.bipush (-2), 2) := by decide +kernel
theorem dX6_two__18 : decode cX6_two_ 18 = .ok (.ireturn, 1) := by decide +kernel
theorem dX6_two__19 : decode cX6_two_ 19 = .ok (.iconst 0, 1) := by decide +kernel
theorem dX6_two__20 : decode cX6_two_ 20 = .ok (.istore_n 3, 1) := by decide +kernel
theorem dX6_two__21 : decode cX6_two_ 21 = .ok (.iconst (-1), 1) := by decide +kernel
theorem dX6_two__22 : decode cX6_two_ 22 = .ok (.istore 4, 2) := by decide +kernel
theorem dX6_two__24 : decode cX6_two_ 24 = .ok (.iconst 0, 1) := by decide +kernel
theorem dX6_two__25 : decode cX6_two_ 25 = .ok (.istore 5, 2) := by decide +kernel
theorem dX6_two__27 : decode cX6_two_ 27 = .ok (.iload 5, 2) := by decide +kernel
theorem dX6_two__29 : decode cX6_two_ 29 = .ok (.bipush 48, 2) := by decide +kernel
theorem dX6_two__31 : decode cX6_two_ 31 = .ok (.if_icmp .ge 84, 3) := by decide +kernel
theorem dX6_two__34 : decode cX6_two_ 34 = .ok (.iload 5, 2) := by decide +kernel
theorem dX6_two__36 : decode cX6_two_ 36 = .ok (.iconst 1, 1) := by decide +kernel
theorem dX6_two__37 : decode cX6_two_ 37 = .ok (.iadd, 1) := by decide +kernel
theorem dX6_two__38 : decode cX6_two_ 38 = .ok (.istore 6, 2) := by decide +kernel
theorem dX6_two__40 : decode cX6_two_ 40 = .ok (.iload 6, 2) := by decide +kernel
theorem dX6_two__42 : decode cX6_two_ 42 = .ok (.bipush 48, 2) := by decide +kernel
theorem dX6_two__44 : decode cX6_two_ 44 = .ok (.if_icmp .ge 65, 3) := by decide +kernel
theorem dX6_two__47 : decode cX6_two_ 47 = .ok (.aload_n 0, 1) := by decide +kernel
theorem dX6_two__48 : decode cX6_two_ 48 = .ok (.lconst 1, 1) := by decide +kernel
theorem dX6_two__49 : decode cX6_two_ 49 = .ok (.iload 5, 2) := by decide +kernel
theorem dX6_two__51 : decode cX6_two_ 51 = .ok (.lshl, 1) := by decide +kernel
theorem dX6_two__52 : decode cX6_two_ 52 = .ok (.lconst 1, 1) := by decide +kernel
theorem dX6_two__53 : decode cX6_two_ 53 = .ok (.iload 6, 2) := by decide +kernel
theorem dX6_two__55 : decode cX6_two_ 55 = .ok (.lshl, 1) := by decide +kernel
theorem dX6_two__56 : decode cX6_two_ 56 = .ok (.lor, 1) := by decide +kernel
theorem dX6_two__57 : decode cX6_two_ 57 = .ok (.iload_n 1, 1) := by decide +kernel
theorem dX6_two__58 : decode cX6_two_ 58 = .ok (.invokevirtual 209, 3) := by decide +kernel
theorem dX6_two__61 : decode cX6_two_ 61 = .ok (.aload_n 0, 1) := by decide +kernel
theorem dX6_two__62 : decode cX6_two_ 62 = .ok (.getfield 202, 3) := by decide +kernel
theorem dX6_two__65 : decode cX6_two_ 65 = .ok (.iload 4, 2) := by decide +kernel
theorem dX6_two__67 : decode cX6_two_ 67 = .ok (.if_icmp .le 14, 3) := by decide +kernel
theorem dX6_two__70 : decode cX6_two_ 70 = .ok (.bipush 100, 2) := by decide +kernel
theorem dX6_two__72 : decode cX6_two_ 72 = .ok (.iload 5, 2) := by decide +kernel
theorem dX6_two__74 : decode cX6_two_ 74 = .ok (.imul, 1) := by decide +kernel
theorem dX6_two__75 : decode cX6_two_ 75 = .ok (.iload 6, 2) := by decide +kernel
theorem dX6_two__77 : decode cX6_two_ 77 = .ok (.iadd, 1) := by decide +kernel
theorem dX6_two__78 : decode cX6_two_ 78 = .ok (.goto 4, 3) := by decide +kernel
theorem dX6_two__81 : decode cX6_two_ 81 = .ok (.iload_n 3, 1) := by decide +kernel
theorem dX6_two__82 : decode cX6_two_ 82 = .ok (.istore_n 3, 1) := by decide +kernel
theorem dX6_two__83 : decode cX6_two_ 83 = .ok (.aload_n 0, 1) := by decide +kernel
theorem dX6_two__84 : decode cX6_two_ 84 = .ok (.getfield 202, 3) := by decide +kernel
theorem dX6_two__87 : decode cX6_two_ 87 = .ok (.iload 4, 2) := by decide +kernel
theorem dX6_two__89 : decode cX6_two_ 89 = .ok (.if_icmp .le 10, 3) := by decide +kernel
theorem dX6_two__92 : decode cX6_two_ 92 = .ok (.aload_n 0, 1) := by decide +kernel
theorem dX6_two__93 : decode cX6_two_ 93 = .ok (.getfield 202, 3) := by decide +kernel
theorem dX6_two__96 : decode cX6_two_ 96 = .ok (.goto 5, 3) := by decide +kernel
theorem dX6_two__99 : decode cX6_two_ 99 = .ok (.iload 4, 2) := by decide +kernel
theorem dX6_two__101 : decode cX6_two_ 101 = .ok (.istore 4, 2) := by decide +kernel
theorem dX6_two__103 : decode cX6_two_ 103 = .ok (.iinc 6 1, 3) := by decide +kernel
theorem dX6_two__106 : decode cX6_two_ 106 = .ok (.goto (-66), 3) := by decide +kernel
theorem dX6_two__109 : decode cX6_two_ 109 = .ok (.iinc 5 1, 3) := by decide +kernel
theorem dX6_two__112 : decode cX6_two_ 112 = .ok (.goto (-85), 3) := by decide +kernel
theorem dX6_two__115 : decode cX6_two_ 115 = .ok (.iload_n 2, 1) := by decide +kernel
theorem dX6_two__116 : decode cX6_two_ 116 = .ok (.ifCond .ne 7, 3) := by decide +kernel
theorem dX6_two__119 : decode cX6_two_ 119 = .ok (.iload_n 3, 1) := by decide +kernel
theorem dX6_two__120 : decode cX6_two_ 120 = .ok (.goto 29, 3) := by decide +kernel
theorem dX6_two__123 : decode cX6_two_ 123 = .ok (.iload_n 2, 1) := by decide +kernel
theorem dX6_two__124 : decode cX6_two_ 124 = .ok (.iconst 1, 1) := by decide +kernel
theorem dX6_two__125 : decode cX6_two_ 125 = .ok (.if_icmp .ne 8, 3) := by decide +kernel
theorem dX6_two__128 : decode cX6_two_ 128 = .ok (.iload 4, 2) := by decide +kernel
theorem dX6_two__130 : decode cX6_two_ 130 = .ok (.goto 19, 3) := by decide +kernel
theorem dX6_two__133 : decode cX6_two_ 133 = .ok (.iload 4, 2) := by decide +kernel
theorem dX6_two__135 : decode cX6_two_ 135 = .ok (.aload_n 0, 1) := by decide +kernel
theorem dX6_two__136 : decode cX6_two_ 136 = .ok (.iload_n 3, 1) := by decide +kernel
theorem dX6_two__137 : decode cX6_two_ 137 = .ok (.bipush 100, 2) := by decide +kernel
theorem dX6_two__139 : decode cX6_two_ 139 = .ok (.idiv, 1) := by decide +kernel
theorem dX6_two__140 : decode cX6_two_ 140 = .ok (.iload_n 3, 1) := by decide +kernel
theorem dX6_two__141 : decode cX6_two_ 141 = .ok (.bipush 100, 2) := by decide +kernel
theorem dX6_two__143 : decode cX6_two_ 143 = .ok (.irem, 1) := by decide +kernel
theorem dX6_two__144 : decode cX6_two_ 144 = .ok (.iload_n 1, 1) := by decide +kernel
theorem dX6_two__145 : decode cX6_two_ 145 = .ok (.invokevirtual 227, 3) := by decide +kernel
theorem dX6_two__148 : decode cX6_two_ 148 = .ok (.isub, 1) := by decide +kernel
theorem dX6_two__149 : decode cX6_two_ 149 = .ok (.ireturn, 1) := by decide +kernel
theorem dX6_all_0 : decode cX6_all 0 = .ok (.iload_n 1, 1) := by decide +kernel
theorem dX6_all_1 : decode cX6_all 1 = .ok (.invokestatic 155, 3) := by decide +kernel
theorem dX6_all_4 : decode cX6_all 4 = .ok (.ifCond .ne 6, 3) := by decide +kernel
theorem dX6_all_7 : decode cX6_all 7 = .ok (.bipush (-5), 2) := by decide +kernel
theorem dX6_all_9 : decode cX6_all 9 = .ok (.ireturn, 1) := by decide +kernel
theorem dX6_all_10 : decode cX6_all 10 = .ok (.aload_n 0, 1) := by decide +kernel
theorem dX6_all_11 : decode cX6_all 11 = .ok (.iload_n 1, 1) := by decide +kernel
theorem dX6_all_12 : decode cX6_all 12 = .ok (.bipush 99, 2) := by decide +kernel
theorem dX6_all_14 : decode cX6_all 14 = .ok (.invokevirtual 213, 3) := by decide +kernel
theorem dX6_all_17 : decode cX6_all 17 = .ok (.aload_n 0, 1) := by decide +kernel
theorem dX6_all_18 : decode cX6_all 18 = .ok (.getfield 202, 3) := by decide +kernel
theorem dX6_all_21 : decode cX6_all 21 = .ok (.istore_n 2, 1) := by decide +kernel
theorem dX6_all_22 : decode cX6_all 22 = .ok (.bipush 99, 2) := by decide +kernel
theorem dX6_all_24 : decode cX6_all 24 = .ok (.istore_n 3, 1) := by decide +kernel
theorem dX6_all_25 : decode cX6_all 25 = .ok (.iconst 1, 1) := by decide +kernel
theorem dX6_all_26 : decode cX6_all 26 = .ok (.istore 4, 2) := by decide +kernel
theorem dX6_all_28 : decode cX6_all 28 = .ok (.bipush 98, 2) := by decide +kernel
theorem dX6_all_30 : decode cX6_all 30 = .ok (.istore 5, 2) := by decide +kernel
theorem dX6_all_32 : decode cX6_all 32 = .ok (.iload 5, 2) := by decide +kernel
theorem dX6_all_34 : decode cX6_all 34 = .ok (.ifCond .lt 48, 3) := by decide +kernel
theorem dX6_all_37 : decode cX6_all 37 = .ok (.iload 4, 2) := by decide +kernel
theorem dX6_all_39 : decode cX6_all 39 = .ok (.ifCond .eq 43, 3) := by decide +kernel
theorem dX6_all_42 : decode cX6_all 42 = .ok (.aload_n 0, 1) := by decide +kernel
theorem dX6_all_43 : decode cX6_all 43 = .ok (.iload_n 1, 1) := by decide +kernel
theorem dX6_all_44 : decode cX6_all 44 = .ok (.iload 5, 2) := by decide +kernel
theorem dX6_all_46 : decode cX6_all 46 = .ok (.invokevirtual 213, 3) := by decide +kernel
theorem dX6_all_49 : decode cX6_all 49 = .ok (.aload_n 0, 1) := by decide +kernel
theorem dX6_all_50 : decode cX6_all 50 = .ok (.getfield 202, 3) := by decide +kernel
theorem dX6_all_53 : decode cX6_all 53 = .ok (.iload_n 2, 1) := by decide +kernel
theorem dX6_all_54 : decode cX6_all 54 = .ok (.if_icmp .lt 7, 3) := by decide +kernel
theorem dX6_all_57 : decode cX6_all 57 = .ok (.iconst 1, 1) := by decide +kernel
theorem dX6_all_58 : decode cX6_all 58 = .ok (.goto 4, 3) := by decide +kernel
theorem dX6_all_61 : decode cX6_all 61 = .ok (.iconst 0, 1) := by decide +kernel
theorem dX6_all_62 : decode cX6_all 62 = .ok (.istore 4, 2) := by decide +kernel
theorem dX6_all_64 : decode cX6_all 64 = .ok (.iload 4, 2) := by decide +kernel
theorem dX6_all_66 : decode cX6_all 66 = .ok (.ifCond .eq 8, 3) := by decide +kernel
theorem dX6_all_69 : decode cX6_all 69 = .ok (.iload 5, 2) := by decide +kernel
theorem dX6_all_71 : decode cX6_all 71 = .ok (.goto 4, 3) := by decide +kernel
theorem dX6_all_74 : decode cX6_all 74 = .ok (.iload_n 3, 1) := by decide +kernel
theorem dX6_all_75 : decode cX6_all 75 = .ok (.istore_n 3, 1) := by decide +kernel
theorem dX6_all_76 : decode cX6_all 76 = .ok (.iinc 5 (-1), 3) := by decide +kernel
theorem dX6_all_79 : decode cX6_all 79 = .ok (.goto (-47), 3) := by decide +kernel
theorem dX6_all_82 : decode cX6_all 82 = .ok (.iload_n 3, 1) := by decide +kernel
theorem dX6_all_83 : decode cX6_all 83 = .ok (.ireturn, 1) := by decide +kernel
theorem dX6_countIn_0 : decode cX6_countIn 0 = .ok (.iconst 0, 1) := by decide +kernel
theorem dX6_countIn_1 : decode cX6_countIn 1 = .ok (.istore_n 3, 1) := by decide +kernel
theorem dX6_countIn_2 : decode cX6_countIn 2 = .ok (.iconst 0, 1) := by decide +kernel
theorem dX6_countIn_3 : decode cX6_countIn 3 = .ok (.istore 4, 2) := by decide +kernel
theorem dX6_countIn_5 : decode cX6_countIn 5 = .ok (.bipush 6, 2) := by decide +kernel
theorem dX6_countIn_7 : decode cX6_countIn 7 = .ok (.iload_n 1, 1) := by decide +kernel
theorem dX6_countIn_8 : decode cX6_countIn 8 = .ok (.imul, 1) := by decide +kernel
theorem dX6_countIn_9 : decode cX6_countIn 9 = .ok (.istore 5, 2) := by decide +kernel
theorem dX6_countIn_11 : decode cX6_countIn 11 = .ok (.iload 5, 2) := by decide +kernel
theorem dX6_countIn_13 : decode cX6_countIn 13 = .ok (.bipush 6, 2) := by decide +kernel
theorem dX6_countIn_15 : decode cX6_countIn 15 = .ok (.iload_n 1, 1) := by decide +kernel
theorem dX6_countIn_16 : decode cX6_countIn 16 = .ok (.imul, 1) := by decide +kernel
theorem dX6_countIn_17 : decode cX6_countIn 17 = .ok (.bipush 6, 2) := by decide +kernel
theorem dX6_countIn_19 : decode cX6_countIn 19 = .ok (.iadd, 1) := by decide +kernel
theorem dX6_countIn_20 : decode cX6_countIn 20 = .ok (.if_icmp .ge 82, 3) := by decide +kernel
theorem dX6_countIn_23 : decode cX6_countIn 23 = .ok (.iload 4, 2) := by decide +kernel
theorem dX6_countIn_25 : decode cX6_countIn 25 = .ok (.iload_n 1, 1) := by decide +kernel
theorem dX6_countIn_26 : decode cX6_countIn 26 = .ok (.ifCond .ne 7, 3) := by decide +kernel
theorem dX6_countIn_29 : decode cX6_countIn 29 = .ok (.iconst 0, 1) := by decide +kernel
theorem dX6_countIn_30 : decode cX6_countIn 30 = .ok (.goto 9, 3) := by decide +kernel
theorem dX6_countIn_33 : decode cX6_countIn 33 = .ok (.aload_n 0, 1) := by decide +kernel
theorem dX6_countIn_34 : decode cX6_countIn 34 = .ok (.iload 5, 2) := by decide +kernel
theorem dX6_countIn_36 : decode cX6_countIn 36 = .ok (.invokevirtual 171, 3) := by decide +kernel
theorem dX6_countIn_39 : decode cX6_countIn 39 = .ok (.ior, 1) := by decide +kernel
theorem dX6_countIn_40 : decode cX6_countIn 40 = .ok (.istore 4, 2) := by decide +kernel
theorem dX6_countIn_42 : decode cX6_countIn 42 = .ok (.aload_n 0, 1) := by decide +kernel
theorem dX6_countIn_43 : decode cX6_countIn 43 = .ok (.iload 5, 2) := by decide +kernel
theorem dX6_countIn_45 : decode cX6_countIn 45 = .ok (.invokevirtual 171, 3) := by decide +kernel
theorem dX6_countIn_48 : decode cX6_countIn 48 = .ok (.istore 6, 2) := by decide +kernel
theorem dX6_countIn_50 : decode cX6_countIn 50 = .ok (.iload_n 3, 1) := by decide +kernel
theorem dX6_countIn_51 : decode cX6_countIn 51 = .ok (.iload_n 2, 1) := by decide +kernel
theorem dX6_countIn_52 : decode cX6_countIn 52 = .ok (.ifCond .ne 22, 3) := by decide +kernel
theorem dX6_countIn_55 : decode cX6_countIn 55 = .ok (.aload_n 0, 1) := by decide +kernel
theorem dX6_countIn_56 : decode cX6_countIn 56 = .ok (.iload 5, 2) := by decide +kernel
theorem dX6_countIn_58 : decode cX6_countIn 58 = .ok (.invokevirtual 177, 3) := by decide +kernel
theorem dX6_countIn_61 : decode cX6_countIn 61 = .ok (.lconst 0, 1) := by decide +kernel
theorem dX6_countIn_62 : decode cX6_countIn 62 = .ok (.lcmp, 1) := by decide +kernel
theorem dX6_countIn_63 : decode cX6_countIn 63 = .ok (.ifCond .eq 7, 3) := by decide +kernel
theorem dX6_countIn_66 : decode cX6_countIn 66 = .ok (.iconst 1, 1) := by decide +kernel
theorem dX6_countIn_67 : decode cX6_countIn 67 = .ok (.goto 27, 3) := by decide +kernel
theorem dX6_countIn_70 : decode cX6_countIn 70 = .ok (.iconst 0, 1) := by decide +kernel
theorem dX6_countIn_71 : decode cX6_countIn 71 = .ok (.goto 23, 3) := by decide +kernel
theorem dX6_countIn_74 : decode cX6_countIn 74 = .ok (.iload 6, 2) := by decide +kernel
theorem dX6_countIn_76 : decode cX6_countIn 76 = .ok (.ifCond .eq 13, 3) := by decide +kernel
theorem dX6_countIn_79 : decode cX6_countIn 79 = .ok (.iload 6, 2) := by decide +kernel
theorem dX6_countIn_81 : decode cX6_countIn 81 = .ok (.iload 6, 2) := by decide +kernel
theorem dX6_countIn_83 : decode cX6_countIn 83 = .ok (.iconst 1, 1) := by decide +kernel
theorem dX6_countIn_84 : decode cX6_countIn 84 = .ok (.isub, 1) := by decide +kernel
theorem dX6_countIn_85 : decode cX6_countIn 85 = .ok (.iand, 1) := by decide +kernel
theorem dX6_countIn_86 : decode cX6_countIn 86 = .ok (.ifCond .eq 7, 3) := by decide +kernel
theorem dX6_countIn_89 : decode cX6_countIn 89 = .ok (.iconst 1, 1) := by decide +kernel
theorem dX6_countIn_90 : decode cX6_countIn 90 = .ok (.goto 4, 3) := by decide +kernel
theorem dX6_countIn_93 : decode cX6_countIn 93 = .ok (.iconst 0, 1) := by decide +kernel
theorem dX6_countIn_94 : decode cX6_countIn 94 = .ok (.iadd, 1) := by decide +kernel
theorem dX6_countIn_95 : decode cX6_countIn 95 = .ok (.istore_n 3, 1) := by decide +kernel
theorem dX6_countIn_96 : decode cX6_countIn 96 = .ok (.iinc 5 1, 3) := by decide +kernel
theorem dX6_countIn_99 : decode cX6_countIn 99 = .ok (.goto (-88), 3) := by decide +kernel
theorem dX6_countIn_102 : decode cX6_countIn 102 = .ok (.iload_n 2, 1) := by decide +kernel
theorem dX6_countIn_103 : decode cX6_countIn 103 = .ok (.iconst 1, 1) := by decide +kernel
theorem dX6_countIn_104 : decode cX6_countIn 104 = .ok (.if_icmp .ne 12, 3) := by decide +kernel
theorem dX6_countIn_107 : decode cX6_countIn 107 = .ok (.iload 4, 2) := by decide +kernel
theorem dX6_countIn_109 : decode cX6_countIn 109 = .ok (.i2l, 1) := by decide +kernel
theorem dX6_countIn_110 : decode cX6_countIn 110 = .ok (.invokestatic 192, 3) := by decide +kernel
theorem dX6_countIn_113 : decode cX6_countIn 113 = .ok (.goto 4, 3) := by decide +kernel
theorem dX6_countIn_116 : decode cX6_countIn 116 = .ok (.iload_n 3, 1) := by decide +kernel
theorem dX6_countIn_117 : decode cX6_countIn 117 = .ok (.ireturn, 1) := by decide +kernel
theorem dX6_counts_0 : decode cX6_counts 0 = .ok (.iload_n 1, 1) := by decide +kernel
theorem dX6_counts_1 : decode cX6_counts 1 = .ok (.iconst 0, 1) := by decide +kernel
theorem dX6_counts_2 : decode cX6_counts 2 = .ok (.bipush 7, 2) := by decide +kernel
theorem dX6_counts_4 : decode cX6_counts 4 = .ok (.invokestatic 69, 3) := by decide +kernel
theorem dX6_counts_7 : decode cX6_counts 7 = .ok (.ifCond .ne 6, 3) := by decide +kernel
theorem dX6_counts_10 : decode cX6_counts 10 = .ok (.bipush (-5), 2) := by decide +kernel
theorem dX6_counts_12 : decode cX6_counts 12 = .ok (.ireturn, 1) := by decide +kernel
theorem dX6_counts_13 : decode cX6_counts 13 = .ok (.iload_n 2, 1) := by decide +kernel
theorem dX6_counts_14 : decode cX6_counts 14 = .ok (.iconst 0, 1) := by decide +kernel
theorem dX6_counts_15 : decode cX6_counts 15 = .ok (.iconst 2, 1) := by decide +kernel
theorem dX6_counts_16 : decode cX6_counts 16 = .ok (.invokestatic 69, 3) := by decide +kernel
theorem dX6_counts_19 : decode cX6_counts 19 = .ok (.ifCond .eq 12, 3) := by decide +kernel
theorem dX6_counts_22 : decode cX6_counts 22 = .ok (.aload_n 0, 1) := by decide +kernel
theorem dX6_counts_23 : decode cX6_counts 23 = .ok (.iload_n 1, 1) := by decide +kernel
theorem dX6_counts_24 : decode cX6_counts 24 = .ok (.iload_n 2, 1) := by decide +kernel
theorem dX6_counts_25 : decode cX6_counts 25 = .ok (.invokevirtual 230, 3) := by decide +kernel
theorem dX6_counts_28 : decode cX6_counts 28 = .ok (.goto 5, 3) := by decide +kernel
theorem dX6_counts_31 : decode cX6_counts 31 = .ok (.bipush (-7), 2) := by decide +kernel
theorem dX6_counts_33 : decode cX6_counts 33 = .ok (.ireturn, 1) := by decide +kernel
theorem dX6_sheetWrong_0 : decode cX6_sheetWrong 0 = .ok (.iload_n 1, 1) := by decide +kernel
theorem dX6_sheetWrong_1 : decode cX6_sheetWrong 1 = .ok (.iconst 0, 1) := by decide +kernel
theorem dX6_sheetWrong_2 : decode cX6_sheetWrong 2 = .ok (.iconst 3, 1) := by decide +kernel
theorem dX6_sheetWrong_3 : decode cX6_sheetWrong 3 = .ok (.invokestatic 69, 3) := by decide +kernel
theorem dX6_sheetWrong_6 : decode cX6_sheetWrong 6 = .ok (.ifCond .ne 6, 3) := by decide +kernel
theorem dX6_sheetWrong_9 : decode cX6_sheetWrong 9 = .ok (.bipush (-2), 2) := by decide +kernel
theorem dX6_sheetWrong_11 : decode cX6_sheetWrong 11 = .ok (.ireturn, 1) := by decide +kernel
theorem dX6_sheetWrong_12 : decode cX6_sheetWrong 12 = .ok (.aload_n 0, 1) := by decide +kernel
theorem dX6_sheetWrong_13 : decode cX6_sheetWrong 13 = .ok (.getfield 34, 3) := by decide +kernel
theorem dX6_sheetWrong_16 : decode cX6_sheetWrong 16 = .ok (.iload_n 1, 1) := by decide +kernel
theorem dX6_sheetWrong_17 : decode cX6_sheetWrong 17 = .ok (.iaload, 1) := by decide +kernel
theorem dX6_sheetWrong_18 : decode cX6_sheetWrong 18 = .ok (.iconst (-1), 1) := by decide +kernel
theorem dX6_sheetWrong_19 : decode cX6_sheetWrong 19 = .ok (.if_icmp .ne 6, 3) := by decide +kernel
theorem dX6_sheetWrong_22 : decode cX6_sheetWrong 22 = .ok (.bipush (-11), 2) := by decide +kernel
theorem dX6_sheetWrong_24 : decode cX6_sheetWrong 24 = .ok (.ireturn, 1) := by decide +kernel
theorem dX6_sheetWrong_25 : decode cX6_sheetWrong 25 = .ok (.aload_n 0, 1) := by decide +kernel
theorem dX6_sheetWrong_26 : decode cX6_sheetWrong 26 = .ok (.getfield 37, 3) := by decide +kernel
theorem dX6_sheetWrong_29 : decode cX6_sheetWrong 29 = .ok (.iload_n 1, 1) := by decide +kernel
theorem dX6_sheetWrong_30 : decode cX6_sheetWrong 30 = .ok (.iaload, 1) := by decide +kernel
theorem dX6_sheetWrong_31 : decode cX6_sheetWrong 31 = .ok (.iload_n 2, 1) := by decide +kernel
theorem dX6_sheetWrong_32 : decode cX6_sheetWrong 32 = .ok (.if_icmp .ne 7, 3) := by decide +kernel
theorem dX6_sheetWrong_35 : decode cX6_sheetWrong 35 = .ok (.iconst 0, 1) := by decide +kernel
theorem dX6_sheetWrong_36 : decode cX6_sheetWrong 36 = .ok (.goto 5, 3) := by decide +kernel
theorem dX6_sheetWrong_39 : decode cX6_sheetWrong 39 = .ok (.bipush (-2), 2) := by decide +kernel
theorem dX6_sheetWrong_41 : decode cX6_sheetWrong 41 = .ok (.ireturn, 1) := by decide +kernel
theorem dX6_slip_0 : decode cX6_slip 0 = .ok (.aload_n 0, 1) := by decide +kernel
theorem dX6_slip_1 : decode cX6_slip 1 = .ok (.iload_n 1, 1) := by decide +kernel
theorem dX6_slip_2 : decode cX6_slip 2 = .ok (.bipush 8, 2) := by decide +kernel
theorem dX6_slip_4 : decode cX6_slip 4 = .ok (.invokevirtual 233, 3) := by decide +kernel
theorem dX6_slip_7 : decode cX6_slip 7 = .ok (.istore_n 2, 1) := by decide +kernel
theorem dX6_slip_8 : decode cX6_slip 8 = .ok (.iload_n 2, 1) := by decide +kernel
theorem dX6_slip_9 : decode cX6_slip 9 = .ok (.ifCond .eq 5, 3) := by decide +kernel
theorem dX6_slip_12 : decode cX6_slip 12 = .ok (.iload_n 2, 1) := by decide +kernel
theorem dX6_slip_13 : decode cX6_slip 13 = .ok (.ireturn, 1) := by decide +kernel
theorem dX6_slip_14 : decode cX6_slip 14 = .ok (.iconst 1, 1) := by decide +kernel
theorem dX6_slip_15 : decode cX6_slip 15 = .ok (.istore_n 3, 1) := by decide +kernel
theorem dX6_slip_16 : decode cX6_slip 16 = .ok (.iload_n 3, 1) := by decide +kernel
theorem dX6_slip_17 : decode cX6_slip 17 = .ok (.bipush 8, 2) := by decide +kernel
theorem dX6_slip_19 : decode cX6_slip 19 = .ok (.if_icmp .ge 31, 3) := by decide +kernel
theorem dX6_slip_22 : decode cX6_slip 22 = .ok (.aload_n 0, 1) := by decide +kernel
theorem dX6_slip_23 : decode cX6_slip 23 = .ok (.getfield 40, 3) := by decide +kernel
theorem dX6_slip_26 : decode cX6_slip 26 = .ok (.bipush 48, 2) := by decide +kernel
theorem dX6_slip_28 : decode cX6_slip 28 = .ok (.iload_n 1, 1) := by decide +kernel
theorem dX6_slip_29 : decode cX6_slip 29 = .ok (.imul, 1) := by decide +kernel
theorem dX6_slip_30 : decode cX6_slip 30 = .ok (.iload_n 3, 1) := by decide +kernel
theorem dX6_slip_31 : decode cX6_slip 31 = .ok (.iadd, 1) := by decide +kernel
theorem dX6_slip_32 : decode cX6_slip 32 = .ok (.iaload, 1) := by decide +kernel
theorem dX6_slip_33 : decode cX6_slip 33 = .ok (.aload_n 0, 1) := by decide +kernel
theorem dX6_slip_34 : decode cX6_slip 34 = .ok (.iload_n 3, 1) := by decide +kernel
theorem dX6_slip_35 : decode cX6_slip 35 = .ok (.iconst 1, 1) := by decide +kernel
theorem dX6_slip_36 : decode cX6_slip 36 = .ok (.invokevirtual 230, 3) := by decide +kernel
theorem dX6_slip_39 : decode cX6_slip 39 = .ok (.if_icmp .eq 5, 3) := by decide +kernel
theorem dX6_slip_42 : decode cX6_slip 42 = .ok (.iload_n 3, 1) := by decide +kernel
theorem dX6_slip_43 : decode cX6_slip 43 = .ok (.ireturn, 1) := by decide +kernel
theorem dX6_slip_44 : decode cX6_slip 44 = .ok (.iinc 3 1, 3) := by decide +kernel
theorem dX6_slip_47 : decode cX6_slip 47 = .ok (.goto (-31), 3) := by decide +kernel
theorem dX6_slip_50 : decode cX6_slip 50 = .ok (.iconst (-1), 1) := by decide +kernel
theorem dX6_slip_51 : decode cX6_slip 51 = .ok (.ireturn, 1) := by decide +kernel
theorem dX6_wrong_0 : decode cX6_wrong 0 = .ok (.iconst 0, 1) := by decide +kernel
theorem dX6_wrong_1 : decode cX6_wrong 1 = .ok (.istore_n 1, 1) := by decide +kernel
theorem dX6_wrong_2 : decode cX6_wrong 2 = .ok (.iconst 0, 1) := by decide +kernel
theorem dX6_wrong_3 : decode cX6_wrong 3 = .ok (.istore_n 2, 1) := by decide +kernel
theorem dX6_wrong_4 : decode cX6_wrong 4 = .ok (.iload_n 2, 1) := by decide +kernel
theorem dX6_wrong_5 : decode cX6_wrong 5 = .ok (.bipush 48, 2) := by decide +kernel
theorem dX6_wrong_7 : decode cX6_wrong 7 = .ok (.if_icmp .ge 30, 3) := by decide +kernel
theorem dX6_wrong_10 : decode cX6_wrong 10 = .ok (.iload_n 1, 1) := by decide +kernel
theorem dX6_wrong_11 : decode cX6_wrong 11 = .ok (.aload_n 0, 1) := by decide +kernel
theorem dX6_wrong_12 : decode cX6_wrong 12 = .ok (.iload_n 2, 1) := by decide +kernel
theorem dX6_wrong_13 : decode cX6_wrong 13 = .ok (.invokevirtual 189, 3) := by decide +kernel
theorem dX6_wrong_16 : decode cX6_wrong 16 = .ok (.ifCond .eq 12, 3) := by decide +kernel
theorem dX6_wrong_19 : decode cX6_wrong 19 = .ok (.iconst 1, 1) := by decide +kernel
theorem dX6_wrong_20 : decode cX6_wrong 20 = .ok (.iload_n 2, 1) := by decide +kernel
theorem dX6_wrong_21 : decode cX6_wrong 21 = .ok (.bipush 6, 2) := by decide +kernel
theorem dX6_wrong_23 : decode cX6_wrong 23 = .ok (.idiv, 1) := by decide +kernel
theorem dX6_wrong_24 : decode cX6_wrong 24 = .ok (.ishl, 1) := by decide +kernel
theorem dX6_wrong_25 : decode cX6_wrong 25 = .ok (.goto 4, 3) := by decide +kernel
theorem dX6_wrong_28 : decode cX6_wrong 28 = .ok (.iconst 0, 1) := by decide +kernel
theorem dX6_wrong_29 : decode cX6_wrong 29 = .ok (.ior, 1) := by decide +kernel
theorem dX6_wrong_30 : decode cX6_wrong 30 = .ok (.istore_n 1, 1) := by decide +kernel
theorem dX6_wrong_31 : decode cX6_wrong 31 = .ok (.iinc 2 1, 3) := by decide +kernel
theorem dX6_wrong_34 : decode cX6_wrong 34 = .ok (.goto (-30), 3) := by decide +kernel
theorem dX6_wrong_37 : decode cX6_wrong 37 = .ok (.iload_n 1, 1) := by decide +kernel
theorem dX6_wrong_38 : decode cX6_wrong 38 = .ok (.ireturn, 1) := by decide +kernel
theorem dX6_isHeld_0 : decode cX6_isHeld 0 = .ok (.aload_n 0, 1) := by decide +kernel
theorem dX6_isHeld_1 : decode cX6_isHeld 1 = .ok (.iload_n 1, 1) := by decide +kernel
theorem dX6_isHeld_2 : decode cX6_isHeld 2 = .ok (.iload_n 2, 1) := by decide +kernel
theorem dX6_isHeld_3 : decode cX6_isHeld 3 = .ok (.invokevirtual 213, 3) := by decide +kernel
theorem dX6_isHeld_6 : decode cX6_isHeld 6 = .ok (.aload_n 0, 1) := by decide +kernel
theorem dX6_isHeld_7 : decode cX6_isHeld 7 = .ok (.getfield 202, 3) := by decide +kernel
theorem dX6_isHeld_10 : decode cX6_isHeld 10 = .ok (.iload_n 3, 1) := by decide +kernel
theorem dX6_isHeld_11 : decode cX6_isHeld 11 = .ok (.if_icmp .gt 7, 3) := by decide +kernel
theorem dX6_isHeld_14 : decode cX6_isHeld 14 = .ok (.iconst 1, 1) := by decide +kernel
theorem dX6_isHeld_15 : decode cX6_isHeld 15 = .ok (.goto 4, 3) := by decide +kernel
theorem dX6_isHeld_18 : decode cX6_isHeld 18 = .ok (.iconst 0, 1) := by decide +kernel
theorem dX6_isHeld_19 : decode cX6_isHeld 19 = .ok (.ireturn, 1) := by decide +kernel
theorem dX6_pinsFor_0 : decode cX6_pinsFor 0 = .ok (.iconst (-1), 1) := by decide +kernel
theorem dX6_pinsFor_1 : decode cX6_pinsFor 1 = .ok (.istore 5, 2) := by decide +kernel
theorem dX6_pinsFor_3 : decode cX6_pinsFor 3 = .ok (.iconst 0, 1) := by decide +kernel
theorem dX6_pinsFor_4 : decode cX6_pinsFor 4 = .ok (.istore 6, 2) := by decide +kernel
theorem dX6_pinsFor_6 : decode cX6_pinsFor 6 = .ok (.iload 6, 2) := by decide +kernel
theorem dX6_pinsFor_8 : decode cX6_pinsFor 8 = .ok (.bipush 48, 2) := by decide +kernel
theorem dX6_pinsFor_10 : decode cX6_pinsFor 10 = .ok (.if_icmp .ge 168, 3) := by decide +kernel
theorem dX6_pinsFor_13 : decode cX6_pinsFor 13 = .ok (.iload 5, 2) := by decide +kernel
theorem dX6_pinsFor_15 : decode cX6_pinsFor 15 = .ok (.iconst (-1), 1) := by decide +kernel
theorem dX6_pinsFor_16 : decode cX6_pinsFor 16 = .ok (.if_icmp .ne 162, 3) := by decide +kernel
theorem dX6_pinsFor_19 : decode cX6_pinsFor 19 = .ok (.aload_n 0, 1) := by decide +kernel
theorem dX6_pinsFor_20 : decode cX6_pinsFor 20 = .ok (.getfield 16, 3) := by decide +kernel
theorem dX6_pinsFor_23 : decode cX6_pinsFor 23 = .ok (.iload 6, 2) := by decide +kernel
theorem dX6_pinsFor_25 : decode cX6_pinsFor 25 = .ok (.iaload, 1) := by decide +kernel
theorem dX6_pinsFor_26 : decode cX6_pinsFor 26 = .ok (.istore 7, 2) := by decide +kernel
theorem dX6_pinsFor_28 : decode cX6_pinsFor 28 = .ok (.aload_n 0, 1) := by decide +kernel
theorem dX6_pinsFor_29 : decode cX6_pinsFor 29 = .ok (.getfield 16, 3) := by decide +kernel
theorem dX6_pinsFor_32 : decode cX6_pinsFor 32 = .ok (.iload 6, 2) := by decide +kernel
theorem dX6_pinsFor_34 : decode cX6_pinsFor 34 = .ok (.iconst 1, 1) := by decide +kernel
theorem dX6_pinsFor_35 : decode cX6_pinsFor 35 = .ok (.iastore, 1) := by decide +kernel
theorem dX6_pinsFor_36 : decode cX6_pinsFor 36 = .ok (.iload 6, 2) := by decide +kernel
theorem dX6_pinsFor_38 : decode cX6_pinsFor 38 = .ok (.iload_n 1, 1) := by decide +kernel
theorem dX6_pinsFor_39 : decode cX6_pinsFor 39 = .ok (.if_icmp .eq 32, 3) := by decide +kernel
theorem dX6_pinsFor_42 : decode cX6_pinsFor 42 = .ok (.iload 4, 2) := by decide +kernel
theorem dX6_pinsFor_44 : decode cX6_pinsFor 44 = .ok (.ifCond .ne 27, 3) := by decide +kernel
theorem dX6_pinsFor_47 : decode cX6_pinsFor 47 = .ok (.aload_n 0, 1) := by decide +kernel
theorem dX6_pinsFor_48 : decode cX6_pinsFor 48 = .ok (.iload_n 1, 1) := by decide +kernel
theorem dX6_pinsFor_49 : decode cX6_pinsFor 49 = .ok (.iload_n 2, 1) := by decide +kernel
theorem dX6_pinsFor_50 : decode cX6_pinsFor 50 = .ok (.iload_n 3, 1) := by decide +kernel
theorem dX6_pinsFor_51 : decode cX6_pinsFor 51 = .ok (.invokevirtual 236, 3) := by decide +kernel
theorem dX6_pinsFor_54 : decode cX6_pinsFor 54 = .ok (.ifCond .eq 14, 3) := by decide +kernel
theorem dX6_pinsFor_57 : decode cX6_pinsFor 57 = .ok (.bipush 100, 2) := by decide +kernel
theorem dX6_pinsFor_59 : decode cX6_pinsFor 59 = .ok (.iload 6, 2) := by decide +kernel
theorem dX6_pinsFor_61 : decode cX6_pinsFor 61 = .ok (.imul, 1) := by decide +kernel
theorem dX6_pinsFor_62 : decode cX6_pinsFor 62 = .ok (.bipush 99, 2) := by decide +kernel
theorem dX6_pinsFor_64 : decode cX6_pinsFor 64 = .ok (.iadd, 1) := by decide +kernel
theorem dX6_pinsFor_65 : decode cX6_pinsFor 65 = .ok (.goto 4, 3) := by decide +kernel
theorem dX6_pinsFor_68 : decode cX6_pinsFor 68 = .ok (.iconst (-1), 1) := by decide +kernel
theorem dX6_pinsFor_69 : decode cX6_pinsFor 69 = .ok (.istore 5, 2) := by decide +kernel
theorem dX6_pinsFor_71 : decode cX6_pinsFor 71 = .ok (.iload 6, 2) := by decide +kernel
theorem dX6_pinsFor_73 : decode cX6_pinsFor 73 = .ok (.iconst 1, 1) := by decide +kernel
theorem dX6_pinsFor_74 : decode cX6_pinsFor 74 = .ok (.iadd, 1) := by decide +kernel
theorem dX6_pinsFor_75 : decode cX6_pinsFor 75 = .ok (.istore 8, 2) := by decide +kernel
theorem dX6_pinsFor_77 : decode cX6_pinsFor 77 = .ok (.iload 8, 2) := by decide +kernel
theorem dX6_pinsFor_79 : decode cX6_pinsFor 79 = .ok (.bipush 48, 2) := by decide +kernel
theorem dX6_pinsFor_81 : decode cX6_pinsFor 81 = .ok (.if_icmp .ge 82, 3) := by decide +kernel
theorem dX6_pinsFor_84 : decode cX6_pinsFor 84 = .ok (.iload 6, 2) := by decide +kernel
theorem dX6_pinsFor_86 : decode cX6_pinsFor 86 = .ok (.iload_n 1, 1) := by decide +kernel
theorem dX6_pinsFor_87 : decode cX6_pinsFor 87 = .ok (.if_icmp .eq 76, 3) := by decide +kernel
theorem dX6_pinsFor_90 : decode cX6_pinsFor 90 = .ok (.iload 4, 2) := by decide +kernel
theorem dX6_pinsFor_92 : decode cX6_pinsFor 92 = .ok (.ifCond .eq 71, 3) := by decide +kernel
theorem dX6_pinsFor_95 : decode cX6_pinsFor 95 = .ok (.iload 5, 2) := by decide +kernel
theorem dX6_pinsFor_97 : decode cX6_pinsFor 97 = .ok (.iconst (-1), 1) := by decide +kernel
theorem dX6_pinsFor_98 : decode cX6_pinsFor 98 = .ok (.if_icmp .ne 65, 3) := by decide +kernel
theorem dX6_pinsFor_101 : decode cX6_pinsFor 101 = .ok (.aload_n 0, 1) := by decide +kernel
theorem dX6_pinsFor_102 : decode cX6_pinsFor 102 = .ok (.getfield 16, 3) := by decide +kernel
theorem dX6_pinsFor_105 : decode cX6_pinsFor 105 = .ok (.iload 8, 2) := by decide +kernel
theorem dX6_pinsFor_107 : decode cX6_pinsFor 107 = .ok (.iaload, 1) := by decide +kernel
theorem dX6_pinsFor_108 : decode cX6_pinsFor 108 = .ok (.istore 9, 2) := by decide +kernel
theorem dX6_pinsFor_110 : decode cX6_pinsFor 110 = .ok (.aload_n 0, 1) := by decide +kernel
theorem dX6_pinsFor_111 : decode cX6_pinsFor 111 = .ok (.getfield 16, 3) := by decide +kernel
theorem dX6_pinsFor_114 : decode cX6_pinsFor 114 = .ok (.iload 8, 2) := by decide +kernel
theorem dX6_pinsFor_116 : decode cX6_pinsFor 116 = .ok (.iconst 1, 1) := by decide +kernel
theorem dX6_pinsFor_117 : decode cX6_pinsFor 117 = .ok (.iastore, 1) := by decide +kernel
theorem dX6_pinsFor_118 : decode cX6_pinsFor 118 = .ok (.iload 8, 2) := by decide +kernel
theorem dX6_pinsFor_120 : decode cX6_pinsFor 120 = .ok (.iload_n 1, 1) := by decide +kernel
theorem dX6_pinsFor_121 : decode cX6_pinsFor 121 = .ok (.if_icmp .eq 24, 3) := by decide +kernel
theorem dX6_pinsFor_124 : decode cX6_pinsFor 124 = .ok (.aload_n 0, 1) := by decide +kernel
theorem dX6_pinsFor_125 : decode cX6_pinsFor 125 = .ok (.iload_n 1, 1) := by decide +kernel
theorem dX6_pinsFor_126 : decode cX6_pinsFor 126 = .ok (.iload_n 2, 1) := by decide +kernel
theorem dX6_pinsFor_127 : decode cX6_pinsFor 127 = .ok (.iload_n 3, 1) := by decide +kernel
theorem dX6_pinsFor_128 : decode cX6_pinsFor 128 = .ok (.invokevirtual 236, 3) := by decide +kernel
theorem dX6_pinsFor_131 : decode cX6_pinsFor 131 = .ok (.ifCond .eq 14, 3) := by decide +kernel
theorem dX6_pinsFor_134 : decode cX6_pinsFor 134 = .ok (.bipush 100, 2) := by decide +kernel
theorem dX6_pinsFor_136 : decode cX6_pinsFor 136 = .ok (.iload 6, 2) := by decide +kernel
theorem dX6_pinsFor_138 : decode cX6_pinsFor 138 = .ok (.imul, 1) := by decide +kernel
theorem dX6_pinsFor_139 : decode cX6_pinsFor 139 = .ok (.iload 8, 2) := by decide +kernel
theorem dX6_pinsFor_141 : decode cX6_pinsFor 141 = .ok (.iadd, 1) := by decide +kernel
theorem dX6_pinsFor_142 : decode cX6_pinsFor 142 = .ok (.goto 4, 3) := by decide +kernel
theorem dX6_pinsFor_145 : decode cX6_pinsFor 145 = .ok (.iconst (-1), 1) := by decide +kernel
theorem dX6_pinsFor_146 : decode cX6_pinsFor 146 = .ok (.istore 5, 2) := by decide +kernel
theorem dX6_pinsFor_148 : decode cX6_pinsFor 148 = .ok (.aload_n 0, 1) := by decide +kernel
theorem dX6_pinsFor_149 : decode cX6_pinsFor 149 = .ok (.getfield 16, 3) := by decide +kernel
theorem dX6_pinsFor_152 : decode cX6_pinsFor 152 = .ok (.iload 8, 2) := by decide +kernel
theorem dX6_pinsFor_154 : decode cX6_pinsFor 154 = .ok (.iload 9, 2) := by decide +kernel
theorem dX6_pinsFor_156 : decode cX6_pinsFor 156 = .ok (.iastore, 1) := by decide +kernel
theorem dX6_pinsFor_157 : decode cX6_pinsFor 157 = .ok (.iinc 8 1, 3) := by decide +kernel
theorem dX6_pinsFor_160 : decode cX6_pinsFor 160 = .ok (.goto (-83), 3) := by decide +kernel
theorem dX6_pinsFor_163 : decode cX6_pinsFor 163 = .ok (.aload_n 0, 1) := by decide +kernel
theorem dX6_pinsFor_164 : decode cX6_pinsFor 164 = .ok (.getfield 16, 3) := by decide +kernel
theorem dX6_pinsFor_167 : decode cX6_pinsFor 167 = .ok (.iload 6, 2) := by decide +kernel
theorem dX6_pinsFor_169 : decode cX6_pinsFor 169 = .ok (.iload 7, 2) := by decide +kernel
theorem dX6_pinsFor_171 : decode cX6_pinsFor 171 = .ok (.iastore, 1) := by decide +kernel
theorem dX6_pinsFor_172 : decode cX6_pinsFor 172 = .ok (.iinc 6 1, 3) := by decide +kernel
theorem dX6_pinsFor_175 : decode cX6_pinsFor 175 = .ok (.goto (-169), 3) := by decide +kernel
theorem dX6_pinsFor_178 : decode cX6_pinsFor 178 = .ok (.iload 5, 2) := by decide +kernel
theorem dX6_pinsFor_180 : decode cX6_pinsFor 180 = .ok (.ireturn, 1) := by decide +kernel
theorem dX6_pinned_0 : decode cX6_pinned 0 = .ok (.iload_n 1, 1) := by decide +kernel
theorem dX6_pinned_1 : decode cX6_pinned 1 = .ok (.invokestatic 155, 3) := by decide +kernel
theorem dX6_pinned_4 : decode cX6_pinned 4 = .ok (.ifCond .ne 6, 3) := by decide +kernel
theorem dX6_pinned_7 : decode cX6_pinned 7 = .ok (.bipush (-5), 2) := by decide +kernel
theorem dX6_pinned_9 : decode cX6_pinned 9 = .ok (.ireturn, 1) := by decide +kernel
theorem dX6_pinned_10 : decode cX6_pinned 10 = .ok (.iload_n 2, 1) := by decide +kernel
theorem dX6_pinned_11 : decode cX6_pinned 11 = .ok (.invokestatic 158, 3) := by decide +kernel
theorem dX6_pinned_14 : decode cX6_pinned 14 = .ok (.ifCond .eq 23, 3) := by decide +kernel
theorem dX6_pinned_17 : decode cX6_pinned 17 = .ok (.iload_n 3, 1) := by decide +kernel
theorem dX6_pinned_18 : decode cX6_pinned 18 = .ok (.iconst 0, 1) := by decide +kernel
theorem dX6_pinned_19 : decode cX6_pinned 19 = .ok (.bipush 48, 2) := by decide +kernel
theorem dX6_pinned_21 : decode cX6_pinned 21 = .ok (.invokestatic 69, 3) := by decide +kernel
theorem dX6_pinned_24 : decode cX6_pinned 24 = .ok (.ifCond .eq 13, 3) := by decide +kernel
theorem dX6_pinned_27 : decode cX6_pinned 27 = .ok (.iload 4, 2) := by decide +kernel
theorem dX6_pinned_29 : decode cX6_pinned 29 = .ok (.iconst 0, 1) := by decide +kernel
theorem dX6_pinned_30 : decode cX6_pinned 30 = .ok (.iconst 2, 1) := by decide +kernel
theorem dX6_pinned_31 : decode cX6_pinned 31 = .ok (.invokestatic 69, 3) := by decide +kernel
theorem dX6_pinned_34 : decode cX6_pinned 34 = .ok (.ifCond .ne 6, 3) := by decide +kernel
theorem dX6_pinned_37 : decode cX6_pinned 37 = .ok (.bipush (-7), 2) := by decide +kernel
theorem dX6_pinned_39 : decode cX6_pinned 39 = .ok (.ireturn, 1) := by decide +kernel
theorem dX6_pinned_40 : decode cX6_pinned 40 = .ok (.aload_n 0, 1) := by decide +kernel
theorem dX6_pinned_41 : decode cX6_pinned 41 = .ok (.iload_n 1, 1) := by decide +kernel
theorem dX6_pinned_42 : decode cX6_pinned 42 = .ok (.iload_n 2, 1) := by decide +kernel
theorem dX6_pinned_43 : decode cX6_pinned 43 = .ok (.iload_n 3, 1) := by decide +kernel
theorem dX6_pinned_44 : decode cX6_pinned 44 = .ok (.invokevirtual 236, 3) := by decide +kernel
theorem dX6_pinned_47 : decode cX6_pinned 47 = .ok (.ifCond .eq 14, 3) := by decide +kernel
theorem dX6_pinned_50 : decode cX6_pinned 50 = .ok (.iload 4, 2) := by decide +kernel
theorem dX6_pinned_52 : decode cX6_pinned 52 = .ok (.ifCond .ne 7, 3) := by decide +kernel
theorem dX6_pinned_55 : decode cX6_pinned 55 = .ok (.iconst 0, 1) := by decide +kernel
theorem dX6_pinned_56 : decode cX6_pinned 56 = .ok (.goto 4, 3) := by decide +kernel
theorem dX6_pinned_59 : decode cX6_pinned 59 = .ok (.iconst (-1), 1) := by decide +kernel
theorem dX6_pinned_60 : decode cX6_pinned 60 = .ok (.ireturn, 1) := by decide +kernel
theorem dX6_pinned_61 : decode cX6_pinned 61 = .ok (.aload_n 0, 1) := by decide +kernel
theorem dX6_pinned_62 : decode cX6_pinned 62 = .ok (.iload_n 1, 1) := by decide +kernel
theorem dX6_pinned_63 : decode cX6_pinned 63 = .ok (.iload_n 2, 1) := by decide +kernel
theorem dX6_pinned_64 : decode cX6_pinned 64 = .ok (.iload_n 3, 1) := by decide +kernel
theorem dX6_pinned_65 : decode cX6_pinned 65 = .ok (.iconst 0, 1) := by decide +kernel
theorem dX6_pinned_66 : decode cX6_pinned 66 = .ok (.invokevirtual 239, 3) := by decide +kernel
theorem dX6_pinned_69 : decode cX6_pinned 69 = .ok (.istore 5, 2) := by decide +kernel
theorem dX6_pinned_71 : decode cX6_pinned 71 = .ok (.iload 5, 2) := by decide +kernel
theorem dX6_pinned_73 : decode cX6_pinned 73 = .ok (.iconst (-1), 1) := by decide +kernel
theorem dX6_pinned_74 : decode cX6_pinned 74 = .ok (.if_icmp .eq 28, 3) := by decide +kernel
theorem dX6_pinned_77 : decode cX6_pinned 77 = .ok (.iload 4, 2) := by decide +kernel
theorem dX6_pinned_79 : decode cX6_pinned 79 = .ok (.ifCond .ne 7, 3) := by decide +kernel
theorem dX6_pinned_82 : decode cX6_pinned 82 = .ok (.iconst 1, 1) := by decide +kernel
theorem dX6_pinned_83 : decode cX6_pinned 83 = .ok (.goto 18, 3) := by decide +kernel
theorem dX6_pinned_86 : decode cX6_pinned 86 = .ok (.iload 4, 2) := by decide +kernel
theorem dX6_pinned_88 : decode cX6_pinned 88 = .ok (.iconst 1, 1) := by decide +kernel
theorem dX6_pinned_89 : decode cX6_pinned 89 = .ok (.if_icmp .ne 11, 3) := by decide +kernel
theorem dX6_pinned_92 : decode cX6_pinned 92 = .ok (.iload 5, 2) := by decide +kernel
theorem dX6_pinned_94 : decode cX6_pinned 94 = .ok (.bipush 100, 2) := by decide +kernel
theorem dX6_pinned_96 : decode cX6_pinned 96 = .ok (.idiv, 1) := by decide +kernel
theorem dX6_pinned_97 : decode cX6_pinned 97 = .ok (.goto 4, 3) := by decide +kernel
theorem dX6_pinned_100 : decode cX6_pinned 100 = .ok (.iconst (-1), 1) := by decide +kernel
theorem dX6_pinned_101 : decode cX6_pinned 101 = .ok (.ireturn, 1) := by decide +kernel
theorem dX6_pinned_102 : decode cX6_pinned 102 = .ok (.aload_n 0, 1) := by decide +kernel
theorem dX6_pinned_103 : decode cX6_pinned 103 = .ok (.iload_n 1, 1) := by decide +kernel
theorem dX6_pinned_104 : decode cX6_pinned 104 = .ok (.iload_n 2, 1) := by decide +kernel
theorem dX6_pinned_105 : decode cX6_pinned 105 = .ok (.iload_n 3, 1) := by decide +kernel
theorem dX6_pinned_106 : decode cX6_pinned 106 = .ok (.iconst 1, 1) := by decide +kernel
theorem dX6_pinned_107 : decode cX6_pinned 107 = .ok (.invokevirtual 239, 3) := by decide +kernel
theorem dX6_pinned_110 : decode cX6_pinned 110 = .ok (.istore 6, 2) := by decide +kernel
theorem dX6_pinned_112 : decode cX6_pinned 112 = .ok (.iload 6, 2) := by decide +kernel
theorem dX6_pinned_114 : decode cX6_pinned 114 = .ok (.iconst (-1), 1) := by decide +kernel
theorem dX6_pinned_115 : decode cX6_pinned 115 = .ok (.if_icmp .ne 7, 3) := by decide +kernel
theorem dX6_pinned_118 : decode cX6_pinned 118 = .ok (.iconst (-1), 1) := by decide +kernel
theorem dX6_pinned_119 : decode cX6_pinned 119 = .ok (.goto 31, 3) := by decide +kernel
theorem dX6_pinned_122 : decode cX6_pinned 122 = .ok (.iload 4, 2) := by decide +kernel
theorem dX6_pinned_124 : decode cX6_pinned 124 = .ok (.ifCond .ne 7, 3) := by decide +kernel
theorem dX6_pinned_127 : decode cX6_pinned 127 = .ok (.iconst 2, 1) := by decide +kernel
theorem dX6_pinned_128 : decode cX6_pinned 128 = .ok (.goto 22, 3) := by decide +kernel
theorem dX6_pinned_131 : decode cX6_pinned 131 = .ok (.iload 4, 2) := by decide +kernel
theorem dX6_pinned_133 : decode cX6_pinned 133 = .ok (.iconst 1, 1) := by decide +kernel
theorem dX6_pinned_134 : decode cX6_pinned 134 = .ok (.if_icmp .ne 11, 3) := by decide +kernel
theorem dX6_pinned_137 : decode cX6_pinned 137 = .ok (.iload 6, 2) := by decide +kernel
theorem dX6_pinned_139 : decode cX6_pinned 139 = .ok (.bipush 100, 2) := by decide +kernel
theorem dX6_pinned_141 : decode cX6_pinned 141 = .ok (.idiv, 1) := by decide +kernel
theorem dX6_pinned_142 : decode cX6_pinned 142 = .ok (.goto 8, 3) := by decide +kernel
theorem dX6_pinned_145 : decode cX6_pinned 145 = .ok (.iload 6, 2) := by decide +kernel
theorem dX6_pinned_147 : decode cX6_pinned 147 = .ok (.bipush 100, 2) := by decide +kernel
theorem dX6_pinned_149 : decode cX6_pinned 149 = .ok (.irem, 1) := by decide +kernel
theorem dX6_pinned_150 : decode cX6_pinned 150 = .ok (.ireturn, 1) := by decide +kernel
theorem dX6_mending_0 : decode cX6_mending 0 = .ok (.iload_n 1, 1) := by decide +kernel
theorem dX6_mending_1 : decode cX6_mending 1 = .ok (.invokestatic 155, 3) := by decide +kernel
theorem dX6_mending_4 : decode cX6_mending 4 = .ok (.ifCond .ne 6, 3) := by decide +kernel
theorem dX6_mending_7 : decode cX6_mending 7 = .ok (.bipush (-5), 2) := by decide +kernel
theorem dX6_mending_9 : decode cX6_mending 9 = .ok (.ireturn, 1) := by decide +kernel
theorem dX6_mending_10 : decode cX6_mending 10 = .ok (.iload_n 2, 1) := by decide +kernel
theorem dX6_mending_11 : decode cX6_mending 11 = .ok (.invokestatic 158, 3) := by decide +kernel
theorem dX6_mending_14 : decode cX6_mending 14 = .ok (.ifCond .eq 12, 3) := by decide +kernel
theorem dX6_mending_17 : decode cX6_mending 17 = .ok (.iload_n 3, 1) := by decide +kernel
theorem dX6_mending_18 : decode cX6_mending 18 = .ok (.iconst 0, 1) := by decide +kernel
theorem dX6_mending_19 : decode cX6_mending 19 = .ok (.iconst 1, 1) := by decide +kernel
theorem dX6_mending_20 : decode cX6_mending 20 = .ok (.invokestatic 69, 3) := by decide +kernel
theorem dX6_mending_23 : decode cX6_mending 23 = .ok (.ifCond .ne 6, 3) := by decide +kernel
theorem dX6_mending_26 : decode cX6_mending 26 = .ok (.bipush (-7), 2) := by decide +kernel
theorem dX6_mending_28 : decode cX6_mending 28 = .ok (.ireturn, 1) := by decide +kernel
theorem dX6_mending_29 : decode cX6_mending 29 = .ok (.aload_n 0, 1) := by decide +kernel
theorem dX6_mending_30 : decode cX6_mending 30 = .ok (.iload_n 1, 1) := by decide +kernel
theorem dX6_mending_31 : decode cX6_mending 31 = .ok (.iload_n 2, 1) := by decide +kernel
theorem dX6_mending_32 : decode cX6_mending 32 = .ok (.invokevirtual 213, 3) := by decide +kernel
theorem dX6_mending_35 : decode cX6_mending 35 = .ok (.aload_n 0, 1) := by decide +kernel
theorem dX6_mending_36 : decode cX6_mending 36 = .ok (.getfield 202, 3) := by decide +kernel
theorem dX6_mending_39 : decode cX6_mending 39 = .ok (.ifCond .ne 13, 3) := by decide +kernel
theorem dX6_mending_42 : decode cX6_mending 42 = .ok (.iload_n 3, 1) := by decide +kernel
theorem dX6_mending_43 : decode cX6_mending 43 = .ok (.ifCond .ne 7, 3) := by decide +kernel
theorem dX6_mending_46 : decode cX6_mending 46 = .ok (.iconst (-1), 1) := by decide +kernel
theorem dX6_mending_47 : decode cX6_mending 47 = .ok (.goto 4, 3) := by decide +kernel
theorem dX6_mending_50 : decode cX6_mending 50 = .ok (.iconst 0, 1) := by decide +kernel
theorem dX6_mending_51 : decode cX6_mending 51 = .ok (.ireturn, 1) := by decide +kernel
theorem dX6_mending_52 : decode cX6_mending 52 = .ok (.aload_n 0, 1) := by decide +kernel
theorem dX6_mending_53 : decode cX6_mending 53 = .ok (.iconst 1, 1) := by decide +kernel
theorem dX6_mending_54 : decode cX6_mending 54 = .ok (.invokevirtual 220, 3) := by decide +kernel
theorem dX6_mending_57 : decode cX6_mending 57 = .ok (.istore 4, 2) := by decide +kernel
theorem dX6_mending_59 : decode cX6_mending 59 = .ok (.iconst 0, 1) := by decide +kernel
theorem dX6_mending_60 : decode cX6_mending 60 = .ok (.istore 5, 2) := by decide +kernel
theorem dX6_mending_62 : decode cX6_mending 62 = .ok (.bipush 24, 2) := by decide +kernel
theorem dX6_mending_64 : decode cX6_mending 64 = .ok (.bipush 8, 2) := by decide +kernel
theorem dX6_mending_66 : decode cX6_mending 66 = .ok (.aload_n 0, 1) := by decide +kernel
theorem dX6_mending_67 : decode cX6_mending 67 = .ok (.invokevirtual 217, 3) := by decide +kernel
theorem dX6_mending_70 : decode cX6_mending 70 = .ok (.isub, 1) := by decide +kernel
theorem dX6_mending_71 : decode cX6_mending 71 = .ok (.imul, 1) := by decide +kernel
theorem dX6_mending_72 : decode cX6_mending 72 = .ok (.istore 6, 2) := by decide +kernel
theorem dX6_mending_74 : decode cX6_mending 74 = .ok (.iload 6, 2) := by decide +kernel
theorem dX6_mending_76 : decode cX6_mending 76 = .ok (.iload 4, 2) := by decide +kernel
theorem dX6_mending_78 : decode cX6_mending 78 = .ok (.if_icmp .ge 7, 3) := by decide +kernel
theorem dX6_mending_81 : decode cX6_mending 81 = .ok (.iconst 1, 1) := by decide +kernel
theorem dX6_mending_82 : decode cX6_mending 82 = .ok (.goto 5, 3) := by decide +kernel
theorem dX6_mending_85 : decode cX6_mending 85 = .ok (.iload 5, 2) := by decide +kernel
theorem dX6_mending_87 : decode cX6_mending 87 = .ok (.istore 5, 2) := by decide +kernel
theorem dX6_mending_89 : decode cX6_mending 89 = .ok (.iload 6, 2) := by decide +kernel
theorem dX6_mending_91 : decode cX6_mending 91 = .ok (.iload 4, 2) := by decide +kernel
theorem dX6_mending_93 : decode cX6_mending 93 = .ok (.if_icmp .ge 8, 3) := by decide +kernel
theorem dX6_mending_96 : decode cX6_mending 96 = .ok (.iload 6, 2) := by decide +kernel
theorem dX6_mending_98 : decode cX6_mending 98 = .ok (.goto 5, 3) := by decide +kernel
theorem dX6_mending_101 : decode cX6_mending 101 = .ok (.iload 4, 2) := by decide +kernel
theorem dX6_mending_103 : decode cX6_mending 103 = .ok (.istore 4, 2) := by decide +kernel
theorem dX6_mending_105 : decode cX6_mending 105 = .ok (.bipush 50, 2) := by decide +kernel
theorem dX6_mending_107 : decode cX6_mending 107 = .ok (.aload_n 0, 1) := by decide +kernel
theorem dX6_mending_108 : decode cX6_mending 108 = .ok (.getfield 202, 3) := by decide +kernel
theorem dX6_mending_111 : decode cX6_mending 111 = .ok (.iadd, 1) := by decide +kernel
theorem dX6_mending_112 : decode cX6_mending 112 = .ok (.iload 4, 2) := by decide +kernel
theorem dX6_mending_114 : decode cX6_mending 114 = .ok (.if_icmp .ge 7, 3) := by decide +kernel
theorem dX6_mending_117 : decode cX6_mending 117 = .ok (.iconst 2, 1) := by decide +kernel
theorem dX6_mending_118 : decode cX6_mending 118 = .ok (.goto 5, 3) := by decide +kernel
theorem dX6_mending_121 : decode cX6_mending 121 = .ok (.iload 5, 2) := by decide +kernel
theorem dX6_mending_123 : decode cX6_mending 123 = .ok (.istore 5, 2) := by decide +kernel
theorem dX6_mending_125 : decode cX6_mending 125 = .ok (.bipush 50, 2) := by decide +kernel
theorem dX6_mending_127 : decode cX6_mending 127 = .ok (.aload_n 0, 1) := by decide +kernel
theorem dX6_mending_128 : decode cX6_mending 128 = .ok (.getfield 202, 3) := by decide +kernel
theorem dX6_mending_131 : decode cX6_mending 131 = .ok (.iadd, 1) := by decide +kernel
theorem dX6_mending_132 : decode cX6_mending 132 = .ok (.iload 4, 2) := by decide +kernel
theorem dX6_mending_134 : decode cX6_mending 134 = .ok (.if_icmp .ge 13, 3) := by decide +kernel
theorem dX6_mending_137 : decode cX6_mending 137 = .ok (.bipush 50, 2) := by decide +kernel
theorem dX6_mending_139 : decode cX6_mending 139 = .ok (.aload_n 0, 1) := by decide +kernel
theorem dX6_mending_140 : decode cX6_mending 140 = .ok (.getfield 202, 3) := by decide +kernel
theorem dX6_mending_143 : decode cX6_mending 143 = .ok (.iadd, 1) := by decide +kernel
theorem dX6_mending_144 : decode cX6_mending 144 = .ok (.goto 5, 3) := by decide +kernel
theorem dX6_mending_147 : decode cX6_mending 147 = .ok (.iload 4, 2) := by decide +kernel
theorem dX6_mending_149 : decode cX6_mending 149 = .ok (.istore 4, 2) := by decide +kernel
theorem dX6_mending_151 : decode cX6_mending 151 = .ok (.iload_n 3, 1) := by decide +kernel
theorem dX6_mending_152 : decode cX6_mending 152 = .ok (.ifCond .ne 8, 3) := by decide +kernel
theorem dX6_mending_155 : decode cX6_mending 155 = .ok (.iload 5, 2) := by decide +kernel
theorem dX6_mending_157 : decode cX6_mending 157 = .ok (.goto 5, 3) := by decide +kernel
theorem dX6_mending_160 : decode cX6_mending 160 = .ok (.iload 4, 2) := by decide +kernel
theorem dX6_mending_162 : decode cX6_mending 162 = .ok (.ireturn, 1) := by decide +kernel
theorem dX6_mend_0 : decode cX6_mend 0 = .ok (.iload_n 1, 1) := by decide +kernel
theorem dX6_mend_1 : decode cX6_mend 1 = .ok (.invokestatic 155, 3) := by decide +kernel
theorem dX6_mend_4 : decode cX6_mend 4 = .ok (.ifCond .ne 6, 3) := by decide +kernel
theorem dX6_mend_7 : decode cX6_mend 7 = .ok (.bipush (-5), 2) := by decide +kernel
theorem dX6_mend_9 : decode cX6_mend 9 = .ok (.ireturn, 1) := by decide +kernel
theorem dX6_mend_10 : decode cX6_mend 10 = .ok (.iload_n 2, 1) := by decide +kernel
theorem dX6_mend_11 : decode cX6_mend 11 = .ok (.invokestatic 158, 3) := by decide +kernel
theorem dX6_mend_14 : decode cX6_mend 14 = .ok (.ifCond .ne 6, 3) := by decide +kernel
theorem dX6_mend_17 : decode cX6_mend 17 = .ok (.bipush (-7), 2) := by decide +kernel
theorem dX6_mend_19 : decode cX6_mend 19 = .ok (.ireturn, 1) := by decide +kernel
theorem dX6_mend_20 : decode cX6_mend 20 = .ok (.aload_n 0, 1) := by decide +kernel
theorem dX6_mend_21 : decode cX6_mend 21 = .ok (.iload_n 1, 1) := by decide +kernel
theorem dX6_mend_22 : decode cX6_mend 22 = .ok (.iload_n 2, 1) := by decide +kernel
theorem dX6_mend_23 : decode cX6_mend 23 = .ok (.invokevirtual 213, 3) := by decide +kernel
theorem dX6_mend_26 : decode cX6_mend 26 = .ok (.iconst 0, 1) := by decide +kernel
theorem dX6_mend_27 : decode cX6_mend 27 = .ok (.istore_n 3, 1) := by decide +kernel
theorem dX6_mend_28 : decode cX6_mend 28 = .ok (.iconst 0, 1) := by decide +kernel
theorem dX6_mend_29 : decode cX6_mend 29 = .ok (.istore 4, 2) := by decide +kernel
theorem dX6_mend_31 : decode cX6_mend 31 = .ok (.iload 4, 2) := by decide +kernel
theorem dX6_mend_33 : decode cX6_mend 33 = .ok (.bipush 48, 2) := by decide +kernel
theorem dX6_mend_35 : decode cX6_mend 35 = .ok (.if_icmp .ge 67, 3) := by decide +kernel
theorem dX6_mend_38 : decode cX6_mend 38 = .ok (.iload_n 3, 1) := by decide +kernel
theorem dX6_mend_39 : decode cX6_mend 39 = .ok (.aload_n 0, 1) := by decide +kernel
theorem dX6_mend_40 : decode cX6_mend 40 = .ok (.getfield 58, 3) := by decide +kernel
theorem dX6_mend_43 : decode cX6_mend 43 = .ok (.iload 4, 2) := by decide +kernel
theorem dX6_mend_45 : decode cX6_mend 45 = .ok (.iaload, 1) := by decide +kernel
theorem dX6_mend_46 : decode cX6_mend 46 = .ok (.iconst (-1), 1) := by decide +kernel
theorem dX6_mend_47 : decode cX6_mend 47 = .ok (.if_icmp .eq 17, 3) := by decide +kernel
theorem dX6_mend_50 : decode cX6_mend 50 = .ok (.aload_n 0, 1) := by decide +kernel
theorem dX6_mend_51 : decode cX6_mend 51 = .ok (.getfield 19, 3) := by decide +kernel
theorem dX6_mend_54 : decode cX6_mend 54 = .ok (.iload 4, 2) := by decide +kernel
theorem dX6_mend_56 : decode cX6_mend 56 = .ok (.iaload, 1) := by decide +kernel
theorem dX6_mend_57 : decode cX6_mend 57 = .ok (.ifCond .ne 7, 3) := by decide +kernel
theorem dX6_mend_60 : decode cX6_mend 60 = .ok (.iconst 1, 1) := by decide +kernel
theorem dX6_mend_61 : decode cX6_mend 61 = .ok (.goto 4, 3) := by decide +kernel
theorem dX6_mend_64 : decode cX6_mend 64 = .ok (.iconst 0, 1) := by decide +kernel
theorem dX6_mend_65 : decode cX6_mend 65 = .ok (.iadd, 1) := by decide +kernel
theorem dX6_mend_66 : decode cX6_mend 66 = .ok (.istore_n 3, 1) := by decide +kernel
theorem dX6_mend_67 : decode cX6_mend 67 = .ok (.aload_n 0, 1) := by decide +kernel
theorem dX6_mend_68 : decode cX6_mend 68 = .ok (.getfield 19, 3) := by decide +kernel
theorem dX6_mend_71 : decode cX6_mend 71 = .ok (.iload 4, 2) := by decide +kernel
theorem dX6_mend_73 : decode cX6_mend 73 = .ok (.aload_n 0, 1) := by decide +kernel
theorem dX6_mend_74 : decode cX6_mend 74 = .ok (.getfield 58, 3) := by decide +kernel
theorem dX6_mend_77 : decode cX6_mend 77 = .ok (.iload 4, 2) := by decide +kernel
theorem dX6_mend_79 : decode cX6_mend 79 = .ok (.iaload, 1) := by decide +kernel
theorem dX6_mend_80 : decode cX6_mend 80 = .ok (.iconst (-1), 1) := by decide +kernel
theorem dX6_mend_81 : decode cX6_mend 81 = .ok (.if_icmp .eq 7, 3) := by decide +kernel
theorem dX6_mend_84 : decode cX6_mend 84 = .ok (.iconst 1, 1) := by decide +kernel
theorem dX6_mend_85 : decode cX6_mend 85 = .ok (.goto 10, 3) := by decide +kernel
theorem dX6_mend_88 : decode cX6_mend 88 = .ok (.aload_n 0, 1) := by decide +kernel
theorem dX6_mend_89 : decode cX6_mend 89 = .ok (.getfield 19, 3) := by decide +kernel
theorem dX6_mend_92 : decode cX6_mend 92 = .ok (.iload 4, 2) := by decide +kernel
theorem dX6_mend_94 : decode cX6_mend 94 = .ok (.iaload, 1) := by decide +kernel
theorem dX6_mend_95 : decode cX6_mend 95 = .ok (.iastore, 1) := by decide +kernel
theorem dX6_mend_96 : decode cX6_mend 96 = .ok (.iinc 4 1, 3) := by decide +kernel
theorem dX6_mend_99 : decode cX6_mend 99 = .ok (.goto (-68), 3) := by decide +kernel
theorem dX6_mend_102 : decode cX6_mend 102 = .ok (.iload_n 3, 1) := by decide +kernel
theorem dX6_mend_103 : decode cX6_mend 103 = .ok (.ireturn, 1) := by decide +kernel
theorem dX6_block_0 : decode cX6_block 0 = .ok (.aload_n 0, 1) := by decide +kernel
theorem dX6_block_1 : decode cX6_block 1 = .ok (.iconst 1, 1) := by decide +kernel
theorem dX6_block_2 : decode cX6_block 2 = .ok (.invokevirtual 73, 3) := by decide +kernel
theorem dX6_block_5 : decode cX6_block 5 = .ok (.istore_n 1, 1) := by decide +kernel
theorem dX6_block_6 : decode cX6_block 6 = .ok (.iconst 0, 1) := by decide +kernel
theorem dX6_block_7 : decode cX6_block 7 = .ok (.istore_n 2, 1) := by decide +kernel
theorem dX6_block_8 : decode cX6_block 8 = .ok (.iload_n 2, 1) := by decide +kernel
theorem dX6_block_9 : decode cX6_block 9 = .ok (.bipush 48, 2) := by decide +kernel
theorem dX6_block_11 : decode cX6_block 11 = .ok (.if_icmp .ge 16, 3) := by decide +kernel
theorem dX6_block_14 : decode cX6_block 14 = .ok (.aload_n 0, 1) := by decide +kernel
theorem dX6_block_15 : decode cX6_block 15 = .ok (.getfield 19, 3) := by decide +kernel
theorem dX6_block_18 : decode cX6_block 18 = .ok (.iload_n 2, 1) := by decide +kernel
theorem dX6_block_19 : decode cX6_block 19 = .ok (.iconst 0, 1) := by decide +kernel
theorem dX6_block_20 : decode cX6_block 20 = .ok (.iastore, 1) := by decide +kernel
theorem dX6_block_21 : decode cX6_block 21 = .ok (.iinc 2 1, 3) := by decide +kernel
theorem dX6_block_24 : decode cX6_block 24 = .ok (.goto (-16), 3) := by decide +kernel
theorem dX6_block_27 : decode cX6_block 27 = .ok (.iload_n 1, 1) := by decide +kernel
theorem dX6_block_28 : decode cX6_block 28 = .ok (.ireturn, 1) := by decide +kernel
theorem dX6_seen_0 : decode cX6_seen 0 = .ok (.lconst 0, 1) := by decide +kernel
theorem dX6_seen_1 : decode cX6_seen 1 = .ok (.lstore_n 1, 1) := by decide +kernel
theorem dX6_seen_2 : decode cX6_seen 2 = .ok (.iconst 0, 1) := by decide +kernel
theorem dX6_seen_3 : decode cX6_seen 3 = .ok (.istore_n 3, 1) := by decide +kernel
theorem dX6_seen_4 : decode cX6_seen 4 = .ok (.iload_n 3, 1) := by decide +kernel
theorem dX6_seen_5 : decode cX6_seen 5 = .ok (.bipush 48, 2) := by decide +kernel
theorem dX6_seen_7 : decode cX6_seen 7 = .ok (.if_icmp .ge 114, 3) := by decide +kernel
theorem dX6_seen_10 : decode cX6_seen 10 = .ok (.iload_n 3, 1) := by decide +kernel
theorem dX6_seen_11 : decode cX6_seen 11 = .ok (.bipush 6, 2) := by decide +kernel
theorem dX6_seen_13 : decode cX6_seen 13 = .ok (.irem, 1) := by decide +kernel
theorem dX6_seen_14 : decode cX6_seen 14 = .ok (.ifCond .eq 26, 3) := by decide +kernel
theorem dX6_seen_17 : decode cX6_seen 17 = .ok (.aload_n 0, 1) := by decide +kernel
theorem dX6_seen_18 : decode cX6_seen 18 = .ok (.getfield 7, 3) := by decide +kernel
theorem dX6_seen_21 : decode cX6_seen 21 = .ok (.iload_n 3, 1) := by decide +kernel
theorem dX6_seen_22 : decode cX6_seen 22 = .ok (.iconst 1, 1) := by decide +kernel
theorem dX6_seen_23 : decode cX6_seen 23 = .ok (.isub, 1) := by decide +kernel
theorem dX6_seen_24 : decode cX6_seen 24 = .ok (.iaload, 1) := by decide +kernel
theorem dX6_seen_25 : decode cX6_seen 25 = .ok (.invokestatic 146, 3) := by decide +kernel
theorem dX6_seen_28 : decode cX6_seen 28 = .ok (.aload_n 0, 1) := by decide +kernel
theorem dX6_seen_29 : decode cX6_seen 29 = .ok (.getfield 7, 3) := by decide +kernel
theorem dX6_seen_32 : decode cX6_seen 32 = .ok (.iload_n 3, 1) := by decide +kernel
theorem dX6_seen_33 : decode cX6_seen 33 = .ok (.iaload, 1) := by decide +kernel
theorem dX6_seen_34 : decode cX6_seen 34 = .ok (.invokestatic 146, 3) := by decide +kernel
theorem dX6_seen_37 : decode cX6_seen 37 = .ok (.if_icmp .eq 7, 3) := by decide +kernel
theorem dX6_seen_40 : decode cX6_seen 40 = .ok (.iconst 1, 1) := by decide +kernel
theorem dX6_seen_41 : decode cX6_seen 41 = .ok (.goto 4, 3) := by decide +kernel
theorem dX6_seen_44 : decode cX6_seen 44 = .ok (.iconst 0, 1) := by decide +kernel
theorem dX6_seen_45 : decode cX6_seen 45 = .ok (.istore 4, 2) := by decide +kernel
theorem dX6_seen_47 : decode cX6_seen 47 = .ok (.iload_n 3, 1) := by decide +kernel
theorem dX6_seen_48 : decode cX6_seen 48 = .ok (.bipush 6, 2) := by decide +kernel
theorem dX6_seen_50 : decode cX6_seen 50 = .ok (.irem, 1) := by decide +kernel
theorem dX6_seen_51 : decode cX6_seen 51 = .ok (.iconst 5, 1) := by decide +kernel
theorem dX6_seen_52 : decode cX6_seen 52 = .ok (.if_icmp .eq 26, 3) := by decide +kernel
theorem dX6_seen_55 : decode cX6_seen 55 = .ok (.aload_n 0, 1) := by decide +kernel
theorem dX6_seen_56 : decode cX6_seen 56 = .ok (.getfield 7, 3) := by decide +kernel
theorem dX6_seen_59 : decode cX6_seen 59 = .ok (.iload_n 3, 1) := by decide +kernel
theorem dX6_seen_60 : decode cX6_seen 60 = .ok (.iconst 1, 1) := by decide +kernel
theorem dX6_seen_61 : decode cX6_seen 61 = .ok (.iadd, 1) := by decide +kernel
theorem dX6_seen_62 : decode cX6_seen 62 = .ok (.iaload, 1) := by decide +kernel
theorem dX6_seen_63 : decode cX6_seen 63 = .ok (.invokestatic 146, 3) := by decide +kernel
theorem dX6_seen_66 : decode cX6_seen 66 = .ok (.aload_n 0, 1) := by decide +kernel
theorem dX6_seen_67 : decode cX6_seen 67 = .ok (.getfield 7, 3) := by decide +kernel
theorem dX6_seen_70 : decode cX6_seen 70 = .ok (.iload_n 3, 1) := by decide +kernel
theorem dX6_seen_71 : decode cX6_seen 71 = .ok (.iaload, 1) := by decide +kernel
theorem dX6_seen_72 : decode cX6_seen 72 = .ok (.invokestatic 146, 3) := by decide +kernel
theorem dX6_seen_75 : decode cX6_seen 75 = .ok (.if_icmp .eq 7, 3) := by decide +kernel
theorem dX6_seen_78 : decode cX6_seen 78 = .ok (.iconst 1, 1) := by decide +kernel
theorem dX6_seen_79 : decode cX6_seen 79 = .ok (.goto 4, 3) := by decide +kernel
theorem dX6_seen_82 : decode cX6_seen 82 = .ok (.iconst 0, 1) := by decide +kernel
theorem dX6_seen_83 : decode cX6_seen 83 = .ok (.istore 5, 2) := by decide +kernel
theorem dX6_seen_85 : decode cX6_seen 85 = .ok (.lload_n 1, 1) := by decide +kernel
theorem dX6_seen_86 : decode cX6_seen 86 = .ok (.aload_n 0, 1) := by decide +kernel
theorem dX6_seen_87 : decode cX6_seen 87 = .ok (.getfield 19, 3) := by decide +kernel
theorem dX6_seen_90 : decode cX6_seen 90 = .ok (.iload_n 3, 1) := by decide +kernel
theorem dX6_seen_91 : decode cX6_seen 91 = .ok (.iaload, 1) := by decide +kernel
theorem dX6_seen_92 : decode cX6_seen 92 = .ok (.iconst 1, 1) := by decide +kernel
theorem dX6_seen_93 : decode cX6_seen 93 = .ok (.if_icmp .ne 19, 3) := by decide +kernel
theorem dX6_seen_96 : decode cX6_seen 96 = .ok (.iload 4, 2) := by decide +kernel
theorem dX6_seen_98 : decode cX6_seen 98 = .ok (.ifCond .eq 14, 3) := by decide +kernel
theorem dX6_seen_101 : decode cX6_seen 101 = .ok (.iload 5, 2) := by decide +kernel
theorem dX6_seen_103 : decode cX6_seen 103 = .ok (.ifCond .eq 9, 3) := by decide +kernel
theorem dX6_seen_106 : decode cX6_seen 106 = .ok (.lconst 1, 1) := by decide +kernel
theorem dX6_seen_107 : decode cX6_seen 107 = .ok (.iload_n 3, 1) := by decide +kernel
theorem dX6_seen_108 : decode cX6_seen 108 = .ok (.lshl, 1) := by decide +kernel
theorem dX6_seen_109 : decode cX6_seen 109 = .ok (.goto 4, 3) := by decide +kernel
theorem dX6_seen_112 : decode cX6_seen 112 = .ok (.lconst 0, 1) := by decide +kernel
theorem dX6_seen_113 : decode cX6_seen 113 = .ok (.lor, 1) := by decide +kernel
theorem dX6_seen_114 : decode cX6_seen 114 = .ok (.lstore_n 1, 1) := by decide +kernel
theorem dX6_seen_115 : decode cX6_seen 115 = .ok (.iinc 3 1, 3) := by decide +kernel
theorem dX6_seen_118 : decode cX6_seen 118 = .ok (.goto (-114), 3) := by decide +kernel
theorem dX6_seen_121 : decode cX6_seen 121 = .ok (.lload_n 1, 1) := by decide +kernel
theorem dX6_seen_122 : decode cX6_seen 122 = .ok (.lreturn, 1) := by decide +kernel
theorem dX6_slack_0 : decode cX6_slack 0 = .ok (.iload_n 1, 1) := by decide +kernel
theorem dX6_slack_1 : decode cX6_slack 1 = .ok (.invokestatic 155, 3) := by decide +kernel
theorem dX6_slack_4 : decode cX6_slack 4 = .ok (.ifCond .ne 6, 3) := by decide +kernel
theorem dX6_slack_7 : decode cX6_slack 7 = .ok (.bipush (-5), 2) := by decide +kernel
theorem dX6_slack_9 : decode cX6_slack 9 = .ok (.ireturn, 1) := by decide +kernel
theorem dX6_slack_10 : decode cX6_slack 10 = .ok (.iload_n 2, 1) := by decide +kernel
theorem dX6_slack_11 : decode cX6_slack 11 = .ok (.invokestatic 158, 3) := by decide +kernel
theorem dX6_slack_14 : decode cX6_slack 14 = .ok (.ifCond .ne 6, 3) := by decide +kernel
theorem dX6_slack_17 : decode cX6_slack 17 = .ok (.bipush (-7), 2) := by decide +kernel
theorem dX6_slack_19 : decode cX6_slack 19 = .ok (.ireturn, 1) := by decide +kernel
theorem dX6_slack_20 : decode cX6_slack 20 = .ok (.iconst 0, 1) := by decide +kernel
theorem dX6_slack_21 : decode cX6_slack 21 = .ok (.istore_n 3, 1) := by decide +kernel
theorem dX6_slack_22 : decode cX6_slack 22 = .ok (.iconst 0, 1) := by decide +kernel
theorem dX6_slack_23 : decode cX6_slack 23 = .ok (.istore 4, 2) := by decide +kernel
theorem dX6_slack_25 : decode cX6_slack 25 = .ok (.iconst 1, 1) := by decide +kernel
theorem dX6_slack_26 : decode cX6_slack 26 = .ok (.istore 5, 2) := by decide +kernel
theorem dX6_slack_28 : decode cX6_slack 28 = .ok (.iload 5, 2) := by decide +kernel
theorem dX6_slack_30 : decode cX6_slack 30 = .ok (.bipush 6, 2) := by decide +kernel
theorem dX6_slack_32 : decode cX6_slack 32 = .ok (.if_icmp .ge 71, 3) := by decide +kernel
theorem dX6_slack_35 : decode cX6_slack 35 = .ok (.iload_n 3, 1) := by decide +kernel
theorem dX6_slack_36 : decode cX6_slack 36 = .ok (.iload_n 2, 1) := by decide +kernel
theorem dX6_slack_37 : decode cX6_slack 37 = .ok (.if_icmp .ge 66, 3) := by decide +kernel
theorem dX6_slack_40 : decode cX6_slack 40 = .ok (.iload_n 1, 1) := by decide +kernel
theorem dX6_slack_41 : decode cX6_slack 41 = .ok (.bipush 6, 2) := by decide +kernel
theorem dX6_slack_43 : decode cX6_slack 43 = .ok (.irem, 1) := by decide +kernel
theorem dX6_slack_44 : decode cX6_slack 44 = .ok (.iload 5, 2) := by decide +kernel
theorem dX6_slack_46 : decode cX6_slack 46 = .ok (.isub, 1) := by decide +kernel
theorem dX6_slack_47 : decode cX6_slack 47 = .ok (.ifCond .lt 18, 3) := by decide +kernel
theorem dX6_slack_50 : decode cX6_slack 50 = .ok (.iload_n 3, 1) := by decide +kernel
theorem dX6_slack_51 : decode cX6_slack 51 = .ok (.aload_n 0, 1) := by decide +kernel
theorem dX6_slack_52 : decode cX6_slack 52 = .ok (.getfield 13, 3) := by decide +kernel
theorem dX6_slack_55 : decode cX6_slack 55 = .ok (.iload_n 1, 1) := by decide +kernel
theorem dX6_slack_56 : decode cX6_slack 56 = .ok (.iload 5, 2) := by decide +kernel
theorem dX6_slack_58 : decode cX6_slack 58 = .ok (.isub, 1) := by decide +kernel
theorem dX6_slack_59 : decode cX6_slack 59 = .ok (.iaload, 1) := by decide +kernel
theorem dX6_slack_60 : decode cX6_slack 60 = .ok (.iadd, 1) := by decide +kernel
theorem dX6_slack_61 : decode cX6_slack 61 = .ok (.istore_n 3, 1) := by decide +kernel
theorem dX6_slack_62 : decode cX6_slack 62 = .ok (.iinc 4 1, 3) := by decide +kernel
theorem dX6_slack_65 : decode cX6_slack 65 = .ok (.iload_n 1, 1) := by decide +kernel
theorem dX6_slack_66 : decode cX6_slack 66 = .ok (.bipush 6, 2) := by decide +kernel
theorem dX6_slack_68 : decode cX6_slack 68 = .ok (.irem, 1) := by decide +kernel
theorem dX6_slack_69 : decode cX6_slack 69 = .ok (.iload 5, 2) := by decide +kernel
theorem dX6_slack_71 : decode cX6_slack 71 = .ok (.iadd, 1) := by decide +kernel
theorem dX6_slack_72 : decode cX6_slack 72 = .ok (.bipush 6, 2) := by decide +kernel
theorem dX6_slack_74 : decode cX6_slack 74 = .ok (.if_icmp .ge 23, 3) := by decide +kernel
theorem dX6_slack_77 : decode cX6_slack 77 = .ok (.iload_n 3, 1) := by decide +kernel
theorem dX6_slack_78 : decode cX6_slack 78 = .ok (.iload_n 2, 1) := by decide +kernel
theorem dX6_slack_79 : decode cX6_slack 79 = .ok (.if_icmp .ge 18, 3) := by decide +kernel
theorem dX6_slack_82 : decode cX6_slack 82 = .ok (.iload_n 3, 1) := by decide +kernel
theorem dX6_slack_83 : decode cX6_slack 83 = .ok (.aload_n 0, 1) := by decide +kernel
theorem dX6_slack_84 : decode cX6_slack 84 = .ok (.getfield 13, 3) := by decide +kernel
theorem dX6_slack_87 : decode cX6_slack 87 = .ok (.iload_n 1, 1) := by decide +kernel
theorem dX6_slack_88 : decode cX6_slack 88 = .ok (.iload 5, 2) := by decide +kernel
theorem dX6_slack_90 : decode cX6_slack 90 = .ok (.iadd, 1) := by decide +kernel
theorem dX6_slack_91 : decode cX6_slack 91 = .ok (.iaload, 1) := by decide +kernel
theorem dX6_slack_92 : decode cX6_slack 92 = .ok (.iadd, 1) := by decide +kernel
theorem dX6_slack_93 : decode cX6_slack 93 = .ok (.istore_n 3, 1) := by decide +kernel
theorem dX6_slack_94 : decode cX6_slack 94 = .ok (.iinc 4 1, 3) := by decide +kernel
theorem dX6_slack_97 : decode cX6_slack 97 = .ok (.iinc 5 1, 3) := by decide +kernel
theorem dX6_slack_100 : decode cX6_slack 100 = .ok (.goto (-72), 3) := by decide +kernel
theorem dX6_slack_103 : decode cX6_slack 103 = .ok (.iload_n 3, 1) := by decide +kernel
theorem dX6_slack_104 : decode cX6_slack 104 = .ok (.iload_n 2, 1) := by decide +kernel
theorem dX6_slack_105 : decode cX6_slack 105 = .ok (.if_icmp .lt 8, 3) := by decide +kernel
theorem dX6_slack_108 : decode cX6_slack 108 = .ok (.iload 4, 2) := by decide +kernel
theorem dX6_slack_110 : decode cX6_slack 110 = .ok (.goto 4, 3) := by decide +kernel
theorem dX6_slack_113 : decode cX6_slack 113 = .ok (.iconst (-1), 1) := by decide +kernel
theorem dX6_slack_114 : decode cX6_slack 114 = .ok (.ireturn, 1) := by decide +kernel
theorem dX6_unlike_0 : decode cX6_unlike 0 = .ok (.iconst 0, 1) := by decide +kernel
theorem dX6_unlike_1 : decode cX6_unlike 1 = .ok (.istore_n 2, 1) := by decide +kernel
theorem dX6_unlike_2 : decode cX6_unlike 2 = .ok (.iload_n 2, 1) := by decide +kernel
theorem dX6_unlike_3 : decode cX6_unlike 3 = .ok (.bipush 48, 2) := by decide +kernel
theorem dX6_unlike_5 : decode cX6_unlike 5 = .ok (.if_icmp .ge 40, 3) := by decide +kernel
theorem dX6_unlike_8 : decode cX6_unlike 8 = .ok (.aload_n 0, 1) := by decide +kernel
theorem dX6_unlike_9 : decode cX6_unlike 9 = .ok (.getfield 40, 3) := by decide +kernel
theorem dX6_unlike_12 : decode cX6_unlike 12 = .ok (.bipush 48, 2) := by decide +kernel
theorem dX6_unlike_14 : decode cX6_unlike 14 = .ok (.iload_n 1, 1) := by decide +kernel
theorem dX6_unlike_15 : decode cX6_unlike 15 = .ok (.imul, 1) := by decide +kernel
theorem dX6_unlike_16 : decode cX6_unlike 16 = .ok (.iload_n 2, 1) := by decide +kernel
theorem dX6_unlike_17 : decode cX6_unlike 17 = .ok (.iadd, 1) := by decide +kernel
theorem dX6_unlike_18 : decode cX6_unlike 18 = .ok (.iaload, 1) := by decide +kernel
theorem dX6_unlike_19 : decode cX6_unlike 19 = .ok (.aload_n 0, 1) := by decide +kernel
theorem dX6_unlike_20 : decode cX6_unlike 20 = .ok (.getfield 58, 3) := by decide +kernel
theorem dX6_unlike_23 : decode cX6_unlike 23 = .ok (.iload_n 2, 1) := by decide +kernel
theorem dX6_unlike_24 : decode cX6_unlike 24 = .ok (.iaload, 1) := by decide +kernel
theorem dX6_unlike_25 : decode cX6_unlike 25 = .ok (.iconst (-1), 1) := by decide +kernel
theorem dX6_unlike_26 : decode cX6_unlike 26 = .ok (.if_icmp .ne 7, 3) := by decide +kernel
theorem dX6_unlike_29 : decode cX6_unlike 29 = .ok (.iconst 0, 1) := by decide +kernel
theorem dX6_unlike_30 : decode cX6_unlike 30 = .ok (.goto 4, 3) := by decide +kernel
theorem dX6_unlike_33 : decode cX6_unlike 33 = .ok (.iconst 1, 1) := by decide +kernel
theorem dX6_unlike_34 : decode cX6_unlike 34 = .ok (.if_icmp .eq 5, 3) := by decide +kernel
theorem dX6_unlike_37 : decode cX6_unlike 37 = .ok (.iload_n 2, 1) := by decide +kernel
theorem dX6_unlike_38 : decode cX6_unlike 38 = .ok (.ireturn, 1) := by decide +kernel
theorem dX6_unlike_39 : decode cX6_unlike 39 = .ok (.iinc 2 1, 3) := by decide +kernel
theorem dX6_unlike_42 : decode cX6_unlike 42 = .ok (.goto (-40), 3) := by decide +kernel
theorem dX6_unlike_45 : decode cX6_unlike 45 = .ok (.iconst (-1), 1) := by decide +kernel
theorem dX6_unlike_46 : decode cX6_unlike 46 = .ok (.ireturn, 1) := by decide +kernel
theorem dX6_ragWrong_0 : decode cX6_ragWrong 0 = .ok (.aload_n 0, 1) := by decide +kernel
theorem dX6_ragWrong_1 : decode cX6_ragWrong 1 = .ok (.iload_n 1, 1) := by decide +kernel
theorem dX6_ragWrong_2 : decode cX6_ragWrong 2 = .ok (.bipush 48, 2) := by decide +kernel
theorem dX6_ragWrong_4 : decode cX6_ragWrong 4 = .ok (.invokevirtual 233, 3) := by decide +kernel
theorem dX6_ragWrong_7 : decode cX6_ragWrong 7 = .ok (.istore 4, 2) := by decide +kernel
theorem dX6_ragWrong_9 : decode cX6_ragWrong 9 = .ok (.iload 4, 2) := by decide +kernel
theorem dX6_ragWrong_11 : decode cX6_ragWrong 11 = .ok (.ifCond .eq 8, 3) := by decide +kernel
theorem dX6_ragWrong_14 : decode cX6_ragWrong 14 = .ok (.iload 4, 2) := by decide +kernel
theorem dX6_ragWrong_16 : decode cX6_ragWrong 16 = .ok (.goto 28, 3) := by decide +kernel
theorem dX6_ragWrong_19 : decode cX6_ragWrong 19 = .ok (.iload_n 2, 1) := by decide +kernel
theorem dX6_ragWrong_20 : decode cX6_ragWrong 20 = .ok (.invokestatic 155, 3) := by decide +kernel
theorem dX6_ragWrong_23 : decode cX6_ragWrong 23 = .ok (.ifCond .ne 8, 3) := by decide +kernel
theorem dX6_ragWrong_26 : decode cX6_ragWrong 26 = .ok (.bipush (-5), 2) := by decide +kernel
theorem dX6_ragWrong_28 : decode cX6_ragWrong 28 = .ok (.goto 16, 3) := by decide +kernel
theorem dX6_ragWrong_31 : decode cX6_ragWrong 31 = .ok (.iload_n 3, 1) := by decide +kernel
theorem dX6_ragWrong_32 : decode cX6_ragWrong 32 = .ok (.invokestatic 158, 3) := by decide +kernel
theorem dX6_ragWrong_35 : decode cX6_ragWrong 35 = .ok (.ifCond .eq 7, 3) := by decide +kernel
theorem dX6_ragWrong_38 : decode cX6_ragWrong 38 = .ok (.iconst 0, 1) := by decide +kernel
theorem dX6_ragWrong_39 : decode cX6_ragWrong 39 = .ok (.goto 5, 3) := by decide +kernel
theorem dX6_ragWrong_42 : decode cX6_ragWrong 42 = .ok (.bipush (-7), 2) := by decide +kernel
theorem dX6_ragWrong_44 : decode cX6_ragWrong 44 = .ok (.ireturn, 1) := by decide +kernel
theorem dX6_judge_0 : decode cX6_judge 0 = .ok (.aload_n 0, 1) := by decide +kernel
theorem dX6_judge_1 : decode cX6_judge 1 = .ok (.iload_n 1, 1) := by decide +kernel
theorem dX6_judge_2 : decode cX6_judge 2 = .ok (.iload_n 2, 1) := by decide +kernel
theorem dX6_judge_3 : decode cX6_judge 3 = .ok (.iload_n 3, 1) := by decide +kernel
theorem dX6_judge_4 : decode cX6_judge 4 = .ok (.invokevirtual 243, 3) := by decide +kernel
theorem dX6_judge_7 : decode cX6_judge 7 = .ok (.istore 4, 2) := by decide +kernel
theorem dX6_judge_9 : decode cX6_judge 9 = .ok (.iload 4, 2) := by decide +kernel
theorem dX6_judge_11 : decode cX6_judge 11 = .ok (.ifCond .eq 6, 3) := by decide +kernel
theorem dX6_judge_14 : decode cX6_judge 14 = .ok (.iload 4, 2) := by decide +kernel
theorem dX6_judge_16 : decode cX6_judge 16 = .ok (.ireturn, 1) := by decide +kernel
theorem dX6_judge_17 : decode cX6_judge 17 = .ok (.aload_n 0, 1) := by decide +kernel
theorem dX6_judge_18 : decode cX6_judge 18 = .ok (.iload_n 2, 1) := by decide +kernel
theorem dX6_judge_19 : decode cX6_judge 19 = .ok (.iload_n 3, 1) := by decide +kernel
theorem dX6_judge_20 : decode cX6_judge 20 = .ok (.invokevirtual 213, 3) := by decide +kernel
theorem dX6_judge_23 : decode cX6_judge 23 = .ok (.aload_n 0, 1) := by decide +kernel
theorem dX6_judge_24 : decode cX6_judge 24 = .ok (.iload_n 1, 1) := by decide +kernel
theorem dX6_judge_25 : decode cX6_judge 25 = .ok (.invokevirtual 246, 3) := by decide +kernel
theorem dX6_judge_28 : decode cX6_judge 28 = .ok (.ireturn, 1) := by decide +kernel
theorem dX6_which_0 : decode cX6_which 0 = .ok (.aload_n 0, 1) := by decide +kernel
theorem dX6_which_1 : decode cX6_which 1 = .ok (.iload_n 1, 1) := by decide +kernel
theorem dX6_which_2 : decode cX6_which 2 = .ok (.iconst 0, 1) := by decide +kernel
theorem dX6_which_3 : decode cX6_which 3 = .ok (.iload_n 2, 1) := by decide +kernel
theorem dX6_which_4 : decode cX6_which 4 = .ok (.invokevirtual 243, 3) := by decide +kernel
theorem dX6_which_7 : decode cX6_which 7 = .ok (.ifCond .eq 7, 3) := by decide +kernel
theorem dX6_which_10 : decode cX6_which 10 = .ok (.ldc2_w 181, 3) := by decide +kernel
theorem dX6_which_13 : decode cX6_which 13 = .ok (.lreturn, 1) := by decide +kernel
theorem dX6_which_14 : decode cX6_which 14 = .ok (.lconst 0, 1) := by decide +kernel
theorem dX6_which_15 : decode cX6_which 15 = .ok (.lstore_n 3, 1) := by decide +kernel
theorem dX6_which_16 : decode cX6_which 16 = .ok (.iconst 0, 1) := by decide +kernel
theorem dX6_which_17 : decode cX6_which 17 = .ok (.istore 5, 2) := by decide +kernel
theorem dX6_which_19 : decode cX6_which 19 = .ok (.iload 5, 2) := by decide +kernel
theorem dX6_which_21 : decode cX6_which 21 = .ok (.bipush 48, 2) := by decide +kernel
theorem dX6_which_23 : decode cX6_which 23 = .ok (.if_icmp .ge 36, 3) := by decide +kernel
theorem dX6_which_26 : decode cX6_which 26 = .ok (.aload_n 0, 1) := by decide +kernel
theorem dX6_which_27 : decode cX6_which 27 = .ok (.iload 5, 2) := by decide +kernel
theorem dX6_which_29 : decode cX6_which 29 = .ok (.iload_n 2, 1) := by decide +kernel
theorem dX6_which_30 : decode cX6_which 30 = .ok (.invokevirtual 213, 3) := by decide +kernel
theorem dX6_which_33 : decode cX6_which 33 = .ok (.lload_n 3, 1) := by decide +kernel
theorem dX6_which_34 : decode cX6_which 34 = .ok (.aload_n 0, 1) := by decide +kernel
theorem dX6_which_35 : decode cX6_which 35 = .ok (.iload_n 1, 1) := by decide +kernel
theorem dX6_which_36 : decode cX6_which 36 = .ok (.invokevirtual 246, 3) := by decide +kernel
theorem dX6_which_39 : decode cX6_which 39 = .ok (.iconst (-1), 1) := by decide +kernel
theorem dX6_which_40 : decode cX6_which 40 = .ok (.if_icmp .ne 10, 3) := by decide +kernel
theorem dX6_which_43 : decode cX6_which 43 = .ok (.lconst 1, 1) := by decide +kernel
theorem dX6_which_44 : decode cX6_which 44 = .ok (.iload 5, 2) := by decide +kernel
theorem dX6_which_46 : decode cX6_which 46 = .ok (.lshl, 1) := by decide +kernel
theorem dX6_which_47 : decode cX6_which 47 = .ok (.goto 4, 3) := by decide +kernel
theorem dX6_which_50 : decode cX6_which 50 = .ok (.lconst 0, 1) := by decide +kernel
theorem dX6_which_51 : decode cX6_which 51 = .ok (.lor, 1) := by decide +kernel
theorem dX6_which_52 : decode cX6_which 52 = .ok (.lstore_n 3, 1) := by decide +kernel
theorem dX6_which_53 : decode cX6_which 53 = .ok (.iinc 5 1, 3) := by decide +kernel
theorem dX6_which_56 : decode cX6_which 56 = .ok (.goto (-37), 3) := by decide +kernel
theorem dX6_which_59 : decode cX6_which 59 = .ok (.lload_n 3, 1) := by decide +kernel
theorem dX6_which_60 : decode cX6_which 60 = .ok (.lreturn, 1) := by decide +kernel
theorem dX6_span_0 : decode cX6_span 0 = .ok (.aload_n 0, 1) := by decide +kernel
theorem dX6_span_1 : decode cX6_span 1 = .ok (.iload_n 1, 1) := by decide +kernel
theorem dX6_span_2 : decode cX6_span 2 = .ok (.iload_n 2, 1) := by decide +kernel
theorem dX6_span_3 : decode cX6_span 3 = .ok (.iconst 0, 1) := by decide +kernel
theorem dX6_span_4 : decode cX6_span 4 = .ok (.invokevirtual 243, 3) := by decide +kernel
theorem dX6_span_7 : decode cX6_span 7 = .ok (.istore 4, 2) := by decide +kernel
theorem dX6_span_9 : decode cX6_span 9 = .ok (.iload 4, 2) := by decide +kernel
theorem dX6_span_11 : decode cX6_span 11 = .ok (.ifCond .ne 12, 3) := by decide +kernel
theorem dX6_span_14 : decode cX6_span 14 = .ok (.iload_n 3, 1) := by decide +kernel
theorem dX6_span_15 : decode cX6_span 15 = .ok (.iconst 0, 1) := by decide +kernel
theorem dX6_span_16 : decode cX6_span 16 = .ok (.iconst 1, 1) := by decide +kernel
theorem dX6_span_17 : decode cX6_span 17 = .ok (.invokestatic 69, 3) := by decide +kernel
theorem dX6_span_20 : decode cX6_span 20 = .ok (.ifCond .ne 16, 3) := by decide +kernel
theorem dX6_span_23 : decode cX6_span 23 = .ok (.iload 4, 2) := by decide +kernel
theorem dX6_span_25 : decode cX6_span 25 = .ok (.ifCond .eq 8, 3) := by decide +kernel
theorem dX6_span_28 : decode cX6_span 28 = .ok (.iload 4, 2) := by decide +kernel
theorem dX6_span_30 : decode cX6_span 30 = .ok (.goto 5, 3) := by decide +kernel
theorem dX6_span_33 : decode cX6_span 33 = .ok (.bipush (-7), 2) := by decide +kernel
theorem dX6_span_35 : decode cX6_span 35 = .ok (.ireturn, 1) := by decide +kernel
theorem dX6_span_36 : decode cX6_span 36 = .ok (.iconst (-1), 1) := by decide +kernel
theorem dX6_span_37 : decode cX6_span 37 = .ok (.istore 5, 2) := by decide +kernel
theorem dX6_span_39 : decode cX6_span 39 = .ok (.iconst (-1), 1) := by decide +kernel
theorem dX6_span_40 : decode cX6_span 40 = .ok (.istore 6, 2) := by decide +kernel
theorem dX6_span_42 : decode cX6_span 42 = .ok (.iconst 0, 1) := by decide +kernel
theorem dX6_span_43 : decode cX6_span 43 = .ok (.istore 7, 2) := by decide +kernel
theorem dX6_span_45 : decode cX6_span 45 = .ok (.iload 7, 2) := by decide +kernel
theorem dX6_span_47 : decode cX6_span 47 = .ok (.bipush 99, 2) := by decide +kernel
theorem dX6_span_49 : decode cX6_span 49 = .ok (.if_icmp .gt 44, 3) := by decide +kernel
theorem dX6_span_52 : decode cX6_span 52 = .ok (.aload_n 0, 1) := by decide +kernel
theorem dX6_span_53 : decode cX6_span 53 = .ok (.iload_n 2, 1) := by decide +kernel
theorem dX6_span_54 : decode cX6_span 54 = .ok (.iload 7, 2) := by decide +kernel
theorem dX6_span_56 : decode cX6_span 56 = .ok (.invokevirtual 213, 3) := by decide +kernel
theorem dX6_span_59 : decode cX6_span 59 = .ok (.aload_n 0, 1) := by decide +kernel
theorem dX6_span_60 : decode cX6_span 60 = .ok (.iload_n 1, 1) := by decide +kernel
theorem dX6_span_61 : decode cX6_span 61 = .ok (.invokevirtual 246, 3) := by decide +kernel
theorem dX6_span_64 : decode cX6_span 64 = .ok (.iconst (-1), 1) := by decide +kernel
theorem dX6_span_65 : decode cX6_span 65 = .ok (.if_icmp .ne 22, 3) := by decide +kernel
theorem dX6_span_68 : decode cX6_span 68 = .ok (.iload 5, 2) := by decide +kernel
theorem dX6_span_70 : decode cX6_span 70 = .ok (.iconst (-1), 1) := by decide +kernel
theorem dX6_span_71 : decode cX6_span 71 = .ok (.if_icmp .ne 8, 3) := by decide +kernel
theorem dX6_span_74 : decode cX6_span 74 = .ok (.iload 7, 2) := by decide +kernel
theorem dX6_span_76 : decode cX6_span 76 = .ok (.goto 5, 3) := by decide +kernel
theorem dX6_span_79 : decode cX6_span 79 = .ok (.iload 5, 2) := by decide +kernel
theorem dX6_span_81 : decode cX6_span 81 = .ok (.istore 5, 2) := by decide +kernel
theorem dX6_span_83 : decode cX6_span 83 = .ok (.iload 7, 2) := by decide +kernel
theorem dX6_span_85 : decode cX6_span 85 = .ok (.istore 6, 2) := by decide +kernel
theorem dX6_span_87 : decode cX6_span 87 = .ok (.iinc 7 1, 3) := by decide +kernel
theorem dX6_span_90 : decode cX6_span 90 = .ok (.goto (-45), 3) := by decide +kernel
theorem dX6_span_93 : decode cX6_span 93 = .ok (.iload_n 3, 1) := by decide +kernel
theorem dX6_span_94 : decode cX6_span 94 = .ok (.ifCond .ne 8, 3) := by decide +kernel
theorem dX6_span_97 : decode cX6_span 97 = .ok (.iload 5, 2) := by decide +kernel
theorem dX6_span_99 : decode cX6_span 99 = .ok (.goto 5, 3) := by decide +kernel
theorem dX6_span_102 : decode cX6_span 102 = .ok (.iload 6, 2) := by decide +kernel
theorem dX6_span_104 : decode cX6_span 104 = .ok (.ireturn, 1) := by decide +kernel
theorem dX6_laws_0 : decode cX6_laws 0 = .ok (.aload_n 0, 1) := by decide +kernel
theorem dX6_laws_1 : decode cX6_laws 1 = .ok (.iload_n 1, 1) := by decide +kernel
theorem dX6_laws_2 : decode cX6_laws 2 = .ok (.iload_n 2, 1) := by decide +kernel
theorem dX6_laws_3 : decode cX6_laws 3 = .ok (.iload_n 3, 1) := by decide +kernel
theorem dX6_laws_4 : decode cX6_laws 4 = .ok (.invokevirtual 243, 3) := by decide +kernel
theorem dX6_laws_7 : decode cX6_laws 7 = .ok (.istore 4, 2) := by decide +kernel
theorem dX6_laws_9 : decode cX6_laws 9 = .ok (.iload 4, 2) := by decide +kernel
theorem dX6_laws_11 : decode cX6_laws 11 = .ok (.ifCond .eq 6, 3) := by decide +kernel
theorem dX6_laws_14 : decode cX6_laws 14 = .ok (.iload 4, 2) := by decide +kernel
theorem dX6_laws_16 : decode cX6_laws 16 = .ok (.ireturn, 1) := by decide +kernel
theorem dX6_laws_17 : decode cX6_laws 17 = .ok (.aload_n 0, 1) := by decide +kernel
theorem dX6_laws_18 : decode cX6_laws 18 = .ok (.getfield 80, 3) := by decide +kernel
theorem dX6_laws_21 : decode cX6_laws 21 = .ok (.istore 5, 2) := by decide +kernel
theorem dX6_laws_23 : decode cX6_laws 23 = .ok (.iconst 0, 1) := by decide +kernel
theorem dX6_laws_24 : decode cX6_laws 24 = .ok (.istore 6, 2) := by decide +kernel
theorem dX6_laws_26 : decode cX6_laws 26 = .ok (.iconst 0, 1) := by decide +kernel
theorem dX6_laws_27 : decode cX6_laws 27 = .ok (.istore 7, 2) := by decide +kernel
theorem dX6_laws_29 : decode cX6_laws 29 = .ok (.iload 7, 2) := by decide +kernel
theorem dX6_laws_31 : decode cX6_laws 31 = .ok (.aload_n 0, 1) := by decide +kernel
theorem dX6_laws_32 : decode cX6_laws 32 = .ok (.getfield 77, 3) := by decide +kernel
theorem dX6_laws_35 : decode cX6_laws 35 = .ok (.if_icmp .ge 43, 3) := by decide +kernel
theorem dX6_laws_38 : decode cX6_laws 38 = .ok (.aload_n 0, 1) := by decide +kernel
theorem dX6_laws_39 : decode cX6_laws 39 = .ok (.iload 7, 2) := by decide +kernel
theorem dX6_laws_41 : decode cX6_laws 41 = .ok (.putfield 80, 3) := by decide +kernel
theorem dX6_laws_44 : decode cX6_laws 44 = .ok (.aload_n 0, 1) := by decide +kernel
theorem dX6_laws_45 : decode cX6_laws 45 = .ok (.iload_n 2, 1) := by decide +kernel
theorem dX6_laws_46 : decode cX6_laws 46 = .ok (.iload_n 3, 1) := by decide +kernel
theorem dX6_laws_47 : decode cX6_laws 47 = .ok (.invokevirtual 213, 3) := by decide +kernel
theorem dX6_laws_50 : decode cX6_laws 50 = .ok (.iload 6, 2) := by decide +kernel
theorem dX6_laws_52 : decode cX6_laws 52 = .ok (.aload_n 0, 1) := by decide +kernel
theorem dX6_laws_53 : decode cX6_laws 53 = .ok (.iload_n 1, 1) := by decide +kernel
theorem dX6_laws_54 : decode cX6_laws 54 = .ok (.invokevirtual 246, 3) := by decide +kernel
theorem dX6_laws_57 : decode cX6_laws 57 = .ok (.iconst (-1), 1) := by decide +kernel
theorem dX6_laws_58 : decode cX6_laws 58 = .ok (.if_icmp .ne 10, 3) := by decide +kernel
theorem dX6_laws_61 : decode cX6_laws 61 = .ok (.iconst 1, 1) := by decide +kernel
theorem dX6_laws_62 : decode cX6_laws 62 = .ok (.iload 7, 2) := by decide +kernel
theorem dX6_laws_64 : decode cX6_laws 64 = .ok (.ishl, 1) := by decide +kernel
theorem dX6_laws_65 : decode cX6_laws 65 = .ok (.goto 4, 3) := by decide +kernel
theorem dX6_laws_68 : decode cX6_laws 68 = .ok (.iconst 0, 1) := by decide +kernel
theorem dX6_laws_69 : decode cX6_laws 69 = .ok (.ior, 1) := by decide +kernel
theorem dX6_laws_70 : decode cX6_laws 70 = .ok (.istore 6, 2) := by decide +kernel
theorem dX6_laws_72 : decode cX6_laws 72 = .ok (.iinc 7 1, 3) := by decide +kernel
theorem dX6_laws_75 : decode cX6_laws 75 = .ok (.goto (-46), 3) := by decide +kernel
theorem dX6_laws_78 : decode cX6_laws 78 = .ok (.aload_n 0, 1) := by decide +kernel
theorem dX6_laws_79 : decode cX6_laws 79 = .ok (.iload 5, 2) := by decide +kernel
theorem dX6_laws_81 : decode cX6_laws 81 = .ok (.putfield 80, 3) := by decide +kernel
theorem dX6_laws_84 : decode cX6_laws 84 = .ok (.iload 6, 2) := by decide +kernel
theorem dX6_laws_86 : decode cX6_laws 86 = .ok (.ireturn, 1) := by decide +kernel
theorem dX6_film_0 : decode cX6_film 0 = .ok (.iload_n 1, 1) := by decide +kernel
theorem dX6_film_1 : decode cX6_film 1 = .ok (.iconst 0, 1) := by decide +kernel
theorem dX6_film_2 : decode cX6_film 2 = .ok (.iconst 3, 1) := by decide +kernel
theorem dX6_film_3 : decode cX6_film 3 = .ok (.invokestatic 69, 3) := by decide +kernel
theorem dX6_film_6 : decode cX6_film 6 = .ok (.ifCond .ne 6, 3) := by decide +kernel
theorem dX6_film_9 : decode cX6_film 9 = .ok (.bipush (-2), 2) := by decide +kernel
theorem dX6_film_11 : decode cX6_film 11 = .ok (.ireturn, 1) := by decide +kernel
theorem dX6_film_12 : decode cX6_film 12 = .ok (.iload_n 2, 1) := by decide +kernel
theorem dX6_film_13 : decode cX6_film 13 = .ok (.invokestatic 155, 3) := by decide +kernel
theorem dX6_film_16 : decode cX6_film 16 = .ok (.ifCond .ne 6, 3) := by decide +kernel
theorem dX6_film_19 : decode cX6_film 19 = .ok (.bipush (-5), 2) := by decide +kernel
theorem dX6_film_21 : decode cX6_film 21 = .ok (.ireturn, 1) := by decide +kernel
theorem dX6_film_22 : decode cX6_film 22 = .ok (.iload_n 3, 1) := by decide +kernel
theorem dX6_film_23 : decode cX6_film 23 = .ok (.invokestatic 158, 3) := by decide +kernel
theorem dX6_film_26 : decode cX6_film 26 = .ok (.ifCond .ne 6, 3) := by decide +kernel
theorem dX6_film_29 : decode cX6_film 29 = .ok (.bipush (-7), 2) := by decide +kernel
theorem dX6_film_31 : decode cX6_film 31 = .ok (.ireturn, 1) := by decide +kernel
theorem dX6_film_32 : decode cX6_film 32 = .ok (.aload_n 0, 1) := by decide +kernel
theorem dX6_film_33 : decode cX6_film 33 = .ok (.iload_n 2, 1) := by decide +kernel
theorem dX6_film_34 : decode cX6_film 34 = .ok (.iload_n 3, 1) := by decide +kernel
theorem dX6_film_35 : decode cX6_film 35 = .ok (.invokevirtual 213, 3) := by decide +kernel
theorem dX6_film_38 : decode cX6_film 38 = .ok (.aload_n 0, 1) := by decide +kernel
theorem dX6_film_39 : decode cX6_film 39 = .ok (.getfield 34, 3) := by decide +kernel
theorem dX6_film_42 : decode cX6_film 42 = .ok (.iload_n 1, 1) := by decide +kernel
theorem dX6_film_43 : decode cX6_film 43 = .ok (.iconst 2, 1) := by decide +kernel
theorem dX6_film_44 : decode cX6_film 44 = .ok (.iastore, 1) := by decide +kernel
theorem dX6_film_45 : decode cX6_film 45 = .ok (.aload_n 0, 1) := by decide +kernel
theorem dX6_film_46 : decode cX6_film 46 = .ok (.getfield 37, 3) := by decide +kernel
theorem dX6_film_49 : decode cX6_film 49 = .ok (.iload_n 1, 1) := by decide +kernel
theorem dX6_film_50 : decode cX6_film 50 = .ok (.bipush 48, 2) := by decide +kernel
theorem dX6_film_52 : decode cX6_film 52 = .ok (.iastore, 1) := by decide +kernel
theorem dX6_film_53 : decode cX6_film 53 = .ok (.iconst 0, 1) := by decide +kernel
theorem dX6_film_54 : decode cX6_film 54 = .ok (.istore 4, 2) := by decide +kernel
theorem dX6_film_56 : decode cX6_film 56 = .ok (.iload 4, 2) := by decide +kernel
theorem dX6_film_58 : decode cX6_film 58 = .ok (.bipush 48, 2) := by decide +kernel
theorem dX6_film_60 : decode cX6_film 60 = .ok (.if_icmp .ge 37, 3) := by decide +kernel
theorem dX6_film_63 : decode cX6_film 63 = .ok (.aload_n 0, 1) := by decide +kernel
theorem dX6_film_64 : decode cX6_film 64 = .ok (.getfield 40, 3) := by decide +kernel
theorem dX6_film_67 : decode cX6_film 67 = .ok (.bipush 48, 2) := by decide +kernel
theorem dX6_film_69 : decode cX6_film 69 = .ok (.iload_n 1, 1) := by decide +kernel
theorem dX6_film_70 : decode cX6_film 70 = .ok (.imul, 1) := by decide +kernel
theorem dX6_film_71 : decode cX6_film 71 = .ok (.iload 4, 2) := by decide +kernel
theorem dX6_film_73 : decode cX6_film 73 = .ok (.iadd, 1) := by decide +kernel
theorem dX6_film_74 : decode cX6_film 74 = .ok (.aload_n 0, 1) := by decide +kernel
theorem dX6_film_75 : decode cX6_film 75 = .ok (.getfield 58, 3) := by decide +kernel
theorem dX6_film_78 : decode cX6_film 78 = .ok (.iload 4, 2) := by decide +kernel
theorem dX6_film_80 : decode cX6_film 80 = .ok (.iaload, 1) := by decide +kernel
theorem dX6_film_81 : decode cX6_film 81 = .ok (.iconst (-1), 1) := by decide +kernel
theorem dX6_film_82 : decode cX6_film 82 = .ok (.if_icmp .ne 7, 3) := by decide +kernel
theorem dX6_film_85 : decode cX6_film 85 = .ok (.iconst 0, 1) := by decide +kernel
theorem dX6_film_86 : decode cX6_film 86 = .ok (.goto 4, 3) := by decide +kernel
theorem dX6_film_89 : decode cX6_film 89 = .ok (.iconst 1, 1) := by decide +kernel
theorem dX6_film_90 : decode cX6_film 90 = .ok (.iastore, 1) := by decide +kernel
theorem dX6_film_91 : decode cX6_film 91 = .ok (.iinc 4 1, 3) := by decide +kernel
theorem dX6_film_94 : decode cX6_film 94 = .ok (.goto (-38), 3) := by decide +kernel
theorem dX6_film_97 : decode cX6_film 97 = .ok (.bipush 48, 2) := by decide +kernel
theorem dX6_film_99 : decode cX6_film 99 = .ok (.ireturn, 1) := by decide +kernel
theorem dX6_missed_0 : decode cX6_missed 0 = .ok (.iload_n 1, 1) := by decide +kernel
theorem dX6_missed_1 : decode cX6_missed 1 = .ok (.i2l, 1) := by decide +kernel
theorem dX6_missed_2 : decode cX6_missed 2 = .ok (.lconst 1, 1) := by decide +kernel
theorem dX6_missed_3 : decode cX6_missed 3 = .ok (.ladd, 1) := by decide +kernel
theorem dX6_missed_4 : decode cX6_missed 4 = .ok (.lstore_n 3, 1) := by decide +kernel
theorem dX6_missed_5 : decode cX6_missed 5 = .ok (.iconst 0, 1) := by decide +kernel
theorem dX6_missed_6 : decode cX6_missed 6 = .ok (.istore 5, 2) := by decide +kernel
theorem dX6_missed_8 : decode cX6_missed 8 = .ok (.iconst 0, 1) := by decide +kernel
theorem dX6_missed_9 : decode cX6_missed 9 = .ok (.istore 6, 2) := by decide +kernel
theorem dX6_missed_11 : decode cX6_missed 11 = .ok (.iload 6, 2) := by decide +kernel
theorem dX6_missed_13 : decode cX6_missed 13 = .ok (.bipush 48, 2) := by decide +kernel
theorem dX6_missed_15 : decode cX6_missed 15 = .ok (.if_icmp .ge 51, 3) := by decide +kernel
theorem dX6_missed_18 : decode cX6_missed 18 = .ok (.aload_n 0, 1) := by decide +kernel
theorem dX6_missed_19 : decode cX6_missed 19 = .ok (.getfield 58, 3) := by decide +kernel
theorem dX6_missed_22 : decode cX6_missed 22 = .ok (.iload 6, 2) := by decide +kernel
theorem dX6_missed_24 : decode cX6_missed 24 = .ok (.iaload, 1) := by decide +kernel
theorem dX6_missed_25 : decode cX6_missed 25 = .ok (.iconst (-1), 1) := by decide +kernel
theorem dX6_missed_26 : decode cX6_missed 26 = .ok (.if_icmp .eq 34, 3) := by decide +kernel
theorem dX6_missed_29 : decode cX6_missed 29 = .ok (.lload_n 3, 1) := by decide +kernel
theorem dX6_missed_30 : decode cX6_missed 30 = .ok (.ldc2_w 249, 3) := by decide +kernel
theorem dX6_missed_33 : decode cX6_missed 33 = .ok (.lmul, 1) := by decide +kernel
theorem dX6_missed_34 : decode cX6_missed 34 = .ok (.ldc2_w 251, 3) := by decide +kernel
theorem dX6_missed_37 : decode cX6_missed 37 = .ok (.lrem, 1) := by decide +kernel
theorem dX6_missed_38 : decode cX6_missed 38 = .ok (.lstore_n 3, 1) := by decide +kernel
theorem dX6_missed_39 : decode cX6_missed 39 = .ok (.iload 5, 2) := by decide +kernel
theorem dX6_missed_41 : decode cX6_missed 41 = .ok (.lload_n 3, 1) := by decide +kernel
theorem dX6_missed_42 : decode cX6_missed 42 = .ok (.ldc2_w 253, 3) := by decide +kernel
theorem dX6_missed_45 : decode cX6_missed 45 = .ok (.lrem, 1) := by decide +kernel
theorem dX6_missed_46 : decode cX6_missed 46 = .ok (.iload_n 2, 1) := by decide +kernel
theorem dX6_missed_47 : decode cX6_missed 47 = .ok (.i2l, 1) := by decide +kernel
theorem dX6_missed_48 : decode cX6_missed 48 = .ok (.lcmp, 1) := by decide +kernel
theorem dX6_missed_49 : decode cX6_missed 49 = .ok (.ifCond .ge 7, 3) := by decide +kernel
theorem dX6_missed_52 : decode cX6_missed 52 = .ok (.iconst 1, 1) := by decide +kernel
theorem dX6_missed_53 : decode cX6_missed 53 = .ok (.goto 4, 3) := by decide +kernel
theorem dX6_missed_56 : decode cX6_missed 56 = .ok (.iconst 0, 1) := by decide +kernel
theorem dX6_missed_57 : decode cX6_missed 57 = .ok (.iadd, 1) := by decide +kernel
theorem dX6_missed_58 : decode cX6_missed 58 = .ok (.istore 5, 2) := by decide +kernel
theorem dX6_missed_60 : decode cX6_missed 60 = .ok (.iinc 6 1, 3) := by decide +kernel
theorem dX6_missed_63 : decode cX6_missed 63 = .ok (.goto (-52), 3) := by decide +kernel
theorem dX6_missed_66 : decode cX6_missed 66 = .ok (.iload 5, 2) := by decide +kernel
theorem dX6_missed_68 : decode cX6_missed 68 = .ok (.ireturn, 1) := by decide +kernel
theorem dX6_isSeed_0 : decode cX6_isSeed 0 = .ok (.iload_n 0, 1) := by decide +kernel
theorem dX6_isSeed_1 : decode cX6_isSeed 1 = .ok (.iconst 0, 1) := by decide +kernel
theorem dX6_isSeed_2 : decode cX6_isSeed 2 = .ok (.ldc 255, 2) := by decide +kernel
theorem dX6_isSeed_4 : decode cX6_isSeed 4 = .ok (.invokestatic 69, 3) := by decide +kernel
theorem dX6_isSeed_7 : decode cX6_isSeed 7 = .ok (.ireturn, 1) := by decide +kernel
theorem dX6_slips_0 : decode cX6_slips 0 = .ok (.iload_n 2, 1) := by decide +kernel
theorem dX6_slips_1 : decode cX6_slips 1 = .ok (.invokestatic 155, 3) := by decide +kernel
theorem dX6_slips_4 : decode cX6_slips 4 = .ok (.ifCond .ne 6, 3) := by decide +kernel
theorem dX6_slips_7 : decode cX6_slips 7 = .ok (.bipush (-5), 2) := by decide +kernel
theorem dX6_slips_9 : decode cX6_slips 9 = .ok (.ireturn, 1) := by decide +kernel
theorem dX6_slips_10 : decode cX6_slips 10 = .ok (.iload_n 1, 1) := by decide +kernel
theorem dX6_slips_11 : decode cX6_slips 11 = .ok (.invokestatic 256, 3) := by decide +kernel
theorem dX6_slips_14 : decode cX6_slips 14 = .ok (.ifCond .eq 21, 3) := by decide +kernel
theorem dX6_slips_17 : decode cX6_slips 17 = .ok (.iload_n 3, 1) := by decide +kernel
theorem dX6_slips_18 : decode cX6_slips 18 = .ok (.invokestatic 158, 3) := by decide +kernel
theorem dX6_slips_21 : decode cX6_slips 21 = .ok (.ifCond .eq 14, 3) := by decide +kernel
theorem dX6_slips_24 : decode cX6_slips 24 = .ok (.iload 4, 2) := by decide +kernel
theorem dX6_slips_26 : decode cX6_slips 26 = .ok (.iconst 0, 1) := by decide +kernel
theorem dX6_slips_27 : decode cX6_slips 27 = .ok (.bipush 100, 2) := by decide +kernel
theorem dX6_slips_29 : decode cX6_slips 29 = .ok (.invokestatic 69, 3) := by decide +kernel
theorem dX6_slips_32 : decode cX6_slips 32 = .ok (.ifCond .ne 6, 3) := by decide +kernel
theorem dX6_slips_35 : decode cX6_slips 35 = .ok (.bipush (-7), 2) := by decide +kernel
theorem dX6_slips_37 : decode cX6_slips 37 = .ok (.ireturn, 1) := by decide +kernel
theorem dX6_slips_38 : decode cX6_slips 38 = .ok (.aload_n 0, 1) := by decide +kernel
theorem dX6_slips_39 : decode cX6_slips 39 = .ok (.iload_n 2, 1) := by decide +kernel
theorem dX6_slips_40 : decode cX6_slips 40 = .ok (.iload_n 3, 1) := by decide +kernel
theorem dX6_slips_41 : decode cX6_slips 41 = .ok (.invokevirtual 213, 3) := by decide +kernel
theorem dX6_slips_44 : decode cX6_slips 44 = .ok (.aload_n 0, 1) := by decide +kernel
theorem dX6_slips_45 : decode cX6_slips 45 = .ok (.iload_n 1, 1) := by decide +kernel
theorem dX6_slips_46 : decode cX6_slips 46 = .ok (.iload 4, 2) := by decide +kernel
theorem dX6_slips_48 : decode cX6_slips 48 = .ok (.invokevirtual 259, 3) := by decide +kernel
theorem dX6_slips_51 : decode cX6_slips 51 = .ok (.ireturn, 1) := by decide +kernel
theorem dX6_lowest__0 : decode cX6_lowest_ 0 = .ok (.lload_n 0, 1) := by decide +kernel
theorem dX6_lowest__1 : decode cX6_lowest_ 1 = .ok (.lconst 0, 1) := by decide +kernel
theorem dX6_lowest__2 : decode cX6_lowest_ 2 = .ok (.lcmp, 1) := by decide +kernel
theorem dX6_lowest__3 : decode cX6_lowest_ 3 = .ok (.ifCond .ne 7, 3) := by decide +kernel
theorem dX6_lowest__6 : decode cX6_lowest_ 6 = .ok (.iload 4, 2) := by decide +kernel
theorem dX6_lowest__8 : decode cX6_lowest_ 8 = .ok (.i2l, 1) := by decide +kernel
theorem dX6_lowest__9 : decode cX6_lowest_ 9 = .ok (.lreturn, 1) := by decide +kernel
theorem dX6_lowest__10 : decode cX6_lowest_ 10 = .ok (.lload_n 0, 1) := by decide +kernel
theorem dX6_lowest__11 : decode cX6_lowest_ 11 = .ok (.lstore 5, 2) := by decide +kernel
theorem dX6_lowest__13 : decode cX6_lowest_ 13 = .ok (.lload_n 2, 1) := by decide +kernel
theorem dX6_lowest__14 : decode cX6_lowest_ 14 = .ok (.lstore 7, 2) := by decide +kernel
theorem dX6_lowest__16 : decode cX6_lowest_ 16 = .ok (.lload 7, 2) := by decide +kernel
theorem dX6_lowest__18 : decode cX6_lowest_ 18 = .ok (.lconst 0, 1) := by decide +kernel
theorem dX6_lowest__19 : decode cX6_lowest_ 19 = .ok (.lcmp, 1) := by decide +kernel
theorem dX6_lowest__20 : decode cX6_lowest_ 20 = .ok (.ifCond .eq 21, 3) := by decide +kernel
theorem dX6_lowest__23 : decode cX6_lowest_ 23 = .ok (.lload 5, 2) := by decide +kernel
theorem dX6_lowest__25 : decode cX6_lowest_ 25 = .ok (.lload 7, 2) := by decide +kernel
theorem dX6_lowest__27 : decode cX6_lowest_ 27 = .ok (.lrem, 1) := by decide +kernel
theorem dX6_lowest__28 : decode cX6_lowest_ 28 = .ok (.lstore 9, 2) := by decide +kernel
theorem dX6_lowest__30 : decode cX6_lowest_ 30 = .ok (.lload 7, 2) := by decide +kernel
theorem dX6_lowest__32 : decode cX6_lowest_ 32 = .ok (.lstore 5, 2) := by decide +kernel
theorem dX6_lowest__34 : decode cX6_lowest_ 34 = .ok (.lload 9, 2) := by decide +kernel
theorem dX6_lowest__36 : decode cX6_lowest_ 36 = .ok (.lstore 7, 2) := by decide +kernel
theorem dX6_lowest__38 : decode cX6_lowest_ 38 = .ok (.goto (-22), 3) := by decide +kernel
theorem dX6_lowest__41 : decode cX6_lowest_ 41 = .ok (.iload 4, 2) := by decide +kernel
theorem dX6_lowest__43 : decode cX6_lowest_ 43 = .ok (.ifCond .ne 7, 3) := by decide +kernel
theorem dX6_lowest__46 : decode cX6_lowest_ 46 = .ok (.lload_n 0, 1) := by decide +kernel
theorem dX6_lowest__47 : decode cX6_lowest_ 47 = .ok (.goto 4, 3) := by decide +kernel
theorem dX6_lowest__50 : decode cX6_lowest_ 50 = .ok (.lload_n 2, 1) := by decide +kernel
theorem dX6_lowest__51 : decode cX6_lowest_ 51 = .ok (.lload 5, 2) := by decide +kernel
theorem dX6_lowest__53 : decode cX6_lowest_ 53 = .ok (.ldiv, 1) := by decide +kernel
theorem dX6_lowest__54 : decode cX6_lowest_ 54 = .ok (.lreturn, 1) := by decide +kernel
theorem dX6_odds_0 : decode cX6_odds 0 = .ok (.iload_n 1, 1) := by decide +kernel
theorem dX6_odds_1 : decode cX6_odds 1 = .ok (.invokestatic 256, 3) := by decide +kernel
theorem dX6_odds_4 : decode cX6_odds 4 = .ok (.ifCond .eq 49, 3) := by decide +kernel
theorem dX6_odds_7 : decode cX6_odds 7 = .ok (.iload_n 2, 1) := by decide +kernel
theorem dX6_odds_8 : decode cX6_odds 8 = .ok (.iconst 1, 1) := by decide +kernel
theorem dX6_odds_9 : decode cX6_odds 9 = .ok (.bipush 50, 2) := by decide +kernel
theorem dX6_odds_11 : decode cX6_odds 11 = .ok (.invokestatic 69, 3) := by decide +kernel
theorem dX6_odds_14 : decode cX6_odds 14 = .ok (.ifCond .eq 39, 3) := by decide +kernel
theorem dX6_odds_17 : decode cX6_odds 17 = .ok (.iload_n 3, 1) := by decide +kernel
theorem dX6_odds_18 : decode cX6_odds 18 = .ok (.invokestatic 155, 3) := by decide +kernel
theorem dX6_odds_21 : decode cX6_odds 21 = .ok (.ifCond .eq 32, 3) := by decide +kernel
theorem dX6_odds_24 : decode cX6_odds 24 = .ok (.iload 4, 2) := by decide +kernel
theorem dX6_odds_26 : decode cX6_odds 26 = .ok (.invokestatic 158, 3) := by decide +kernel
theorem dX6_odds_29 : decode cX6_odds 29 = .ok (.ifCond .eq 24, 3) := by decide +kernel
theorem dX6_odds_32 : decode cX6_odds 32 = .ok (.iload 5, 2) := by decide +kernel
theorem dX6_odds_34 : decode cX6_odds 34 = .ok (.iconst 0, 1) := by decide +kernel
theorem dX6_odds_35 : decode cX6_odds 35 = .ok (.bipush 100, 2) := by decide +kernel
theorem dX6_odds_37 : decode cX6_odds 37 = .ok (.invokestatic 69, 3) := by decide +kernel
theorem dX6_odds_40 : decode cX6_odds 40 = .ok (.ifCond .eq 13, 3) := by decide +kernel
theorem dX6_odds_43 : decode cX6_odds 43 = .ok (.iload 6, 2) := by decide +kernel
theorem dX6_odds_45 : decode cX6_odds 45 = .ok (.iconst 0, 1) := by decide +kernel
theorem dX6_odds_46 : decode cX6_odds 46 = .ok (.iconst 1, 1) := by decide +kernel
theorem dX6_odds_47 : decode cX6_odds 47 = .ok (.invokestatic 69, 3) := by decide +kernel
theorem dX6_odds_50 : decode cX6_odds 50 = .ok (.ifCond .ne 7, 3) := by decide +kernel
theorem dX6_odds_53 : decode cX6_odds 53 = .ok (.ldc2_w 181, 3) := by decide +kernel
theorem dX6_odds_56 : decode cX6_odds 56 = .ok (.lreturn, 1) := by decide +kernel
theorem dX6_odds_57 : decode cX6_odds 57 = .ok (.aload_n 0, 1) := by decide +kernel
theorem dX6_odds_58 : decode cX6_odds 58 = .ok (.iload_n 3, 1) := by decide +kernel
theorem dX6_odds_59 : decode cX6_odds 59 = .ok (.iload 4, 2) := by decide +kernel
theorem dX6_odds_61 : decode cX6_odds 61 = .ok (.invokevirtual 213, 3) := by decide +kernel
theorem dX6_odds_64 : decode cX6_odds 64 = .ok (.lconst 0, 1) := by decide +kernel
theorem dX6_odds_65 : decode cX6_odds 65 = .ok (.lstore 7, 2) := by decide +kernel
theorem dX6_odds_67 : decode cX6_odds 67 = .ok (.iconst 0, 1) := by decide +kernel
theorem dX6_odds_68 : decode cX6_odds 68 = .ok (.istore 9, 2) := by decide +kernel
theorem dX6_odds_70 : decode cX6_odds 70 = .ok (.iload 9, 2) := by decide +kernel
theorem dX6_odds_72 : decode cX6_odds 72 = .ok (.iload_n 2, 1) := by decide +kernel
theorem dX6_odds_73 : decode cX6_odds 73 = .ok (.if_icmp .ge 32, 3) := by decide +kernel
theorem dX6_odds_76 : decode cX6_odds 76 = .ok (.lload 7, 2) := by decide +kernel
theorem dX6_odds_78 : decode cX6_odds 78 = .ok (.aload_n 0, 1) := by decide +kernel
theorem dX6_odds_79 : decode cX6_odds 79 = .ok (.iload_n 1, 1) := by decide +kernel
theorem dX6_odds_80 : decode cX6_odds 80 = .ok (.iload 9, 2) := by decide +kernel
theorem dX6_odds_82 : decode cX6_odds 82 = .ok (.iadd, 1) := by decide +kernel
theorem dX6_odds_83 : decode cX6_odds 83 = .ok (.iload 5, 2) := by decide +kernel
theorem dX6_odds_85 : decode cX6_odds 85 = .ok (.invokevirtual 259, 3) := by decide +kernel
theorem dX6_odds_88 : decode cX6_odds 88 = .ok (.ifCond .ne 7, 3) := by decide +kernel
theorem dX6_odds_91 : decode cX6_odds 91 = .ok (.lconst 1, 1) := by decide +kernel
theorem dX6_odds_92 : decode cX6_odds 92 = .ok (.goto 4, 3) := by decide +kernel
theorem dX6_odds_95 : decode cX6_odds 95 = .ok (.lconst 0, 1) := by decide +kernel
theorem dX6_odds_96 : decode cX6_odds 96 = .ok (.ladd, 1) := by decide +kernel
theorem dX6_odds_97 : decode cX6_odds 97 = .ok (.lstore 7, 2) := by decide +kernel
theorem dX6_odds_99 : decode cX6_odds 99 = .ok (.iinc 9 1, 3) := by decide +kernel
theorem dX6_odds_102 : decode cX6_odds 102 = .ok (.goto (-32), 3) := by decide +kernel
theorem dX6_odds_105 : decode cX6_odds 105 = .ok (.lload 7, 2) := by decide +kernel
theorem dX6_odds_107 : decode cX6_odds 107 = .ok (.iload_n 2, 1) := by decide +kernel
theorem dX6_odds_108 : decode cX6_odds 108 = .ok (.i2l, 1) := by decide +kernel
theorem dX6_odds_109 : decode cX6_odds 109 = .ok (.iload 6, 2) := by decide +kernel
theorem dX6_odds_111 : decode cX6_odds 111 = .ok (.invokestatic 262, 3) := by decide +kernel
theorem dX6_odds_114 : decode cX6_odds 114 = .ok (.lreturn, 1) := by decide +kernel
theorem dX6_image_0 : decode cX6_image 0 = .ok (.aload_n 0, 1) := by decide +kernel
theorem dX6_image_1 : decode cX6_image 1 = .ok (.iconst 1, 1) := by decide +kernel
theorem dX6_image_2 : decode cX6_image 2 = .ok (.putfield 265, 3) := by decide +kernel
theorem dX6_image_5 : decode cX6_image 5 = .ok (.aload_n 0, 1) := by decide +kernel
theorem dX6_image_6 : decode cX6_image 6 = .ok (.aload_n 0, 1) := by decide +kernel
theorem dX6_image_7 : decode cX6_image 7 = .ok (.getfield 80, 3) := by decide +kernel
theorem dX6_image_10 : decode cX6_image 10 = .ok (.putfield 269, 3) := by decide +kernel
theorem dX6_image_13 : decode cX6_image 13 = .ok (.iconst 0, 1) := by decide +kernel
theorem dX6_image_14 : decode cX6_image 14 = .ok (.istore_n 1, 1) := by decide +kernel
theorem dX6_image_15 : decode cX6_image 15 = .ok (.iload_n 1, 1) := by decide +kernel
theorem dX6_image_16 : decode cX6_image 16 = .ok (.bipush 48, 2) := by decide +kernel
theorem dX6_image_18 : decode cX6_image 18 = .ok (.if_icmp .ge 67, 3) := by decide +kernel
theorem dX6_image_21 : decode cX6_image 21 = .ok (.aload_n 0, 1) := by decide +kernel
theorem dX6_image_22 : decode cX6_image 22 = .ok (.getfield 31, 3) := by decide +kernel
theorem dX6_image_25 : decode cX6_image 25 = .ok (.iload_n 1, 1) := by decide +kernel
theorem dX6_image_26 : decode cX6_image 26 = .ok (.aload_n 0, 1) := by decide +kernel
theorem dX6_image_27 : decode cX6_image 27 = .ok (.getfield 7, 3) := by decide +kernel
theorem dX6_image_30 : decode cX6_image 30 = .ok (.iload_n 1, 1) := by decide +kernel
theorem dX6_image_31 : decode cX6_image 31 = .ok (.iaload, 1) := by decide +kernel
theorem dX6_image_32 : decode cX6_image 32 = .ok (.iastore, 1) := by decide +kernel
theorem dX6_image_33 : decode cX6_image 33 = .ok (.aload_n 0, 1) := by decide +kernel
theorem dX6_image_34 : decode cX6_image 34 = .ok (.getfield 31, 3) := by decide +kernel
theorem dX6_image_37 : decode cX6_image 37 = .ok (.bipush 48, 2) := by decide +kernel
theorem dX6_image_39 : decode cX6_image 39 = .ok (.iload_n 1, 1) := by decide +kernel
theorem dX6_image_40 : decode cX6_image 40 = .ok (.iadd, 1) := by decide +kernel
theorem dX6_image_41 : decode cX6_image 41 = .ok (.aload_n 0, 1) := by decide +kernel
theorem dX6_image_42 : decode cX6_image 42 = .ok (.getfield 13, 3) := by decide +kernel
theorem dX6_image_45 : decode cX6_image 45 = .ok (.iload_n 1, 1) := by decide +kernel
theorem dX6_image_46 : decode cX6_image 46 = .ok (.iaload, 1) := by decide +kernel
theorem dX6_image_47 : decode cX6_image 47 = .ok (.iastore, 1) := by decide +kernel
theorem dX6_image_48 : decode cX6_image 48 = .ok (.aload_n 0, 1) := by decide +kernel
theorem dX6_image_49 : decode cX6_image 49 = .ok (.getfield 31, 3) := by decide +kernel
theorem dX6_image_52 : decode cX6_image 52 = .ok (.bipush 96, 2) := by decide +kernel
theorem dX6_image_54 : decode cX6_image 54 = .ok (.iload_n 1, 1) := by decide +kernel
theorem dX6_image_55 : decode cX6_image 55 = .ok (.iadd, 1) := by decide +kernel
theorem dX6_image_56 : decode cX6_image 56 = .ok (.aload_n 0, 1) := by decide +kernel
theorem dX6_image_57 : decode cX6_image 57 = .ok (.getfield 16, 3) := by decide +kernel
theorem dX6_image_60 : decode cX6_image 60 = .ok (.iload_n 1, 1) := by decide +kernel
theorem dX6_image_61 : decode cX6_image 61 = .ok (.iaload, 1) := by decide +kernel
theorem dX6_image_62 : decode cX6_image 62 = .ok (.iastore, 1) := by decide +kernel
theorem dX6_image_63 : decode cX6_image 63 = .ok (.aload_n 0, 1) := by decide +kernel
theorem dX6_image_64 : decode cX6_image 64 = .ok (.getfield 31, 3) := by decide +kernel
theorem dX6_image_67 : decode cX6_image 67 = .ok (.sipush 144, 3) := by decide +kernel
theorem dX6_image_70 : decode cX6_image 70 = .ok (.iload_n 1, 1) := by decide +kernel
theorem dX6_image_71 : decode cX6_image 71 = .ok (.iadd, 1) := by decide +kernel
theorem dX6_image_72 : decode cX6_image 72 = .ok (.aload_n 0, 1) := by decide +kernel
theorem dX6_image_73 : decode cX6_image 73 = .ok (.getfield 19, 3) := by decide +kernel
theorem dX6_image_76 : decode cX6_image 76 = .ok (.iload_n 1, 1) := by decide +kernel
theorem dX6_image_77 : decode cX6_image 77 = .ok (.iaload, 1) := by decide +kernel
theorem dX6_image_78 : decode cX6_image 78 = .ok (.iastore, 1) := by decide +kernel
theorem dX6_image_79 : decode cX6_image 79 = .ok (.iinc 1 1, 3) := by decide +kernel
theorem dX6_image_82 : decode cX6_image 82 = .ok (.goto (-67), 3) := by decide +kernel
theorem dX6_image_85 : decode cX6_image 85 = .ok (.aload_n 0, 1) := by decide +kernel
theorem dX6_image_86 : decode cX6_image 86 = .ok (.iconst 0, 1) := by decide +kernel
theorem dX6_image_87 : decode cX6_image 87 = .ok (.invokevirtual 73, 3) := by decide +kernel
theorem dX6_image_90 : decode cX6_image 90 = .ok (.ireturn, 1) := by decide +kernel
theorem dX6_restore_0 : decode cX6_restore 0 = .ok (.aload_n 0, 1) := by decide +kernel
theorem dX6_restore_1 : decode cX6_restore 1 = .ok (.getfield 265, 3) := by decide +kernel
theorem dX6_restore_4 : decode cX6_restore 4 = .ok (.ifCond .ne 6, 3) := by decide +kernel
theorem dX6_restore_7 : decode cX6_restore 7 = .ok (.bipush (-3), 2) := by decide +kernel
theorem dX6_restore_9 : decode cX6_restore 9 = .ok (.ireturn, 1) := by decide +kernel
theorem dX6_restore_10 : decode cX6_restore 10 = .ok (.aload_n 0, 1) := by decide +kernel
theorem dX6_restore_11 : decode cX6_restore 11 = .ok (.aload_n 0, 1) := by decide +kernel
theorem dX6_restore_12 : decode cX6_restore 12 = .ok (.getfield 269, 3) := by decide +kernel
theorem dX6_restore_15 : decode cX6_restore 15 = .ok (.putfield 80, 3) := by decide +kernel
theorem dX6_restore_18 : decode cX6_restore 18 = .ok (.iconst 0, 1) := by decide +kernel
theorem dX6_restore_19 : decode cX6_restore 19 = .ok (.istore_n 1, 1) := by decide +kernel
theorem dX6_restore_20 : decode cX6_restore 20 = .ok (.iload_n 1, 1) := by decide +kernel
theorem dX6_restore_21 : decode cX6_restore 21 = .ok (.bipush 48, 2) := by decide +kernel
theorem dX6_restore_23 : decode cX6_restore 23 = .ok (.if_icmp .ge 67, 3) := by decide +kernel
theorem dX6_restore_26 : decode cX6_restore 26 = .ok (.aload_n 0, 1) := by decide +kernel
theorem dX6_restore_27 : decode cX6_restore 27 = .ok (.getfield 7, 3) := by decide +kernel
theorem dX6_restore_30 : decode cX6_restore 30 = .ok (.iload_n 1, 1) := by decide +kernel
theorem dX6_restore_31 : decode cX6_restore 31 = .ok (.aload_n 0, 1) := by decide +kernel
theorem dX6_restore_32 : decode cX6_restore 32 = .ok (.getfield 31, 3) := by decide +kernel
theorem dX6_restore_35 : decode cX6_restore 35 = .ok (.iload_n 1, 1) := by decide +kernel
theorem dX6_restore_36 : decode cX6_restore 36 = .ok (.iaload, 1) := by decide +kernel
theorem dX6_restore_37 : decode cX6_restore 37 = .ok (.iastore, 1) := by decide +kernel
theorem dX6_restore_38 : decode cX6_restore 38 = .ok (.aload_n 0, 1) := by decide +kernel
theorem dX6_restore_39 : decode cX6_restore 39 = .ok (.getfield 13, 3) := by decide +kernel
theorem dX6_restore_42 : decode cX6_restore 42 = .ok (.iload_n 1, 1) := by decide +kernel
theorem dX6_restore_43 : decode cX6_restore 43 = .ok (.aload_n 0, 1) := by decide +kernel
theorem dX6_restore_44 : decode cX6_restore 44 = .ok (.getfield 31, 3) := by decide +kernel
theorem dX6_restore_47 : decode cX6_restore 47 = .ok (.bipush 48, 2) := by decide +kernel
theorem dX6_restore_49 : decode cX6_restore 49 = .ok (.iload_n 1, 1) := by decide +kernel
theorem dX6_restore_50 : decode cX6_restore 50 = .ok (.iadd, 1) := by decide +kernel
theorem dX6_restore_51 : decode cX6_restore 51 = .ok (.iaload, 1) := by decide +kernel
theorem dX6_restore_52 : decode cX6_restore 52 = .ok (.iastore, 1) := by decide +kernel
theorem dX6_restore_53 : decode cX6_restore 53 = .ok (.aload_n 0, 1) := by decide +kernel
theorem dX6_restore_54 : decode cX6_restore 54 = .ok (.getfield 16, 3) := by decide +kernel
theorem dX6_restore_57 : decode cX6_restore 57 = .ok (.iload_n 1, 1) := by decide +kernel
theorem dX6_restore_58 : decode cX6_restore 58 = .ok (.aload_n 0, 1) := by decide +kernel
theorem dX6_restore_59 : decode cX6_restore 59 = .ok (.getfield 31, 3) := by decide +kernel
theorem dX6_restore_62 : decode cX6_restore 62 = .ok (.bipush 96, 2) := by decide +kernel
theorem dX6_restore_64 : decode cX6_restore 64 = .ok (.iload_n 1, 1) := by decide +kernel
theorem dX6_restore_65 : decode cX6_restore 65 = .ok (.iadd, 1) := by decide +kernel
theorem dX6_restore_66 : decode cX6_restore 66 = .ok (.iaload, 1) := by decide +kernel
theorem dX6_restore_67 : decode cX6_restore 67 = .ok (.iastore, 1) := by decide +kernel
theorem dX6_restore_68 : decode cX6_restore 68 = .ok (.aload_n 0, 1) := by decide +kernel
theorem dX6_restore_69 : decode cX6_restore 69 = .ok (.getfield 19, 3) := by decide +kernel
theorem dX6_restore_72 : decode cX6_restore 72 = .ok (.iload_n 1, 1) := by decide +kernel
theorem dX6_restore_73 : decode cX6_restore 73 = .ok (.aload_n 0, 1) := by decide +kernel
theorem dX6_restore_74 : decode cX6_restore 74 = .ok (.getfield 31, 3) := by decide +kernel
theorem dX6_restore_77 : decode cX6_restore 77 = .ok (.sipush 144, 3) := by decide +kernel
theorem dX6_restore_80 : decode cX6_restore 80 = .ok (.iload_n 1, 1) := by decide +kernel
theorem dX6_restore_81 : decode cX6_restore 81 = .ok (.iadd, 1) := by decide +kernel
theorem dX6_restore_82 : decode cX6_restore 82 = .ok (.iaload, 1) := by decide +kernel
theorem dX6_restore_83 : decode cX6_restore 83 = .ok (.iastore, 1) := by decide +kernel
theorem dX6_restore_84 : decode cX6_restore 84 = .ok (.iinc 1 1, 3) := by decide +kernel
theorem dX6_restore_87 : decode cX6_restore 87 = .ok (.goto (-67), 3) := by decide +kernel
theorem dX6_restore_90 : decode cX6_restore 90 = .ok (.aload_n 0, 1) := by decide +kernel
theorem dX6_restore_91 : decode cX6_restore 91 = .ok (.iconst 0, 1) := by decide +kernel
theorem dX6_restore_92 : decode cX6_restore 92 = .ok (.invokevirtual 73, 3) := by decide +kernel
theorem dX6_restore_95 : decode cX6_restore 95 = .ok (.ireturn, 1) := by decide +kernel
theorem dX6_sheet_0 : decode cX6_sheet 0 = .ok (.iload_n 1, 1) := by decide +kernel
theorem dX6_sheet_1 : decode cX6_sheet 1 = .ok (.iconst 0, 1) := by decide +kernel
theorem dX6_sheet_2 : decode cX6_sheet 2 = .ok (.iconst 3, 1) := by decide +kernel
theorem dX6_sheet_3 : decode cX6_sheet 3 = .ok (.invokestatic 69, 3) := by decide +kernel
theorem dX6_sheet_6 : decode cX6_sheet 6 = .ok (.ifCond .eq 23, 3) := by decide +kernel
theorem dX6_sheet_9 : decode cX6_sheet 9 = .ok (.iload_n 2, 1) := by decide +kernel
theorem dX6_sheet_10 : decode cX6_sheet 10 = .ok (.iconst (-1), 1) := by decide +kernel
theorem dX6_sheet_11 : decode cX6_sheet 11 = .ok (.iconst 2, 1) := by decide +kernel
theorem dX6_sheet_12 : decode cX6_sheet 12 = .ok (.invokestatic 69, 3) := by decide +kernel
theorem dX6_sheet_15 : decode cX6_sheet 15 = .ok (.ifCond .eq 14, 3) := by decide +kernel
theorem dX6_sheet_18 : decode cX6_sheet 18 = .ok (.iload_n 2, 1) := by decide +kernel
theorem dX6_sheet_19 : decode cX6_sheet 19 = .ok (.iconst (-1), 1) := by decide +kernel
theorem dX6_sheet_20 : decode cX6_sheet 20 = .ok (.if_icmp .eq 12, 3) := by decide +kernel
theorem dX6_sheet_23 : decode cX6_sheet 23 = .ok (.iload_n 3, 1) := by decide +kernel
theorem dX6_sheet_24 : decode cX6_sheet 24 = .ok (.bipush 48, 2) := by decide +kernel
theorem dX6_sheet_26 : decode cX6_sheet 26 = .ok (.if_icmp .le 6, 3) := by decide +kernel
theorem dX6_sheet_29 : decode cX6_sheet 29 = .ok (.bipush (-2), 2) := by decide +kernel
theorem dX6_sheet_31 : decode cX6_sheet 31 = .ok (.ireturn, 1) := by decide +kernel
theorem dX6_sheet_32 : decode cX6_sheet 32 = .ok (.iload_n 2, 1) := by decide +kernel
theorem dX6_sheet_33 : decode cX6_sheet 33 = .ok (.iconst (-1), 1) := by decide +kernel
theorem dX6_sheet_34 : decode cX6_sheet 34 = .ok (.if_icmp .eq 10, 3) := by decide +kernel
theorem dX6_sheet_37 : decode cX6_sheet 37 = .ok (.iload_n 3, 1) := by decide +kernel
theorem dX6_sheet_38 : decode cX6_sheet 38 = .ok (.ifCond .ge 6, 3) := by decide +kernel
theorem dX6_sheet_41 : decode cX6_sheet 41 = .ok (.bipush (-14), 2) := by decide +kernel
theorem dX6_sheet_43 : decode cX6_sheet 43 = .ok (.ireturn, 1) := by decide +kernel
theorem dX6_sheet_44 : decode cX6_sheet 44 = .ok (.aload_n 0, 1) := by decide +kernel
theorem dX6_sheet_45 : decode cX6_sheet 45 = .ok (.getfield 34, 3) := by decide +kernel
theorem dX6_sheet_48 : decode cX6_sheet 48 = .ok (.iload_n 1, 1) := by decide +kernel
theorem dX6_sheet_49 : decode cX6_sheet 49 = .ok (.iload_n 2, 1) := by decide +kernel
theorem dX6_sheet_50 : decode cX6_sheet 50 = .ok (.iastore, 1) := by decide +kernel
theorem dX6_sheet_51 : decode cX6_sheet 51 = .ok (.aload_n 0, 1) := by decide +kernel
theorem dX6_sheet_52 : decode cX6_sheet 52 = .ok (.getfield 37, 3) := by decide +kernel
theorem dX6_sheet_55 : decode cX6_sheet 55 = .ok (.iload_n 1, 1) := by decide +kernel
theorem dX6_sheet_56 : decode cX6_sheet 56 = .ok (.iload_n 2, 1) := by decide +kernel
theorem dX6_sheet_57 : decode cX6_sheet 57 = .ok (.iconst (-1), 1) := by decide +kernel
theorem dX6_sheet_58 : decode cX6_sheet 58 = .ok (.if_icmp .ne 7, 3) := by decide +kernel
theorem dX6_sheet_61 : decode cX6_sheet 61 = .ok (.iconst 0, 1) := by decide +kernel
theorem dX6_sheet_62 : decode cX6_sheet 62 = .ok (.goto 4, 3) := by decide +kernel
theorem dX6_sheet_65 : decode cX6_sheet 65 = .ok (.iload_n 3, 1) := by decide +kernel
theorem dX6_sheet_66 : decode cX6_sheet 66 = .ok (.iastore, 1) := by decide +kernel
theorem dX6_sheet_67 : decode cX6_sheet 67 = .ok (.iconst 0, 1) := by decide +kernel
theorem dX6_sheet_68 : decode cX6_sheet 68 = .ok (.istore 4, 2) := by decide +kernel
theorem dX6_sheet_70 : decode cX6_sheet 70 = .ok (.iload 4, 2) := by decide +kernel
theorem dX6_sheet_72 : decode cX6_sheet 72 = .ok (.bipush 48, 2) := by decide +kernel
theorem dX6_sheet_74 : decode cX6_sheet 74 = .ok (.if_icmp .ge 22, 3) := by decide +kernel
theorem dX6_sheet_77 : decode cX6_sheet 77 = .ok (.aload_n 0, 1) := by decide +kernel
theorem dX6_sheet_78 : decode cX6_sheet 78 = .ok (.getfield 40, 3) := by decide +kernel
theorem dX6_sheet_81 : decode cX6_sheet 81 = .ok (.bipush 48, 2) := by decide +kernel
theorem dX6_sheet_83 : decode cX6_sheet 83 = .ok (.iload_n 1, 1) := by decide +kernel
theorem dX6_sheet_84 : decode cX6_sheet 84 = .ok (.imul, 1) := by decide +kernel
theorem dX6_sheet_85 : decode cX6_sheet 85 = .ok (.iload 4, 2) := by decide +kernel
theorem dX6_sheet_87 : decode cX6_sheet 87 = .ok (.iadd, 1) := by decide +kernel
theorem dX6_sheet_88 : decode cX6_sheet 88 = .ok (.iconst 0, 1) := by decide +kernel
theorem dX6_sheet_89 : decode cX6_sheet 89 = .ok (.iastore, 1) := by decide +kernel
theorem dX6_sheet_90 : decode cX6_sheet 90 = .ok (.iinc 4 1, 3) := by decide +kernel
theorem dX6_sheet_93 : decode cX6_sheet 93 = .ok (.goto (-23), 3) := by decide +kernel
theorem dX6_sheet_96 : decode cX6_sheet 96 = .ok (.iconst 1, 1) := by decide +kernel
theorem dX6_sheet_97 : decode cX6_sheet 97 = .ok (.ireturn, 1) := by decide +kernel
theorem dX6_cell_0 : decode cX6_cell 0 = .ok (.iload_n 1, 1) := by decide +kernel
theorem dX6_cell_1 : decode cX6_cell 1 = .ok (.iconst 0, 1) := by decide +kernel
theorem dX6_cell_2 : decode cX6_cell 2 = .ok (.iconst 3, 1) := by decide +kernel
theorem dX6_cell_3 : decode cX6_cell 3 = .ok (.invokestatic 69, 3) := by decide +kernel
theorem dX6_cell_6 : decode cX6_cell 6 = .ok (.ifCond .ne 6, 3) := by decide +kernel
theorem dX6_cell_9 : decode cX6_cell 9 = .ok (.bipush (-2), 2) := by decide +kernel
theorem dX6_cell_11 : decode cX6_cell 11 = .ok (.ireturn, 1) := by decide +kernel
theorem dX6_cell_12 : decode cX6_cell 12 = .ok (.aload_n 0, 1) := by decide +kernel
theorem dX6_cell_13 : decode cX6_cell 13 = .ok (.getfield 34, 3) := by decide +kernel
theorem dX6_cell_16 : decode cX6_cell 16 = .ok (.iload_n 1, 1) := by decide +kernel
theorem dX6_cell_17 : decode cX6_cell 17 = .ok (.iaload, 1) := by decide +kernel
theorem dX6_cell_18 : decode cX6_cell 18 = .ok (.iconst (-1), 1) := by decide +kernel
theorem dX6_cell_19 : decode cX6_cell 19 = .ok (.if_icmp .ne 6, 3) := by decide +kernel
theorem dX6_cell_22 : decode cX6_cell 22 = .ok (.bipush (-11), 2) := by decide +kernel
theorem dX6_cell_24 : decode cX6_cell 24 = .ok (.ireturn, 1) := by decide +kernel
theorem dX6_cell_25 : decode cX6_cell 25 = .ok (.iload_n 2, 1) := by decide +kernel
theorem dX6_cell_26 : decode cX6_cell 26 = .ok (.iconst 0, 1) := by decide +kernel
theorem dX6_cell_27 : decode cX6_cell 27 = .ok (.aload_n 0, 1) := by decide +kernel
theorem dX6_cell_28 : decode cX6_cell 28 = .ok (.getfield 37, 3) := by decide +kernel
theorem dX6_cell_31 : decode cX6_cell 31 = .ok (.iload_n 1, 1) := by decide +kernel
theorem dX6_cell_32 : decode cX6_cell 32 = .ok (.iaload, 1) := by decide +kernel
theorem dX6_cell_33 : decode cX6_cell 33 = .ok (.iconst 1, 1) := by decide +kernel
theorem dX6_cell_34 : decode cX6_cell 34 = .ok (.isub, 1) := by decide +kernel
theorem dX6_cell_35 : decode cX6_cell 35 = .ok (.invokestatic 69, 3) := by decide +kernel
theorem dX6_cell_38 : decode cX6_cell 38 = .ok (.ifCond .ne 6, 3) := by decide +kernel
theorem dX6_cell_41 : decode cX6_cell 41 = .ok (.bipush (-12), 2) := by decide +kernel
theorem dX6_cell_43 : decode cX6_cell 43 = .ok (.ireturn, 1) := by decide +kernel
theorem dX6_cell_44 : decode cX6_cell 44 = .ok (.aload_n 0, 1) := by decide +kernel
theorem dX6_cell_45 : decode cX6_cell 45 = .ok (.getfield 40, 3) := by decide +kernel
theorem dX6_cell_48 : decode cX6_cell 48 = .ok (.bipush 48, 2) := by decide +kernel
theorem dX6_cell_50 : decode cX6_cell 50 = .ok (.iload_n 1, 1) := by decide +kernel
theorem dX6_cell_51 : decode cX6_cell 51 = .ok (.imul, 1) := by decide +kernel
theorem dX6_cell_52 : decode cX6_cell 52 = .ok (.iload_n 2, 1) := by decide +kernel
theorem dX6_cell_53 : decode cX6_cell 53 = .ok (.iadd, 1) := by decide +kernel
theorem dX6_cell_54 : decode cX6_cell 54 = .ok (.aload_n 0, 1) := by decide +kernel
theorem dX6_cell_55 : decode cX6_cell 55 = .ok (.getfield 34, 3) := by decide +kernel
theorem dX6_cell_58 : decode cX6_cell 58 = .ok (.iload_n 1, 1) := by decide +kernel
theorem dX6_cell_59 : decode cX6_cell 59 = .ok (.iaload, 1) := by decide +kernel
theorem dX6_cell_60 : decode cX6_cell 60 = .ok (.ifCond .ne 8, 3) := by decide +kernel
theorem dX6_cell_63 : decode cX6_cell 63 = .ok (.iload_n 3, 1) := by decide +kernel
theorem dX6_cell_64 : decode cX6_cell 64 = .ok (.i2b, 1) := by decide +kernel
theorem dX6_cell_65 : decode cX6_cell 65 = .ok (.goto 19, 3) := by decide +kernel
theorem dX6_cell_68 : decode cX6_cell 68 = .ok (.aload_n 0, 1) := by decide +kernel
theorem dX6_cell_69 : decode cX6_cell 69 = .ok (.getfield 34, 3) := by decide +kernel
theorem dX6_cell_72 : decode cX6_cell 72 = .ok (.iload_n 1, 1) := by decide +kernel
theorem dX6_cell_73 : decode cX6_cell 73 = .ok (.iaload, 1) := by decide +kernel
theorem dX6_cell_74 : decode cX6_cell 74 = .ok (.iconst 1, 1) := by decide +kernel
theorem dX6_cell_75 : decode cX6_cell 75 = .ok (.if_icmp .ne 8, 3) := by decide +kernel
theorem dX6_cell_78 : decode cX6_cell 78 = .ok (.iload_n 3, 1) := by decide +kernel
theorem dX6_cell_79 : decode cX6_cell 79 = .ok (.i2s, 1) := by decide +kernel
theorem dX6_cell_80 : decode cX6_cell 80 = .ok (.goto 4, 3) := by decide +kernel
theorem dX6_cell_83 : decode cX6_cell 83 = .ok (.iload_n 3, 1) := by decide +kernel
theorem dX6_cell_84 : decode cX6_cell 84 = .ok (.iastore, 1) := by decide +kernel
theorem dX6_cell_85 : decode cX6_cell 85 = .ok (.iconst 1, 1) := by decide +kernel
theorem dX6_cell_86 : decode cX6_cell 86 = .ok (.ireturn, 1) := by decide +kernel
theorem dX6_copy_0 : decode cX6_copy 0 = .ok (.iload_n 1, 1) := by decide +kernel
theorem dX6_copy_1 : decode cX6_copy 1 = .ok (.iconst 0, 1) := by decide +kernel
theorem dX6_copy_2 : decode cX6_copy 2 = .ok (.iconst 3, 1) := by decide +kernel
theorem dX6_copy_3 : decode cX6_copy 3 = .ok (.invokestatic 69, 3) := by decide +kernel
theorem dX6_copy_6 : decode cX6_copy 6 = .ok (.ifCond .eq 12, 3) := by decide +kernel
theorem dX6_copy_9 : decode cX6_copy 9 = .ok (.iload_n 3, 1) := by decide +kernel
theorem dX6_copy_10 : decode cX6_copy 10 = .ok (.iconst 0, 1) := by decide +kernel
theorem dX6_copy_11 : decode cX6_copy 11 = .ok (.iconst 3, 1) := by decide +kernel
theorem dX6_copy_12 : decode cX6_copy 12 = .ok (.invokestatic 69, 3) := by decide +kernel
theorem dX6_copy_15 : decode cX6_copy 15 = .ok (.ifCond .ne 6, 3) := by decide +kernel
theorem dX6_copy_18 : decode cX6_copy 18 = .ok (.bipush (-2), 2) := by decide +kernel
theorem dX6_copy_20 : decode cX6_copy 20 = .ok (.ireturn, 1) := by decide +kernel
theorem dX6_copy_21 : decode cX6_copy 21 = .ok (.aload_n 0, 1) := by decide +kernel
theorem dX6_copy_22 : decode cX6_copy 22 = .ok (.getfield 34, 3) := by decide +kernel
theorem dX6_copy_25 : decode cX6_copy 25 = .ok (.iload_n 1, 1) := by decide +kernel
theorem dX6_copy_26 : decode cX6_copy 26 = .ok (.iaload, 1) := by decide +kernel
theorem dX6_copy_27 : decode cX6_copy 27 = .ok (.iconst (-1), 1) := by decide +kernel
theorem dX6_copy_28 : decode cX6_copy 28 = .ok (.if_icmp .eq 13, 3) := by decide +kernel
theorem dX6_copy_31 : decode cX6_copy 31 = .ok (.aload_n 0, 1) := by decide +kernel
theorem dX6_copy_32 : decode cX6_copy 32 = .ok (.getfield 34, 3) := by decide +kernel
theorem dX6_copy_35 : decode cX6_copy 35 = .ok (.iload_n 3, 1) := by decide +kernel
theorem dX6_copy_36 : decode cX6_copy 36 = .ok (.iaload, 1) := by decide +kernel
theorem dX6_copy_37 : decode cX6_copy 37 = .ok (.iconst (-1), 1) := by decide +kernel
theorem dX6_copy_38 : decode cX6_copy 38 = .ok (.if_icmp .ne 6, 3) := by decide +kernel
theorem dX6_copy_41 : decode cX6_copy 41 = .ok (.bipush (-11), 2) := by decide +kernel
theorem dX6_copy_43 : decode cX6_copy 43 = .ok (.ireturn, 1) := by decide +kernel
theorem dX6_copy_44 : decode cX6_copy 44 = .ok (.aload_n 0, 1) := by decide +kernel
theorem dX6_copy_45 : decode cX6_copy 45 = .ok (.getfield 34, 3) := by decide +kernel
theorem dX6_copy_48 : decode cX6_copy 48 = .ok (.iload_n 1, 1) := by decide +kernel
theorem dX6_copy_49 : decode cX6_copy 49 = .ok (.iaload, 1) := by decide +kernel
theorem dX6_copy_50 : decode cX6_copy 50 = .ok (.aload_n 0, 1) := by decide +kernel
theorem dX6_copy_51 : decode cX6_copy 51 = .ok (.getfield 34, 3) := by decide +kernel
theorem dX6_copy_54 : decode cX6_copy 54 = .ok (.iload_n 3, 1) := by decide +kernel
theorem dX6_copy_55 : decode cX6_copy 55 = .ok (.iaload, 1) := by decide +kernel
theorem dX6_copy_56 : decode cX6_copy 56 = .ok (.if_icmp .eq 6, 3) := by decide +kernel
theorem dX6_copy_59 : decode cX6_copy 59 = .ok (.bipush (-13), 2) := by decide +kernel
theorem dX6_copy_61 : decode cX6_copy 61 = .ok (.ireturn, 1) := by decide +kernel
theorem dX6_copy_62 : decode cX6_copy 62 = .ok (.iload 5, 2) := by decide +kernel
theorem dX6_copy_64 : decode cX6_copy 64 = .ok (.ifCond .lt 60, 3) := by decide +kernel
theorem dX6_copy_67 : decode cX6_copy 67 = .ok (.iload_n 2, 1) := by decide +kernel
theorem dX6_copy_68 : decode cX6_copy 68 = .ok (.ifCond .lt 56, 3) := by decide +kernel
theorem dX6_copy_71 : decode cX6_copy 71 = .ok (.iload 4, 2) := by decide +kernel
theorem dX6_copy_73 : decode cX6_copy 73 = .ok (.ifCond .lt 51, 3) := by decide +kernel
theorem dX6_copy_76 : decode cX6_copy 76 = .ok (.iload_n 2, 1) := by decide +kernel
theorem dX6_copy_77 : decode cX6_copy 77 = .ok (.aload_n 0, 1) := by decide +kernel
theorem dX6_copy_78 : decode cX6_copy 78 = .ok (.getfield 37, 3) := by decide +kernel
theorem dX6_copy_81 : decode cX6_copy 81 = .ok (.iload_n 1, 1) := by decide +kernel
theorem dX6_copy_82 : decode cX6_copy 82 = .ok (.iaload, 1) := by decide +kernel
theorem dX6_copy_83 : decode cX6_copy 83 = .ok (.if_icmp .gt 41, 3) := by decide +kernel
theorem dX6_copy_86 : decode cX6_copy 86 = .ok (.iload 4, 2) := by decide +kernel
theorem dX6_copy_88 : decode cX6_copy 88 = .ok (.aload_n 0, 1) := by decide +kernel
theorem dX6_copy_89 : decode cX6_copy 89 = .ok (.getfield 37, 3) := by decide +kernel
theorem dX6_copy_92 : decode cX6_copy 92 = .ok (.iload_n 3, 1) := by decide +kernel
theorem dX6_copy_93 : decode cX6_copy 93 = .ok (.iaload, 1) := by decide +kernel
theorem dX6_copy_94 : decode cX6_copy 94 = .ok (.if_icmp .gt 30, 3) := by decide +kernel
theorem dX6_copy_97 : decode cX6_copy 97 = .ok (.iload 5, 2) := by decide +kernel
theorem dX6_copy_99 : decode cX6_copy 99 = .ok (.aload_n 0, 1) := by decide +kernel
theorem dX6_copy_100 : decode cX6_copy 100 = .ok (.getfield 37, 3) := by decide +kernel
theorem dX6_copy_103 : decode cX6_copy 103 = .ok (.iload_n 1, 1) := by decide +kernel
theorem dX6_copy_104 : decode cX6_copy 104 = .ok (.iaload, 1) := by decide +kernel
theorem dX6_copy_105 : decode cX6_copy 105 = .ok (.iload_n 2, 1) := by decide +kernel
theorem dX6_copy_106 : decode cX6_copy 106 = .ok (.isub, 1) := by decide +kernel
theorem dX6_copy_107 : decode cX6_copy 107 = .ok (.if_icmp .gt 17, 3) := by decide +kernel
theorem dX6_copy_110 : decode cX6_copy 110 = .ok (.iload 5, 2) := by decide +kernel
theorem dX6_copy_112 : decode cX6_copy 112 = .ok (.aload_n 0, 1) := by decide +kernel
theorem dX6_copy_113 : decode cX6_copy 113 = .ok (.getfield 37, 3) := by decide +kernel
theorem dX6_copy_116 : decode cX6_copy 116 = .ok (.iload_n 3, 1) := by decide +kernel
theorem dX6_copy_117 : decode cX6_copy 117 = .ok (.iaload, 1) := by decide +kernel
theorem dX6_copy_118 : decode cX6_copy 118 = .ok (.iload 4, 2) := by decide +kernel
theorem dX6_copy_120 : decode cX6_copy 120 = .ok (.isub, 1) := by decide +kernel
theorem dX6_copy_121 : decode cX6_copy 121 = .ok (.if_icmp .le 6, 3) := by decide +kernel
theorem dX6_copy_124 : decode cX6_copy 124 = .ok (.bipush (-12), 2) := by decide +kernel
theorem dX6_copy_126 : decode cX6_copy 126 = .ok (.ireturn, 1) := by decide +kernel
theorem dX6_copy_127 : decode cX6_copy 127 = .ok (.bipush 48, 2) := by decide +kernel
theorem dX6_copy_129 : decode cX6_copy 129 = .ok (.iload_n 1, 1) := by decide +kernel
theorem dX6_copy_130 : decode cX6_copy 130 = .ok (.imul, 1) := by decide +kernel
theorem dX6_copy_131 : decode cX6_copy 131 = .ok (.iload_n 2, 1) := by decide +kernel
theorem dX6_copy_132 : decode cX6_copy 132 = .ok (.iadd, 1) := by decide +kernel
theorem dX6_copy_133 : decode cX6_copy 133 = .ok (.istore 6, 2) := by decide +kernel
theorem dX6_copy_135 : decode cX6_copy 135 = .ok (.bipush 48, 2) := by decide +kernel
theorem dX6_copy_137 : decode cX6_copy 137 = .ok (.iload_n 3, 1) := by decide +kernel
theorem dX6_copy_138 : decode cX6_copy 138 = .ok (.imul, 1) := by decide +kernel
theorem dX6_copy_139 : decode cX6_copy 139 = .ok (.iload 4, 2) := by decide +kernel
theorem dX6_copy_141 : decode cX6_copy 141 = .ok (.iadd, 1) := by decide +kernel
theorem dX6_copy_142 : decode cX6_copy 142 = .ok (.istore 7, 2) := by decide +kernel
theorem dX6_copy_144 : decode cX6_copy 144 = .ok (.iconst 0, 1) := by decide +kernel
theorem dX6_copy_145 : decode cX6_copy 145 = .ok (.istore 8, 2) := by decide +kernel
theorem dX6_copy_147 : decode cX6_copy 147 = .ok (.iload 8, 2) := by decide +kernel
theorem dX6_copy_149 : decode cX6_copy 149 = .ok (.iload 5, 2) := by decide +kernel
theorem dX6_copy_151 : decode cX6_copy 151 = .ok (.if_icmp .ge 50, 3) := by decide +kernel
theorem dX6_copy_154 : decode cX6_copy 154 = .ok (.iload 6, 2) := by decide +kernel
theorem dX6_copy_156 : decode cX6_copy 156 = .ok (.iload 7, 2) := by decide +kernel
theorem dX6_copy_158 : decode cX6_copy 158 = .ok (.if_icmp .ge 13, 3) := by decide +kernel
theorem dX6_copy_161 : decode cX6_copy 161 = .ok (.iload 5, 2) := by decide +kernel
theorem dX6_copy_163 : decode cX6_copy 163 = .ok (.iconst 1, 1) := by decide +kernel
theorem dX6_copy_164 : decode cX6_copy 164 = .ok (.isub, 1) := by decide +kernel
theorem dX6_copy_165 : decode cX6_copy 165 = .ok (.iload 8, 2) := by decide +kernel
theorem dX6_copy_167 : decode cX6_copy 167 = .ok (.isub, 1) := by decide +kernel
theorem dX6_copy_168 : decode cX6_copy 168 = .ok (.goto 5, 3) := by decide +kernel
theorem dX6_copy_171 : decode cX6_copy 171 = .ok (.iload 8, 2) := by decide +kernel
theorem dX6_copy_173 : decode cX6_copy 173 = .ok (.istore 9, 2) := by decide +kernel
theorem dX6_copy_175 : decode cX6_copy 175 = .ok (.aload_n 0, 1) := by decide +kernel
theorem dX6_copy_176 : decode cX6_copy 176 = .ok (.getfield 40, 3) := by decide +kernel
theorem dX6_copy_179 : decode cX6_copy 179 = .ok (.iload 7, 2) := by decide +kernel
theorem dX6_copy_181 : decode cX6_copy 181 = .ok (.iload 9, 2) := by decide +kernel
theorem dX6_copy_183 : decode cX6_copy 183 = .ok (.iadd, 1) := by decide +kernel
theorem dX6_copy_184 : decode cX6_copy 184 = .ok (.aload_n 0, 1) := by decide +kernel
theorem dX6_copy_185 : decode cX6_copy 185 = .ok (.getfield 40, 3) := by decide +kernel
theorem dX6_copy_188 : decode cX6_copy 188 = .ok (.iload 6, 2) := by decide +kernel
theorem dX6_copy_190 : decode cX6_copy 190 = .ok (.iload 9, 2) := by decide +kernel
theorem dX6_copy_192 : decode cX6_copy 192 = .ok (.iadd, 1) := by decide +kernel
theorem dX6_copy_193 : decode cX6_copy 193 = .ok (.iaload, 1) := by decide +kernel
theorem dX6_copy_194 : decode cX6_copy 194 = .ok (.iastore, 1) := by decide +kernel
theorem dX6_copy_195 : decode cX6_copy 195 = .ok (.iinc 8 1, 3) := by decide +kernel
theorem dX6_copy_198 : decode cX6_copy 198 = .ok (.goto (-51), 3) := by decide +kernel
theorem dX6_copy_201 : decode cX6_copy 201 = .ok (.iload 5, 2) := by decide +kernel
theorem dX6_copy_203 : decode cX6_copy 203 = .ok (.ireturn, 1) := by decide +kernel
theorem dX6_knits_0 : decode cX6_knits 0 = .ok (.iload_n 1, 1) := by decide +kernel
theorem dX6_knits_1 : decode cX6_knits 1 = .ok (.iconst 0, 1) := by decide +kernel
theorem dX6_knits_2 : decode cX6_knits 2 = .ok (.iconst 3, 1) := by decide +kernel
theorem dX6_knits_3 : decode cX6_knits 3 = .ok (.invokestatic 69, 3) := by decide +kernel
theorem dX6_knits_6 : decode cX6_knits 6 = .ok (.ifCond .eq 23, 3) := by decide +kernel
theorem dX6_knits_9 : decode cX6_knits 9 = .ok (.iload_n 2, 1) := by decide +kernel
theorem dX6_knits_10 : decode cX6_knits 10 = .ok (.iconst 0, 1) := by decide +kernel
theorem dX6_knits_11 : decode cX6_knits 11 = .ok (.iconst 2, 1) := by decide +kernel
theorem dX6_knits_12 : decode cX6_knits 12 = .ok (.invokestatic 69, 3) := by decide +kernel
theorem dX6_knits_15 : decode cX6_knits 15 = .ok (.ifCond .eq 14, 3) := by decide +kernel
theorem dX6_knits_18 : decode cX6_knits 18 = .ok (.iload 4, 2) := by decide +kernel
theorem dX6_knits_20 : decode cX6_knits 20 = .ok (.iconst 0, 1) := by decide +kernel
theorem dX6_knits_21 : decode cX6_knits 21 = .ok (.bipush 16, 2) := by decide +kernel
theorem dX6_knits_23 : decode cX6_knits 23 = .ok (.invokestatic 69, 3) := by decide +kernel
theorem dX6_knits_26 : decode cX6_knits 26 = .ok (.ifCond .ne 6, 3) := by decide +kernel
theorem dX6_knits_29 : decode cX6_knits 29 = .ok (.bipush (-2), 2) := by decide +kernel
theorem dX6_knits_31 : decode cX6_knits 31 = .ok (.ireturn, 1) := by decide +kernel
theorem dX6_knits_32 : decode cX6_knits 32 = .ok (.aload_n 0, 1) := by decide +kernel
theorem dX6_knits_33 : decode cX6_knits 33 = .ok (.getfield 34, 3) := by decide +kernel
theorem dX6_knits_36 : decode cX6_knits 36 = .ok (.iload_n 1, 1) := by decide +kernel
theorem dX6_knits_37 : decode cX6_knits 37 = .ok (.iaload, 1) := by decide +kernel
theorem dX6_knits_38 : decode cX6_knits 38 = .ok (.iconst (-1), 1) := by decide +kernel
theorem dX6_knits_39 : decode cX6_knits 39 = .ok (.if_icmp .ne 6, 3) := by decide +kernel
theorem dX6_knits_42 : decode cX6_knits 42 = .ok (.bipush (-11), 2) := by decide +kernel
theorem dX6_knits_44 : decode cX6_knits 44 = .ok (.ireturn, 1) := by decide +kernel
theorem dX6_knits_45 : decode cX6_knits 45 = .ok (.aload_n 0, 1) := by decide +kernel
theorem dX6_knits_46 : decode cX6_knits 46 = .ok (.getfield 34, 3) := by decide +kernel
theorem dX6_knits_49 : decode cX6_knits 49 = .ok (.iload_n 1, 1) := by decide +kernel
theorem dX6_knits_50 : decode cX6_knits 50 = .ok (.iaload, 1) := by decide +kernel
theorem dX6_knits_51 : decode cX6_knits 51 = .ok (.iload_n 2, 1) := by decide +kernel
theorem dX6_knits_52 : decode cX6_knits 52 = .ok (.if_icmp .eq 6, 3) := by decide +kernel
theorem dX6_knits_55 : decode cX6_knits 55 = .ok (.bipush (-13), 2) := by decide +kernel
theorem dX6_knits_57 : decode cX6_knits 57 = .ok (.ireturn, 1) := by decide +kernel
theorem dX6_knits_58 : decode cX6_knits 58 = .ok (.iconst 0, 1) := by decide +kernel
theorem dX6_knits_59 : decode cX6_knits 59 = .ok (.istore 5, 2) := by decide +kernel
theorem dX6_knits_61 : decode cX6_knits 61 = .ok (.iconst 0, 1) := by decide +kernel
theorem dX6_knits_62 : decode cX6_knits 62 = .ok (.istore 6, 2) := by decide +kernel
theorem dX6_knits_64 : decode cX6_knits 64 = .ok (.iload 6, 2) := by decide +kernel
theorem dX6_knits_66 : decode cX6_knits 66 = .ok (.iload 4, 2) := by decide +kernel
theorem dX6_knits_68 : decode cX6_knits 68 = .ok (.if_icmp .ge 94, 3) := by decide +kernel
theorem dX6_knits_71 : decode cX6_knits 71 = .ok (.iload_n 3, 1) := by decide +kernel
theorem dX6_knits_72 : decode cX6_knits 72 = .ok (.iconst 3, 1) := by decide +kernel
theorem dX6_knits_73 : decode cX6_knits 73 = .ok (.iload 6, 2) := by decide +kernel
theorem dX6_knits_75 : decode cX6_knits 75 = .ok (.imul, 1) := by decide +kernel
theorem dX6_knits_76 : decode cX6_knits 76 = .ok (.iadd, 1) := by decide +kernel
theorem dX6_knits_77 : decode cX6_knits 77 = .ok (.istore 7, 2) := by decide +kernel
theorem dX6_knits_79 : decode cX6_knits 79 = .ok (.iload_n 3, 1) := by decide +kernel
theorem dX6_knits_80 : decode cX6_knits 80 = .ok (.ifCond .lt 22, 3) := by decide +kernel
theorem dX6_knits_83 : decode cX6_knits 83 = .ok (.iload 7, 2) := by decide +kernel
theorem dX6_knits_85 : decode cX6_knits 85 = .ok (.iload_n 3, 1) := by decide +kernel
theorem dX6_knits_86 : decode cX6_knits 86 = .ok (.if_icmp .lt 16, 3) := by decide +kernel
theorem dX6_knits_89 : decode cX6_knits 89 = .ok (.iload 7, 2) := by decide +kernel
theorem dX6_knits_91 : decode cX6_knits 91 = .ok (.aload_n 0, 1) := by decide +kernel
theorem dX6_knits_92 : decode cX6_knits 92 = .ok (.getfield 37, 3) := by decide +kernel
theorem dX6_knits_95 : decode cX6_knits 95 = .ok (.iload_n 1, 1) := by decide +kernel
theorem dX6_knits_96 : decode cX6_knits 96 = .ok (.iaload, 1) := by decide +kernel
theorem dX6_knits_97 : decode cX6_knits 97 = .ok (.iconst 3, 1) := by decide +kernel
theorem dX6_knits_98 : decode cX6_knits 98 = .ok (.isub, 1) := by decide +kernel
theorem dX6_knits_99 : decode cX6_knits 99 = .ok (.if_icmp .le 6, 3) := by decide +kernel
theorem dX6_knits_102 : decode cX6_knits 102 = .ok (.bipush (-12), 2) := by decide +kernel
theorem dX6_knits_104 : decode cX6_knits 104 = .ok (.ireturn, 1) := by decide +kernel
theorem dX6_knits_105 : decode cX6_knits 105 = .ok (.bipush 48, 2) := by decide +kernel
theorem dX6_knits_107 : decode cX6_knits 107 = .ok (.iload_n 1, 1) := by decide +kernel
theorem dX6_knits_108 : decode cX6_knits 108 = .ok (.imul, 1) := by decide +kernel
theorem dX6_knits_109 : decode cX6_knits 109 = .ok (.iload 7, 2) := by decide +kernel
theorem dX6_knits_111 : decode cX6_knits 111 = .ok (.iadd, 1) := by decide +kernel
theorem dX6_knits_112 : decode cX6_knits 112 = .ok (.istore 8, 2) := by decide +kernel
theorem dX6_knits_114 : decode cX6_knits 114 = .ok (.iload 5, 2) := by decide +kernel
theorem dX6_knits_116 : decode cX6_knits 116 = .ok (.aload_n 0, 1) := by decide +kernel
theorem dX6_knits_117 : decode cX6_knits 117 = .ok (.aload_n 0, 1) := by decide +kernel
theorem dX6_knits_118 : decode cX6_knits 118 = .ok (.getfield 40, 3) := by decide +kernel
theorem dX6_knits_121 : decode cX6_knits 121 = .ok (.iload 8, 2) := by decide +kernel
theorem dX6_knits_123 : decode cX6_knits 123 = .ok (.iaload, 1) := by decide +kernel
theorem dX6_knits_124 : decode cX6_knits 124 = .ok (.aload_n 0, 1) := by decide +kernel
theorem dX6_knits_125 : decode cX6_knits 125 = .ok (.getfield 40, 3) := by decide +kernel
theorem dX6_knits_128 : decode cX6_knits 128 = .ok (.iload 8, 2) := by decide +kernel
theorem dX6_knits_130 : decode cX6_knits 130 = .ok (.iconst 1, 1) := by decide +kernel
theorem dX6_knits_131 : decode cX6_knits 131 = .ok (.iadd, 1) := by decide +kernel
theorem dX6_knits_132 : decode cX6_knits 132 = .ok (.iaload, 1) := by decide +kernel
theorem dX6_knits_133 : decode cX6_knits 133 = .ok (.aload_n 0, 1) := by decide +kernel
theorem dX6_knits_134 : decode cX6_knits 134 = .ok (.getfield 40, 3) := by decide +kernel
theorem dX6_knits_137 : decode cX6_knits 137 = .ok (.iload 8, 2) := by decide +kernel
theorem dX6_knits_139 : decode cX6_knits 139 = .ok (.iconst 2, 1) := by decide +kernel
theorem dX6_knits_140 : decode cX6_knits 140 = .ok (.iadd, 1) := by decide +kernel
theorem dX6_knits_141 : decode cX6_knits 141 = .ok (.iaload, 1) := by decide +kernel
theorem dX6_knits_142 : decode cX6_knits 142 = .ok (.invokevirtual 168, 3) := by decide +kernel
theorem dX6_knits_145 : decode cX6_knits 145 = .ok (.ifCond .lt 7, 3) := by decide +kernel
theorem dX6_knits_148 : decode cX6_knits 148 = .ok (.iconst 1, 1) := by decide +kernel
theorem dX6_knits_149 : decode cX6_knits 149 = .ok (.goto 4, 3) := by decide +kernel
theorem dX6_knits_152 : decode cX6_knits 152 = .ok (.iconst 0, 1) := by decide +kernel
theorem dX6_knits_153 : decode cX6_knits 153 = .ok (.iadd, 1) := by decide +kernel
theorem dX6_knits_154 : decode cX6_knits 154 = .ok (.istore 5, 2) := by decide +kernel
theorem dX6_knits_156 : decode cX6_knits 156 = .ok (.iinc 6 1, 3) := by decide +kernel
theorem dX6_knits_159 : decode cX6_knits 159 = .ok (.goto (-95), 3) := by decide +kernel
theorem dX6_knits_162 : decode cX6_knits 162 = .ok (.iload 5, 2) := by decide +kernel
theorem dX6_knits_164 : decode cX6_knits 164 = .ok (.ireturn, 1) := by decide +kernel
theorem dX6_isUnder_0 : decode cX6_isUnder 0 = .ok (.iload_n 1, 1) := by decide +kernel
theorem dX6_isUnder_1 : decode cX6_isUnder 1 = .ok (.ifCond .eq 28, 3) := by decide +kernel
theorem dX6_isUnder_4 : decode cX6_isUnder 4 = .ok (.iload_n 0, 1) := by decide +kernel
theorem dX6_isUnder_5 : decode cX6_isUnder 5 = .ok (.iload_n 1, 1) := by decide +kernel
theorem dX6_isUnder_6 : decode cX6_isUnder 6 = .ok (.if_icmp .eq 23, 3) := by decide +kernel
theorem dX6_isUnder_9 : decode cX6_isUnder 9 = .ok (.iload_n 1, 1) := by decide +kernel
theorem dX6_isUnder_10 : decode cX6_isUnder 10 = .ok (.iconst 1, 1) := by decide +kernel
theorem dX6_isUnder_11 : decode cX6_isUnder 11 = .ok (.if_icmp .ne 8, 3) := by decide +kernel
theorem dX6_isUnder_14 : decode cX6_isUnder 14 = .ok (.iload_n 0, 1) := by decide +kernel
theorem dX6_isUnder_15 : decode cX6_isUnder 15 = .ok (.iconst 5, 1) := by decide +kernel
theorem dX6_isUnder_16 : decode cX6_isUnder 16 = .ok (.if_icmp .eq 13, 3) := by decide +kernel
theorem dX6_isUnder_19 : decode cX6_isUnder 19 = .ok (.iload_n 1, 1) := by decide +kernel
theorem dX6_isUnder_20 : decode cX6_isUnder 20 = .ok (.iconst 2, 1) := by decide +kernel
theorem dX6_isUnder_21 : decode cX6_isUnder 21 = .ok (.if_icmp .ne 12, 3) := by decide +kernel
theorem dX6_isUnder_24 : decode cX6_isUnder 24 = .ok (.iload_n 0, 1) := by decide +kernel
theorem dX6_isUnder_25 : decode cX6_isUnder 25 = .ok (.iconst 3, 1) := by decide +kernel
theorem dX6_isUnder_26 : decode cX6_isUnder 26 = .ok (.if_icmp .ne 7, 3) := by decide +kernel
theorem dX6_isUnder_29 : decode cX6_isUnder 29 = .ok (.iconst 1, 1) := by decide +kernel
theorem dX6_isUnder_30 : decode cX6_isUnder 30 = .ok (.goto 4, 3) := by decide +kernel
theorem dX6_isUnder_33 : decode cX6_isUnder 33 = .ok (.iconst 0, 1) := by decide +kernel
theorem dX6_isUnder_34 : decode cX6_isUnder 34 = .ok (.ireturn, 1) := by decide +kernel
theorem dX6_pinsIn_0 : decode cX6_pinsIn 0 = .ok (.iconst 0, 1) := by decide +kernel
theorem dX6_pinsIn_1 : decode cX6_pinsIn 1 = .ok (.istore_n 2, 1) := by decide +kernel
theorem dX6_pinsIn_2 : decode cX6_pinsIn 2 = .ok (.iconst 0, 1) := by decide +kernel
theorem dX6_pinsIn_3 : decode cX6_pinsIn 3 = .ok (.istore_n 3, 1) := by decide +kernel
theorem dX6_pinsIn_4 : decode cX6_pinsIn 4 = .ok (.iload_n 3, 1) := by decide +kernel
theorem dX6_pinsIn_5 : decode cX6_pinsIn 5 = .ok (.bipush 6, 2) := by decide +kernel
theorem dX6_pinsIn_7 : decode cX6_pinsIn 7 = .ok (.if_icmp .ge 25, 3) := by decide +kernel
theorem dX6_pinsIn_10 : decode cX6_pinsIn 10 = .ok (.iload_n 2, 1) := by decide +kernel
theorem dX6_pinsIn_11 : decode cX6_pinsIn 11 = .ok (.aload_n 0, 1) := by decide +kernel
theorem dX6_pinsIn_12 : decode cX6_pinsIn 12 = .ok (.getfield 16, 3) := by decide +kernel
theorem dX6_pinsIn_15 : decode cX6_pinsIn 15 = .ok (.bipush 6, 2) := by decide +kernel
theorem dX6_pinsIn_17 : decode cX6_pinsIn 17 = .ok (.iload_n 1, 1) := by decide +kernel
theorem dX6_pinsIn_18 : decode cX6_pinsIn 18 = .ok (.imul, 1) := by decide +kernel
theorem dX6_pinsIn_19 : decode cX6_pinsIn 19 = .ok (.iload_n 3, 1) := by decide +kernel
theorem dX6_pinsIn_20 : decode cX6_pinsIn 20 = .ok (.iadd, 1) := by decide +kernel
theorem dX6_pinsIn_21 : decode cX6_pinsIn 21 = .ok (.iaload, 1) := by decide +kernel
theorem dX6_pinsIn_22 : decode cX6_pinsIn 22 = .ok (.iload_n 3, 1) := by decide +kernel
theorem dX6_pinsIn_23 : decode cX6_pinsIn 23 = .ok (.ishl, 1) := by decide +kernel
theorem dX6_pinsIn_24 : decode cX6_pinsIn 24 = .ok (.ior, 1) := by decide +kernel
theorem dX6_pinsIn_25 : decode cX6_pinsIn 25 = .ok (.istore_n 2, 1) := by decide +kernel
theorem dX6_pinsIn_26 : decode cX6_pinsIn 26 = .ok (.iinc 3 1, 3) := by decide +kernel
theorem dX6_pinsIn_29 : decode cX6_pinsIn 29 = .ok (.goto (-25), 3) := by decide +kernel
theorem dX6_pinsIn_32 : decode cX6_pinsIn 32 = .ok (.iload_n 2, 1) := by decide +kernel
theorem dX6_pinsIn_33 : decode cX6_pinsIn 33 = .ok (.ireturn, 1) := by decide +kernel
theorem dX6_taken_0 : decode cX6_taken 0 = .ok (.iload_n 2, 1) := by decide +kernel
theorem dX6_taken_1 : decode cX6_taken 1 = .ok (.iconst 0, 1) := by decide +kernel
theorem dX6_taken_2 : decode cX6_taken 2 = .ok (.bipush 6, 2) := by decide +kernel
theorem dX6_taken_4 : decode cX6_taken 4 = .ok (.invokestatic 69, 3) := by decide +kernel
theorem dX6_taken_7 : decode cX6_taken 7 = .ok (.ifCond .ne 6, 3) := by decide +kernel
theorem dX6_taken_10 : decode cX6_taken 10 = .ok (.bipush (-2), 2) := by decide +kernel
theorem dX6_taken_12 : decode cX6_taken 12 = .ok (.ireturn, 1) := by decide +kernel
theorem dX6_taken_13 : decode cX6_taken 13 = .ok (.iload_n 1, 1) := by decide +kernel
theorem dX6_taken_14 : decode cX6_taken 14 = .ok (.iconst 0, 1) := by decide +kernel
theorem dX6_taken_15 : decode cX6_taken 15 = .ok (.bipush 55, 2) := by decide +kernel
theorem dX6_taken_17 : decode cX6_taken 17 = .ok (.invokestatic 69, 3) := by decide +kernel
theorem dX6_taken_20 : decode cX6_taken 20 = .ok (.ifCond .ne 6, 3) := by decide +kernel
theorem dX6_taken_23 : decode cX6_taken 23 = .ok (.bipush (-12), 2) := by decide +kernel
theorem dX6_taken_25 : decode cX6_taken 25 = .ok (.ireturn, 1) := by decide +kernel
theorem dX6_taken_26 : decode cX6_taken 26 = .ok (.iload_n 1, 1) := by decide +kernel
theorem dX6_taken_27 : decode cX6_taken 27 = .ok (.bipush 48, 2) := by decide +kernel
theorem dX6_taken_29 : decode cX6_taken 29 = .ok (.if_icmp .ge 29, 3) := by decide +kernel
theorem dX6_taken_32 : decode cX6_taken 32 = .ok (.iload_n 2, 1) := by decide +kernel
theorem dX6_taken_33 : decode cX6_taken 33 = .ok (.bipush 6, 2) := by decide +kernel
theorem dX6_taken_35 : decode cX6_taken 35 = .ok (.if_icmp .ge 20, 3) := by decide +kernel
theorem dX6_taken_38 : decode cX6_taken 38 = .ok (.aload_n 0, 1) := by decide +kernel
theorem dX6_taken_39 : decode cX6_taken 39 = .ok (.getfield 7, 3) := by decide +kernel
theorem dX6_taken_42 : decode cX6_taken 42 = .ok (.iload_n 1, 1) := by decide +kernel
theorem dX6_taken_43 : decode cX6_taken 43 = .ok (.iaload, 1) := by decide +kernel
theorem dX6_taken_44 : decode cX6_taken 44 = .ok (.iload_n 2, 1) := by decide +kernel
theorem dX6_taken_45 : decode cX6_taken 45 = .ok (.invokestatic 272, 3) := by decide +kernel
theorem dX6_taken_48 : decode cX6_taken 48 = .ok (.ifCond .eq 7, 3) := by decide +kernel
theorem dX6_taken_51 : decode cX6_taken 51 = .ok (.iload_n 1, 1) := by decide +kernel
theorem dX6_taken_52 : decode cX6_taken 52 = .ok (.goto 5, 3) := by decide +kernel
theorem dX6_taken_55 : decode cX6_taken 55 = .ok (.bipush (-13), 2) := by decide +kernel
theorem dX6_taken_57 : decode cX6_taken 57 = .ok (.ireturn, 1) := by decide +kernel
theorem dX6_taken_58 : decode cX6_taken 58 = .ok (.aload_n 0, 1) := by decide +kernel
theorem dX6_taken_59 : decode cX6_taken 59 = .ok (.iload_n 1, 1) := by decide +kernel
theorem dX6_taken_60 : decode cX6_taken 60 = .ok (.bipush 48, 2) := by decide +kernel
theorem dX6_taken_62 : decode cX6_taken 62 = .ok (.isub, 1) := by decide +kernel
theorem dX6_taken_63 : decode cX6_taken 63 = .ok (.invokevirtual 275, 3) := by decide +kernel
theorem dX6_taken_66 : decode cX6_taken 66 = .ok (.ifCond .ne 8, 3) := by decide +kernel
theorem dX6_taken_69 : decode cX6_taken 69 = .ok (.bipush (-11), 2) := by decide +kernel
theorem dX6_taken_71 : decode cX6_taken 71 = .ok (.goto 22, 3) := by decide +kernel
theorem dX6_taken_74 : decode cX6_taken 74 = .ok (.iload_n 2, 1) := by decide +kernel
theorem dX6_taken_75 : decode cX6_taken 75 = .ok (.bipush 6, 2) := by decide +kernel
theorem dX6_taken_77 : decode cX6_taken 77 = .ok (.if_icmp .ne 14, 3) := by decide +kernel
theorem dX6_taken_80 : decode cX6_taken 80 = .ok (.aload_n 0, 1) := by decide +kernel
theorem dX6_taken_81 : decode cX6_taken 81 = .ok (.iload_n 1, 1) := by decide +kernel
theorem dX6_taken_82 : decode cX6_taken 82 = .ok (.bipush 48, 2) := by decide +kernel
theorem dX6_taken_84 : decode cX6_taken 84 = .ok (.isub, 1) := by decide +kernel
theorem dX6_taken_85 : decode cX6_taken 85 = .ok (.invokevirtual 275, 3) := by decide +kernel
theorem dX6_taken_88 : decode cX6_taken 88 = .ok (.goto 5, 3) := by decide +kernel
theorem dX6_taken_91 : decode cX6_taken 91 = .ok (.bipush (-13), 2) := by decide +kernel
theorem dX6_taken_93 : decode cX6_taken 93 = .ok (.ireturn, 1) := by decide +kernel
end
section
theorem dL_law_0 : decode cL_law 0 = .ok (.new 7, 3) := by decide +kernel
theorem dL_law_3 : decode cL_law 3 = .ok (.dup, 1) := by decide +kernel
theorem dL_law_4 : decode cL_law 4 = .ok (.invokespecial 9, 3) := by decide +kernel
theorem dL_law_7 : decode cL_law 7 = .ok (.astore_n 1, 1) := by decide +kernel
theorem dL_law_8 : decode cL_law 8 = .ok (.new 10, 3) := by decide +kernel
theorem dL_law_11 : decode cL_law 11 = .ok (.dup, 1) := by decide +kernel
theorem dL_law_12 : decode cL_law 12 = .ok (.invokespecial 12, 3) := by decide +kernel
theorem dL_law_15 : decode cL_law 15 = .ok (.astore_n 2, 1) := by decide +kernel
theorem dL_law_16 : decode cL_law 16 = .ok (.iconst 0, 1) := by decide +kernel
theorem dL_law_17 : decode cL_law 17 = .ok (.istore_n 3, 1) := by decide +kernel
theorem dL_law_18 : decode cL_law 18 = .ok (.iload_n 3, 1) := by decide +kernel
theorem dL_law_19 : decode cL_law 19 = .ok (.aload_n 0, 1) := by decide +kernel
theorem dL_law_20 : decode cL_law 20 = .ok (.arraylength, 1) := by decide +kernel
theorem dL_law_21 : decode cL_law 21 = .ok (.bipush 7, 2) := by decide +kernel
theorem dL_law_23 : decode cL_law 23 = .ok (.isub, 1) := by decide +kernel
theorem dL_law_24 : decode cL_law 24 = .ok (.if_icmp .gt 1788, 3) := by decide +kernel
theorem dL_law_27 : decode cL_law 27 = .ok (.aload_n 0, 1) := by decide +kernel
theorem dL_law_28 : decode cL_law 28 = .ok (.iload_n 3, 1) := by decide +kernel
theorem dL_law_29 : decode cL_law 29 = .ok (.iaload, 1) := by decide +kernel
theorem dL_law_30 : decode cL_law 30 = .ok (.bipush 63, 2) := by decide +kernel
theorem dL_law_32 : decode cL_law 32 = .ok (.iand, 1) := by decide +kernel
theorem dL_law_33 : decode cL_law 33 = .ok (.tableswitch 1773 0 43 #[191, 214, 289, 302, 325, 368, 411, 454, 487, 520, 554, 568, 591, 634, 678, 721, 754, 797, 830, 863, 896, 919, 952, 975, 988, 1041, 1084, 1117, 1130, 1144, 1177, 1220, 1254, 1297, 1340, 1383, 1436, 1512, 1525, 1538, 1581, 1624, 1687, 1740], 191) := by decide +kernel
theorem dL_law_224 : decode cL_law 224 = .ok (.aload_n 1, 1) := by decide +kernel
theorem dL_law_225 : decode cL_law 225 = .ok (.aload_n 0, 1) := by decide +kernel
theorem dL_law_226 : decode cL_law 226 = .ok (.iload_n 3, 1) := by decide +kernel
theorem dL_law_227 : decode cL_law 227 = .ok (.iconst 1, 1) := by decide +kernel
theorem dL_law_228 : decode cL_law 228 = .ok (.iadd, 1) := by decide +kernel
theorem dL_law_229 : decode cL_law 229 = .ok (.iaload, 1) := by decide +kernel
theorem dL_law_230 : decode cL_law 230 = .ok (.invokevirtual 13, 3) := by decide +kernel
theorem dL_law_233 : decode cL_law 233 = .ok (.aload_n 2, 1) := by decide +kernel
theorem dL_law_234 : decode cL_law 234 = .ok (.aload_n 0, 1) := by decide +kernel
theorem dL_law_235 : decode cL_law 235 = .ok (.iload_n 3, 1) := by decide +kernel
theorem dL_law_236 : decode cL_law 236 = .ok (.iconst 1, 1) := by decide +kernel
theorem dL_law_237 : decode cL_law 237 = .ok (.iadd, 1) := by decide +kernel
theorem dL_law_238 : decode cL_law 238 = .ok (.iaload, 1) := by decide +kernel
theorem dL_law_239 : decode cL_law 239 = .ok (.invokevirtual 17, 3) := by decide +kernel
theorem dL_law_242 : decode cL_law 242 = .ok (.if_icmp .eq 1564, 3) := by decide +kernel
theorem dL_law_245 : decode cL_law 245 = .ok (.iconst 0, 1) := by decide +kernel
theorem dL_law_246 : decode cL_law 246 = .ok (.ireturn, 1) := by decide +kernel
theorem dL_law_247 : decode cL_law 247 = .ok (.aload_n 1, 1) := by decide +kernel
theorem dL_law_248 : decode cL_law 248 = .ok (.aload_n 0, 1) := by decide +kernel
theorem dL_law_249 : decode cL_law 249 = .ok (.iload_n 3, 1) := by decide +kernel
theorem dL_law_250 : decode cL_law 250 = .ok (.iconst 1, 1) := by decide +kernel
theorem dL_law_251 : decode cL_law 251 = .ok (.iadd, 1) := by decide +kernel
theorem dL_law_252 : decode cL_law 252 = .ok (.iaload, 1) := by decide +kernel
theorem dL_law_253 : decode cL_law 253 = .ok (.aload_n 0, 1) := by decide +kernel
theorem dL_law_254 : decode cL_law 254 = .ok (.iload_n 3, 1) := by decide +kernel
theorem dL_law_255 : decode cL_law 255 = .ok (.iconst 2, 1) := by decide +kernel
theorem dL_law_256 : decode cL_law 256 = .ok (.iadd, 1) := by decide +kernel
theorem dL_law_257 : decode cL_law 257 = .ok (.iaload, 1) := by decide +kernel
theorem dL_law_258 : decode cL_law 258 = .ok (.aload_n 0, 1) := by decide +kernel
theorem dL_law_259 : decode cL_law 259 = .ok (.iload_n 3, 1) := by decide +kernel
theorem dL_law_260 : decode cL_law 260 = .ok (.iconst 3, 1) := by decide +kernel
theorem dL_law_261 : decode cL_law 261 = .ok (.iadd, 1) := by decide +kernel
theorem dL_law_262 : decode cL_law 262 = .ok (.iaload, 1) := by decide +kernel
theorem dL_law_263 : decode cL_law 263 = .ok (.aload_n 0, 1) := by decide +kernel
theorem dL_law_264 : decode cL_law 264 = .ok (.iload_n 3, 1) := by decide +kernel
theorem dL_law_265 : decode cL_law 265 = .ok (.iconst 4, 1) := by decide +kernel
theorem dL_law_266 : decode cL_law 266 = .ok (.iadd, 1) := by decide +kernel
theorem dL_law_267 : decode cL_law 267 = .ok (.iaload, 1) := by decide +kernel
theorem dL_law_268 : decode cL_law 268 = .ok (.aload_n 0, 1) := by decide +kernel
theorem dL_law_269 : decode cL_law 269 = .ok (.iload_n 3, 1) := by decide +kernel
theorem dL_law_270 : decode cL_law 270 = .ok (.iconst 5, 1) := by decide +kernel
theorem dL_law_271 : decode cL_law 271 = .ok (.iadd, 1) := by decide +kernel
theorem dL_law_272 : decode cL_law 272 = .ok (.iaload, 1) := by decide +kernel
theorem dL_law_273 : decode cL_law 273 = .ok (.aload_n 0, 1) := by decide +kernel
theorem dL_law_274 : decode cL_law 274 = .ok (.iload_n 3, 1) := by decide +kernel
theorem dL_law_275 : decode cL_law 275 = .ok (.bipush 6, 2) := by decide +kernel
theorem dL_law_277 : decode cL_law 277 = .ok (.iadd, 1) := by decide +kernel
theorem dL_law_278 : decode cL_law 278 = .ok (.iaload, 1) := by decide +kernel
theorem dL_law_279 : decode cL_law 279 = .ok (.invokevirtual 18, 3) := by decide +kernel
theorem dL_law_282 : decode cL_law 282 = .ok (.aload_n 2, 1) := by decide +kernel
theorem dL_law_283 : decode cL_law 283 = .ok (.aload_n 0, 1) := by decide +kernel
theorem dL_law_284 : decode cL_law 284 = .ok (.iload_n 3, 1) := by decide +kernel
theorem dL_law_285 : decode cL_law 285 = .ok (.iconst 1, 1) := by decide +kernel
theorem dL_law_286 : decode cL_law 286 = .ok (.iadd, 1) := by decide +kernel
theorem dL_law_287 : decode cL_law 287 = .ok (.iaload, 1) := by decide +kernel
theorem dL_law_288 : decode cL_law 288 = .ok (.aload_n 0, 1) := by decide +kernel
theorem dL_law_289 : decode cL_law 289 = .ok (.iload_n 3, 1) := by decide +kernel
theorem dL_law_290 : decode cL_law 290 = .ok (.iconst 2, 1) := by decide +kernel
theorem dL_law_291 : decode cL_law 291 = .ok (.iadd, 1) := by decide +kernel
theorem dL_law_292 : decode cL_law 292 = .ok (.iaload, 1) := by decide +kernel
theorem dL_law_293 : decode cL_law 293 = .ok (.aload_n 0, 1) := by decide +kernel
theorem dL_law_294 : decode cL_law 294 = .ok (.iload_n 3, 1) := by decide +kernel
theorem dL_law_295 : decode cL_law 295 = .ok (.iconst 3, 1) := by decide +kernel
theorem dL_law_296 : decode cL_law 296 = .ok (.iadd, 1) := by decide +kernel
theorem dL_law_297 : decode cL_law 297 = .ok (.iaload, 1) := by decide +kernel
theorem dL_law_298 : decode cL_law 298 = .ok (.aload_n 0, 1) := by decide +kernel
theorem dL_law_299 : decode cL_law 299 = .ok (.iload_n 3, 1) := by decide +kernel
theorem dL_law_300 : decode cL_law 300 = .ok (.iconst 4, 1) := by decide +kernel
theorem dL_law_301 : decode cL_law 301 = .ok (.iadd, 1) := by decide +kernel
theorem dL_law_302 : decode cL_law 302 = .ok (.iaload, 1) := by decide +kernel
theorem dL_law_303 : decode cL_law 303 = .ok (.aload_n 0, 1) := by decide +kernel
theorem dL_law_304 : decode cL_law 304 = .ok (.iload_n 3, 1) := by decide +kernel
theorem dL_law_305 : decode cL_law 305 = .ok (.iconst 5, 1) := by decide +kernel
theorem dL_law_306 : decode cL_law 306 = .ok (.iadd, 1) := by decide +kernel
theorem dL_law_307 : decode cL_law 307 = .ok (.iaload, 1) := by decide +kernel
theorem dL_law_308 : decode cL_law 308 = .ok (.aload_n 0, 1) := by decide +kernel
theorem dL_law_309 : decode cL_law 309 = .ok (.iload_n 3, 1) := by decide +kernel
theorem dL_law_310 : decode cL_law 310 = .ok (.bipush 6, 2) := by decide +kernel
theorem dL_law_312 : decode cL_law 312 = .ok (.iadd, 1) := by decide +kernel
theorem dL_law_313 : decode cL_law 313 = .ok (.iaload, 1) := by decide +kernel
theorem dL_law_314 : decode cL_law 314 = .ok (.invokevirtual 22, 3) := by decide +kernel
theorem dL_law_317 : decode cL_law 317 = .ok (.if_icmp .eq 1489, 3) := by decide +kernel
theorem dL_law_320 : decode cL_law 320 = .ok (.iconst 0, 1) := by decide +kernel
theorem dL_law_321 : decode cL_law 321 = .ok (.ireturn, 1) := by decide +kernel
theorem dL_law_322 : decode cL_law 322 = .ok (.aload_n 1, 1) := by decide +kernel
theorem dL_law_323 : decode cL_law 323 = .ok (.invokevirtual 23, 3) := by decide +kernel
theorem dL_law_326 : decode cL_law 326 = .ok (.aload_n 2, 1) := by decide +kernel
theorem dL_law_327 : decode cL_law 327 = .ok (.invokevirtual 27, 3) := by decide +kernel
theorem dL_law_330 : decode cL_law 330 = .ok (.if_icmp .eq 1476, 3) := by decide +kernel
theorem dL_law_333 : decode cL_law 333 = .ok (.iconst 0, 1) := by decide +kernel
theorem dL_law_334 : decode cL_law 334 = .ok (.ireturn, 1) := by decide +kernel
theorem dL_law_335 : decode cL_law 335 = .ok (.aload_n 1, 1) := by decide +kernel
theorem dL_law_336 : decode cL_law 336 = .ok (.aload_n 0, 1) := by decide +kernel
theorem dL_law_337 : decode cL_law 337 = .ok (.iload_n 3, 1) := by decide +kernel
theorem dL_law_338 : decode cL_law 338 = .ok (.iconst 1, 1) := by decide +kernel
theorem dL_law_339 : decode cL_law 339 = .ok (.iadd, 1) := by decide +kernel
theorem dL_law_340 : decode cL_law 340 = .ok (.iaload, 1) := by decide +kernel
theorem dL_law_341 : decode cL_law 341 = .ok (.invokevirtual 28, 3) := by decide +kernel
theorem dL_law_344 : decode cL_law 344 = .ok (.aload_n 2, 1) := by decide +kernel
theorem dL_law_345 : decode cL_law 345 = .ok (.aload_n 0, 1) := by decide +kernel
theorem dL_law_346 : decode cL_law 346 = .ok (.iload_n 3, 1) := by decide +kernel
theorem dL_law_347 : decode cL_law 347 = .ok (.iconst 1, 1) := by decide +kernel
theorem dL_law_348 : decode cL_law 348 = .ok (.iadd, 1) := by decide +kernel
theorem dL_law_349 : decode cL_law 349 = .ok (.iaload, 1) := by decide +kernel
theorem dL_law_350 : decode cL_law 350 = .ok (.invokevirtual 31, 3) := by decide +kernel
theorem dL_law_353 : decode cL_law 353 = .ok (.if_icmp .eq 1453, 3) := by decide +kernel
theorem dL_law_356 : decode cL_law 356 = .ok (.iconst 0, 1) := by decide +kernel
theorem dL_law_357 : decode cL_law 357 = .ok (.ireturn, 1) := by decide +kernel
theorem dL_law_358 : decode cL_law 358 = .ok (.aload_n 1, 1) := by decide +kernel
theorem dL_law_359 : decode cL_law 359 = .ok (.aload_n 0, 1) := by decide +kernel
theorem dL_law_360 : decode cL_law 360 = .ok (.iload_n 3, 1) := by decide +kernel
theorem dL_law_361 : decode cL_law 361 = .ok (.iconst 1, 1) := by decide +kernel
theorem dL_law_362 : decode cL_law 362 = .ok (.iadd, 1) := by decide +kernel
theorem dL_law_363 : decode cL_law 363 = .ok (.iaload, 1) := by decide +kernel
theorem dL_law_364 : decode cL_law 364 = .ok (.aload_n 0, 1) := by decide +kernel
theorem dL_law_365 : decode cL_law 365 = .ok (.iload_n 3, 1) := by decide +kernel
theorem dL_law_366 : decode cL_law 366 = .ok (.iconst 2, 1) := by decide +kernel
theorem dL_law_367 : decode cL_law 367 = .ok (.iadd, 1) := by decide +kernel
theorem dL_law_368 : decode cL_law 368 = .ok (.iaload, 1) := by decide +kernel
theorem dL_law_369 : decode cL_law 369 = .ok (.aload_n 0, 1) := by decide +kernel
theorem dL_law_370 : decode cL_law 370 = .ok (.iload_n 3, 1) := by decide +kernel
theorem dL_law_371 : decode cL_law 371 = .ok (.iconst 3, 1) := by decide +kernel
theorem dL_law_372 : decode cL_law 372 = .ok (.iadd, 1) := by decide +kernel
theorem dL_law_373 : decode cL_law 373 = .ok (.iaload, 1) := by decide +kernel
theorem dL_law_374 : decode cL_law 374 = .ok (.invokevirtual 32, 3) := by decide +kernel
theorem dL_law_377 : decode cL_law 377 = .ok (.aload_n 2, 1) := by decide +kernel
theorem dL_law_378 : decode cL_law 378 = .ok (.aload_n 0, 1) := by decide +kernel
theorem dL_law_379 : decode cL_law 379 = .ok (.iload_n 3, 1) := by decide +kernel
theorem dL_law_380 : decode cL_law 380 = .ok (.iconst 1, 1) := by decide +kernel
theorem dL_law_381 : decode cL_law 381 = .ok (.iadd, 1) := by decide +kernel
theorem dL_law_382 : decode cL_law 382 = .ok (.iaload, 1) := by decide +kernel
theorem dL_law_383 : decode cL_law 383 = .ok (.aload_n 0, 1) := by decide +kernel
theorem dL_law_384 : decode cL_law 384 = .ok (.iload_n 3, 1) := by decide +kernel
theorem dL_law_385 : decode cL_law 385 = .ok (.iconst 2, 1) := by decide +kernel
theorem dL_law_386 : decode cL_law 386 = .ok (.iadd, 1) := by decide +kernel
theorem dL_law_387 : decode cL_law 387 = .ok (.iaload, 1) := by decide +kernel
theorem dL_law_388 : decode cL_law 388 = .ok (.aload_n 0, 1) := by decide +kernel
theorem dL_law_389 : decode cL_law 389 = .ok (.iload_n 3, 1) := by decide +kernel
theorem dL_law_390 : decode cL_law 390 = .ok (.iconst 3, 1) := by decide +kernel
theorem dL_law_391 : decode cL_law 391 = .ok (.iadd, 1) := by decide +kernel
theorem dL_law_392 : decode cL_law 392 = .ok (.iaload, 1) := by decide +kernel
theorem dL_law_393 : decode cL_law 393 = .ok (.invokevirtual 36, 3) := by decide +kernel
theorem dL_law_396 : decode cL_law 396 = .ok (.if_icmp .eq 1410, 3) := by decide +kernel
theorem dL_law_399 : decode cL_law 399 = .ok (.iconst 0, 1) := by decide +kernel
theorem dL_law_400 : decode cL_law 400 = .ok (.ireturn, 1) := by decide +kernel
theorem dL_law_401 : decode cL_law 401 = .ok (.aload_n 1, 1) := by decide +kernel
theorem dL_law_402 : decode cL_law 402 = .ok (.aload_n 0, 1) := by decide +kernel
theorem dL_law_403 : decode cL_law 403 = .ok (.iload_n 3, 1) := by decide +kernel
theorem dL_law_404 : decode cL_law 404 = .ok (.iconst 1, 1) := by decide +kernel
theorem dL_law_405 : decode cL_law 405 = .ok (.iadd, 1) := by decide +kernel
theorem dL_law_406 : decode cL_law 406 = .ok (.iaload, 1) := by decide +kernel
theorem dL_law_407 : decode cL_law 407 = .ok (.aload_n 0, 1) := by decide +kernel
theorem dL_law_408 : decode cL_law 408 = .ok (.iload_n 3, 1) := by decide +kernel
theorem dL_law_409 : decode cL_law 409 = .ok (.iconst 2, 1) := by decide +kernel
theorem dL_law_410 : decode cL_law 410 = .ok (.iadd, 1) := by decide +kernel
theorem dL_law_411 : decode cL_law 411 = .ok (.iaload, 1) := by decide +kernel
theorem dL_law_412 : decode cL_law 412 = .ok (.aload_n 0, 1) := by decide +kernel
theorem dL_law_413 : decode cL_law 413 = .ok (.iload_n 3, 1) := by decide +kernel
theorem dL_law_414 : decode cL_law 414 = .ok (.iconst 3, 1) := by decide +kernel
theorem dL_law_415 : decode cL_law 415 = .ok (.iadd, 1) := by decide +kernel
theorem dL_law_416 : decode cL_law 416 = .ok (.iaload, 1) := by decide +kernel
theorem dL_law_417 : decode cL_law 417 = .ok (.invokevirtual 37, 3) := by decide +kernel
theorem dL_law_420 : decode cL_law 420 = .ok (.aload_n 2, 1) := by decide +kernel
theorem dL_law_421 : decode cL_law 421 = .ok (.aload_n 0, 1) := by decide +kernel
theorem dL_law_422 : decode cL_law 422 = .ok (.iload_n 3, 1) := by decide +kernel
theorem dL_law_423 : decode cL_law 423 = .ok (.iconst 1, 1) := by decide +kernel
theorem dL_law_424 : decode cL_law 424 = .ok (.iadd, 1) := by decide +kernel
theorem dL_law_425 : decode cL_law 425 = .ok (.iaload, 1) := by decide +kernel
theorem dL_law_426 : decode cL_law 426 = .ok (.aload_n 0, 1) := by decide +kernel
theorem dL_law_427 : decode cL_law 427 = .ok (.iload_n 3, 1) := by decide +kernel
theorem dL_law_428 : decode cL_law 428 = .ok (.iconst 2, 1) := by decide +kernel
theorem dL_law_429 : decode cL_law 429 = .ok (.iadd, 1) := by decide +kernel
theorem dL_law_430 : decode cL_law 430 = .ok (.iaload, 1) := by decide +kernel
theorem dL_law_431 : decode cL_law 431 = .ok (.aload_n 0, 1) := by decide +kernel
theorem dL_law_432 : decode cL_law 432 = .ok (.iload_n 3, 1) := by decide +kernel
theorem dL_law_433 : decode cL_law 433 = .ok (.iconst 3, 1) := by decide +kernel
theorem dL_law_434 : decode cL_law 434 = .ok (.iadd, 1) := by decide +kernel
theorem dL_law_435 : decode cL_law 435 = .ok (.iaload, 1) := by decide +kernel
theorem dL_law_436 : decode cL_law 436 = .ok (.invokevirtual 40, 3) := by decide +kernel
theorem dL_law_439 : decode cL_law 439 = .ok (.if_icmp .eq 1367, 3) := by decide +kernel
theorem dL_law_442 : decode cL_law 442 = .ok (.iconst 0, 1) := by decide +kernel
theorem dL_law_443 : decode cL_law 443 = .ok (.ireturn, 1) := by decide +kernel
theorem dL_law_444 : decode cL_law 444 = .ok (.aload_n 1, 1) := by decide +kernel
theorem dL_law_445 : decode cL_law 445 = .ok (.aload_n 0, 1) := by decide +kernel
theorem dL_law_446 : decode cL_law 446 = .ok (.iload_n 3, 1) := by decide +kernel
theorem dL_law_447 : decode cL_law 447 = .ok (.iconst 1, 1) := by decide +kernel
theorem dL_law_448 : decode cL_law 448 = .ok (.iadd, 1) := by decide +kernel
theorem dL_law_449 : decode cL_law 449 = .ok (.iaload, 1) := by decide +kernel
theorem dL_law_450 : decode cL_law 450 = .ok (.aload_n 0, 1) := by decide +kernel
theorem dL_law_451 : decode cL_law 451 = .ok (.iload_n 3, 1) := by decide +kernel
theorem dL_law_452 : decode cL_law 452 = .ok (.iconst 2, 1) := by decide +kernel
theorem dL_law_453 : decode cL_law 453 = .ok (.iadd, 1) := by decide +kernel
theorem dL_law_454 : decode cL_law 454 = .ok (.iaload, 1) := by decide +kernel
theorem dL_law_455 : decode cL_law 455 = .ok (.aload_n 0, 1) := by decide +kernel
theorem dL_law_456 : decode cL_law 456 = .ok (.iload_n 3, 1) := by decide +kernel
theorem dL_law_457 : decode cL_law 457 = .ok (.iconst 3, 1) := by decide +kernel
theorem dL_law_458 : decode cL_law 458 = .ok (.iadd, 1) := by decide +kernel
theorem dL_law_459 : decode cL_law 459 = .ok (.iaload, 1) := by decide +kernel
theorem dL_law_460 : decode cL_law 460 = .ok (.invokevirtual 41, 3) := by decide +kernel
theorem dL_law_463 : decode cL_law 463 = .ok (.aload_n 2, 1) := by decide +kernel
theorem dL_law_464 : decode cL_law 464 = .ok (.aload_n 0, 1) := by decide +kernel
theorem dL_law_465 : decode cL_law 465 = .ok (.iload_n 3, 1) := by decide +kernel
theorem dL_law_466 : decode cL_law 466 = .ok (.iconst 1, 1) := by decide +kernel
theorem dL_law_467 : decode cL_law 467 = .ok (.iadd, 1) := by decide +kernel
theorem dL_law_468 : decode cL_law 468 = .ok (.iaload, 1) := by decide +kernel
theorem dL_law_469 : decode cL_law 469 = .ok (.aload_n 0, 1) := by decide +kernel
theorem dL_law_470 : decode cL_law 470 = .ok (.iload_n 3, 1) := by decide +kernel
theorem dL_law_471 : decode cL_law 471 = .ok (.iconst 2, 1) := by decide +kernel
theorem dL_law_472 : decode cL_law 472 = .ok (.iadd, 1) := by decide +kernel
theorem dL_law_473 : decode cL_law 473 = .ok (.iaload, 1) := by decide +kernel
theorem dL_law_474 : decode cL_law 474 = .ok (.aload_n 0, 1) := by decide +kernel
theorem dL_law_475 : decode cL_law 475 = .ok (.iload_n 3, 1) := by decide +kernel
theorem dL_law_476 : decode cL_law 476 = .ok (.iconst 3, 1) := by decide +kernel
theorem dL_law_477 : decode cL_law 477 = .ok (.iadd, 1) := by decide +kernel
theorem dL_law_478 : decode cL_law 478 = .ok (.iaload, 1) := by decide +kernel
theorem dL_law_479 : decode cL_law 479 = .ok (.invokevirtual 44, 3) := by decide +kernel
theorem dL_law_482 : decode cL_law 482 = .ok (.if_icmp .eq 1324, 3) := by decide +kernel
theorem dL_law_485 : decode cL_law 485 = .ok (.iconst 0, 1) := by decide +kernel
theorem dL_law_486 : decode cL_law 486 = .ok (.ireturn, 1) := by decide +kernel
theorem dL_law_487 : decode cL_law 487 = .ok (.aload_n 1, 1) := by decide +kernel
theorem dL_law_488 : decode cL_law 488 = .ok (.aload_n 0, 1) := by decide +kernel
theorem dL_law_489 : decode cL_law 489 = .ok (.iload_n 3, 1) := by decide +kernel
theorem dL_law_490 : decode cL_law 490 = .ok (.iconst 1, 1) := by decide +kernel
theorem dL_law_491 : decode cL_law 491 = .ok (.iadd, 1) := by decide +kernel
theorem dL_law_492 : decode cL_law 492 = .ok (.iaload, 1) := by decide +kernel
theorem dL_law_493 : decode cL_law 493 = .ok (.aload_n 0, 1) := by decide +kernel
theorem dL_law_494 : decode cL_law 494 = .ok (.iload_n 3, 1) := by decide +kernel
theorem dL_law_495 : decode cL_law 495 = .ok (.iconst 2, 1) := by decide +kernel
theorem dL_law_496 : decode cL_law 496 = .ok (.iadd, 1) := by decide +kernel
theorem dL_law_497 : decode cL_law 497 = .ok (.iaload, 1) := by decide +kernel
theorem dL_law_498 : decode cL_law 498 = .ok (.invokevirtual 45, 3) := by decide +kernel
theorem dL_law_501 : decode cL_law 501 = .ok (.aload_n 2, 1) := by decide +kernel
theorem dL_law_502 : decode cL_law 502 = .ok (.aload_n 0, 1) := by decide +kernel
theorem dL_law_503 : decode cL_law 503 = .ok (.iload_n 3, 1) := by decide +kernel
theorem dL_law_504 : decode cL_law 504 = .ok (.iconst 1, 1) := by decide +kernel
theorem dL_law_505 : decode cL_law 505 = .ok (.iadd, 1) := by decide +kernel
theorem dL_law_506 : decode cL_law 506 = .ok (.iaload, 1) := by decide +kernel
theorem dL_law_507 : decode cL_law 507 = .ok (.aload_n 0, 1) := by decide +kernel
theorem dL_law_508 : decode cL_law 508 = .ok (.iload_n 3, 1) := by decide +kernel
theorem dL_law_509 : decode cL_law 509 = .ok (.iconst 2, 1) := by decide +kernel
theorem dL_law_510 : decode cL_law 510 = .ok (.iadd, 1) := by decide +kernel
theorem dL_law_511 : decode cL_law 511 = .ok (.iaload, 1) := by decide +kernel
theorem dL_law_512 : decode cL_law 512 = .ok (.invokevirtual 49, 3) := by decide +kernel
theorem dL_law_515 : decode cL_law 515 = .ok (.if_icmp .eq 1291, 3) := by decide +kernel
theorem dL_law_518 : decode cL_law 518 = .ok (.iconst 0, 1) := by decide +kernel
theorem dL_law_519 : decode cL_law 519 = .ok (.ireturn, 1) := by decide +kernel
theorem dL_law_520 : decode cL_law 520 = .ok (.aload_n 1, 1) := by decide +kernel
theorem dL_law_521 : decode cL_law 521 = .ok (.aload_n 0, 1) := by decide +kernel
theorem dL_law_522 : decode cL_law 522 = .ok (.iload_n 3, 1) := by decide +kernel
theorem dL_law_523 : decode cL_law 523 = .ok (.iconst 1, 1) := by decide +kernel
theorem dL_law_524 : decode cL_law 524 = .ok (.iadd, 1) := by decide +kernel
theorem dL_law_525 : decode cL_law 525 = .ok (.iaload, 1) := by decide +kernel
theorem dL_law_526 : decode cL_law 526 = .ok (.aload_n 0, 1) := by decide +kernel
theorem dL_law_527 : decode cL_law 527 = .ok (.iload_n 3, 1) := by decide +kernel
theorem dL_law_528 : decode cL_law 528 = .ok (.iconst 2, 1) := by decide +kernel
theorem dL_law_529 : decode cL_law 529 = .ok (.iadd, 1) := by decide +kernel
theorem dL_law_530 : decode cL_law 530 = .ok (.iaload, 1) := by decide +kernel
theorem dL_law_531 : decode cL_law 531 = .ok (.invokevirtual 50, 3) := by decide +kernel
theorem dL_law_534 : decode cL_law 534 = .ok (.aload_n 2, 1) := by decide +kernel
theorem dL_law_535 : decode cL_law 535 = .ok (.aload_n 0, 1) := by decide +kernel
theorem dL_law_536 : decode cL_law 536 = .ok (.iload_n 3, 1) := by decide +kernel
theorem dL_law_537 : decode cL_law 537 = .ok (.iconst 1, 1) := by decide +kernel
theorem dL_law_538 : decode cL_law 538 = .ok (.iadd, 1) := by decide +kernel
theorem dL_law_539 : decode cL_law 539 = .ok (.iaload, 1) := by decide +kernel
theorem dL_law_540 : decode cL_law 540 = .ok (.aload_n 0, 1) := by decide +kernel
theorem dL_law_541 : decode cL_law 541 = .ok (.iload_n 3, 1) := by decide +kernel
theorem dL_law_542 : decode cL_law 542 = .ok (.iconst 2, 1) := by decide +kernel
theorem dL_law_543 : decode cL_law 543 = .ok (.iadd, 1) := by decide +kernel
theorem dL_law_544 : decode cL_law 544 = .ok (.iaload, 1) := by decide +kernel
theorem dL_law_545 : decode cL_law 545 = .ok (.invokevirtual 53, 3) := by decide +kernel
theorem dL_law_548 : decode cL_law 548 = .ok (.if_icmp .eq 1258, 3) := by decide +kernel
theorem dL_law_551 : decode cL_law 551 = .ok (.iconst 0, 1) := by decide +kernel
theorem dL_law_552 : decode cL_law 552 = .ok (.ireturn, 1) := by decide +kernel
theorem dL_law_553 : decode cL_law 553 = .ok (.aload_n 1, 1) := by decide +kernel
theorem dL_law_554 : decode cL_law 554 = .ok (.aload_n 0, 1) := by decide +kernel
theorem dL_law_555 : decode cL_law 555 = .ok (.iload_n 3, 1) := by decide +kernel
theorem dL_law_556 : decode cL_law 556 = .ok (.iconst 1, 1) := by decide +kernel
theorem dL_law_557 : decode cL_law 557 = .ok (.iadd, 1) := by decide +kernel
theorem dL_law_558 : decode cL_law 558 = .ok (.iaload, 1) := by decide +kernel
theorem dL_law_559 : decode cL_law 559 = .ok (.aload_n 0, 1) := by decide +kernel
theorem dL_law_560 : decode cL_law 560 = .ok (.iload_n 3, 1) := by decide +kernel
theorem dL_law_561 : decode cL_law 561 = .ok (.iconst 2, 1) := by decide +kernel
theorem dL_law_562 : decode cL_law 562 = .ok (.iadd, 1) := by decide +kernel
theorem dL_law_563 : decode cL_law 563 = .ok (.iaload, 1) := by decide +kernel
theorem dL_law_564 : decode cL_law 564 = .ok (.invokevirtual 54, 3) := by decide +kernel
theorem dL_law_567 : decode cL_law 567 = .ok (.aload_n 2, 1) := by decide +kernel
theorem dL_law_568 : decode cL_law 568 = .ok (.aload_n 0, 1) := by decide +kernel
theorem dL_law_569 : decode cL_law 569 = .ok (.iload_n 3, 1) := by decide +kernel
theorem dL_law_570 : decode cL_law 570 = .ok (.iconst 1, 1) := by decide +kernel
theorem dL_law_571 : decode cL_law 571 = .ok (.iadd, 1) := by decide +kernel
theorem dL_law_572 : decode cL_law 572 = .ok (.iaload, 1) := by decide +kernel
theorem dL_law_573 : decode cL_law 573 = .ok (.aload_n 0, 1) := by decide +kernel
theorem dL_law_574 : decode cL_law 574 = .ok (.iload_n 3, 1) := by decide +kernel
theorem dL_law_575 : decode cL_law 575 = .ok (.iconst 2, 1) := by decide +kernel
theorem dL_law_576 : decode cL_law 576 = .ok (.iadd, 1) := by decide +kernel
theorem dL_law_577 : decode cL_law 577 = .ok (.iaload, 1) := by decide +kernel
theorem dL_law_578 : decode cL_law 578 = .ok (.invokevirtual 58, 3) := by decide +kernel
theorem dL_law_581 : decode cL_law 581 = .ok (.lcmp, 1) := by decide +kernel
theorem dL_law_582 : decode cL_law 582 = .ok (.ifCond .eq 1224, 3) := by decide +kernel
theorem dL_law_585 : decode cL_law 585 = .ok (.iconst 0, 1) := by decide +kernel
theorem dL_law_586 : decode cL_law 586 = .ok (.ireturn, 1) := by decide +kernel
theorem dL_law_587 : decode cL_law 587 = .ok (.aload_n 1, 1) := by decide +kernel
theorem dL_law_588 : decode cL_law 588 = .ok (.invokevirtual 59, 3) := by decide +kernel
theorem dL_law_591 : decode cL_law 591 = .ok (.aload_n 2, 1) := by decide +kernel
theorem dL_law_592 : decode cL_law 592 = .ok (.invokevirtual 63, 3) := by decide +kernel
theorem dL_law_595 : decode cL_law 595 = .ok (.lcmp, 1) := by decide +kernel
theorem dL_law_596 : decode cL_law 596 = .ok (.ifCond .eq 1210, 3) := by decide +kernel
theorem dL_law_599 : decode cL_law 599 = .ok (.iconst 0, 1) := by decide +kernel
theorem dL_law_600 : decode cL_law 600 = .ok (.ireturn, 1) := by decide +kernel
theorem dL_law_601 : decode cL_law 601 = .ok (.aload_n 1, 1) := by decide +kernel
theorem dL_law_602 : decode cL_law 602 = .ok (.aload_n 0, 1) := by decide +kernel
theorem dL_law_603 : decode cL_law 603 = .ok (.iload_n 3, 1) := by decide +kernel
theorem dL_law_604 : decode cL_law 604 = .ok (.iconst 1, 1) := by decide +kernel
theorem dL_law_605 : decode cL_law 605 = .ok (.iadd, 1) := by decide +kernel
theorem dL_law_606 : decode cL_law 606 = .ok (.iaload, 1) := by decide +kernel
theorem dL_law_607 : decode cL_law 607 = .ok (.invokevirtual 64, 3) := by decide +kernel
theorem dL_law_610 : decode cL_law 610 = .ok (.aload_n 2, 1) := by decide +kernel
theorem dL_law_611 : decode cL_law 611 = .ok (.aload_n 0, 1) := by decide +kernel
theorem dL_law_612 : decode cL_law 612 = .ok (.iload_n 3, 1) := by decide +kernel
theorem dL_law_613 : decode cL_law 613 = .ok (.iconst 1, 1) := by decide +kernel
theorem dL_law_614 : decode cL_law 614 = .ok (.iadd, 1) := by decide +kernel
theorem dL_law_615 : decode cL_law 615 = .ok (.iaload, 1) := by decide +kernel
theorem dL_law_616 : decode cL_law 616 = .ok (.invokevirtual 67, 3) := by decide +kernel
theorem dL_law_619 : decode cL_law 619 = .ok (.if_icmp .eq 1187, 3) := by decide +kernel
theorem dL_law_622 : decode cL_law 622 = .ok (.iconst 0, 1) := by decide +kernel
theorem dL_law_623 : decode cL_law 623 = .ok (.ireturn, 1) := by decide +kernel
theorem dL_law_624 : decode cL_law 624 = .ok (.aload_n 1, 1) := by decide +kernel
theorem dL_law_625 : decode cL_law 625 = .ok (.aload_n 0, 1) := by decide +kernel
theorem dL_law_626 : decode cL_law 626 = .ok (.iload_n 3, 1) := by decide +kernel
theorem dL_law_627 : decode cL_law 627 = .ok (.iconst 1, 1) := by decide +kernel
theorem dL_law_628 : decode cL_law 628 = .ok (.iadd, 1) := by decide +kernel
theorem dL_law_629 : decode cL_law 629 = .ok (.iaload, 1) := by decide +kernel
theorem dL_law_630 : decode cL_law 630 = .ok (.aload_n 0, 1) := by decide +kernel
theorem dL_law_631 : decode cL_law 631 = .ok (.iload_n 3, 1) := by decide +kernel
theorem dL_law_632 : decode cL_law 632 = .ok (.iconst 2, 1) := by decide +kernel
theorem dL_law_633 : decode cL_law 633 = .ok (.iadd, 1) := by decide +kernel
theorem dL_law_634 : decode cL_law 634 = .ok (.iaload, 1) := by decide +kernel
theorem dL_law_635 : decode cL_law 635 = .ok (.aload_n 0, 1) := by decide +kernel
theorem dL_law_636 : decode cL_law 636 = .ok (.iload_n 3, 1) := by decide +kernel
theorem dL_law_637 : decode cL_law 637 = .ok (.iconst 3, 1) := by decide +kernel
theorem dL_law_638 : decode cL_law 638 = .ok (.iadd, 1) := by decide +kernel
theorem dL_law_639 : decode cL_law 639 = .ok (.iaload, 1) := by decide +kernel
theorem dL_law_640 : decode cL_law 640 = .ok (.invokevirtual 68, 3) := by decide +kernel
theorem dL_law_643 : decode cL_law 643 = .ok (.aload_n 2, 1) := by decide +kernel
theorem dL_law_644 : decode cL_law 644 = .ok (.aload_n 0, 1) := by decide +kernel
theorem dL_law_645 : decode cL_law 645 = .ok (.iload_n 3, 1) := by decide +kernel
theorem dL_law_646 : decode cL_law 646 = .ok (.iconst 1, 1) := by decide +kernel
theorem dL_law_647 : decode cL_law 647 = .ok (.iadd, 1) := by decide +kernel
theorem dL_law_648 : decode cL_law 648 = .ok (.iaload, 1) := by decide +kernel
theorem dL_law_649 : decode cL_law 649 = .ok (.aload_n 0, 1) := by decide +kernel
theorem dL_law_650 : decode cL_law 650 = .ok (.iload_n 3, 1) := by decide +kernel
theorem dL_law_651 : decode cL_law 651 = .ok (.iconst 2, 1) := by decide +kernel
theorem dL_law_652 : decode cL_law 652 = .ok (.iadd, 1) := by decide +kernel
theorem dL_law_653 : decode cL_law 653 = .ok (.iaload, 1) := by decide +kernel
theorem dL_law_654 : decode cL_law 654 = .ok (.aload_n 0, 1) := by decide +kernel
theorem dL_law_655 : decode cL_law 655 = .ok (.iload_n 3, 1) := by decide +kernel
theorem dL_law_656 : decode cL_law 656 = .ok (.iconst 3, 1) := by decide +kernel
theorem dL_law_657 : decode cL_law 657 = .ok (.iadd, 1) := by decide +kernel
theorem dL_law_658 : decode cL_law 658 = .ok (.iaload, 1) := by decide +kernel
theorem dL_law_659 : decode cL_law 659 = .ok (.invokevirtual 71, 3) := by decide +kernel
theorem dL_law_662 : decode cL_law 662 = .ok (.if_icmp .eq 1144, 3) := by decide +kernel
theorem dL_law_665 : decode cL_law 665 = .ok (.iconst 0, 1) := by decide +kernel
theorem dL_law_666 : decode cL_law 666 = .ok (.ireturn, 1) := by decide +kernel
theorem dL_law_667 : decode cL_law 667 = .ok (.aload_n 1, 1) := by decide +kernel
theorem dL_law_668 : decode cL_law 668 = .ok (.aload_n 0, 1) := by decide +kernel
theorem dL_law_669 : decode cL_law 669 = .ok (.iload_n 3, 1) := by decide +kernel
theorem dL_law_670 : decode cL_law 670 = .ok (.iconst 1, 1) := by decide +kernel
theorem dL_law_671 : decode cL_law 671 = .ok (.iadd, 1) := by decide +kernel
theorem dL_law_672 : decode cL_law 672 = .ok (.iaload, 1) := by decide +kernel
theorem dL_law_673 : decode cL_law 673 = .ok (.aload_n 0, 1) := by decide +kernel
theorem dL_law_674 : decode cL_law 674 = .ok (.iload_n 3, 1) := by decide +kernel
theorem dL_law_675 : decode cL_law 675 = .ok (.iconst 2, 1) := by decide +kernel
theorem dL_law_676 : decode cL_law 676 = .ok (.iadd, 1) := by decide +kernel
theorem dL_law_677 : decode cL_law 677 = .ok (.iaload, 1) := by decide +kernel
theorem dL_law_678 : decode cL_law 678 = .ok (.aload_n 0, 1) := by decide +kernel
theorem dL_law_679 : decode cL_law 679 = .ok (.iload_n 3, 1) := by decide +kernel
theorem dL_law_680 : decode cL_law 680 = .ok (.iconst 3, 1) := by decide +kernel
theorem dL_law_681 : decode cL_law 681 = .ok (.iadd, 1) := by decide +kernel
theorem dL_law_682 : decode cL_law 682 = .ok (.iaload, 1) := by decide +kernel
theorem dL_law_683 : decode cL_law 683 = .ok (.invokevirtual 72, 3) := by decide +kernel
theorem dL_law_686 : decode cL_law 686 = .ok (.aload_n 2, 1) := by decide +kernel
theorem dL_law_687 : decode cL_law 687 = .ok (.aload_n 0, 1) := by decide +kernel
theorem dL_law_688 : decode cL_law 688 = .ok (.iload_n 3, 1) := by decide +kernel
theorem dL_law_689 : decode cL_law 689 = .ok (.iconst 1, 1) := by decide +kernel
theorem dL_law_690 : decode cL_law 690 = .ok (.iadd, 1) := by decide +kernel
theorem dL_law_691 : decode cL_law 691 = .ok (.iaload, 1) := by decide +kernel
theorem dL_law_692 : decode cL_law 692 = .ok (.aload_n 0, 1) := by decide +kernel
theorem dL_law_693 : decode cL_law 693 = .ok (.iload_n 3, 1) := by decide +kernel
theorem dL_law_694 : decode cL_law 694 = .ok (.iconst 2, 1) := by decide +kernel
theorem dL_law_695 : decode cL_law 695 = .ok (.iadd, 1) := by decide +kernel
theorem dL_law_696 : decode cL_law 696 = .ok (.iaload, 1) := by decide +kernel
theorem dL_law_697 : decode cL_law 697 = .ok (.aload_n 0, 1) := by decide +kernel
theorem dL_law_698 : decode cL_law 698 = .ok (.iload_n 3, 1) := by decide +kernel
theorem dL_law_699 : decode cL_law 699 = .ok (.iconst 3, 1) := by decide +kernel
theorem dL_law_700 : decode cL_law 700 = .ok (.iadd, 1) := by decide +kernel
theorem dL_law_701 : decode cL_law 701 = .ok (.iaload, 1) := by decide +kernel
theorem dL_law_702 : decode cL_law 702 = .ok (.invokevirtual 76, 3) := by decide +kernel
theorem dL_law_705 : decode cL_law 705 = .ok (.lcmp, 1) := by decide +kernel
theorem dL_law_706 : decode cL_law 706 = .ok (.ifCond .eq 1100, 3) := by decide +kernel
theorem dL_law_709 : decode cL_law 709 = .ok (.iconst 0, 1) := by decide +kernel
theorem dL_law_710 : decode cL_law 710 = .ok (.ireturn, 1) := by decide +kernel
theorem dL_law_711 : decode cL_law 711 = .ok (.aload_n 1, 1) := by decide +kernel
theorem dL_law_712 : decode cL_law 712 = .ok (.aload_n 0, 1) := by decide +kernel
theorem dL_law_713 : decode cL_law 713 = .ok (.iload_n 3, 1) := by decide +kernel
theorem dL_law_714 : decode cL_law 714 = .ok (.iconst 1, 1) := by decide +kernel
theorem dL_law_715 : decode cL_law 715 = .ok (.iadd, 1) := by decide +kernel
theorem dL_law_716 : decode cL_law 716 = .ok (.iaload, 1) := by decide +kernel
theorem dL_law_717 : decode cL_law 717 = .ok (.aload_n 0, 1) := by decide +kernel
theorem dL_law_718 : decode cL_law 718 = .ok (.iload_n 3, 1) := by decide +kernel
theorem dL_law_719 : decode cL_law 719 = .ok (.iconst 2, 1) := by decide +kernel
theorem dL_law_720 : decode cL_law 720 = .ok (.iadd, 1) := by decide +kernel
theorem dL_law_721 : decode cL_law 721 = .ok (.iaload, 1) := by decide +kernel
theorem dL_law_722 : decode cL_law 722 = .ok (.aload_n 0, 1) := by decide +kernel
theorem dL_law_723 : decode cL_law 723 = .ok (.iload_n 3, 1) := by decide +kernel
theorem dL_law_724 : decode cL_law 724 = .ok (.iconst 3, 1) := by decide +kernel
theorem dL_law_725 : decode cL_law 725 = .ok (.iadd, 1) := by decide +kernel
theorem dL_law_726 : decode cL_law 726 = .ok (.iaload, 1) := by decide +kernel
theorem dL_law_727 : decode cL_law 727 = .ok (.invokevirtual 77, 3) := by decide +kernel
theorem dL_law_730 : decode cL_law 730 = .ok (.aload_n 2, 1) := by decide +kernel
theorem dL_law_731 : decode cL_law 731 = .ok (.aload_n 0, 1) := by decide +kernel
theorem dL_law_732 : decode cL_law 732 = .ok (.iload_n 3, 1) := by decide +kernel
theorem dL_law_733 : decode cL_law 733 = .ok (.iconst 1, 1) := by decide +kernel
theorem dL_law_734 : decode cL_law 734 = .ok (.iadd, 1) := by decide +kernel
theorem dL_law_735 : decode cL_law 735 = .ok (.iaload, 1) := by decide +kernel
theorem dL_law_736 : decode cL_law 736 = .ok (.aload_n 0, 1) := by decide +kernel
theorem dL_law_737 : decode cL_law 737 = .ok (.iload_n 3, 1) := by decide +kernel
theorem dL_law_738 : decode cL_law 738 = .ok (.iconst 2, 1) := by decide +kernel
theorem dL_law_739 : decode cL_law 739 = .ok (.iadd, 1) := by decide +kernel
theorem dL_law_740 : decode cL_law 740 = .ok (.iaload, 1) := by decide +kernel
theorem dL_law_741 : decode cL_law 741 = .ok (.aload_n 0, 1) := by decide +kernel
theorem dL_law_742 : decode cL_law 742 = .ok (.iload_n 3, 1) := by decide +kernel
theorem dL_law_743 : decode cL_law 743 = .ok (.iconst 3, 1) := by decide +kernel
theorem dL_law_744 : decode cL_law 744 = .ok (.iadd, 1) := by decide +kernel
theorem dL_law_745 : decode cL_law 745 = .ok (.iaload, 1) := by decide +kernel
theorem dL_law_746 : decode cL_law 746 = .ok (.invokevirtual 80, 3) := by decide +kernel
theorem dL_law_749 : decode cL_law 749 = .ok (.if_icmp .eq 1057, 3) := by decide +kernel
theorem dL_law_752 : decode cL_law 752 = .ok (.iconst 0, 1) := by decide +kernel
theorem dL_law_753 : decode cL_law 753 = .ok (.ireturn, 1) := by decide +kernel
theorem dL_law_754 : decode cL_law 754 = .ok (.aload_n 1, 1) := by decide +kernel
theorem dL_law_755 : decode cL_law 755 = .ok (.aload_n 0, 1) := by decide +kernel
theorem dL_law_756 : decode cL_law 756 = .ok (.iload_n 3, 1) := by decide +kernel
theorem dL_law_757 : decode cL_law 757 = .ok (.iconst 1, 1) := by decide +kernel
theorem dL_law_758 : decode cL_law 758 = .ok (.iadd, 1) := by decide +kernel
theorem dL_law_759 : decode cL_law 759 = .ok (.iaload, 1) := by decide +kernel
theorem dL_law_760 : decode cL_law 760 = .ok (.aload_n 0, 1) := by decide +kernel
theorem dL_law_761 : decode cL_law 761 = .ok (.iload_n 3, 1) := by decide +kernel
theorem dL_law_762 : decode cL_law 762 = .ok (.iconst 2, 1) := by decide +kernel
theorem dL_law_763 : decode cL_law 763 = .ok (.iadd, 1) := by decide +kernel
theorem dL_law_764 : decode cL_law 764 = .ok (.iaload, 1) := by decide +kernel
theorem dL_law_765 : decode cL_law 765 = .ok (.invokevirtual 81, 3) := by decide +kernel
theorem dL_law_768 : decode cL_law 768 = .ok (.aload_n 2, 1) := by decide +kernel
theorem dL_law_769 : decode cL_law 769 = .ok (.aload_n 0, 1) := by decide +kernel
theorem dL_law_770 : decode cL_law 770 = .ok (.iload_n 3, 1) := by decide +kernel
theorem dL_law_771 : decode cL_law 771 = .ok (.iconst 1, 1) := by decide +kernel
theorem dL_law_772 : decode cL_law 772 = .ok (.iadd, 1) := by decide +kernel
theorem dL_law_773 : decode cL_law 773 = .ok (.iaload, 1) := by decide +kernel
theorem dL_law_774 : decode cL_law 774 = .ok (.aload_n 0, 1) := by decide +kernel
theorem dL_law_775 : decode cL_law 775 = .ok (.iload_n 3, 1) := by decide +kernel
theorem dL_law_776 : decode cL_law 776 = .ok (.iconst 2, 1) := by decide +kernel
theorem dL_law_777 : decode cL_law 777 = .ok (.iadd, 1) := by decide +kernel
theorem dL_law_778 : decode cL_law 778 = .ok (.iaload, 1) := by decide +kernel
theorem dL_law_779 : decode cL_law 779 = .ok (.invokevirtual 84, 3) := by decide +kernel
theorem dL_law_782 : decode cL_law 782 = .ok (.if_icmp .eq 1024, 3) := by decide +kernel
theorem dL_law_785 : decode cL_law 785 = .ok (.iconst 0, 1) := by decide +kernel
theorem dL_law_786 : decode cL_law 786 = .ok (.ireturn, 1) := by decide +kernel
theorem dL_law_787 : decode cL_law 787 = .ok (.aload_n 1, 1) := by decide +kernel
theorem dL_law_788 : decode cL_law 788 = .ok (.aload_n 0, 1) := by decide +kernel
theorem dL_law_789 : decode cL_law 789 = .ok (.iload_n 3, 1) := by decide +kernel
theorem dL_law_790 : decode cL_law 790 = .ok (.iconst 1, 1) := by decide +kernel
theorem dL_law_791 : decode cL_law 791 = .ok (.iadd, 1) := by decide +kernel
theorem dL_law_792 : decode cL_law 792 = .ok (.iaload, 1) := by decide +kernel
theorem dL_law_793 : decode cL_law 793 = .ok (.aload_n 0, 1) := by decide +kernel
theorem dL_law_794 : decode cL_law 794 = .ok (.iload_n 3, 1) := by decide +kernel
theorem dL_law_795 : decode cL_law 795 = .ok (.iconst 2, 1) := by decide +kernel
theorem dL_law_796 : decode cL_law 796 = .ok (.iadd, 1) := by decide +kernel
theorem dL_law_797 : decode cL_law 797 = .ok (.iaload, 1) := by decide +kernel
theorem dL_law_798 : decode cL_law 798 = .ok (.aload_n 0, 1) := by decide +kernel
theorem dL_law_799 : decode cL_law 799 = .ok (.iload_n 3, 1) := by decide +kernel
theorem dL_law_800 : decode cL_law 800 = .ok (.iconst 3, 1) := by decide +kernel
theorem dL_law_801 : decode cL_law 801 = .ok (.iadd, 1) := by decide +kernel
theorem dL_law_802 : decode cL_law 802 = .ok (.iaload, 1) := by decide +kernel
theorem dL_law_803 : decode cL_law 803 = .ok (.invokevirtual 85, 3) := by decide +kernel
theorem dL_law_806 : decode cL_law 806 = .ok (.aload_n 2, 1) := by decide +kernel
theorem dL_law_807 : decode cL_law 807 = .ok (.aload_n 0, 1) := by decide +kernel
theorem dL_law_808 : decode cL_law 808 = .ok (.iload_n 3, 1) := by decide +kernel
theorem dL_law_809 : decode cL_law 809 = .ok (.iconst 1, 1) := by decide +kernel
theorem dL_law_810 : decode cL_law 810 = .ok (.iadd, 1) := by decide +kernel
theorem dL_law_811 : decode cL_law 811 = .ok (.iaload, 1) := by decide +kernel
theorem dL_law_812 : decode cL_law 812 = .ok (.aload_n 0, 1) := by decide +kernel
theorem dL_law_813 : decode cL_law 813 = .ok (.iload_n 3, 1) := by decide +kernel
theorem dL_law_814 : decode cL_law 814 = .ok (.iconst 2, 1) := by decide +kernel
theorem dL_law_815 : decode cL_law 815 = .ok (.iadd, 1) := by decide +kernel
theorem dL_law_816 : decode cL_law 816 = .ok (.iaload, 1) := by decide +kernel
theorem dL_law_817 : decode cL_law 817 = .ok (.aload_n 0, 1) := by decide +kernel
theorem dL_law_818 : decode cL_law 818 = .ok (.iload_n 3, 1) := by decide +kernel
theorem dL_law_819 : decode cL_law 819 = .ok (.iconst 3, 1) := by decide +kernel
theorem dL_law_820 : decode cL_law 820 = .ok (.iadd, 1) := by decide +kernel
theorem dL_law_821 : decode cL_law 821 = .ok (.iaload, 1) := by decide +kernel
theorem dL_law_822 : decode cL_law 822 = .ok (.invokevirtual 88, 3) := by decide +kernel
theorem dL_law_825 : decode cL_law 825 = .ok (.if_icmp .eq 981, 3) := by decide +kernel
theorem dL_law_828 : decode cL_law 828 = .ok (.iconst 0, 1) := by decide +kernel
theorem dL_law_829 : decode cL_law 829 = .ok (.ireturn, 1) := by decide +kernel
theorem dL_law_830 : decode cL_law 830 = .ok (.aload_n 1, 1) := by decide +kernel
theorem dL_law_831 : decode cL_law 831 = .ok (.aload_n 0, 1) := by decide +kernel
theorem dL_law_832 : decode cL_law 832 = .ok (.iload_n 3, 1) := by decide +kernel
theorem dL_law_833 : decode cL_law 833 = .ok (.iconst 1, 1) := by decide +kernel
theorem dL_law_834 : decode cL_law 834 = .ok (.iadd, 1) := by decide +kernel
theorem dL_law_835 : decode cL_law 835 = .ok (.iaload, 1) := by decide +kernel
theorem dL_law_836 : decode cL_law 836 = .ok (.aload_n 0, 1) := by decide +kernel
theorem dL_law_837 : decode cL_law 837 = .ok (.iload_n 3, 1) := by decide +kernel
theorem dL_law_838 : decode cL_law 838 = .ok (.iconst 2, 1) := by decide +kernel
theorem dL_law_839 : decode cL_law 839 = .ok (.iadd, 1) := by decide +kernel
theorem dL_law_840 : decode cL_law 840 = .ok (.iaload, 1) := by decide +kernel
theorem dL_law_841 : decode cL_law 841 = .ok (.invokevirtual 89, 3) := by decide +kernel
theorem dL_law_844 : decode cL_law 844 = .ok (.aload_n 2, 1) := by decide +kernel
theorem dL_law_845 : decode cL_law 845 = .ok (.aload_n 0, 1) := by decide +kernel
theorem dL_law_846 : decode cL_law 846 = .ok (.iload_n 3, 1) := by decide +kernel
theorem dL_law_847 : decode cL_law 847 = .ok (.iconst 1, 1) := by decide +kernel
theorem dL_law_848 : decode cL_law 848 = .ok (.iadd, 1) := by decide +kernel
theorem dL_law_849 : decode cL_law 849 = .ok (.iaload, 1) := by decide +kernel
theorem dL_law_850 : decode cL_law 850 = .ok (.aload_n 0, 1) := by decide +kernel
theorem dL_law_851 : decode cL_law 851 = .ok (.iload_n 3, 1) := by decide +kernel
theorem dL_law_852 : decode cL_law 852 = .ok (.iconst 2, 1) := by decide +kernel
theorem dL_law_853 : decode cL_law 853 = .ok (.iadd, 1) := by decide +kernel
theorem dL_law_854 : decode cL_law 854 = .ok (.iaload, 1) := by decide +kernel
theorem dL_law_855 : decode cL_law 855 = .ok (.invokevirtual 92, 3) := by decide +kernel
theorem dL_law_858 : decode cL_law 858 = .ok (.if_icmp .eq 948, 3) := by decide +kernel
theorem dL_law_861 : decode cL_law 861 = .ok (.iconst 0, 1) := by decide +kernel
theorem dL_law_862 : decode cL_law 862 = .ok (.ireturn, 1) := by decide +kernel
theorem dL_law_863 : decode cL_law 863 = .ok (.aload_n 1, 1) := by decide +kernel
theorem dL_law_864 : decode cL_law 864 = .ok (.aload_n 0, 1) := by decide +kernel
theorem dL_law_865 : decode cL_law 865 = .ok (.iload_n 3, 1) := by decide +kernel
theorem dL_law_866 : decode cL_law 866 = .ok (.iconst 1, 1) := by decide +kernel
theorem dL_law_867 : decode cL_law 867 = .ok (.iadd, 1) := by decide +kernel
theorem dL_law_868 : decode cL_law 868 = .ok (.iaload, 1) := by decide +kernel
theorem dL_law_869 : decode cL_law 869 = .ok (.aload_n 0, 1) := by decide +kernel
theorem dL_law_870 : decode cL_law 870 = .ok (.iload_n 3, 1) := by decide +kernel
theorem dL_law_871 : decode cL_law 871 = .ok (.iconst 2, 1) := by decide +kernel
theorem dL_law_872 : decode cL_law 872 = .ok (.iadd, 1) := by decide +kernel
theorem dL_law_873 : decode cL_law 873 = .ok (.iaload, 1) := by decide +kernel
theorem dL_law_874 : decode cL_law 874 = .ok (.invokevirtual 93, 3) := by decide +kernel
theorem dL_law_877 : decode cL_law 877 = .ok (.aload_n 2, 1) := by decide +kernel
theorem dL_law_878 : decode cL_law 878 = .ok (.aload_n 0, 1) := by decide +kernel
theorem dL_law_879 : decode cL_law 879 = .ok (.iload_n 3, 1) := by decide +kernel
theorem dL_law_880 : decode cL_law 880 = .ok (.iconst 1, 1) := by decide +kernel
theorem dL_law_881 : decode cL_law 881 = .ok (.iadd, 1) := by decide +kernel
theorem dL_law_882 : decode cL_law 882 = .ok (.iaload, 1) := by decide +kernel
theorem dL_law_883 : decode cL_law 883 = .ok (.aload_n 0, 1) := by decide +kernel
theorem dL_law_884 : decode cL_law 884 = .ok (.iload_n 3, 1) := by decide +kernel
theorem dL_law_885 : decode cL_law 885 = .ok (.iconst 2, 1) := by decide +kernel
theorem dL_law_886 : decode cL_law 886 = .ok (.iadd, 1) := by decide +kernel
theorem dL_law_887 : decode cL_law 887 = .ok (.iaload, 1) := by decide +kernel
theorem dL_law_888 : decode cL_law 888 = .ok (.invokevirtual 96, 3) := by decide +kernel
theorem dL_law_891 : decode cL_law 891 = .ok (.if_icmp .eq 915, 3) := by decide +kernel
theorem dL_law_894 : decode cL_law 894 = .ok (.iconst 0, 1) := by decide +kernel
theorem dL_law_895 : decode cL_law 895 = .ok (.ireturn, 1) := by decide +kernel
theorem dL_law_896 : decode cL_law 896 = .ok (.aload_n 1, 1) := by decide +kernel
theorem dL_law_897 : decode cL_law 897 = .ok (.aload_n 0, 1) := by decide +kernel
theorem dL_law_898 : decode cL_law 898 = .ok (.iload_n 3, 1) := by decide +kernel
theorem dL_law_899 : decode cL_law 899 = .ok (.iconst 1, 1) := by decide +kernel
theorem dL_law_900 : decode cL_law 900 = .ok (.iadd, 1) := by decide +kernel
theorem dL_law_901 : decode cL_law 901 = .ok (.iaload, 1) := by decide +kernel
theorem dL_law_902 : decode cL_law 902 = .ok (.aload_n 0, 1) := by decide +kernel
theorem dL_law_903 : decode cL_law 903 = .ok (.iload_n 3, 1) := by decide +kernel
theorem dL_law_904 : decode cL_law 904 = .ok (.iconst 2, 1) := by decide +kernel
theorem dL_law_905 : decode cL_law 905 = .ok (.iadd, 1) := by decide +kernel
theorem dL_law_906 : decode cL_law 906 = .ok (.iaload, 1) := by decide +kernel
theorem dL_law_907 : decode cL_law 907 = .ok (.invokevirtual 97, 3) := by decide +kernel
theorem dL_law_910 : decode cL_law 910 = .ok (.aload_n 2, 1) := by decide +kernel
theorem dL_law_911 : decode cL_law 911 = .ok (.aload_n 0, 1) := by decide +kernel
theorem dL_law_912 : decode cL_law 912 = .ok (.iload_n 3, 1) := by decide +kernel
theorem dL_law_913 : decode cL_law 913 = .ok (.iconst 1, 1) := by decide +kernel
theorem dL_law_914 : decode cL_law 914 = .ok (.iadd, 1) := by decide +kernel
theorem dL_law_915 : decode cL_law 915 = .ok (.iaload, 1) := by decide +kernel
theorem dL_law_916 : decode cL_law 916 = .ok (.aload_n 0, 1) := by decide +kernel
theorem dL_law_917 : decode cL_law 917 = .ok (.iload_n 3, 1) := by decide +kernel
theorem dL_law_918 : decode cL_law 918 = .ok (.iconst 2, 1) := by decide +kernel
theorem dL_law_919 : decode cL_law 919 = .ok (.iadd, 1) := by decide +kernel
theorem dL_law_920 : decode cL_law 920 = .ok (.iaload, 1) := by decide +kernel
theorem dL_law_921 : decode cL_law 921 = .ok (.invokevirtual 100, 3) := by decide +kernel
theorem dL_law_924 : decode cL_law 924 = .ok (.if_icmp .eq 882, 3) := by decide +kernel
theorem dL_law_927 : decode cL_law 927 = .ok (.iconst 0, 1) := by decide +kernel
theorem dL_law_928 : decode cL_law 928 = .ok (.ireturn, 1) := by decide +kernel
theorem dL_law_929 : decode cL_law 929 = .ok (.aload_n 1, 1) := by decide +kernel
theorem dL_law_930 : decode cL_law 930 = .ok (.aload_n 0, 1) := by decide +kernel
theorem dL_law_931 : decode cL_law 931 = .ok (.iload_n 3, 1) := by decide +kernel
theorem dL_law_932 : decode cL_law 932 = .ok (.iconst 1, 1) := by decide +kernel
theorem dL_law_933 : decode cL_law 933 = .ok (.iadd, 1) := by decide +kernel
theorem dL_law_934 : decode cL_law 934 = .ok (.iaload, 1) := by decide +kernel
theorem dL_law_935 : decode cL_law 935 = .ok (.invokevirtual 101, 3) := by decide +kernel
theorem dL_law_938 : decode cL_law 938 = .ok (.aload_n 2, 1) := by decide +kernel
theorem dL_law_939 : decode cL_law 939 = .ok (.aload_n 0, 1) := by decide +kernel
theorem dL_law_940 : decode cL_law 940 = .ok (.iload_n 3, 1) := by decide +kernel
theorem dL_law_941 : decode cL_law 941 = .ok (.iconst 1, 1) := by decide +kernel
theorem dL_law_942 : decode cL_law 942 = .ok (.iadd, 1) := by decide +kernel
theorem dL_law_943 : decode cL_law 943 = .ok (.iaload, 1) := by decide +kernel
theorem dL_law_944 : decode cL_law 944 = .ok (.invokevirtual 104, 3) := by decide +kernel
theorem dL_law_947 : decode cL_law 947 = .ok (.if_icmp .eq 859, 3) := by decide +kernel
theorem dL_law_950 : decode cL_law 950 = .ok (.iconst 0, 1) := by decide +kernel
theorem dL_law_951 : decode cL_law 951 = .ok (.ireturn, 1) := by decide +kernel
theorem dL_law_952 : decode cL_law 952 = .ok (.aload_n 1, 1) := by decide +kernel
theorem dL_law_953 : decode cL_law 953 = .ok (.aload_n 0, 1) := by decide +kernel
theorem dL_law_954 : decode cL_law 954 = .ok (.iload_n 3, 1) := by decide +kernel
theorem dL_law_955 : decode cL_law 955 = .ok (.iconst 1, 1) := by decide +kernel
theorem dL_law_956 : decode cL_law 956 = .ok (.iadd, 1) := by decide +kernel
theorem dL_law_957 : decode cL_law 957 = .ok (.iaload, 1) := by decide +kernel
theorem dL_law_958 : decode cL_law 958 = .ok (.aload_n 0, 1) := by decide +kernel
theorem dL_law_959 : decode cL_law 959 = .ok (.iload_n 3, 1) := by decide +kernel
theorem dL_law_960 : decode cL_law 960 = .ok (.iconst 2, 1) := by decide +kernel
theorem dL_law_961 : decode cL_law 961 = .ok (.iadd, 1) := by decide +kernel
theorem dL_law_962 : decode cL_law 962 = .ok (.iaload, 1) := by decide +kernel
theorem dL_law_963 : decode cL_law 963 = .ok (.invokevirtual 105, 3) := by decide +kernel
theorem dL_law_966 : decode cL_law 966 = .ok (.aload_n 2, 1) := by decide +kernel
theorem dL_law_967 : decode cL_law 967 = .ok (.aload_n 0, 1) := by decide +kernel
theorem dL_law_968 : decode cL_law 968 = .ok (.iload_n 3, 1) := by decide +kernel
theorem dL_law_969 : decode cL_law 969 = .ok (.iconst 1, 1) := by decide +kernel
theorem dL_law_970 : decode cL_law 970 = .ok (.iadd, 1) := by decide +kernel
theorem dL_law_971 : decode cL_law 971 = .ok (.iaload, 1) := by decide +kernel
theorem dL_law_972 : decode cL_law 972 = .ok (.aload_n 0, 1) := by decide +kernel
theorem dL_law_973 : decode cL_law 973 = .ok (.iload_n 3, 1) := by decide +kernel
theorem dL_law_974 : decode cL_law 974 = .ok (.iconst 2, 1) := by decide +kernel
theorem dL_law_975 : decode cL_law 975 = .ok (.iadd, 1) := by decide +kernel
theorem dL_law_976 : decode cL_law 976 = .ok (.iaload, 1) := by decide +kernel
theorem dL_law_977 : decode cL_law 977 = .ok (.invokevirtual 108, 3) := by decide +kernel
theorem dL_law_980 : decode cL_law 980 = .ok (.if_icmp .eq 826, 3) := by decide +kernel
theorem dL_law_983 : decode cL_law 983 = .ok (.iconst 0, 1) := by decide +kernel
theorem dL_law_984 : decode cL_law 984 = .ok (.ireturn, 1) := by decide +kernel
theorem dL_law_985 : decode cL_law 985 = .ok (.aload_n 1, 1) := by decide +kernel
theorem dL_law_986 : decode cL_law 986 = .ok (.aload_n 0, 1) := by decide +kernel
theorem dL_law_987 : decode cL_law 987 = .ok (.iload_n 3, 1) := by decide +kernel
theorem dL_law_988 : decode cL_law 988 = .ok (.iconst 1, 1) := by decide +kernel
theorem dL_law_989 : decode cL_law 989 = .ok (.iadd, 1) := by decide +kernel
theorem dL_law_990 : decode cL_law 990 = .ok (.iaload, 1) := by decide +kernel
theorem dL_law_991 : decode cL_law 991 = .ok (.invokevirtual 109, 3) := by decide +kernel
theorem dL_law_994 : decode cL_law 994 = .ok (.aload_n 2, 1) := by decide +kernel
theorem dL_law_995 : decode cL_law 995 = .ok (.aload_n 0, 1) := by decide +kernel
theorem dL_law_996 : decode cL_law 996 = .ok (.iload_n 3, 1) := by decide +kernel
theorem dL_law_997 : decode cL_law 997 = .ok (.iconst 1, 1) := by decide +kernel
theorem dL_law_998 : decode cL_law 998 = .ok (.iadd, 1) := by decide +kernel
theorem dL_law_999 : decode cL_law 999 = .ok (.iaload, 1) := by decide +kernel
theorem dL_law_1000 : decode cL_law 1000 = .ok (.invokevirtual 112, 3) := by decide +kernel
theorem dL_law_1003 : decode cL_law 1003 = .ok (.if_icmp .eq 803, 3) := by decide +kernel
theorem dL_law_1006 : decode cL_law 1006 = .ok (.iconst 0, 1) := by decide +kernel
theorem dL_law_1007 : decode cL_law 1007 = .ok (.ireturn, 1) := by decide +kernel
theorem dL_law_1008 : decode cL_law 1008 = .ok (.aload_n 1, 1) := by decide +kernel
theorem dL_law_1009 : decode cL_law 1009 = .ok (.invokevirtual 113, 3) := by decide +kernel
theorem dL_law_1012 : decode cL_law 1012 = .ok (.aload_n 2, 1) := by decide +kernel
theorem dL_law_1013 : decode cL_law 1013 = .ok (.invokevirtual 116, 3) := by decide +kernel
theorem dL_law_1016 : decode cL_law 1016 = .ok (.if_icmp .eq 790, 3) := by decide +kernel
theorem dL_law_1019 : decode cL_law 1019 = .ok (.iconst 0, 1) := by decide +kernel
theorem dL_law_1020 : decode cL_law 1020 = .ok (.ireturn, 1) := by decide +kernel
theorem dL_law_1021 : decode cL_law 1021 = .ok (.aload_n 1, 1) := by decide +kernel
theorem dL_law_1022 : decode cL_law 1022 = .ok (.aload_n 0, 1) := by decide +kernel
theorem dL_law_1023 : decode cL_law 1023 = .ok (.iload_n 3, 1) := by decide +kernel
theorem dL_law_1024 : decode cL_law 1024 = .ok (.iconst 1, 1) := by decide +kernel
theorem dL_law_1025 : decode cL_law 1025 = .ok (.iadd, 1) := by decide +kernel
theorem dL_law_1026 : decode cL_law 1026 = .ok (.iaload, 1) := by decide +kernel
theorem dL_law_1027 : decode cL_law 1027 = .ok (.aload_n 0, 1) := by decide +kernel
theorem dL_law_1028 : decode cL_law 1028 = .ok (.iload_n 3, 1) := by decide +kernel
theorem dL_law_1029 : decode cL_law 1029 = .ok (.iconst 2, 1) := by decide +kernel
theorem dL_law_1030 : decode cL_law 1030 = .ok (.iadd, 1) := by decide +kernel
theorem dL_law_1031 : decode cL_law 1031 = .ok (.iaload, 1) := by decide +kernel
theorem dL_law_1032 : decode cL_law 1032 = .ok (.aload_n 0, 1) := by decide +kernel
theorem dL_law_1033 : decode cL_law 1033 = .ok (.iload_n 3, 1) := by decide +kernel
theorem dL_law_1034 : decode cL_law 1034 = .ok (.iconst 3, 1) := by decide +kernel
theorem dL_law_1035 : decode cL_law 1035 = .ok (.iadd, 1) := by decide +kernel
theorem dL_law_1036 : decode cL_law 1036 = .ok (.iaload, 1) := by decide +kernel
theorem dL_law_1037 : decode cL_law 1037 = .ok (.aload_n 0, 1) := by decide +kernel
theorem dL_law_1038 : decode cL_law 1038 = .ok (.iload_n 3, 1) := by decide +kernel
theorem dL_law_1039 : decode cL_law 1039 = .ok (.iconst 4, 1) := by decide +kernel
theorem dL_law_1040 : decode cL_law 1040 = .ok (.iadd, 1) := by decide +kernel
theorem dL_law_1041 : decode cL_law 1041 = .ok (.iaload, 1) := by decide +kernel
theorem dL_law_1042 : decode cL_law 1042 = .ok (.invokevirtual 117, 3) := by decide +kernel
theorem dL_law_1045 : decode cL_law 1045 = .ok (.aload_n 2, 1) := by decide +kernel
theorem dL_law_1046 : decode cL_law 1046 = .ok (.aload_n 0, 1) := by decide +kernel
theorem dL_law_1047 : decode cL_law 1047 = .ok (.iload_n 3, 1) := by decide +kernel
theorem dL_law_1048 : decode cL_law 1048 = .ok (.iconst 1, 1) := by decide +kernel
theorem dL_law_1049 : decode cL_law 1049 = .ok (.iadd, 1) := by decide +kernel
theorem dL_law_1050 : decode cL_law 1050 = .ok (.iaload, 1) := by decide +kernel
theorem dL_law_1051 : decode cL_law 1051 = .ok (.aload_n 0, 1) := by decide +kernel
theorem dL_law_1052 : decode cL_law 1052 = .ok (.iload_n 3, 1) := by decide +kernel
theorem dL_law_1053 : decode cL_law 1053 = .ok (.iconst 2, 1) := by decide +kernel
theorem dL_law_1054 : decode cL_law 1054 = .ok (.iadd, 1) := by decide +kernel
theorem dL_law_1055 : decode cL_law 1055 = .ok (.iaload, 1) := by decide +kernel
theorem dL_law_1056 : decode cL_law 1056 = .ok (.aload_n 0, 1) := by decide +kernel
theorem dL_law_1057 : decode cL_law 1057 = .ok (.iload_n 3, 1) := by decide +kernel
theorem dL_law_1058 : decode cL_law 1058 = .ok (.iconst 3, 1) := by decide +kernel
theorem dL_law_1059 : decode cL_law 1059 = .ok (.iadd, 1) := by decide +kernel
theorem dL_law_1060 : decode cL_law 1060 = .ok (.iaload, 1) := by decide +kernel
theorem dL_law_1061 : decode cL_law 1061 = .ok (.aload_n 0, 1) := by decide +kernel
theorem dL_law_1062 : decode cL_law 1062 = .ok (.iload_n 3, 1) := by decide +kernel
theorem dL_law_1063 : decode cL_law 1063 = .ok (.iconst 4, 1) := by decide +kernel
theorem dL_law_1064 : decode cL_law 1064 = .ok (.iadd, 1) := by decide +kernel
theorem dL_law_1065 : decode cL_law 1065 = .ok (.iaload, 1) := by decide +kernel
theorem dL_law_1066 : decode cL_law 1066 = .ok (.invokevirtual 121, 3) := by decide +kernel
theorem dL_law_1069 : decode cL_law 1069 = .ok (.if_icmp .eq 737, 3) := by decide +kernel
theorem dL_law_1072 : decode cL_law 1072 = .ok (.iconst 0, 1) := by decide +kernel
theorem dL_law_1073 : decode cL_law 1073 = .ok (.ireturn, 1) := by decide +kernel
theorem dL_law_1074 : decode cL_law 1074 = .ok (.aload_n 1, 1) := by decide +kernel
theorem dL_law_1075 : decode cL_law 1075 = .ok (.aload_n 0, 1) := by decide +kernel
theorem dL_law_1076 : decode cL_law 1076 = .ok (.iload_n 3, 1) := by decide +kernel
theorem dL_law_1077 : decode cL_law 1077 = .ok (.iconst 1, 1) := by decide +kernel
theorem dL_law_1078 : decode cL_law 1078 = .ok (.iadd, 1) := by decide +kernel
theorem dL_law_1079 : decode cL_law 1079 = .ok (.iaload, 1) := by decide +kernel
theorem dL_law_1080 : decode cL_law 1080 = .ok (.aload_n 0, 1) := by decide +kernel
theorem dL_law_1081 : decode cL_law 1081 = .ok (.iload_n 3, 1) := by decide +kernel
theorem dL_law_1082 : decode cL_law 1082 = .ok (.iconst 2, 1) := by decide +kernel
theorem dL_law_1083 : decode cL_law 1083 = .ok (.iadd, 1) := by decide +kernel
theorem dL_law_1084 : decode cL_law 1084 = .ok (.iaload, 1) := by decide +kernel
theorem dL_law_1085 : decode cL_law 1085 = .ok (.aload_n 0, 1) := by decide +kernel
theorem dL_law_1086 : decode cL_law 1086 = .ok (.iload_n 3, 1) := by decide +kernel
theorem dL_law_1087 : decode cL_law 1087 = .ok (.iconst 3, 1) := by decide +kernel
theorem dL_law_1088 : decode cL_law 1088 = .ok (.iadd, 1) := by decide +kernel
theorem dL_law_1089 : decode cL_law 1089 = .ok (.iaload, 1) := by decide +kernel
theorem dL_law_1090 : decode cL_law 1090 = .ok (.invokevirtual 122, 3) := by decide +kernel
theorem dL_law_1093 : decode cL_law 1093 = .ok (.aload_n 2, 1) := by decide +kernel
theorem dL_law_1094 : decode cL_law 1094 = .ok (.aload_n 0, 1) := by decide +kernel
theorem dL_law_1095 : decode cL_law 1095 = .ok (.iload_n 3, 1) := by decide +kernel
theorem dL_law_1096 : decode cL_law 1096 = .ok (.iconst 1, 1) := by decide +kernel
theorem dL_law_1097 : decode cL_law 1097 = .ok (.iadd, 1) := by decide +kernel
theorem dL_law_1098 : decode cL_law 1098 = .ok (.iaload, 1) := by decide +kernel
theorem dL_law_1099 : decode cL_law 1099 = .ok (.aload_n 0, 1) := by decide +kernel
theorem dL_law_1100 : decode cL_law 1100 = .ok (.iload_n 3, 1) := by decide +kernel
theorem dL_law_1101 : decode cL_law 1101 = .ok (.iconst 2, 1) := by decide +kernel
theorem dL_law_1102 : decode cL_law 1102 = .ok (.iadd, 1) := by decide +kernel
theorem dL_law_1103 : decode cL_law 1103 = .ok (.iaload, 1) := by decide +kernel
theorem dL_law_1104 : decode cL_law 1104 = .ok (.aload_n 0, 1) := by decide +kernel
theorem dL_law_1105 : decode cL_law 1105 = .ok (.iload_n 3, 1) := by decide +kernel
theorem dL_law_1106 : decode cL_law 1106 = .ok (.iconst 3, 1) := by decide +kernel
theorem dL_law_1107 : decode cL_law 1107 = .ok (.iadd, 1) := by decide +kernel
theorem dL_law_1108 : decode cL_law 1108 = .ok (.iaload, 1) := by decide +kernel
theorem dL_law_1109 : decode cL_law 1109 = .ok (.invokevirtual 125, 3) := by decide +kernel
theorem dL_law_1112 : decode cL_law 1112 = .ok (.if_icmp .eq 694, 3) := by decide +kernel
theorem dL_law_1115 : decode cL_law 1115 = .ok (.iconst 0, 1) := by decide +kernel
theorem dL_law_1116 : decode cL_law 1116 = .ok (.ireturn, 1) := by decide +kernel
theorem dL_law_1117 : decode cL_law 1117 = .ok (.aload_n 1, 1) := by decide +kernel
theorem dL_law_1118 : decode cL_law 1118 = .ok (.aload_n 0, 1) := by decide +kernel
theorem dL_law_1119 : decode cL_law 1119 = .ok (.iload_n 3, 1) := by decide +kernel
theorem dL_law_1120 : decode cL_law 1120 = .ok (.iconst 1, 1) := by decide +kernel
theorem dL_law_1121 : decode cL_law 1121 = .ok (.iadd, 1) := by decide +kernel
theorem dL_law_1122 : decode cL_law 1122 = .ok (.iaload, 1) := by decide +kernel
theorem dL_law_1123 : decode cL_law 1123 = .ok (.aload_n 0, 1) := by decide +kernel
theorem dL_law_1124 : decode cL_law 1124 = .ok (.iload_n 3, 1) := by decide +kernel
theorem dL_law_1125 : decode cL_law 1125 = .ok (.iconst 2, 1) := by decide +kernel
theorem dL_law_1126 : decode cL_law 1126 = .ok (.iadd, 1) := by decide +kernel
theorem dL_law_1127 : decode cL_law 1127 = .ok (.iaload, 1) := by decide +kernel
theorem dL_law_1128 : decode cL_law 1128 = .ok (.invokevirtual 126, 3) := by decide +kernel
theorem dL_law_1131 : decode cL_law 1131 = .ok (.aload_n 2, 1) := by decide +kernel
theorem dL_law_1132 : decode cL_law 1132 = .ok (.aload_n 0, 1) := by decide +kernel
theorem dL_law_1133 : decode cL_law 1133 = .ok (.iload_n 3, 1) := by decide +kernel
theorem dL_law_1134 : decode cL_law 1134 = .ok (.iconst 1, 1) := by decide +kernel
theorem dL_law_1135 : decode cL_law 1135 = .ok (.iadd, 1) := by decide +kernel
theorem dL_law_1136 : decode cL_law 1136 = .ok (.iaload, 1) := by decide +kernel
theorem dL_law_1137 : decode cL_law 1137 = .ok (.aload_n 0, 1) := by decide +kernel
theorem dL_law_1138 : decode cL_law 1138 = .ok (.iload_n 3, 1) := by decide +kernel
theorem dL_law_1139 : decode cL_law 1139 = .ok (.iconst 2, 1) := by decide +kernel
theorem dL_law_1140 : decode cL_law 1140 = .ok (.iadd, 1) := by decide +kernel
theorem dL_law_1141 : decode cL_law 1141 = .ok (.iaload, 1) := by decide +kernel
theorem dL_law_1142 : decode cL_law 1142 = .ok (.invokevirtual 129, 3) := by decide +kernel
theorem dL_law_1145 : decode cL_law 1145 = .ok (.if_icmp .eq 661, 3) := by decide +kernel
theorem dL_law_1148 : decode cL_law 1148 = .ok (.iconst 0, 1) := by decide +kernel
theorem dL_law_1149 : decode cL_law 1149 = .ok (.ireturn, 1) := by decide +kernel
theorem dL_law_1150 : decode cL_law 1150 = .ok (.aload_n 1, 1) := by decide +kernel
theorem dL_law_1151 : decode cL_law 1151 = .ok (.invokevirtual 130, 3) := by decide +kernel
theorem dL_law_1154 : decode cL_law 1154 = .ok (.aload_n 2, 1) := by decide +kernel
theorem dL_law_1155 : decode cL_law 1155 = .ok (.invokevirtual 133, 3) := by decide +kernel
theorem dL_law_1158 : decode cL_law 1158 = .ok (.if_icmp .eq 648, 3) := by decide +kernel
theorem dL_law_1161 : decode cL_law 1161 = .ok (.iconst 0, 1) := by decide +kernel
theorem dL_law_1162 : decode cL_law 1162 = .ok (.ireturn, 1) := by decide +kernel
theorem dL_law_1163 : decode cL_law 1163 = .ok (.aload_n 1, 1) := by decide +kernel
theorem dL_law_1164 : decode cL_law 1164 = .ok (.invokevirtual 134, 3) := by decide +kernel
theorem dL_law_1167 : decode cL_law 1167 = .ok (.aload_n 2, 1) := by decide +kernel
theorem dL_law_1168 : decode cL_law 1168 = .ok (.invokevirtual 137, 3) := by decide +kernel
theorem dL_law_1171 : decode cL_law 1171 = .ok (.lcmp, 1) := by decide +kernel
theorem dL_law_1172 : decode cL_law 1172 = .ok (.ifCond .eq 634, 3) := by decide +kernel
theorem dL_law_1175 : decode cL_law 1175 = .ok (.iconst 0, 1) := by decide +kernel
theorem dL_law_1176 : decode cL_law 1176 = .ok (.ireturn, 1) := by decide +kernel
theorem dL_law_1177 : decode cL_law 1177 = .ok (.aload_n 1, 1) := by decide +kernel
theorem dL_law_1178 : decode cL_law 1178 = .ok (.aload_n 0, 1) := by decide +kernel
theorem dL_law_1179 : decode cL_law 1179 = .ok (.iload_n 3, 1) := by decide +kernel
theorem dL_law_1180 : decode cL_law 1180 = .ok (.iconst 1, 1) := by decide +kernel
theorem dL_law_1181 : decode cL_law 1181 = .ok (.iadd, 1) := by decide +kernel
theorem dL_law_1182 : decode cL_law 1182 = .ok (.iaload, 1) := by decide +kernel
theorem dL_law_1183 : decode cL_law 1183 = .ok (.aload_n 0, 1) := by decide +kernel
theorem dL_law_1184 : decode cL_law 1184 = .ok (.iload_n 3, 1) := by decide +kernel
theorem dL_law_1185 : decode cL_law 1185 = .ok (.iconst 2, 1) := by decide +kernel
theorem dL_law_1186 : decode cL_law 1186 = .ok (.iadd, 1) := by decide +kernel
theorem dL_law_1187 : decode cL_law 1187 = .ok (.iaload, 1) := by decide +kernel
theorem dL_law_1188 : decode cL_law 1188 = .ok (.invokevirtual 138, 3) := by decide +kernel
theorem dL_law_1191 : decode cL_law 1191 = .ok (.aload_n 2, 1) := by decide +kernel
theorem dL_law_1192 : decode cL_law 1192 = .ok (.aload_n 0, 1) := by decide +kernel
theorem dL_law_1193 : decode cL_law 1193 = .ok (.iload_n 3, 1) := by decide +kernel
theorem dL_law_1194 : decode cL_law 1194 = .ok (.iconst 1, 1) := by decide +kernel
theorem dL_law_1195 : decode cL_law 1195 = .ok (.iadd, 1) := by decide +kernel
theorem dL_law_1196 : decode cL_law 1196 = .ok (.iaload, 1) := by decide +kernel
theorem dL_law_1197 : decode cL_law 1197 = .ok (.aload_n 0, 1) := by decide +kernel
theorem dL_law_1198 : decode cL_law 1198 = .ok (.iload_n 3, 1) := by decide +kernel
theorem dL_law_1199 : decode cL_law 1199 = .ok (.iconst 2, 1) := by decide +kernel
theorem dL_law_1200 : decode cL_law 1200 = .ok (.iadd, 1) := by decide +kernel
theorem dL_law_1201 : decode cL_law 1201 = .ok (.iaload, 1) := by decide +kernel
theorem dL_law_1202 : decode cL_law 1202 = .ok (.invokevirtual 141, 3) := by decide +kernel
theorem dL_law_1205 : decode cL_law 1205 = .ok (.if_icmp .eq 601, 3) := by decide +kernel
theorem dL_law_1208 : decode cL_law 1208 = .ok (.iconst 0, 1) := by decide +kernel
theorem dL_law_1209 : decode cL_law 1209 = .ok (.ireturn, 1) := by decide +kernel
theorem dL_law_1210 : decode cL_law 1210 = .ok (.aload_n 1, 1) := by decide +kernel
theorem dL_law_1211 : decode cL_law 1211 = .ok (.aload_n 0, 1) := by decide +kernel
theorem dL_law_1212 : decode cL_law 1212 = .ok (.iload_n 3, 1) := by decide +kernel
theorem dL_law_1213 : decode cL_law 1213 = .ok (.iconst 1, 1) := by decide +kernel
theorem dL_law_1214 : decode cL_law 1214 = .ok (.iadd, 1) := by decide +kernel
theorem dL_law_1215 : decode cL_law 1215 = .ok (.iaload, 1) := by decide +kernel
theorem dL_law_1216 : decode cL_law 1216 = .ok (.aload_n 0, 1) := by decide +kernel
theorem dL_law_1217 : decode cL_law 1217 = .ok (.iload_n 3, 1) := by decide +kernel
theorem dL_law_1218 : decode cL_law 1218 = .ok (.iconst 2, 1) := by decide +kernel
theorem dL_law_1219 : decode cL_law 1219 = .ok (.iadd, 1) := by decide +kernel
theorem dL_law_1220 : decode cL_law 1220 = .ok (.iaload, 1) := by decide +kernel
theorem dL_law_1221 : decode cL_law 1221 = .ok (.aload_n 0, 1) := by decide +kernel
theorem dL_law_1222 : decode cL_law 1222 = .ok (.iload_n 3, 1) := by decide +kernel
theorem dL_law_1223 : decode cL_law 1223 = .ok (.iconst 3, 1) := by decide +kernel
theorem dL_law_1224 : decode cL_law 1224 = .ok (.iadd, 1) := by decide +kernel
theorem dL_law_1225 : decode cL_law 1225 = .ok (.iaload, 1) := by decide +kernel
theorem dL_law_1226 : decode cL_law 1226 = .ok (.invokevirtual 142, 3) := by decide +kernel
theorem dL_law_1229 : decode cL_law 1229 = .ok (.aload_n 2, 1) := by decide +kernel
theorem dL_law_1230 : decode cL_law 1230 = .ok (.aload_n 0, 1) := by decide +kernel
theorem dL_law_1231 : decode cL_law 1231 = .ok (.iload_n 3, 1) := by decide +kernel
theorem dL_law_1232 : decode cL_law 1232 = .ok (.iconst 1, 1) := by decide +kernel
theorem dL_law_1233 : decode cL_law 1233 = .ok (.iadd, 1) := by decide +kernel
theorem dL_law_1234 : decode cL_law 1234 = .ok (.iaload, 1) := by decide +kernel
theorem dL_law_1235 : decode cL_law 1235 = .ok (.aload_n 0, 1) := by decide +kernel
theorem dL_law_1236 : decode cL_law 1236 = .ok (.iload_n 3, 1) := by decide +kernel
theorem dL_law_1237 : decode cL_law 1237 = .ok (.iconst 2, 1) := by decide +kernel
theorem dL_law_1238 : decode cL_law 1238 = .ok (.iadd, 1) := by decide +kernel
theorem dL_law_1239 : decode cL_law 1239 = .ok (.iaload, 1) := by decide +kernel
theorem dL_law_1240 : decode cL_law 1240 = .ok (.aload_n 0, 1) := by decide +kernel
theorem dL_law_1241 : decode cL_law 1241 = .ok (.iload_n 3, 1) := by decide +kernel
theorem dL_law_1242 : decode cL_law 1242 = .ok (.iconst 3, 1) := by decide +kernel
theorem dL_law_1243 : decode cL_law 1243 = .ok (.iadd, 1) := by decide +kernel
theorem dL_law_1244 : decode cL_law 1244 = .ok (.iaload, 1) := by decide +kernel
theorem dL_law_1245 : decode cL_law 1245 = .ok (.invokevirtual 145, 3) := by decide +kernel
theorem dL_law_1248 : decode cL_law 1248 = .ok (.if_icmp .eq 558, 3) := by decide +kernel
theorem dL_law_1251 : decode cL_law 1251 = .ok (.iconst 0, 1) := by decide +kernel
theorem dL_law_1252 : decode cL_law 1252 = .ok (.ireturn, 1) := by decide +kernel
theorem dL_law_1253 : decode cL_law 1253 = .ok (.aload_n 1, 1) := by decide +kernel
theorem dL_law_1254 : decode cL_law 1254 = .ok (.aload_n 0, 1) := by decide +kernel
theorem dL_law_1255 : decode cL_law 1255 = .ok (.iload_n 3, 1) := by decide +kernel
theorem dL_law_1256 : decode cL_law 1256 = .ok (.iconst 1, 1) := by decide +kernel
theorem dL_law_1257 : decode cL_law 1257 = .ok (.iadd, 1) := by decide +kernel
theorem dL_law_1258 : decode cL_law 1258 = .ok (.iaload, 1) := by decide +kernel
theorem dL_law_1259 : decode cL_law 1259 = .ok (.aload_n 0, 1) := by decide +kernel
theorem dL_law_1260 : decode cL_law 1260 = .ok (.iload_n 3, 1) := by decide +kernel
theorem dL_law_1261 : decode cL_law 1261 = .ok (.iconst 2, 1) := by decide +kernel
theorem dL_law_1262 : decode cL_law 1262 = .ok (.iadd, 1) := by decide +kernel
theorem dL_law_1263 : decode cL_law 1263 = .ok (.iaload, 1) := by decide +kernel
theorem dL_law_1264 : decode cL_law 1264 = .ok (.invokevirtual 146, 3) := by decide +kernel
theorem dL_law_1267 : decode cL_law 1267 = .ok (.aload_n 2, 1) := by decide +kernel
theorem dL_law_1268 : decode cL_law 1268 = .ok (.aload_n 0, 1) := by decide +kernel
theorem dL_law_1269 : decode cL_law 1269 = .ok (.iload_n 3, 1) := by decide +kernel
theorem dL_law_1270 : decode cL_law 1270 = .ok (.iconst 1, 1) := by decide +kernel
theorem dL_law_1271 : decode cL_law 1271 = .ok (.iadd, 1) := by decide +kernel
theorem dL_law_1272 : decode cL_law 1272 = .ok (.iaload, 1) := by decide +kernel
theorem dL_law_1273 : decode cL_law 1273 = .ok (.aload_n 0, 1) := by decide +kernel
theorem dL_law_1274 : decode cL_law 1274 = .ok (.iload_n 3, 1) := by decide +kernel
theorem dL_law_1275 : decode cL_law 1275 = .ok (.iconst 2, 1) := by decide +kernel
theorem dL_law_1276 : decode cL_law 1276 = .ok (.iadd, 1) := by decide +kernel
theorem dL_law_1277 : decode cL_law 1277 = .ok (.iaload, 1) := by decide +kernel
theorem dL_law_1278 : decode cL_law 1278 = .ok (.invokevirtual 149, 3) := by decide +kernel
theorem dL_law_1281 : decode cL_law 1281 = .ok (.lcmp, 1) := by decide +kernel
theorem dL_law_1282 : decode cL_law 1282 = .ok (.ifCond .eq 524, 3) := by decide +kernel
theorem dL_law_1285 : decode cL_law 1285 = .ok (.iconst 0, 1) := by decide +kernel
theorem dL_law_1286 : decode cL_law 1286 = .ok (.ireturn, 1) := by decide +kernel
theorem dL_law_1287 : decode cL_law 1287 = .ok (.aload_n 1, 1) := by decide +kernel
theorem dL_law_1288 : decode cL_law 1288 = .ok (.aload_n 0, 1) := by decide +kernel
theorem dL_law_1289 : decode cL_law 1289 = .ok (.iload_n 3, 1) := by decide +kernel
theorem dL_law_1290 : decode cL_law 1290 = .ok (.iconst 1, 1) := by decide +kernel
theorem dL_law_1291 : decode cL_law 1291 = .ok (.iadd, 1) := by decide +kernel
theorem dL_law_1292 : decode cL_law 1292 = .ok (.iaload, 1) := by decide +kernel
theorem dL_law_1293 : decode cL_law 1293 = .ok (.aload_n 0, 1) := by decide +kernel
theorem dL_law_1294 : decode cL_law 1294 = .ok (.iload_n 3, 1) := by decide +kernel
theorem dL_law_1295 : decode cL_law 1295 = .ok (.iconst 2, 1) := by decide +kernel
theorem dL_law_1296 : decode cL_law 1296 = .ok (.iadd, 1) := by decide +kernel
theorem dL_law_1297 : decode cL_law 1297 = .ok (.iaload, 1) := by decide +kernel
theorem dL_law_1298 : decode cL_law 1298 = .ok (.aload_n 0, 1) := by decide +kernel
theorem dL_law_1299 : decode cL_law 1299 = .ok (.iload_n 3, 1) := by decide +kernel
theorem dL_law_1300 : decode cL_law 1300 = .ok (.iconst 3, 1) := by decide +kernel
theorem dL_law_1301 : decode cL_law 1301 = .ok (.iadd, 1) := by decide +kernel
theorem dL_law_1302 : decode cL_law 1302 = .ok (.iaload, 1) := by decide +kernel
theorem dL_law_1303 : decode cL_law 1303 = .ok (.invokevirtual 150, 3) := by decide +kernel
theorem dL_law_1306 : decode cL_law 1306 = .ok (.aload_n 2, 1) := by decide +kernel
theorem dL_law_1307 : decode cL_law 1307 = .ok (.aload_n 0, 1) := by decide +kernel
theorem dL_law_1308 : decode cL_law 1308 = .ok (.iload_n 3, 1) := by decide +kernel
theorem dL_law_1309 : decode cL_law 1309 = .ok (.iconst 1, 1) := by decide +kernel
theorem dL_law_1310 : decode cL_law 1310 = .ok (.iadd, 1) := by decide +kernel
theorem dL_law_1311 : decode cL_law 1311 = .ok (.iaload, 1) := by decide +kernel
theorem dL_law_1312 : decode cL_law 1312 = .ok (.aload_n 0, 1) := by decide +kernel
theorem dL_law_1313 : decode cL_law 1313 = .ok (.iload_n 3, 1) := by decide +kernel
theorem dL_law_1314 : decode cL_law 1314 = .ok (.iconst 2, 1) := by decide +kernel
theorem dL_law_1315 : decode cL_law 1315 = .ok (.iadd, 1) := by decide +kernel
theorem dL_law_1316 : decode cL_law 1316 = .ok (.iaload, 1) := by decide +kernel
theorem dL_law_1317 : decode cL_law 1317 = .ok (.aload_n 0, 1) := by decide +kernel
theorem dL_law_1318 : decode cL_law 1318 = .ok (.iload_n 3, 1) := by decide +kernel
theorem dL_law_1319 : decode cL_law 1319 = .ok (.iconst 3, 1) := by decide +kernel
theorem dL_law_1320 : decode cL_law 1320 = .ok (.iadd, 1) := by decide +kernel
theorem dL_law_1321 : decode cL_law 1321 = .ok (.iaload, 1) := by decide +kernel
theorem dL_law_1322 : decode cL_law 1322 = .ok (.invokevirtual 153, 3) := by decide +kernel
theorem dL_law_1325 : decode cL_law 1325 = .ok (.if_icmp .eq 481, 3) := by decide +kernel
theorem dL_law_1328 : decode cL_law 1328 = .ok (.iconst 0, 1) := by decide +kernel
theorem dL_law_1329 : decode cL_law 1329 = .ok (.ireturn, 1) := by decide +kernel
theorem dL_law_1330 : decode cL_law 1330 = .ok (.aload_n 1, 1) := by decide +kernel
theorem dL_law_1331 : decode cL_law 1331 = .ok (.aload_n 0, 1) := by decide +kernel
theorem dL_law_1332 : decode cL_law 1332 = .ok (.iload_n 3, 1) := by decide +kernel
theorem dL_law_1333 : decode cL_law 1333 = .ok (.iconst 1, 1) := by decide +kernel
theorem dL_law_1334 : decode cL_law 1334 = .ok (.iadd, 1) := by decide +kernel
theorem dL_law_1335 : decode cL_law 1335 = .ok (.iaload, 1) := by decide +kernel
theorem dL_law_1336 : decode cL_law 1336 = .ok (.aload_n 0, 1) := by decide +kernel
theorem dL_law_1337 : decode cL_law 1337 = .ok (.iload_n 3, 1) := by decide +kernel
theorem dL_law_1338 : decode cL_law 1338 = .ok (.iconst 2, 1) := by decide +kernel
theorem dL_law_1339 : decode cL_law 1339 = .ok (.iadd, 1) := by decide +kernel
theorem dL_law_1340 : decode cL_law 1340 = .ok (.iaload, 1) := by decide +kernel
theorem dL_law_1341 : decode cL_law 1341 = .ok (.aload_n 0, 1) := by decide +kernel
theorem dL_law_1342 : decode cL_law 1342 = .ok (.iload_n 3, 1) := by decide +kernel
theorem dL_law_1343 : decode cL_law 1343 = .ok (.iconst 3, 1) := by decide +kernel
theorem dL_law_1344 : decode cL_law 1344 = .ok (.iadd, 1) := by decide +kernel
theorem dL_law_1345 : decode cL_law 1345 = .ok (.iaload, 1) := by decide +kernel
theorem dL_law_1346 : decode cL_law 1346 = .ok (.invokevirtual 154, 3) := by decide +kernel
theorem dL_law_1349 : decode cL_law 1349 = .ok (.aload_n 2, 1) := by decide +kernel
theorem dL_law_1350 : decode cL_law 1350 = .ok (.aload_n 0, 1) := by decide +kernel
theorem dL_law_1351 : decode cL_law 1351 = .ok (.iload_n 3, 1) := by decide +kernel
theorem dL_law_1352 : decode cL_law 1352 = .ok (.iconst 1, 1) := by decide +kernel
theorem dL_law_1353 : decode cL_law 1353 = .ok (.iadd, 1) := by decide +kernel
theorem dL_law_1354 : decode cL_law 1354 = .ok (.iaload, 1) := by decide +kernel
theorem dL_law_1355 : decode cL_law 1355 = .ok (.aload_n 0, 1) := by decide +kernel
theorem dL_law_1356 : decode cL_law 1356 = .ok (.iload_n 3, 1) := by decide +kernel
theorem dL_law_1357 : decode cL_law 1357 = .ok (.iconst 2, 1) := by decide +kernel
theorem dL_law_1358 : decode cL_law 1358 = .ok (.iadd, 1) := by decide +kernel
theorem dL_law_1359 : decode cL_law 1359 = .ok (.iaload, 1) := by decide +kernel
theorem dL_law_1360 : decode cL_law 1360 = .ok (.aload_n 0, 1) := by decide +kernel
theorem dL_law_1361 : decode cL_law 1361 = .ok (.iload_n 3, 1) := by decide +kernel
theorem dL_law_1362 : decode cL_law 1362 = .ok (.iconst 3, 1) := by decide +kernel
theorem dL_law_1363 : decode cL_law 1363 = .ok (.iadd, 1) := by decide +kernel
theorem dL_law_1364 : decode cL_law 1364 = .ok (.iaload, 1) := by decide +kernel
theorem dL_law_1365 : decode cL_law 1365 = .ok (.invokevirtual 157, 3) := by decide +kernel
theorem dL_law_1368 : decode cL_law 1368 = .ok (.if_icmp .eq 438, 3) := by decide +kernel
theorem dL_law_1371 : decode cL_law 1371 = .ok (.iconst 0, 1) := by decide +kernel
theorem dL_law_1372 : decode cL_law 1372 = .ok (.ireturn, 1) := by decide +kernel
theorem dL_law_1373 : decode cL_law 1373 = .ok (.aload_n 1, 1) := by decide +kernel
theorem dL_law_1374 : decode cL_law 1374 = .ok (.aload_n 0, 1) := by decide +kernel
theorem dL_law_1375 : decode cL_law 1375 = .ok (.iload_n 3, 1) := by decide +kernel
theorem dL_law_1376 : decode cL_law 1376 = .ok (.iconst 1, 1) := by decide +kernel
theorem dL_law_1377 : decode cL_law 1377 = .ok (.iadd, 1) := by decide +kernel
theorem dL_law_1378 : decode cL_law 1378 = .ok (.iaload, 1) := by decide +kernel
theorem dL_law_1379 : decode cL_law 1379 = .ok (.aload_n 0, 1) := by decide +kernel
theorem dL_law_1380 : decode cL_law 1380 = .ok (.iload_n 3, 1) := by decide +kernel
theorem dL_law_1381 : decode cL_law 1381 = .ok (.iconst 2, 1) := by decide +kernel
theorem dL_law_1382 : decode cL_law 1382 = .ok (.iadd, 1) := by decide +kernel
theorem dL_law_1383 : decode cL_law 1383 = .ok (.iaload, 1) := by decide +kernel
theorem dL_law_1384 : decode cL_law 1384 = .ok (.aload_n 0, 1) := by decide +kernel
theorem dL_law_1385 : decode cL_law 1385 = .ok (.iload_n 3, 1) := by decide +kernel
theorem dL_law_1386 : decode cL_law 1386 = .ok (.iconst 3, 1) := by decide +kernel
theorem dL_law_1387 : decode cL_law 1387 = .ok (.iadd, 1) := by decide +kernel
theorem dL_law_1388 : decode cL_law 1388 = .ok (.iaload, 1) := by decide +kernel
theorem dL_law_1389 : decode cL_law 1389 = .ok (.invokevirtual 158, 3) := by decide +kernel
theorem dL_law_1392 : decode cL_law 1392 = .ok (.aload_n 2, 1) := by decide +kernel
theorem dL_law_1393 : decode cL_law 1393 = .ok (.aload_n 0, 1) := by decide +kernel
theorem dL_law_1394 : decode cL_law 1394 = .ok (.iload_n 3, 1) := by decide +kernel
theorem dL_law_1395 : decode cL_law 1395 = .ok (.iconst 1, 1) := by decide +kernel
theorem dL_law_1396 : decode cL_law 1396 = .ok (.iadd, 1) := by decide +kernel
theorem dL_law_1397 : decode cL_law 1397 = .ok (.iaload, 1) := by decide +kernel
theorem dL_law_1398 : decode cL_law 1398 = .ok (.aload_n 0, 1) := by decide +kernel
theorem dL_law_1399 : decode cL_law 1399 = .ok (.iload_n 3, 1) := by decide +kernel
theorem dL_law_1400 : decode cL_law 1400 = .ok (.iconst 2, 1) := by decide +kernel
theorem dL_law_1401 : decode cL_law 1401 = .ok (.iadd, 1) := by decide +kernel
theorem dL_law_1402 : decode cL_law 1402 = .ok (.iaload, 1) := by decide +kernel
theorem dL_law_1403 : decode cL_law 1403 = .ok (.aload_n 0, 1) := by decide +kernel
theorem dL_law_1404 : decode cL_law 1404 = .ok (.iload_n 3, 1) := by decide +kernel
theorem dL_law_1405 : decode cL_law 1405 = .ok (.iconst 3, 1) := by decide +kernel
theorem dL_law_1406 : decode cL_law 1406 = .ok (.iadd, 1) := by decide +kernel
theorem dL_law_1407 : decode cL_law 1407 = .ok (.iaload, 1) := by decide +kernel
theorem dL_law_1408 : decode cL_law 1408 = .ok (.invokevirtual 161, 3) := by decide +kernel
theorem dL_law_1411 : decode cL_law 1411 = .ok (.if_icmp .eq 395, 3) := by decide +kernel
theorem dL_law_1414 : decode cL_law 1414 = .ok (.iconst 0, 1) := by decide +kernel
theorem dL_law_1415 : decode cL_law 1415 = .ok (.ireturn, 1) := by decide +kernel
theorem dL_law_1416 : decode cL_law 1416 = .ok (.aload_n 1, 1) := by decide +kernel
theorem dL_law_1417 : decode cL_law 1417 = .ok (.aload_n 0, 1) := by decide +kernel
theorem dL_law_1418 : decode cL_law 1418 = .ok (.iload_n 3, 1) := by decide +kernel
theorem dL_law_1419 : decode cL_law 1419 = .ok (.iconst 1, 1) := by decide +kernel
theorem dL_law_1420 : decode cL_law 1420 = .ok (.iadd, 1) := by decide +kernel
theorem dL_law_1421 : decode cL_law 1421 = .ok (.iaload, 1) := by decide +kernel
theorem dL_law_1422 : decode cL_law 1422 = .ok (.aload_n 0, 1) := by decide +kernel
theorem dL_law_1423 : decode cL_law 1423 = .ok (.iload_n 3, 1) := by decide +kernel
theorem dL_law_1424 : decode cL_law 1424 = .ok (.iconst 2, 1) := by decide +kernel
theorem dL_law_1425 : decode cL_law 1425 = .ok (.iadd, 1) := by decide +kernel
theorem dL_law_1426 : decode cL_law 1426 = .ok (.iaload, 1) := by decide +kernel
theorem dL_law_1427 : decode cL_law 1427 = .ok (.aload_n 0, 1) := by decide +kernel
theorem dL_law_1428 : decode cL_law 1428 = .ok (.iload_n 3, 1) := by decide +kernel
theorem dL_law_1429 : decode cL_law 1429 = .ok (.iconst 3, 1) := by decide +kernel
theorem dL_law_1430 : decode cL_law 1430 = .ok (.iadd, 1) := by decide +kernel
theorem dL_law_1431 : decode cL_law 1431 = .ok (.iaload, 1) := by decide +kernel
theorem dL_law_1432 : decode cL_law 1432 = .ok (.aload_n 0, 1) := by decide +kernel
theorem dL_law_1433 : decode cL_law 1433 = .ok (.iload_n 3, 1) := by decide +kernel
theorem dL_law_1434 : decode cL_law 1434 = .ok (.iconst 4, 1) := by decide +kernel
theorem dL_law_1435 : decode cL_law 1435 = .ok (.iadd, 1) := by decide +kernel
theorem dL_law_1436 : decode cL_law 1436 = .ok (.iaload, 1) := by decide +kernel
theorem dL_law_1437 : decode cL_law 1437 = .ok (.invokevirtual 162, 3) := by decide +kernel
theorem dL_law_1440 : decode cL_law 1440 = .ok (.aload_n 2, 1) := by decide +kernel
theorem dL_law_1441 : decode cL_law 1441 = .ok (.aload_n 0, 1) := by decide +kernel
theorem dL_law_1442 : decode cL_law 1442 = .ok (.iload_n 3, 1) := by decide +kernel
theorem dL_law_1443 : decode cL_law 1443 = .ok (.iconst 1, 1) := by decide +kernel
theorem dL_law_1444 : decode cL_law 1444 = .ok (.iadd, 1) := by decide +kernel
theorem dL_law_1445 : decode cL_law 1445 = .ok (.iaload, 1) := by decide +kernel
theorem dL_law_1446 : decode cL_law 1446 = .ok (.aload_n 0, 1) := by decide +kernel
theorem dL_law_1447 : decode cL_law 1447 = .ok (.iload_n 3, 1) := by decide +kernel
theorem dL_law_1448 : decode cL_law 1448 = .ok (.iconst 2, 1) := by decide +kernel
theorem dL_law_1449 : decode cL_law 1449 = .ok (.iadd, 1) := by decide +kernel
theorem dL_law_1450 : decode cL_law 1450 = .ok (.iaload, 1) := by decide +kernel
theorem dL_law_1451 : decode cL_law 1451 = .ok (.aload_n 0, 1) := by decide +kernel
theorem dL_law_1452 : decode cL_law 1452 = .ok (.iload_n 3, 1) := by decide +kernel
theorem dL_law_1453 : decode cL_law 1453 = .ok (.iconst 3, 1) := by decide +kernel
theorem dL_law_1454 : decode cL_law 1454 = .ok (.iadd, 1) := by decide +kernel
theorem dL_law_1455 : decode cL_law 1455 = .ok (.iaload, 1) := by decide +kernel
theorem dL_law_1456 : decode cL_law 1456 = .ok (.aload_n 0, 1) := by decide +kernel
theorem dL_law_1457 : decode cL_law 1457 = .ok (.iload_n 3, 1) := by decide +kernel
theorem dL_law_1458 : decode cL_law 1458 = .ok (.iconst 4, 1) := by decide +kernel
theorem dL_law_1459 : decode cL_law 1459 = .ok (.iadd, 1) := by decide +kernel
theorem dL_law_1460 : decode cL_law 1460 = .ok (.iaload, 1) := by decide +kernel
theorem dL_law_1461 : decode cL_law 1461 = .ok (.invokevirtual 165, 3) := by decide +kernel
theorem dL_law_1464 : decode cL_law 1464 = .ok (.if_icmp .eq 342, 3) := by decide +kernel
theorem dL_law_1467 : decode cL_law 1467 = .ok (.iconst 0, 1) := by decide +kernel
theorem dL_law_1468 : decode cL_law 1468 = .ok (.ireturn, 1) := by decide +kernel
theorem dL_law_1469 : decode cL_law 1469 = .ok (.aload_n 1, 1) := by decide +kernel
theorem dL_law_1470 : decode cL_law 1470 = .ok (.aload_n 0, 1) := by decide +kernel
theorem dL_law_1471 : decode cL_law 1471 = .ok (.iload_n 3, 1) := by decide +kernel
theorem dL_law_1472 : decode cL_law 1472 = .ok (.iconst 1, 1) := by decide +kernel
theorem dL_law_1473 : decode cL_law 1473 = .ok (.iadd, 1) := by decide +kernel
theorem dL_law_1474 : decode cL_law 1474 = .ok (.iaload, 1) := by decide +kernel
theorem dL_law_1475 : decode cL_law 1475 = .ok (.aload_n 0, 1) := by decide +kernel
theorem dL_law_1476 : decode cL_law 1476 = .ok (.iload_n 3, 1) := by decide +kernel
theorem dL_law_1477 : decode cL_law 1477 = .ok (.iconst 2, 1) := by decide +kernel
theorem dL_law_1478 : decode cL_law 1478 = .ok (.iadd, 1) := by decide +kernel
theorem dL_law_1479 : decode cL_law 1479 = .ok (.iaload, 1) := by decide +kernel
theorem dL_law_1480 : decode cL_law 1480 = .ok (.aload_n 0, 1) := by decide +kernel
theorem dL_law_1481 : decode cL_law 1481 = .ok (.iload_n 3, 1) := by decide +kernel
theorem dL_law_1482 : decode cL_law 1482 = .ok (.iconst 3, 1) := by decide +kernel
theorem dL_law_1483 : decode cL_law 1483 = .ok (.iadd, 1) := by decide +kernel
theorem dL_law_1484 : decode cL_law 1484 = .ok (.iaload, 1) := by decide +kernel
theorem dL_law_1485 : decode cL_law 1485 = .ok (.aload_n 0, 1) := by decide +kernel
theorem dL_law_1486 : decode cL_law 1486 = .ok (.iload_n 3, 1) := by decide +kernel
theorem dL_law_1487 : decode cL_law 1487 = .ok (.iconst 4, 1) := by decide +kernel
theorem dL_law_1488 : decode cL_law 1488 = .ok (.iadd, 1) := by decide +kernel
theorem dL_law_1489 : decode cL_law 1489 = .ok (.iaload, 1) := by decide +kernel
theorem dL_law_1490 : decode cL_law 1490 = .ok (.aload_n 0, 1) := by decide +kernel
theorem dL_law_1491 : decode cL_law 1491 = .ok (.iload_n 3, 1) := by decide +kernel
theorem dL_law_1492 : decode cL_law 1492 = .ok (.iconst 5, 1) := by decide +kernel
theorem dL_law_1493 : decode cL_law 1493 = .ok (.iadd, 1) := by decide +kernel
theorem dL_law_1494 : decode cL_law 1494 = .ok (.iaload, 1) := by decide +kernel
theorem dL_law_1495 : decode cL_law 1495 = .ok (.aload_n 0, 1) := by decide +kernel
theorem dL_law_1496 : decode cL_law 1496 = .ok (.iload_n 3, 1) := by decide +kernel
theorem dL_law_1497 : decode cL_law 1497 = .ok (.bipush 6, 2) := by decide +kernel
theorem dL_law_1499 : decode cL_law 1499 = .ok (.iadd, 1) := by decide +kernel
theorem dL_law_1500 : decode cL_law 1500 = .ok (.iaload, 1) := by decide +kernel
theorem dL_law_1501 : decode cL_law 1501 = .ok (.invokevirtual 166, 3) := by decide +kernel
theorem dL_law_1504 : decode cL_law 1504 = .ok (.aload_n 2, 1) := by decide +kernel
theorem dL_law_1505 : decode cL_law 1505 = .ok (.aload_n 0, 1) := by decide +kernel
theorem dL_law_1506 : decode cL_law 1506 = .ok (.iload_n 3, 1) := by decide +kernel
theorem dL_law_1507 : decode cL_law 1507 = .ok (.iconst 1, 1) := by decide +kernel
theorem dL_law_1508 : decode cL_law 1508 = .ok (.iadd, 1) := by decide +kernel
theorem dL_law_1509 : decode cL_law 1509 = .ok (.iaload, 1) := by decide +kernel
theorem dL_law_1510 : decode cL_law 1510 = .ok (.aload_n 0, 1) := by decide +kernel
theorem dL_law_1511 : decode cL_law 1511 = .ok (.iload_n 3, 1) := by decide +kernel
theorem dL_law_1512 : decode cL_law 1512 = .ok (.iconst 2, 1) := by decide +kernel
theorem dL_law_1513 : decode cL_law 1513 = .ok (.iadd, 1) := by decide +kernel
theorem dL_law_1514 : decode cL_law 1514 = .ok (.iaload, 1) := by decide +kernel
theorem dL_law_1515 : decode cL_law 1515 = .ok (.aload_n 0, 1) := by decide +kernel
theorem dL_law_1516 : decode cL_law 1516 = .ok (.iload_n 3, 1) := by decide +kernel
theorem dL_law_1517 : decode cL_law 1517 = .ok (.iconst 3, 1) := by decide +kernel
theorem dL_law_1518 : decode cL_law 1518 = .ok (.iadd, 1) := by decide +kernel
theorem dL_law_1519 : decode cL_law 1519 = .ok (.iaload, 1) := by decide +kernel
theorem dL_law_1520 : decode cL_law 1520 = .ok (.aload_n 0, 1) := by decide +kernel
theorem dL_law_1521 : decode cL_law 1521 = .ok (.iload_n 3, 1) := by decide +kernel
theorem dL_law_1522 : decode cL_law 1522 = .ok (.iconst 4, 1) := by decide +kernel
theorem dL_law_1523 : decode cL_law 1523 = .ok (.iadd, 1) := by decide +kernel
theorem dL_law_1524 : decode cL_law 1524 = .ok (.iaload, 1) := by decide +kernel
theorem dL_law_1525 : decode cL_law 1525 = .ok (.aload_n 0, 1) := by decide +kernel
theorem dL_law_1526 : decode cL_law 1526 = .ok (.iload_n 3, 1) := by decide +kernel
theorem dL_law_1527 : decode cL_law 1527 = .ok (.iconst 5, 1) := by decide +kernel
theorem dL_law_1528 : decode cL_law 1528 = .ok (.iadd, 1) := by decide +kernel
theorem dL_law_1529 : decode cL_law 1529 = .ok (.iaload, 1) := by decide +kernel
theorem dL_law_1530 : decode cL_law 1530 = .ok (.aload_n 0, 1) := by decide +kernel
theorem dL_law_1531 : decode cL_law 1531 = .ok (.iload_n 3, 1) := by decide +kernel
theorem dL_law_1532 : decode cL_law 1532 = .ok (.bipush 6, 2) := by decide +kernel
theorem dL_law_1534 : decode cL_law 1534 = .ok (.iadd, 1) := by decide +kernel
theorem dL_law_1535 : decode cL_law 1535 = .ok (.iaload, 1) := by decide +kernel
theorem dL_law_1536 : decode cL_law 1536 = .ok (.invokevirtual 170, 3) := by decide +kernel
theorem dL_law_1539 : decode cL_law 1539 = .ok (.lcmp, 1) := by decide +kernel
theorem dL_law_1540 : decode cL_law 1540 = .ok (.ifCond .eq 266, 3) := by decide +kernel
theorem dL_law_1543 : decode cL_law 1543 = .ok (.iconst 0, 1) := by decide +kernel
theorem dL_law_1544 : decode cL_law 1544 = .ok (.ireturn, 1) := by decide +kernel
theorem dL_law_1545 : decode cL_law 1545 = .ok (.aload_n 1, 1) := by decide +kernel
theorem dL_law_1546 : decode cL_law 1546 = .ok (.invokevirtual 171, 3) := by decide +kernel
theorem dL_law_1549 : decode cL_law 1549 = .ok (.aload_n 2, 1) := by decide +kernel
theorem dL_law_1550 : decode cL_law 1550 = .ok (.invokevirtual 174, 3) := by decide +kernel
theorem dL_law_1553 : decode cL_law 1553 = .ok (.if_icmp .eq 253, 3) := by decide +kernel
theorem dL_law_1556 : decode cL_law 1556 = .ok (.iconst 0, 1) := by decide +kernel
theorem dL_law_1557 : decode cL_law 1557 = .ok (.ireturn, 1) := by decide +kernel
theorem dL_law_1558 : decode cL_law 1558 = .ok (.aload_n 1, 1) := by decide +kernel
theorem dL_law_1559 : decode cL_law 1559 = .ok (.invokevirtual 175, 3) := by decide +kernel
theorem dL_law_1562 : decode cL_law 1562 = .ok (.aload_n 2, 1) := by decide +kernel
theorem dL_law_1563 : decode cL_law 1563 = .ok (.invokevirtual 178, 3) := by decide +kernel
theorem dL_law_1566 : decode cL_law 1566 = .ok (.if_icmp .eq 240, 3) := by decide +kernel
theorem dL_law_1569 : decode cL_law 1569 = .ok (.iconst 0, 1) := by decide +kernel
theorem dL_law_1570 : decode cL_law 1570 = .ok (.ireturn, 1) := by decide +kernel
theorem dL_law_1571 : decode cL_law 1571 = .ok (.aload_n 1, 1) := by decide +kernel
theorem dL_law_1572 : decode cL_law 1572 = .ok (.aload_n 0, 1) := by decide +kernel
theorem dL_law_1573 : decode cL_law 1573 = .ok (.iload_n 3, 1) := by decide +kernel
theorem dL_law_1574 : decode cL_law 1574 = .ok (.iconst 1, 1) := by decide +kernel
theorem dL_law_1575 : decode cL_law 1575 = .ok (.iadd, 1) := by decide +kernel
theorem dL_law_1576 : decode cL_law 1576 = .ok (.iaload, 1) := by decide +kernel
theorem dL_law_1577 : decode cL_law 1577 = .ok (.aload_n 0, 1) := by decide +kernel
theorem dL_law_1578 : decode cL_law 1578 = .ok (.iload_n 3, 1) := by decide +kernel
theorem dL_law_1579 : decode cL_law 1579 = .ok (.iconst 2, 1) := by decide +kernel
theorem dL_law_1580 : decode cL_law 1580 = .ok (.iadd, 1) := by decide +kernel
theorem dL_law_1581 : decode cL_law 1581 = .ok (.iaload, 1) := by decide +kernel
theorem dL_law_1582 : decode cL_law 1582 = .ok (.aload_n 0, 1) := by decide +kernel
theorem dL_law_1583 : decode cL_law 1583 = .ok (.iload_n 3, 1) := by decide +kernel
theorem dL_law_1584 : decode cL_law 1584 = .ok (.iconst 3, 1) := by decide +kernel
theorem dL_law_1585 : decode cL_law 1585 = .ok (.iadd, 1) := by decide +kernel
theorem dL_law_1586 : decode cL_law 1586 = .ok (.iaload, 1) := by decide +kernel
theorem dL_law_1587 : decode cL_law 1587 = .ok (.invokevirtual 179, 3) := by decide +kernel
theorem dL_law_1590 : decode cL_law 1590 = .ok (.aload_n 2, 1) := by decide +kernel
theorem dL_law_1591 : decode cL_law 1591 = .ok (.aload_n 0, 1) := by decide +kernel
theorem dL_law_1592 : decode cL_law 1592 = .ok (.iload_n 3, 1) := by decide +kernel
theorem dL_law_1593 : decode cL_law 1593 = .ok (.iconst 1, 1) := by decide +kernel
theorem dL_law_1594 : decode cL_law 1594 = .ok (.iadd, 1) := by decide +kernel
theorem dL_law_1595 : decode cL_law 1595 = .ok (.iaload, 1) := by decide +kernel
theorem dL_law_1596 : decode cL_law 1596 = .ok (.aload_n 0, 1) := by decide +kernel
theorem dL_law_1597 : decode cL_law 1597 = .ok (.iload_n 3, 1) := by decide +kernel
theorem dL_law_1598 : decode cL_law 1598 = .ok (.iconst 2, 1) := by decide +kernel
theorem dL_law_1599 : decode cL_law 1599 = .ok (.iadd, 1) := by decide +kernel
theorem dL_law_1600 : decode cL_law 1600 = .ok (.iaload, 1) := by decide +kernel
theorem dL_law_1601 : decode cL_law 1601 = .ok (.aload_n 0, 1) := by decide +kernel
theorem dL_law_1602 : decode cL_law 1602 = .ok (.iload_n 3, 1) := by decide +kernel
theorem dL_law_1603 : decode cL_law 1603 = .ok (.iconst 3, 1) := by decide +kernel
theorem dL_law_1604 : decode cL_law 1604 = .ok (.iadd, 1) := by decide +kernel
theorem dL_law_1605 : decode cL_law 1605 = .ok (.iaload, 1) := by decide +kernel
theorem dL_law_1606 : decode cL_law 1606 = .ok (.invokevirtual 182, 3) := by decide +kernel
theorem dL_law_1609 : decode cL_law 1609 = .ok (.if_icmp .eq 197, 3) := by decide +kernel
theorem dL_law_1612 : decode cL_law 1612 = .ok (.iconst 0, 1) := by decide +kernel
theorem dL_law_1613 : decode cL_law 1613 = .ok (.ireturn, 1) := by decide +kernel
theorem dL_law_1614 : decode cL_law 1614 = .ok (.aload_n 1, 1) := by decide +kernel
theorem dL_law_1615 : decode cL_law 1615 = .ok (.aload_n 0, 1) := by decide +kernel
theorem dL_law_1616 : decode cL_law 1616 = .ok (.iload_n 3, 1) := by decide +kernel
theorem dL_law_1617 : decode cL_law 1617 = .ok (.iconst 1, 1) := by decide +kernel
theorem dL_law_1618 : decode cL_law 1618 = .ok (.iadd, 1) := by decide +kernel
theorem dL_law_1619 : decode cL_law 1619 = .ok (.iaload, 1) := by decide +kernel
theorem dL_law_1620 : decode cL_law 1620 = .ok (.aload_n 0, 1) := by decide +kernel
theorem dL_law_1621 : decode cL_law 1621 = .ok (.iload_n 3, 1) := by decide +kernel
theorem dL_law_1622 : decode cL_law 1622 = .ok (.iconst 2, 1) := by decide +kernel
theorem dL_law_1623 : decode cL_law 1623 = .ok (.iadd, 1) := by decide +kernel
theorem dL_law_1624 : decode cL_law 1624 = .ok (.iaload, 1) := by decide +kernel
theorem dL_law_1625 : decode cL_law 1625 = .ok (.aload_n 0, 1) := by decide +kernel
theorem dL_law_1626 : decode cL_law 1626 = .ok (.iload_n 3, 1) := by decide +kernel
theorem dL_law_1627 : decode cL_law 1627 = .ok (.iconst 3, 1) := by decide +kernel
theorem dL_law_1628 : decode cL_law 1628 = .ok (.iadd, 1) := by decide +kernel
theorem dL_law_1629 : decode cL_law 1629 = .ok (.iaload, 1) := by decide +kernel
theorem dL_law_1630 : decode cL_law 1630 = .ok (.invokevirtual 183, 3) := by decide +kernel
theorem dL_law_1633 : decode cL_law 1633 = .ok (.aload_n 2, 1) := by decide +kernel
theorem dL_law_1634 : decode cL_law 1634 = .ok (.aload_n 0, 1) := by decide +kernel
theorem dL_law_1635 : decode cL_law 1635 = .ok (.iload_n 3, 1) := by decide +kernel
theorem dL_law_1636 : decode cL_law 1636 = .ok (.iconst 1, 1) := by decide +kernel
theorem dL_law_1637 : decode cL_law 1637 = .ok (.iadd, 1) := by decide +kernel
theorem dL_law_1638 : decode cL_law 1638 = .ok (.iaload, 1) := by decide +kernel
theorem dL_law_1639 : decode cL_law 1639 = .ok (.aload_n 0, 1) := by decide +kernel
theorem dL_law_1640 : decode cL_law 1640 = .ok (.iload_n 3, 1) := by decide +kernel
theorem dL_law_1641 : decode cL_law 1641 = .ok (.iconst 2, 1) := by decide +kernel
theorem dL_law_1642 : decode cL_law 1642 = .ok (.iadd, 1) := by decide +kernel
theorem dL_law_1643 : decode cL_law 1643 = .ok (.iaload, 1) := by decide +kernel
theorem dL_law_1644 : decode cL_law 1644 = .ok (.aload_n 0, 1) := by decide +kernel
theorem dL_law_1645 : decode cL_law 1645 = .ok (.iload_n 3, 1) := by decide +kernel
theorem dL_law_1646 : decode cL_law 1646 = .ok (.iconst 3, 1) := by decide +kernel
theorem dL_law_1647 : decode cL_law 1647 = .ok (.iadd, 1) := by decide +kernel
theorem dL_law_1648 : decode cL_law 1648 = .ok (.iaload, 1) := by decide +kernel
theorem dL_law_1649 : decode cL_law 1649 = .ok (.invokevirtual 186, 3) := by decide +kernel
theorem dL_law_1652 : decode cL_law 1652 = .ok (.if_icmp .eq 154, 3) := by decide +kernel
theorem dL_law_1655 : decode cL_law 1655 = .ok (.iconst 0, 1) := by decide +kernel
theorem dL_law_1656 : decode cL_law 1656 = .ok (.ireturn, 1) := by decide +kernel
theorem dL_law_1657 : decode cL_law 1657 = .ok (.aload_n 1, 1) := by decide +kernel
theorem dL_law_1658 : decode cL_law 1658 = .ok (.aload_n 0, 1) := by decide +kernel
theorem dL_law_1659 : decode cL_law 1659 = .ok (.iload_n 3, 1) := by decide +kernel
theorem dL_law_1660 : decode cL_law 1660 = .ok (.iconst 1, 1) := by decide +kernel
theorem dL_law_1661 : decode cL_law 1661 = .ok (.iadd, 1) := by decide +kernel
theorem dL_law_1662 : decode cL_law 1662 = .ok (.iaload, 1) := by decide +kernel
theorem dL_law_1663 : decode cL_law 1663 = .ok (.aload_n 0, 1) := by decide +kernel
theorem dL_law_1664 : decode cL_law 1664 = .ok (.iload_n 3, 1) := by decide +kernel
theorem dL_law_1665 : decode cL_law 1665 = .ok (.iconst 2, 1) := by decide +kernel
theorem dL_law_1666 : decode cL_law 1666 = .ok (.iadd, 1) := by decide +kernel
theorem dL_law_1667 : decode cL_law 1667 = .ok (.iaload, 1) := by decide +kernel
theorem dL_law_1668 : decode cL_law 1668 = .ok (.aload_n 0, 1) := by decide +kernel
theorem dL_law_1669 : decode cL_law 1669 = .ok (.iload_n 3, 1) := by decide +kernel
theorem dL_law_1670 : decode cL_law 1670 = .ok (.iconst 3, 1) := by decide +kernel
theorem dL_law_1671 : decode cL_law 1671 = .ok (.iadd, 1) := by decide +kernel
theorem dL_law_1672 : decode cL_law 1672 = .ok (.iaload, 1) := by decide +kernel
theorem dL_law_1673 : decode cL_law 1673 = .ok (.aload_n 0, 1) := by decide +kernel
theorem dL_law_1674 : decode cL_law 1674 = .ok (.iload_n 3, 1) := by decide +kernel
theorem dL_law_1675 : decode cL_law 1675 = .ok (.iconst 4, 1) := by decide +kernel
theorem dL_law_1676 : decode cL_law 1676 = .ok (.iadd, 1) := by decide +kernel
theorem dL_law_1677 : decode cL_law 1677 = .ok (.iaload, 1) := by decide +kernel
theorem dL_law_1678 : decode cL_law 1678 = .ok (.aload_n 0, 1) := by decide +kernel
theorem dL_law_1679 : decode cL_law 1679 = .ok (.iload_n 3, 1) := by decide +kernel
theorem dL_law_1680 : decode cL_law 1680 = .ok (.iconst 5, 1) := by decide +kernel
theorem dL_law_1681 : decode cL_law 1681 = .ok (.iadd, 1) := by decide +kernel
theorem dL_law_1682 : decode cL_law 1682 = .ok (.iaload, 1) := by decide +kernel
theorem dL_law_1683 : decode cL_law 1683 = .ok (.invokevirtual 187, 3) := by decide +kernel
theorem dL_law_1686 : decode cL_law 1686 = .ok (.aload_n 2, 1) := by decide +kernel
theorem dL_law_1687 : decode cL_law 1687 = .ok (.aload_n 0, 1) := by decide +kernel
theorem dL_law_1688 : decode cL_law 1688 = .ok (.iload_n 3, 1) := by decide +kernel
theorem dL_law_1689 : decode cL_law 1689 = .ok (.iconst 1, 1) := by decide +kernel
theorem dL_law_1690 : decode cL_law 1690 = .ok (.iadd, 1) := by decide +kernel
theorem dL_law_1691 : decode cL_law 1691 = .ok (.iaload, 1) := by decide +kernel
theorem dL_law_1692 : decode cL_law 1692 = .ok (.aload_n 0, 1) := by decide +kernel
theorem dL_law_1693 : decode cL_law 1693 = .ok (.iload_n 3, 1) := by decide +kernel
theorem dL_law_1694 : decode cL_law 1694 = .ok (.iconst 2, 1) := by decide +kernel
theorem dL_law_1695 : decode cL_law 1695 = .ok (.iadd, 1) := by decide +kernel
theorem dL_law_1696 : decode cL_law 1696 = .ok (.iaload, 1) := by decide +kernel
theorem dL_law_1697 : decode cL_law 1697 = .ok (.aload_n 0, 1) := by decide +kernel
theorem dL_law_1698 : decode cL_law 1698 = .ok (.iload_n 3, 1) := by decide +kernel
theorem dL_law_1699 : decode cL_law 1699 = .ok (.iconst 3, 1) := by decide +kernel
theorem dL_law_1700 : decode cL_law 1700 = .ok (.iadd, 1) := by decide +kernel
theorem dL_law_1701 : decode cL_law 1701 = .ok (.iaload, 1) := by decide +kernel
theorem dL_law_1702 : decode cL_law 1702 = .ok (.aload_n 0, 1) := by decide +kernel
theorem dL_law_1703 : decode cL_law 1703 = .ok (.iload_n 3, 1) := by decide +kernel
theorem dL_law_1704 : decode cL_law 1704 = .ok (.iconst 4, 1) := by decide +kernel
theorem dL_law_1705 : decode cL_law 1705 = .ok (.iadd, 1) := by decide +kernel
theorem dL_law_1706 : decode cL_law 1706 = .ok (.iaload, 1) := by decide +kernel
theorem dL_law_1707 : decode cL_law 1707 = .ok (.aload_n 0, 1) := by decide +kernel
theorem dL_law_1708 : decode cL_law 1708 = .ok (.iload_n 3, 1) := by decide +kernel
theorem dL_law_1709 : decode cL_law 1709 = .ok (.iconst 5, 1) := by decide +kernel
theorem dL_law_1710 : decode cL_law 1710 = .ok (.iadd, 1) := by decide +kernel
theorem dL_law_1711 : decode cL_law 1711 = .ok (.iaload, 1) := by decide +kernel
theorem dL_law_1712 : decode cL_law 1712 = .ok (.invokevirtual 191, 3) := by decide +kernel
theorem dL_law_1715 : decode cL_law 1715 = .ok (.if_icmp .eq 91, 3) := by decide +kernel
theorem dL_law_1718 : decode cL_law 1718 = .ok (.iconst 0, 1) := by decide +kernel
theorem dL_law_1719 : decode cL_law 1719 = .ok (.ireturn, 1) := by decide +kernel
theorem dL_law_1720 : decode cL_law 1720 = .ok (.aload_n 1, 1) := by decide +kernel
theorem dL_law_1721 : decode cL_law 1721 = .ok (.aload_n 0, 1) := by decide +kernel
theorem dL_law_1722 : decode cL_law 1722 = .ok (.iload_n 3, 1) := by decide +kernel
theorem dL_law_1723 : decode cL_law 1723 = .ok (.iconst 1, 1) := by decide +kernel
theorem dL_law_1724 : decode cL_law 1724 = .ok (.iadd, 1) := by decide +kernel
theorem dL_law_1725 : decode cL_law 1725 = .ok (.iaload, 1) := by decide +kernel
theorem dL_law_1726 : decode cL_law 1726 = .ok (.aload_n 0, 1) := by decide +kernel
theorem dL_law_1727 : decode cL_law 1727 = .ok (.iload_n 3, 1) := by decide +kernel
theorem dL_law_1728 : decode cL_law 1728 = .ok (.iconst 2, 1) := by decide +kernel
theorem dL_law_1729 : decode cL_law 1729 = .ok (.iadd, 1) := by decide +kernel
theorem dL_law_1730 : decode cL_law 1730 = .ok (.iaload, 1) := by decide +kernel
theorem dL_law_1731 : decode cL_law 1731 = .ok (.aload_n 0, 1) := by decide +kernel
theorem dL_law_1732 : decode cL_law 1732 = .ok (.iload_n 3, 1) := by decide +kernel
theorem dL_law_1733 : decode cL_law 1733 = .ok (.iconst 3, 1) := by decide +kernel
theorem dL_law_1734 : decode cL_law 1734 = .ok (.iadd, 1) := by decide +kernel
theorem dL_law_1735 : decode cL_law 1735 = .ok (.iaload, 1) := by decide +kernel
theorem dL_law_1736 : decode cL_law 1736 = .ok (.aload_n 0, 1) := by decide +kernel
theorem dL_law_1737 : decode cL_law 1737 = .ok (.iload_n 3, 1) := by decide +kernel
theorem dL_law_1738 : decode cL_law 1738 = .ok (.iconst 4, 1) := by decide +kernel
theorem dL_law_1739 : decode cL_law 1739 = .ok (.iadd, 1) := by decide +kernel
theorem dL_law_1740 : decode cL_law 1740 = .ok (.iaload, 1) := by decide +kernel
theorem dL_law_1741 : decode cL_law 1741 = .ok (.invokevirtual 192, 3) := by decide +kernel
theorem dL_law_1744 : decode cL_law 1744 = .ok (.aload_n 2, 1) := by decide +kernel
theorem dL_law_1745 : decode cL_law 1745 = .ok (.aload_n 0, 1) := by decide +kernel
theorem dL_law_1746 : decode cL_law 1746 = .ok (.iload_n 3, 1) := by decide +kernel
theorem dL_law_1747 : decode cL_law 1747 = .ok (.iconst 1, 1) := by decide +kernel
theorem dL_law_1748 : decode cL_law 1748 = .ok (.iadd, 1) := by decide +kernel
theorem dL_law_1749 : decode cL_law 1749 = .ok (.iaload, 1) := by decide +kernel
theorem dL_law_1750 : decode cL_law 1750 = .ok (.aload_n 0, 1) := by decide +kernel
theorem dL_law_1751 : decode cL_law 1751 = .ok (.iload_n 3, 1) := by decide +kernel
theorem dL_law_1752 : decode cL_law 1752 = .ok (.iconst 2, 1) := by decide +kernel
theorem dL_law_1753 : decode cL_law 1753 = .ok (.iadd, 1) := by decide +kernel
theorem dL_law_1754 : decode cL_law 1754 = .ok (.iaload, 1) := by decide +kernel
theorem dL_law_1755 : decode cL_law 1755 = .ok (.aload_n 0, 1) := by decide +kernel
theorem dL_law_1756 : decode cL_law 1756 = .ok (.iload_n 3, 1) := by decide +kernel
theorem dL_law_1757 : decode cL_law 1757 = .ok (.iconst 3, 1) := by decide +kernel
theorem dL_law_1758 : decode cL_law 1758 = .ok (.iadd, 1) := by decide +kernel
theorem dL_law_1759 : decode cL_law 1759 = .ok (.iaload, 1) := by decide +kernel
theorem dL_law_1760 : decode cL_law 1760 = .ok (.aload_n 0, 1) := by decide +kernel
theorem dL_law_1761 : decode cL_law 1761 = .ok (.iload_n 3, 1) := by decide +kernel
theorem dL_law_1762 : decode cL_law 1762 = .ok (.iconst 4, 1) := by decide +kernel
theorem dL_law_1763 : decode cL_law 1763 = .ok (.iadd, 1) := by decide +kernel
theorem dL_law_1764 : decode cL_law 1764 = .ok (.iaload, 1) := by decide +kernel
theorem dL_law_1765 : decode cL_law 1765 = .ok (.invokevirtual 195, 3) := by decide +kernel
theorem dL_law_1768 : decode cL_law 1768 = .ok (.if_icmp .eq 38, 3) := by decide +kernel
theorem dL_law_1771 : decode cL_law 1771 = .ok (.iconst 0, 1) := by decide +kernel
theorem dL_law_1772 : decode cL_law 1772 = .ok (.ireturn, 1) := by decide +kernel
theorem dL_law_1773 : decode cL_law 1773 = .ok (.aload_n 1, 1) := by decide +kernel
theorem dL_law_1774 : decode cL_law 1774 = .ok (.aload_n 0, 1) := by decide +kernel
theorem dL_law_1775 : decode cL_law 1775 = .ok (.iload_n 3, 1) := by decide +kernel
theorem dL_law_1776 : decode cL_law 1776 = .ok (.iconst 1, 1) := by decide +kernel
theorem dL_law_1777 : decode cL_law 1777 = .ok (.iadd, 1) := by decide +kernel
theorem dL_law_1778 : decode cL_law 1778 = .ok (.iaload, 1) := by decide +kernel
theorem dL_law_1779 : decode cL_law 1779 = .ok (.aload_n 0, 1) := by decide +kernel
theorem dL_law_1780 : decode cL_law 1780 = .ok (.iload_n 3, 1) := by decide +kernel
theorem dL_law_1781 : decode cL_law 1781 = .ok (.iconst 2, 1) := by decide +kernel
theorem dL_law_1782 : decode cL_law 1782 = .ok (.iadd, 1) := by decide +kernel
theorem dL_law_1783 : decode cL_law 1783 = .ok (.iaload, 1) := by decide +kernel
theorem dL_law_1784 : decode cL_law 1784 = .ok (.invokevirtual 196, 3) := by decide +kernel
theorem dL_law_1787 : decode cL_law 1787 = .ok (.aload_n 2, 1) := by decide +kernel
theorem dL_law_1788 : decode cL_law 1788 = .ok (.aload_n 0, 1) := by decide +kernel
theorem dL_law_1789 : decode cL_law 1789 = .ok (.iload_n 3, 1) := by decide +kernel
theorem dL_law_1790 : decode cL_law 1790 = .ok (.iconst 1, 1) := by decide +kernel
theorem dL_law_1791 : decode cL_law 1791 = .ok (.iadd, 1) := by decide +kernel
theorem dL_law_1792 : decode cL_law 1792 = .ok (.iaload, 1) := by decide +kernel
theorem dL_law_1793 : decode cL_law 1793 = .ok (.aload_n 0, 1) := by decide +kernel
theorem dL_law_1794 : decode cL_law 1794 = .ok (.iload_n 3, 1) := by decide +kernel
theorem dL_law_1795 : decode cL_law 1795 = .ok (.iconst 2, 1) := by decide +kernel
theorem dL_law_1796 : decode cL_law 1796 = .ok (.iadd, 1) := by decide +kernel
theorem dL_law_1797 : decode cL_law 1797 = .ok (.iaload, 1) := by decide +kernel
theorem dL_law_1798 : decode cL_law 1798 = .ok (.invokevirtual 199, 3) := by decide +kernel
theorem dL_law_1801 : decode cL_law 1801 = .ok (.if_icmp .eq 5, 3) := by decide +kernel
theorem dL_law_1804 : decode cL_law 1804 = .ok (.iconst 0, 1) := by decide +kernel
theorem dL_law_1805 : decode cL_law 1805 = .ok (.ireturn, 1) := by decide +kernel
theorem dL_law_1806 : decode cL_law 1806 = .ok (.iinc 3 7, 3) := by decide +kernel
theorem dL_law_1809 : decode cL_law 1809 = .ok (.goto (-1791), 3) := by decide +kernel
theorem dL_law_1812 : decode cL_law 1812 = .ok (.iconst 1, 1) := by decide +kernel
theorem dL_law_1813 : decode cL_law 1813 = .ok (.ireturn, 1) := by decide +kernel
end
section
/-! THE MINI HEAP: cells by small literal addresses, their numbers in two flat memories, references in the shape; a judgement over it that holds the kit's context inside -/
abbrev mh_F : Type := Nat ⊕ Option Nat
abbrev mh_C : Type := (Nat × List mh_F) ⊕ (Nat × Nat × (Nat → Option Nat))
abbrev mh_I : Type := Nat → Nat → Int32
abbrev mh_L : Type := Nat → Nat → Int64
def mh_ty : Nat → FieldType
  | 0 => .int
  | 1 => .long
  | 2 => .object RX2
  | _ => .object RX4
def mh_v (ad : Nat → Nat) : Value → Value
  | .ref a => .ref (ad a)
  | v => v
def mh_fv (ad : Nat → Nat) (I : mh_I) (L : mh_L) (a k : Nat) : mh_F → Value
  | .inl 0 => .int (I a k)
  | .inl (_ + 1) => .long (L a k)
  | .inr r => va_rf (r.map ad)
def mh_cell (ad : Nat → Nat) (cA : Nat → ClassId) (I : mh_I) (L : mh_L) (a : Nat) : mh_C → va_E
  | .inl (ci, fs) => .inr (ci, fs.mapIdx (fun k f => mh_fv ad I L a k f))
  | .inr (0, n, _) => .inl (cA a, n, .inl (I a))
  | .inr (1, n, _) => .inl (cA a, n, .inr (.inl (L a)))
  | .inr (_ + 2, n, r) => .inl (cA a, n, .inr (.inr (.inr (.inr (fun k => (r k).map ad)))))
def mh_ws (ad : Nat → Nat) (cA : Nat → ClassId) (sh : List mh_C) (I : mh_I) (L : mh_L) : va_W := sh.mapIdx (fun a c => (ad a, mh_cell ad cA I L a c))
/-- an int, a long written at a place of a cell -/
def mh_u (I : mh_I) (a k : Nat) (x : Int32) : mh_I := fun b j => if b = a ∧ j = k then x else I b j
def mh_ul (L : mh_L) (a k : Nat) (x : Int64) : mh_L := fun b j => if b = a ∧ j = k then x else L b j
/-- what is in the tables and stays true at a call -/
def mh_TB : List Cond := lw_tbl.filter goodWord
def mh_nest : Cond → Bool
  | .fieldLinkNest _ _ _ _ _ _ => true
  | .methodLinkNest _ _ _ _ => true
  | _ => false
def mh_NW : List Cond := tables_1.filter mh_nest
/-- the String constants: FIRST_LAW is the ref 1000, WORDS the ref 1001 -/
def mh_tx : List String := ["rub 10 + more - face * 3 ; minutes 2 + more ; seen 1 + face ;", " rub minutes seen or and not row place more pull face mended "]
def mh_byt : List (List Int32) := mh_tx.map (fun t => t.toList.map (fun ch => Int32.ofNat ch.toNat))
def mh_len : List Nat := mh_tx.map (fun t => t.length)
/-- what else holds at a method's start and isn't the method's to write -/
def mh_E (A : Nat → Prop) (ad : Nat → Nat) (U : State) : Prop :=
  (∀ w ∈ mh_NW, va_Nw w U) ∧ (vk_R RX5 51 (mh_tx.getD 0 "") (ad 1000) U ∧ vk_R RX3 84 (mh_tx.getD 1 "") (ad 1001) U) ∧
  (∃ adV : Nat → Nat, vk_S 2 mh_len mh_byt (fun i => ad (1000 + i)) adV A U U.heap) ∧ va_Z "java/lang/String" "COMPACT_STRINGS" "Z" (.int 1) A U U.heap ∧ (∃ t : Nat, va_Z "jdk/internal/util/Preconditions" "SIOOBE_FORMATTER" "Ljava/util/function/BiFunction;" (.ref t) A U U.heap) ∧ va_AO RX2 U ∧ va_AO RX4 U
abbrev mh_P : Type := Option Value → List mh_C → mh_I → mh_L → Prop
abbrev mh_X : Type := (Nat → Nat) → (Nat → Prop) → State → Prop
def mh_noX : mh_X := fun _ _ _ => True
def mh_B (D : va_G) (ad : Nat → Nat) (cA : Nat → ClassId) (A : Nat → Prop) (sh : List mh_C) (I : mh_I) (L : mh_L) (H : Heap) (U : State) : Prop :=
  va_P D vwCl (mh_ws ad cA sh I L) H ∧ va_D A (mh_ws ad cA sh I L) ∧ va_K D vwCl [] U ∧ ∀ (a t n : Nat) (r : Nat → Option Nat), sh[a]? = some (.inr (t, n, r)) → va_K D vwCl [(cA a, mh_ty t)] U
def mh_A (ad : Nat → Nat) (n sz : Nat) : Nat → Prop := fun q => (∃ a : Nat, a < n ∧ q = ad a) ∨ sz ≤ q
/-- a method's end, in the words of the mini heap -/
def mh_Q (D : va_G) (ad : Nat → Nat) (A : Nat → Prop) (n0 : Nat) (Φ : mh_P) : Array Value → State → Outcome → State → Prop := fun _ st oc t =>
  (∃ (r : Option Value) (cA : Nat → ClassId) (sh : List mh_C) (I : mh_I) (L : mh_L), oc = .returned (r.map (mh_v ad)) ∧ Φ r sh I L ∧ mh_B D ad cA A sh I L t.heap t ∧ sh.length < 1000 ∧ n0 ≤ sh.length) ∧ va_F A st t
/-- what stays through a method -/
def mh_K (own : String) (cc : ByteArray) (nL : Nat) (rt : Option FieldType) (ini : Bool) (n0 : Nat) (Ex : mh_X) (p : Program) (s : State) (m : MethodId) (args : Array Value) (meth : Method) (c : Code) (ad : Nat → Nat) (A : Nat → Prop) : Prop :=
  p.tables.exec = Jvm.exec ∧ c.code = cc ∧ c.maxLocals = nL ∧ meth.sig.returnType = rt ∧ meth.locks = false ∧ (ini = true → meth.name = "<init>") ∧ s.vm.findClass own = some m.cls ∧ (∀ w ∈ mh_TB, w.before args s = true) ∧ mh_E A ad s ∧ (∀ q : Nat, s.heap.size ≤ q → A q) ∧ (∀ a : Nat, n0 ≤ a → a < 1000 → ad a = s.heap.size + (a - n0)) ∧ Ex ad A s
/-- what moves -/
def mh_S (nL n0 : Nat) (s : State) (D : va_G) (ad : Nat → Nat) (A : Nat → Prop) (cA : Nat → ClassId) (sh : List mh_C) (I : mh_I) (L : mh_L) (lv : List (Nat × Value)) (H : Heap) (locs : List Loc) (ls : Array Slot) : Prop :=
  mh_B D ad cA A sh I L H s ∧ va_S A s.heap H locs ∧ lv_has ls nL (lv.map (fun q => (q.1, mh_v ad q.2))) ∧ n0 ≤ sh.length ∧ sh.length < 1000
/-- the machine at pc with these locals, this stack, this mini heap comes to the method's end with Φ -/
def mh_W (own : String) (cc : ByteArray) (nL : Nat) (rt : Option FieldType) (ini : Bool) (R : Room) (n0 mc ms : Nat) (Ex : mh_X) (Φ : mh_P) (slots : Nat) (sh : List mh_C) (I : mh_I) (L : mh_L) (pc : Nat) (lv : List (Nat × Value)) (st : List Value) : Prop :=
  ∀ (p : Program) (l : Launch) (e : Env) (s : State) (m : MethodId) (args : Array Value) (below : List Frame) (meth : Method) (c : Code) (D : va_G) (ad : Nat → Nat) (A : Nat → Prop) (cA : Nat → ClassId) (H : Heap) (locs : List Loc) (ls : Array Slot),
    mh_K own cc nL rt ini n0 Ex p s m args meth c ad A → mh_S nL n0 s D ad A cA sh I L lv H locs ls →
    W p l e R s m args below meth c H locs (sh.length - n0) slots (MQ below (mh_Q D ad A n0 Φ) args s mc ms A) (F0 m pc ls (st.map (mh_v ad)))
section MHK
variable {own : String} {cc : ByteArray} {nL : Nat} {rt : Option FieldType} {ini : Bool} {n0 : Nat} {Ex : mh_X} {p : Program} {s : State} {m : MethodId} {args : Array Value} {meth : Method} {c : Code} {ad : Nat → Nat} {A : Nat → Prop}
theorem mh_K.x (K : mh_K own cc nL rt ini n0 Ex p s m args meth c ad A) : p.tables.exec = Jvm.exec := K.1
theorem mh_K.b (K : mh_K own cc nL rt ini n0 Ex p s m args meth c ad A) : c.code = cc := K.2.1
theorem mh_K.ml (K : mh_K own cc nL rt ini n0 Ex p s m args meth c ad A) : c.maxLocals = nL := K.2.2.1
theorem mh_K.hrt (K : mh_K own cc nL rt ini n0 Ex p s m args meth c ad A) : meth.sig.returnType = rt := K.2.2.2.1
theorem mh_K.locks (K : mh_K own cc nL rt ini n0 Ex p s m args meth c ad A) : meth.locks = false := K.2.2.2.2.1
theorem mh_K.hini (K : mh_K own cc nL rt ini n0 Ex p s m args meth c ad A) : ini = true → meth.name = "<init>" := K.2.2.2.2.2.1
theorem mh_K.hown (K : mh_K own cc nL rt ini n0 Ex p s m args meth c ad A) : s.vm.findClass own = some m.cls := K.2.2.2.2.2.2.1
theorem mh_K.tb (K : mh_K own cc nL rt ini n0 Ex p s m args meth c ad A) : ∀ w ∈ mh_TB, w.before args s = true := K.2.2.2.2.2.2.2.1
theorem mh_K.e (K : mh_K own cc nL rt ini n0 Ex p s m args meth c ad A) : mh_E A ad s := K.2.2.2.2.2.2.2.2.1
theorem mh_K.new (K : mh_K own cc nL rt ini n0 Ex p s m args meth c ad A) : ∀ q : Nat, s.heap.size ≤ q → A q := K.2.2.2.2.2.2.2.2.2.1
theorem mh_K.had (K : mh_K own cc nL rt ini n0 Ex p s m args meth c ad A) : ∀ a : Nat, n0 ≤ a → a < 1000 → ad a = s.heap.size + (a - n0) := K.2.2.2.2.2.2.2.2.2.2.1
theorem mh_K.ex (K : mh_K own cc nL rt ini n0 Ex p s m args meth c ad A) : Ex ad A s := K.2.2.2.2.2.2.2.2.2.2.2
variable {D : va_G} {cA : Nat → ClassId} {sh : List mh_C} {I : mh_I} {L : mh_L} {lv : List (Nat × Value)} {H : Heap} {locs : List Loc} {ls : Array Slot}
theorem mh_S.P (S : mh_S nL n0 s D ad A cA sh I L lv H locs ls) : va_P D vwCl (mh_ws ad cA sh I L) H := S.1.1
theorem mh_S.hD (S : mh_S nL n0 s D ad A cA sh I L lv H locs ls) : va_D A (mh_ws ad cA sh I L) := S.1.2.1
theorem mh_S.K (S : mh_S nL n0 s D ad A cA sh I L lv H locs ls) : va_K D vwCl [] s := S.1.2.2.1
theorem mh_S.KA (S : mh_S nL n0 s D ad A cA sh I L lv H locs ls) {a t n : Nat} {r : Nat → Option Nat} (h : sh[a]? = some (.inr (t, n, r))) : va_K D vwCl [(cA a, mh_ty t)] s := S.1.2.2.2 a t n r h
theorem mh_S.S (S : mh_S nL n0 s D ad A cA sh I L lv H locs ls) : va_S A s.heap H locs := S.2.1
theorem mh_S.hlv (S : mh_S nL n0 s D ad A cA sh I L lv H locs ls) : lv_has ls nL (lv.map (fun q => (q.1, mh_v ad q.2))) := S.2.2.1
theorem mh_S.hn0 (S : mh_S nL n0 s D ad A cA sh I L lv H locs ls) : n0 ≤ sh.length := S.2.2.2.1
theorem mh_S.big (S : mh_S nL n0 s D ad A cA sh I L lv H locs ls) : sh.length < 1000 := S.2.2.2.2
theorem mh_S.lvs {lv' : List (Nat × Value)} {ls' : Array Slot} (S : mh_S nL n0 s D ad A cA sh I L lv H locs ls) (h : lv_has ls' nL (lv'.map (fun q => (q.1, mh_v ad q.2)))) : mh_S nL n0 s D ad A cA sh I L lv' H locs ls' := ⟨S.1, S.2.1, h, S.2.2.2⟩
end MHK
theorem mh_v_cat (ad : Nat → Nat) (v : Value) : (mh_v ad v).category = v.category := by cases v <;> rfl
theorem mh_cats (ad : Nat → Nat) (st : List Value) : ((st.map (mh_v ad)).map fun v => v.category) = st.map fun v => v.category := by
  rw [List.map_map]
  exact List.map_congr_left fun v _ => mh_v_cat ad v
def mh_st (i : Nat) (v : Value) (lv : List (Nat × Value)) : List (Nat × Value) := (i, v) :: lv.filter (fun q => !(q.1 == i) && !(q.1 + 1 == i && q.2.category == 2))
def mh_stl (i : Nat) (v : Value) (lv : List (Nat × Value)) : List (Nat × Value) := (i, v) :: lv.filter (fun q => !(q.1 == i) && (!(q.1 == i + 1) && !(q.1 + 1 == i && q.2.category == 2)))
theorem mh_st_map (ad : Nat → Nat) (i : Nat) (v : Value) (lv : List (Nat × Value)) : (i, mh_v ad v) :: (lv.map (fun q => (q.1, mh_v ad q.2))).filter (fun q => !(q.1 == i) && !(q.1 + 1 == i && q.2.category == 2)) = (mh_st i v lv).map (fun q => (q.1, mh_v ad q.2)) := by
  rw [mh_st, List.map_cons, List.filter_map]
  congr 2
  apply List.filter_congr
  intro q _
  simp only [Function.comp, mh_v_cat]
theorem mh_stl_map (ad : Nat → Nat) (i : Nat) (v : Value) (lv : List (Nat × Value)) : (i, mh_v ad v) :: (lv.map (fun q => (q.1, mh_v ad q.2))).filter (fun q => !(q.1 == i) && (!(q.1 == i + 1) && !(q.1 + 1 == i && q.2.category == 2))) = (mh_stl i v lv).map (fun q => (q.1, mh_v ad q.2)) := by
  rw [mh_stl, List.map_cons, List.filter_map]
  congr 2
  apply List.filter_congr
  intro q _
  simp only [Function.comp, mh_v_cat]
theorem mh_lvm (ad : Nat → Nat) {lv : List (Nat × Value)} {i : Nat} {v : Value} (j : Nat) (h : lv[j]? = some (i, v)) : (lv.map (fun q => (q.1, mh_v ad q.2)))[j]? = some (i, mh_v ad v) := by
  rw [List.getElem?_map, h]; rfl
theorem mh_lv {ad : Nat → Nat} {lv : List (Nat × Value)} {ls : Array Slot} {nL i : Nat} {v : Value} (hl : lv_has ls nL (lv.map (fun q => (q.1, mh_v ad q.2)))) (j : Nat) (h : lv[j]? = some (i, v)) : ls[i]? = some (.val (mh_v ad v)) := lv_at hl j (mh_lvm ad j h)
theorem mh_pick_map (ad : Nat → Nat) (lv : List (Nat × Value)) (ks : List Nat) : lv_pick (lv.map (fun q => (q.1, mh_v ad q.2))) ks = (lv_pick lv ks).map (fun q => (q.1, mh_v ad q.2)) := by
  unfold lv_pick
  induction ks with
  | nil => rfl
  | cons k ks ih =>
    rw [List.filterMap_cons, List.filterMap_cons, List.getElem?_map]
    cases lv[k]? with
    | none => exact ih
    | some q => simp only [Option.map_some, List.map_cons]; rw [ih]
end
section
section MW
variable {own : String} {cc : ByteArray} {nL : Nat} {rt : Option FieldType} {ini : Bool} {R : Room} {n0 mc ms : Nat} {Ex : mh_X} {Φ : mh_P} {slots : Nat} {sh : List mh_C} {I : mh_I} {L : mh_L} {pc : Nat} {lv : List (Nat × Value)} {st : List Value}

theorem mw_iadd {x y : Int32} (hd : decode cc pc = .ok (.iadd, 1)) (k : mh_W own cc nL rt ini R n0 mc ms Ex Φ slots sh I L (pc + 1) lv (.int (x + y) :: st)) : mh_W own cc nL rt ini R n0 mc ms Ex Φ slots sh I L pc lv (.int y :: .int x :: st) := by
  intro p l e s m args below meth c D ad A cA H locs ls K S
  exact lv_iadd K.1 K.2.1 hd (k p l e s m args below meth c D ad A cA H locs ls K S)
theorem mw_isub {x y : Int32} (hd : decode cc pc = .ok (.isub, 1)) (k : mh_W own cc nL rt ini R n0 mc ms Ex Φ slots sh I L (pc + 1) lv (.int (x - y) :: st)) : mh_W own cc nL rt ini R n0 mc ms Ex Φ slots sh I L pc lv (.int y :: .int x :: st) := by
  intro p l e s m args below meth c D ad A cA H locs ls K S
  exact lv_isub K.1 K.2.1 hd (k p l e s m args below meth c D ad A cA H locs ls K S)
theorem mw_imul {x y : Int32} (hd : decode cc pc = .ok (.imul, 1)) (k : mh_W own cc nL rt ini R n0 mc ms Ex Φ slots sh I L (pc + 1) lv (.int (x * y) :: st)) : mh_W own cc nL rt ini R n0 mc ms Ex Φ slots sh I L pc lv (.int y :: .int x :: st) := by
  intro p l e s m args below meth c D ad A cA H locs ls K S
  exact lv_imul K.1 K.2.1 hd (k p l e s m args below meth c D ad A cA H locs ls K S)
theorem mw_iand {x y : Int32} (hd : decode cc pc = .ok (.iand, 1)) (k : mh_W own cc nL rt ini R n0 mc ms Ex Φ slots sh I L (pc + 1) lv (.int (x &&& y) :: st)) : mh_W own cc nL rt ini R n0 mc ms Ex Φ slots sh I L pc lv (.int y :: .int x :: st) := by
  intro p l e s m args below meth c D ad A cA H locs ls K S
  exact lv_iand K.1 K.2.1 hd (k p l e s m args below meth c D ad A cA H locs ls K S)
theorem mw_ior {x y : Int32} (hd : decode cc pc = .ok (.ior, 1)) (k : mh_W own cc nL rt ini R n0 mc ms Ex Φ slots sh I L (pc + 1) lv (.int (x ||| y) :: st)) : mh_W own cc nL rt ini R n0 mc ms Ex Φ slots sh I L pc lv (.int y :: .int x :: st) := by
  intro p l e s m args below meth c D ad A cA H locs ls K S
  exact lv_ior K.1 K.2.1 hd (k p l e s m args below meth c D ad A cA H locs ls K S)
theorem mw_ixor {x y : Int32} (hd : decode cc pc = .ok (.ixor, 1)) (k : mh_W own cc nL rt ini R n0 mc ms Ex Φ slots sh I L (pc + 1) lv (.int (x ^^^ y) :: st)) : mh_W own cc nL rt ini R n0 mc ms Ex Φ slots sh I L pc lv (.int y :: .int x :: st) := by
  intro p l e s m args below meth c D ad A cA H locs ls K S
  exact lv_ixor K.1 K.2.1 hd (k p l e s m args below meth c D ad A cA H locs ls K S)
theorem mw_ishl {x y : Int32} (hd : decode cc pc = .ok (.ishl, 1)) (k : mh_W own cc nL rt ini R n0 mc ms Ex Φ slots sh I L (pc + 1) lv (.int (x <<< (y &&& 31)) :: st)) : mh_W own cc nL rt ini R n0 mc ms Ex Φ slots sh I L pc lv (.int y :: .int x :: st) := by
  intro p l e s m args below meth c D ad A cA H locs ls K S
  exact lv_ishl K.1 K.2.1 hd (k p l e s m args below meth c D ad A cA H locs ls K S)
theorem mw_ishr {x y : Int32} (hd : decode cc pc = .ok (.ishr, 1)) (k : mh_W own cc nL rt ini R n0 mc ms Ex Φ slots sh I L (pc + 1) lv (.int (x >>> (y &&& 31)) :: st)) : mh_W own cc nL rt ini R n0 mc ms Ex Φ slots sh I L pc lv (.int y :: .int x :: st) := by
  intro p l e s m args below meth c D ad A cA H locs ls K S
  exact lv_ishr K.1 K.2.1 hd (k p l e s m args below meth c D ad A cA H locs ls K S)
theorem mw_idiv {x y : Int32} (hd : decode cc pc = .ok (.idiv, 1)) (hne : ¬ y = 0) (k : mh_W own cc nL rt ini R n0 mc ms Ex Φ slots sh I L (pc + 1) lv (.int (x / y) :: st)) : mh_W own cc nL rt ini R n0 mc ms Ex Φ slots sh I L pc lv (.int y :: .int x :: st) := by
  intro p l e s m args below meth c D ad A cA H locs ls K S
  exact lv_idiv K.1 K.2.1 hd hne (k p l e s m args below meth c D ad A cA H locs ls K S)
theorem mw_irem {x y : Int32} (hd : decode cc pc = .ok (.irem, 1)) (hne : ¬ y = 0) (k : mh_W own cc nL rt ini R n0 mc ms Ex Φ slots sh I L (pc + 1) lv (.int (x - x / y * y) :: st)) : mh_W own cc nL rt ini R n0 mc ms Ex Φ slots sh I L pc lv (.int y :: .int x :: st) := by
  intro p l e s m args below meth c D ad A cA H locs ls K S
  exact lv_irem K.1 K.2.1 hd hne (k p l e s m args below meth c D ad A cA H locs ls K S)
theorem mw_ineg {x : Int32} (hd : decode cc pc = .ok (.ineg, 1)) (k : mh_W own cc nL rt ini R n0 mc ms Ex Φ slots sh I L (pc + 1) lv (.int (-x) :: st)) : mh_W own cc nL rt ini R n0 mc ms Ex Φ slots sh I L pc lv (.int x :: st) := by
  intro p l e s m args below meth c D ad A cA H locs ls K S
  exact lv_ineg K.1 K.2.1 hd (k p l e s m args below meth c D ad A cA H locs ls K S)
theorem mw_ladd {x y : Int64} (hd : decode cc pc = .ok (.ladd, 1)) (k : mh_W own cc nL rt ini R n0 mc ms Ex Φ slots sh I L (pc + 1) lv (.long (x + y) :: st)) : mh_W own cc nL rt ini R n0 mc ms Ex Φ slots sh I L pc lv (.long y :: .long x :: st) := by
  intro p l e s m args below meth c D ad A cA H locs ls K S
  exact lv_ladd K.1 K.2.1 hd (k p l e s m args below meth c D ad A cA H locs ls K S)
theorem mw_lmul {x y : Int64} (hd : decode cc pc = .ok (.lmul, 1)) (k : mh_W own cc nL rt ini R n0 mc ms Ex Φ slots sh I L (pc + 1) lv (.long (x * y) :: st)) : mh_W own cc nL rt ini R n0 mc ms Ex Φ slots sh I L pc lv (.long y :: .long x :: st) := by
  intro p l e s m args below meth c D ad A cA H locs ls K S
  exact lv_lmul K.1 K.2.1 hd (k p l e s m args below meth c D ad A cA H locs ls K S)
theorem mw_land {x y : Int64} (hd : decode cc pc = .ok (.land, 1)) (k : mh_W own cc nL rt ini R n0 mc ms Ex Φ slots sh I L (pc + 1) lv (.long (x &&& y) :: st)) : mh_W own cc nL rt ini R n0 mc ms Ex Φ slots sh I L pc lv (.long y :: .long x :: st) := by
  intro p l e s m args below meth c D ad A cA H locs ls K S
  exact lv_land K.1 K.2.1 hd (k p l e s m args below meth c D ad A cA H locs ls K S)
theorem mw_lor {x y : Int64} (hd : decode cc pc = .ok (.lor, 1)) (k : mh_W own cc nL rt ini R n0 mc ms Ex Φ slots sh I L (pc + 1) lv (.long (x ||| y) :: st)) : mh_W own cc nL rt ini R n0 mc ms Ex Φ slots sh I L pc lv (.long y :: .long x :: st) := by
  intro p l e s m args below meth c D ad A cA H locs ls K S
  exact lv_lor K.1 K.2.1 hd (k p l e s m args below meth c D ad A cA H locs ls K S)
theorem mw_lxor {x y : Int64} (hd : decode cc pc = .ok (.lxor, 1)) (k : mh_W own cc nL rt ini R n0 mc ms Ex Φ slots sh I L (pc + 1) lv (.long (x ^^^ y) :: st)) : mh_W own cc nL rt ini R n0 mc ms Ex Φ slots sh I L pc lv (.long y :: .long x :: st) := by
  intro p l e s m args below meth c D ad A cA H locs ls K S
  exact lv_lxor K.1 K.2.1 hd (k p l e s m args below meth c D ad A cA H locs ls K S)
theorem mw_ldiv {x y : Int64} (hd : decode cc pc = .ok (.ldiv, 1)) (hne : ¬ y = 0) (k : mh_W own cc nL rt ini R n0 mc ms Ex Φ slots sh I L (pc + 1) lv (.long (x / y) :: st)) : mh_W own cc nL rt ini R n0 mc ms Ex Φ slots sh I L pc lv (.long y :: .long x :: st) := by
  intro p l e s m args below meth c D ad A cA H locs ls K S
  exact lv_ldiv K.1 K.2.1 hd hne (k p l e s m args below meth c D ad A cA H locs ls K S)
theorem mw_lrem {x y : Int64} (hd : decode cc pc = .ok (.lrem, 1)) (hne : ¬ y = 0) (k : mh_W own cc nL rt ini R n0 mc ms Ex Φ slots sh I L (pc + 1) lv (.long (x - x / y * y) :: st)) : mh_W own cc nL rt ini R n0 mc ms Ex Φ slots sh I L pc lv (.long y :: .long x :: st) := by
  intro p l e s m args below meth c D ad A cA H locs ls K S
  exact lv_lrem K.1 K.2.1 hd hne (k p l e s m args below meth c D ad A cA H locs ls K S)
theorem mw_lshl {x : Int64} {y : Int32} (hd : decode cc pc = .ok (.lshl, 1)) (k : mh_W own cc nL rt ini R n0 mc ms Ex Φ slots sh I L (pc + 1) lv (.long (x <<< (y.toInt64 &&& 63)) :: st)) : mh_W own cc nL rt ini R n0 mc ms Ex Φ slots sh I L pc lv (.int y :: .long x :: st) := by
  intro p l e s m args below meth c D ad A cA H locs ls K S
  exact lv_lshl K.1 K.2.1 hd rfl (k p l e s m args below meth c D ad A cA H locs ls K S)
theorem mw_lshr {x : Int64} {y : Int32} (hd : decode cc pc = .ok (.lshr, 1)) (k : mh_W own cc nL rt ini R n0 mc ms Ex Φ slots sh I L (pc + 1) lv (.long (x >>> (y.toInt64 &&& 63)) :: st)) : mh_W own cc nL rt ini R n0 mc ms Ex Φ slots sh I L pc lv (.int y :: .long x :: st) := by
  intro p l e s m args below meth c D ad A cA H locs ls K S
  exact lv_lshr K.1 K.2.1 hd rfl (k p l e s m args below meth c D ad A cA H locs ls K S)
theorem mw_i2l {x : Int32} (hd : decode cc pc = .ok (.i2l, 1)) (k : mh_W own cc nL rt ini R n0 mc ms Ex Φ slots sh I L (pc + 1) lv (.long (x.toInt64) :: st)) : mh_W own cc nL rt ini R n0 mc ms Ex Φ slots sh I L pc lv (.int x :: st) := by
  intro p l e s m args below meth c D ad A cA H locs ls K S
  exact lv_i2l K.1 K.2.1 hd rfl (k p l e s m args below meth c D ad A cA H locs ls K S)
theorem mw_i2b {x : Int32} (hd : decode cc pc = .ok (.i2b, 1)) (k : mh_W own cc nL rt ini R n0 mc ms Ex Φ slots sh I L (pc + 1) lv (.int (x.toInt8.toInt32) :: st)) : mh_W own cc nL rt ini R n0 mc ms Ex Φ slots sh I L pc lv (.int x :: st) := by
  intro p l e s m args below meth c D ad A cA H locs ls K S
  exact lv_i2b K.1 K.2.1 hd rfl (k p l e s m args below meth c D ad A cA H locs ls K S)
theorem mw_i2s {x : Int32} (hd : decode cc pc = .ok (.i2s, 1)) (k : mh_W own cc nL rt ini R n0 mc ms Ex Φ slots sh I L (pc + 1) lv (.int (x.toInt16.toInt32) :: st)) : mh_W own cc nL rt ini R n0 mc ms Ex Φ slots sh I L pc lv (.int x :: st) := by
  intro p l e s m args below meth c D ad A cA H locs ls K S
  exact lv_i2s K.1 K.2.1 hd rfl (k p l e s m args below meth c D ad A cA H locs ls K S)
theorem mw_iconst {n : Int} {v : Int32} (hd : decode cc pc = .ok (.iconst n, 1)) (hv : Int32.ofInt n = v) (k : mh_W own cc nL rt ini R n0 mc ms Ex Φ slots sh I L (pc + 1) lv (.int v :: st)) : mh_W own cc nL rt ini R n0 mc ms Ex Φ slots sh I L pc lv ( st) := by
  intro p l e s m args below meth c D ad A cA H locs ls K S
  exact lv_iconst K.1 K.2.1 hd hv (k p l e s m args below meth c D ad A cA H locs ls K S)
theorem mw_bipush {n : Int} {v : Int32} (hd : decode cc pc = .ok (.bipush n, 2)) (hv : (Int8.ofInt n).toInt32 = v) (k : mh_W own cc nL rt ini R n0 mc ms Ex Φ slots sh I L (pc + 2) lv (.int v :: st)) : mh_W own cc nL rt ini R n0 mc ms Ex Φ slots sh I L pc lv ( st) := by
  intro p l e s m args below meth c D ad A cA H locs ls K S
  exact lv_bipush K.1 K.2.1 hd hv (k p l e s m args below meth c D ad A cA H locs ls K S)
theorem mw_sipush {n : Int} {v : Int32} (hd : decode cc pc = .ok (.sipush n, 3)) (hv : (Int16.ofInt n).toInt32 = v) (k : mh_W own cc nL rt ini R n0 mc ms Ex Φ slots sh I L (pc + 3) lv (.int v :: st)) : mh_W own cc nL rt ini R n0 mc ms Ex Φ slots sh I L pc lv ( st) := by
  intro p l e s m args below meth c D ad A cA H locs ls K S
  exact lv_sipush K.1 K.2.1 hd hv (k p l e s m args below meth c D ad A cA H locs ls K S)
theorem mw_lconst {n : Fin 2} {v : Int64} (hd : decode cc pc = .ok (.lconst n, 1)) (hv : Int64.ofNat (n : Nat) = v) (k : mh_W own cc nL rt ini R n0 mc ms Ex Φ slots sh I L (pc + 1) lv (.long v :: st)) : mh_W own cc nL rt ini R n0 mc ms Ex Φ slots sh I L pc lv ( st) := by
  intro p l e s m args below meth c D ad A cA H locs ls K S
  exact lv_lconst K.1 K.2.1 hd hv (k p l e s m args below meth c D ad A cA H locs ls K S)
theorem mw_lcmp {x y : Int64} (hd : decode cc pc = .ok (.lcmp, 1)) (k : mh_W own cc nL rt ini R n0 mc ms Ex Φ slots sh I L (pc + 1) lv (.int (lg_cmp x y) :: st)) : mh_W own cc nL rt ini R n0 mc ms Ex Φ slots sh I L pc lv (.long y :: .long x :: st) := by
  intro p l e s m args below meth c D ad A cA H locs ls K S
  exact W.lcmp K.1 K.2.1 hd (k p l e s m args below meth c D ad A cA H locs ls K S)
theorem mw_ldc {index : Nat} {v : Int32} (hd : decode cc pc = .ok (.ldc index, 2)) (hw : Cond.constant own index v ∈ mh_TB) (k : mh_W own cc nL rt ini R n0 mc ms Ex Φ slots sh I L (pc + 2) lv (.int v :: st)) : mh_W own cc nL rt ini R n0 mc ms Ex Φ slots sh I L pc lv st := by
  intro p l e s m args below meth c D ad A cA H locs ls K S
  exact lv_ldc K.1 K.2.1 K.hown (K.tb _ hw) hd (k p l e s m args below meth c D ad A cA H locs ls K S)
theorem mw_ldc2 {index : Nat} {v : Int64} (hd : decode cc pc = .ok (.ldc2_w index, 3)) (hw : Cond.constantLong own index v ∈ mh_TB) (k : mh_W own cc nL rt ini R n0 mc ms Ex Φ slots sh I L (pc + 3) lv (.long v :: st)) : mh_W own cc nL rt ini R n0 mc ms Ex Φ slots sh I L pc lv st := by
  intro p l e s m args below meth c D ad A cA H locs ls K S
  exact lv_ldc2 K.1 K.2.1 K.hown (K.tb _ hw) hd (k p l e s m args below meth c D ad A cA H locs ls K S)
theorem mw_pop {v : Value} (hd : decode cc pc = .ok (.pop, 1)) (hv : v.category = 1) (k : mh_W own cc nL rt ini R n0 mc ms Ex Φ slots sh I L (pc + 1) lv st) : mh_W own cc nL rt ini R n0 mc ms Ex Φ slots sh I L pc lv (v :: st) := by
  intro p l e s m args below meth c D ad A cA H locs ls K S
  exact lv_pop K.1 K.2.1 hd ((mh_v_cat ad v).trans hv) (k p l e s m args below meth c D ad A cA H locs ls K S)
theorem mw_dup {v : Value} (hd : decode cc pc = .ok (.dup, 1)) (hv : v.category = 1) (k : mh_W own cc nL rt ini R n0 mc ms Ex Φ slots sh I L (pc + 1) lv (v :: v :: st)) : mh_W own cc nL rt ini R n0 mc ms Ex Φ slots sh I L pc lv (v :: st) := by
  intro p l e s m args below meth c D ad A cA H locs ls K S
  exact lv_dup K.1 K.2.1 hd ((mh_v_cat ad v).trans hv) (k p l e s m args below meth c D ad A cA H locs ls K S)
theorem mw_dup_x1 {v w : Value} (hd : decode cc pc = .ok (.dup_x1, 1)) (hv : v.category = 1) (hw : w.category = 1) (k : mh_W own cc nL rt ini R n0 mc ms Ex Φ slots sh I L (pc + 1) lv (v :: w :: v :: st)) : mh_W own cc nL rt ini R n0 mc ms Ex Φ slots sh I L pc lv (v :: w :: st) := by
  intro p l e s m args below meth c D ad A cA H locs ls K S
  exact lv_dup_x1 K.1 K.2.1 hd ((mh_v_cat ad v).trans hv) ((mh_v_cat ad w).trans hw) (k p l e s m args below meth c D ad A cA H locs ls K S)
theorem mw_iload_n {k4 : Fin 4} {x : Int32} (hd : decode cc pc = .ok (.iload_n k4, 1)) (j : Nat) (h : lv[j]? = some ((k4 : Nat), .int x)) (k : mh_W own cc nL rt ini R n0 mc ms Ex Φ slots sh I L (pc + 1) lv (.int x :: st)) : mh_W own cc nL rt ini R n0 mc ms Ex Φ slots sh I L pc lv st := by
  intro p l e s m args below meth c D ad A cA H locs ls K S
  exact lv_iload_n K.1 K.2.1 hd rfl (mh_lv S.hlv j h) (k p l e s m args below meth c D ad A cA H locs ls K S)
theorem mw_iload {i : Nat} {x : Int32} (hd : decode cc pc = .ok (.iload i, 2)) (j : Nat) (h : lv[j]? = some (i, .int x)) (k : mh_W own cc nL rt ini R n0 mc ms Ex Φ slots sh I L (pc + 2) lv (.int x :: st)) : mh_W own cc nL rt ini R n0 mc ms Ex Φ slots sh I L pc lv st := by
  intro p l e s m args below meth c D ad A cA H locs ls K S
  exact lv_iload K.1 K.2.1 hd (mh_lv S.hlv j h) (k p l e s m args below meth c D ad A cA H locs ls K S)
theorem mw_lload_n {k4 : Fin 4} {x : Int64} (hd : decode cc pc = .ok (.lload_n k4, 1)) (j : Nat) (h : lv[j]? = some ((k4 : Nat), .long x)) (k : mh_W own cc nL rt ini R n0 mc ms Ex Φ slots sh I L (pc + 1) lv (.long x :: st)) : mh_W own cc nL rt ini R n0 mc ms Ex Φ slots sh I L pc lv st := by
  intro p l e s m args below meth c D ad A cA H locs ls K S
  exact lv_lload_n K.1 K.2.1 hd rfl (mh_lv S.hlv j h) (k p l e s m args below meth c D ad A cA H locs ls K S)
theorem mw_lload {i : Nat} {x : Int64} (hd : decode cc pc = .ok (.lload i, 2)) (j : Nat) (h : lv[j]? = some (i, .long x)) (k : mh_W own cc nL rt ini R n0 mc ms Ex Φ slots sh I L (pc + 2) lv (.long x :: st)) : mh_W own cc nL rt ini R n0 mc ms Ex Φ slots sh I L pc lv st := by
  intro p l e s m args below meth c D ad A cA H locs ls K S
  exact lv_lload K.1 K.2.1 hd (mh_lv S.hlv j h) (k p l e s m args below meth c D ad A cA H locs ls K S)
theorem mw_aload_n {k4 : Fin 4} {x : Nat} (hd : decode cc pc = .ok (.aload_n k4, 1)) (j : Nat) (h : lv[j]? = some ((k4 : Nat), .ref x)) (k : mh_W own cc nL rt ini R n0 mc ms Ex Φ slots sh I L (pc + 1) lv (.ref x :: st)) : mh_W own cc nL rt ini R n0 mc ms Ex Φ slots sh I L pc lv st := by
  intro p l e s m args below meth c D ad A cA H locs ls K S
  exact lv_aload_n K.1 K.2.1 hd rfl (mh_lv S.hlv j h) (k p l e s m args below meth c D ad A cA H locs ls K S)
theorem mw_aload {i : Nat} {x : Nat} (hd : decode cc pc = .ok (.aload i, 2)) (j : Nat) (h : lv[j]? = some (i, .ref x)) (k : mh_W own cc nL rt ini R n0 mc ms Ex Φ slots sh I L (pc + 2) lv (.ref x :: st)) : mh_W own cc nL rt ini R n0 mc ms Ex Φ slots sh I L pc lv st := by
  intro p l e s m args below meth c D ad A cA H locs ls K S
  exact lv_aload K.1 K.2.1 hd (mh_lv S.hlv j h) (k p l e s m args below meth c D ad A cA H locs ls K S)
theorem mw_istore {i : Nat} {x : Int32} {lv' : List (Nat × Value)} (hd : decode cc pc = .ok (.istore i, 2)) (hn : i < nL) (hl : mh_st i (.int x) lv = lv') (k : mh_W own cc nL rt ini R n0 mc ms Ex Φ slots sh I L (pc + 2) lv' st) : mh_W own cc nL rt ini R n0 mc ms Ex Φ slots sh I L pc lv (.int x :: st) := by
  intro p l e s m args below meth c D ad A cA H locs ls K S
  subst hl
  exact lv_istore K.1 K.2.1 hd S.hlv hn (mh_st_map ad i (.int x) lv) (fun ls' h' => k p l e s m args below meth c D ad A cA H locs ls' K (S.lvs h'))
theorem mw_istore_n {k4 : Fin 4} {x : Int32} {lv' : List (Nat × Value)} (hd : decode cc pc = .ok (.istore_n k4, 1)) (hn : (k4 : Nat) < nL) (hl : mh_st (k4 : Nat) (.int x) lv = lv') (k : mh_W own cc nL rt ini R n0 mc ms Ex Φ slots sh I L (pc + 1) lv' st) : mh_W own cc nL rt ini R n0 mc ms Ex Φ slots sh I L pc lv (.int x :: st) := by
  intro p l e s m args below meth c D ad A cA H locs ls K S
  subst hl
  exact lv_istore_n K.1 K.2.1 hd rfl S.hlv hn (mh_st_map ad (k4 : Nat) (.int x) lv) (fun ls' h' => k p l e s m args below meth c D ad A cA H locs ls' K (S.lvs h'))
theorem mw_lstore {i : Nat} {x : Int64} {lv' : List (Nat × Value)} (hd : decode cc pc = .ok (.lstore i, 2)) (hn : i + 1 < nL) (hl : mh_stl i (.long x) lv = lv') (k : mh_W own cc nL rt ini R n0 mc ms Ex Φ slots sh I L (pc + 2) lv' st) : mh_W own cc nL rt ini R n0 mc ms Ex Φ slots sh I L pc lv (.long x :: st) := by
  intro p l e s m args below meth c D ad A cA H locs ls K S
  subst hl
  exact lv_lstore K.1 K.2.1 hd S.hlv hn (mh_stl_map ad i (.long x) lv) (fun ls' h' => k p l e s m args below meth c D ad A cA H locs ls' K (S.lvs h'))
theorem mw_lstore_n {k4 : Fin 4} {x : Int64} {lv' : List (Nat × Value)} (hd : decode cc pc = .ok (.lstore_n k4, 1)) (hn : (k4 : Nat) + 1 < nL) (hl : mh_stl (k4 : Nat) (.long x) lv = lv') (k : mh_W own cc nL rt ini R n0 mc ms Ex Φ slots sh I L (pc + 1) lv' st) : mh_W own cc nL rt ini R n0 mc ms Ex Φ slots sh I L pc lv (.long x :: st) := by
  intro p l e s m args below meth c D ad A cA H locs ls K S
  subst hl
  exact lv_lstore_n K.1 K.2.1 hd rfl S.hlv hn (mh_stl_map ad (k4 : Nat) (.long x) lv) (fun ls' h' => k p l e s m args below meth c D ad A cA H locs ls' K (S.lvs h'))
theorem mw_astore {i : Nat} {x : Nat} {lv' : List (Nat × Value)} (hd : decode cc pc = .ok (.astore i, 2)) (hn : i < nL) (hl : mh_st i (.ref x) lv = lv') (k : mh_W own cc nL rt ini R n0 mc ms Ex Φ slots sh I L (pc + 2) lv' st) : mh_W own cc nL rt ini R n0 mc ms Ex Φ slots sh I L pc lv (.ref x :: st) := by
  intro p l e s m args below meth c D ad A cA H locs ls K S
  subst hl
  exact lv_astore K.1 K.2.1 hd S.hlv hn (mh_st_map ad i (.ref x) lv) (fun ls' h' => k p l e s m args below meth c D ad A cA H locs ls' K (S.lvs h'))
theorem mw_astore_n {k4 : Fin 4} {x : Nat} {lv' : List (Nat × Value)} (hd : decode cc pc = .ok (.astore_n k4, 1)) (hn : (k4 : Nat) < nL) (hl : mh_st (k4 : Nat) (.ref x) lv = lv') (k : mh_W own cc nL rt ini R n0 mc ms Ex Φ slots sh I L (pc + 1) lv' st) : mh_W own cc nL rt ini R n0 mc ms Ex Φ slots sh I L pc lv (.ref x :: st) := by
  intro p l e s m args below meth c D ad A cA H locs ls K S
  subst hl
  exact lv_astore_n K.1 K.2.1 hd rfl S.hlv hn (mh_st_map ad (k4 : Nat) (.ref x) lv) (fun ls' h' => k p l e s m args below meth c D ad A cA H locs ls' K (S.lvs h'))
theorem mw_iinc {i : Nat} {n : Int} {x v : Int32} {lv' : List (Nat × Value)} (hd : decode cc pc = .ok (.iinc i n, 3)) (j : Nat) (hj : lv[j]? = some (i, .int x)) (hv : x + Int32.ofInt n = v) (hn : i < nL) (hl : mh_st i (.int v) lv = lv') (k : mh_W own cc nL rt ini R n0 mc ms Ex Φ slots sh I L (pc + 3) lv' st) : mh_W own cc nL rt ini R n0 mc ms Ex Φ slots sh I L pc lv st := by
  intro p l e s m args below meth c D ad A cA H locs ls K S
  subst hl
  exact lv_iinc K.1 K.2.1 hd S.hlv (mh_lvm ad j hj) hv hn (mh_st_map ad i (.int v) lv) (fun ls' h' => k p l e s m args below meth c D ad A cA H locs ls' K (S.lvs h'))
theorem mw_loc (ks : List Nat) {lv' : List (Nat × Value)} (hl : lv_pick lv ks = lv') (k : mh_W own cc nL rt ini R n0 mc ms Ex Φ slots sh I L pc lv' st) : mh_W own cc nL rt ini R n0 mc ms Ex Φ slots sh I L pc lv st := by
  intro p l e s m args below meth c D ad A cA H locs ls K S
  subst hl
  exact k p l e s m args below meth c D ad A cA H locs ls K (S.lvs (lv_sub S.hlv ks (mh_pick_map ad lv ks)))
theorem mw_goto {off : Int} {tgt : Nat} (hd : decode cc pc = .ok (.goto off, 3)) (ht : (pc : Int) + off = (tgt : Int)) (k : mh_W own cc nL rt ini R n0 mc ms Ex Φ slots sh I L tgt lv st) : mh_W own cc nL rt ini R n0 mc ms Ex Φ slots sh I L pc lv st := by
  intro p l e s m args below meth c D ad A cA H locs ls K S
  exact lv_goto K.1 K.2.1 hd ht (k p l e s m args below meth c D ad A cA H locs ls K S)
theorem mw_if_eq {x : Int32} {off : Int} {tgt : Nat} (hd : decode cc pc = .ok (.ifCond .eq off, 3)) (ht : (pc : Int) + off = (tgt : Int)) (kt : x = 0 → mh_W own cc nL rt ini R n0 mc ms Ex Φ slots sh I L tgt lv st) (kf : ¬ x = 0 → mh_W own cc nL rt ini R n0 mc ms Ex Φ slots sh I L (pc + 3) lv st) : mh_W own cc nL rt ini R n0 mc ms Ex Φ slots sh I L pc lv (.int x :: st) := by
  intro p l e s m args below meth c D ad A cA H locs ls K S
  exact lv_if_eq K.1 K.2.1 hd ht (fun h => kt h p l e s m args below meth c D ad A cA H locs ls K S) (fun h => kf h p l e s m args below meth c D ad A cA H locs ls K S)
theorem mw_icmp_eq {x y : Int32} {off : Int} {tgt : Nat} (hd : decode cc pc = .ok (.if_icmp .eq off, 3)) (ht : (pc : Int) + off = (tgt : Int)) (kt : x = y → mh_W own cc nL rt ini R n0 mc ms Ex Φ slots sh I L tgt lv st) (kf : ¬ x = y → mh_W own cc nL rt ini R n0 mc ms Ex Φ slots sh I L (pc + 3) lv st) : mh_W own cc nL rt ini R n0 mc ms Ex Φ slots sh I L pc lv (.int y :: .int x :: st) := by
  intro p l e s m args below meth c D ad A cA H locs ls K S
  exact lv_icmp_eq K.1 K.2.1 hd ht (fun h => kt h p l e s m args below meth c D ad A cA H locs ls K S) (fun h => kf h p l e s m args below meth c D ad A cA H locs ls K S)
theorem mw_if_ne {x : Int32} {off : Int} {tgt : Nat} (hd : decode cc pc = .ok (.ifCond .ne off, 3)) (ht : (pc : Int) + off = (tgt : Int)) (kt : ¬ x = 0 → mh_W own cc nL rt ini R n0 mc ms Ex Φ slots sh I L tgt lv st) (kf : x = 0 → mh_W own cc nL rt ini R n0 mc ms Ex Φ slots sh I L (pc + 3) lv st) : mh_W own cc nL rt ini R n0 mc ms Ex Φ slots sh I L pc lv (.int x :: st) := by
  intro p l e s m args below meth c D ad A cA H locs ls K S
  exact lv_if_ne K.1 K.2.1 hd ht (fun h => kt h p l e s m args below meth c D ad A cA H locs ls K S) (fun h => kf h p l e s m args below meth c D ad A cA H locs ls K S)
theorem mw_icmp_ne {x y : Int32} {off : Int} {tgt : Nat} (hd : decode cc pc = .ok (.if_icmp .ne off, 3)) (ht : (pc : Int) + off = (tgt : Int)) (kt : ¬ x = y → mh_W own cc nL rt ini R n0 mc ms Ex Φ slots sh I L tgt lv st) (kf : x = y → mh_W own cc nL rt ini R n0 mc ms Ex Φ slots sh I L (pc + 3) lv st) : mh_W own cc nL rt ini R n0 mc ms Ex Φ slots sh I L pc lv (.int y :: .int x :: st) := by
  intro p l e s m args below meth c D ad A cA H locs ls K S
  exact lv_icmp_ne K.1 K.2.1 hd ht (fun h => kt h p l e s m args below meth c D ad A cA H locs ls K S) (fun h => kf h p l e s m args below meth c D ad A cA H locs ls K S)
theorem mw_if_lt {x : Int32} {off : Int} {tgt : Nat} (hd : decode cc pc = .ok (.ifCond .lt off, 3)) (ht : (pc : Int) + off = (tgt : Int)) (kt : x < 0 → mh_W own cc nL rt ini R n0 mc ms Ex Φ slots sh I L tgt lv st) (kf : ¬ x < 0 → mh_W own cc nL rt ini R n0 mc ms Ex Φ slots sh I L (pc + 3) lv st) : mh_W own cc nL rt ini R n0 mc ms Ex Φ slots sh I L pc lv (.int x :: st) := by
  intro p l e s m args below meth c D ad A cA H locs ls K S
  exact lv_if_lt K.1 K.2.1 hd ht (fun h => kt h p l e s m args below meth c D ad A cA H locs ls K S) (fun h => kf h p l e s m args below meth c D ad A cA H locs ls K S)
theorem mw_icmp_lt {x y : Int32} {off : Int} {tgt : Nat} (hd : decode cc pc = .ok (.if_icmp .lt off, 3)) (ht : (pc : Int) + off = (tgt : Int)) (kt : x < y → mh_W own cc nL rt ini R n0 mc ms Ex Φ slots sh I L tgt lv st) (kf : ¬ x < y → mh_W own cc nL rt ini R n0 mc ms Ex Φ slots sh I L (pc + 3) lv st) : mh_W own cc nL rt ini R n0 mc ms Ex Φ slots sh I L pc lv (.int y :: .int x :: st) := by
  intro p l e s m args below meth c D ad A cA H locs ls K S
  exact lv_icmp_lt K.1 K.2.1 hd ht (fun h => kt h p l e s m args below meth c D ad A cA H locs ls K S) (fun h => kf h p l e s m args below meth c D ad A cA H locs ls K S)
theorem mw_if_ge {x : Int32} {off : Int} {tgt : Nat} (hd : decode cc pc = .ok (.ifCond .ge off, 3)) (ht : (pc : Int) + off = (tgt : Int)) (kt : 0 ≤ x → mh_W own cc nL rt ini R n0 mc ms Ex Φ slots sh I L tgt lv st) (kf : ¬ 0 ≤ x → mh_W own cc nL rt ini R n0 mc ms Ex Φ slots sh I L (pc + 3) lv st) : mh_W own cc nL rt ini R n0 mc ms Ex Φ slots sh I L pc lv (.int x :: st) := by
  intro p l e s m args below meth c D ad A cA H locs ls K S
  exact lv_if_ge K.1 K.2.1 hd ht (fun h => kt h p l e s m args below meth c D ad A cA H locs ls K S) (fun h => kf h p l e s m args below meth c D ad A cA H locs ls K S)
theorem mw_icmp_ge {x y : Int32} {off : Int} {tgt : Nat} (hd : decode cc pc = .ok (.if_icmp .ge off, 3)) (ht : (pc : Int) + off = (tgt : Int)) (kt : y ≤ x → mh_W own cc nL rt ini R n0 mc ms Ex Φ slots sh I L tgt lv st) (kf : ¬ y ≤ x → mh_W own cc nL rt ini R n0 mc ms Ex Φ slots sh I L (pc + 3) lv st) : mh_W own cc nL rt ini R n0 mc ms Ex Φ slots sh I L pc lv (.int y :: .int x :: st) := by
  intro p l e s m args below meth c D ad A cA H locs ls K S
  exact lv_icmp_ge K.1 K.2.1 hd ht (fun h => kt h p l e s m args below meth c D ad A cA H locs ls K S) (fun h => kf h p l e s m args below meth c D ad A cA H locs ls K S)
theorem mw_if_gt {x : Int32} {off : Int} {tgt : Nat} (hd : decode cc pc = .ok (.ifCond .gt off, 3)) (ht : (pc : Int) + off = (tgt : Int)) (kt : 0 < x → mh_W own cc nL rt ini R n0 mc ms Ex Φ slots sh I L tgt lv st) (kf : ¬ 0 < x → mh_W own cc nL rt ini R n0 mc ms Ex Φ slots sh I L (pc + 3) lv st) : mh_W own cc nL rt ini R n0 mc ms Ex Φ slots sh I L pc lv (.int x :: st) := by
  intro p l e s m args below meth c D ad A cA H locs ls K S
  exact lv_if_gt K.1 K.2.1 hd ht (fun h => kt h p l e s m args below meth c D ad A cA H locs ls K S) (fun h => kf h p l e s m args below meth c D ad A cA H locs ls K S)
theorem mw_icmp_gt {x y : Int32} {off : Int} {tgt : Nat} (hd : decode cc pc = .ok (.if_icmp .gt off, 3)) (ht : (pc : Int) + off = (tgt : Int)) (kt : y < x → mh_W own cc nL rt ini R n0 mc ms Ex Φ slots sh I L tgt lv st) (kf : ¬ y < x → mh_W own cc nL rt ini R n0 mc ms Ex Φ slots sh I L (pc + 3) lv st) : mh_W own cc nL rt ini R n0 mc ms Ex Φ slots sh I L pc lv (.int y :: .int x :: st) := by
  intro p l e s m args below meth c D ad A cA H locs ls K S
  exact lv_icmp_gt K.1 K.2.1 hd ht (fun h => kt h p l e s m args below meth c D ad A cA H locs ls K S) (fun h => kf h p l e s m args below meth c D ad A cA H locs ls K S)
theorem mw_if_le {x : Int32} {off : Int} {tgt : Nat} (hd : decode cc pc = .ok (.ifCond .le off, 3)) (ht : (pc : Int) + off = (tgt : Int)) (kt : x ≤ 0 → mh_W own cc nL rt ini R n0 mc ms Ex Φ slots sh I L tgt lv st) (kf : ¬ x ≤ 0 → mh_W own cc nL rt ini R n0 mc ms Ex Φ slots sh I L (pc + 3) lv st) : mh_W own cc nL rt ini R n0 mc ms Ex Φ slots sh I L pc lv (.int x :: st) := by
  intro p l e s m args below meth c D ad A cA H locs ls K S
  exact lv_if_le K.1 K.2.1 hd ht (fun h => kt h p l e s m args below meth c D ad A cA H locs ls K S) (fun h => kf h p l e s m args below meth c D ad A cA H locs ls K S)
theorem mw_icmp_le {x y : Int32} {off : Int} {tgt : Nat} (hd : decode cc pc = .ok (.if_icmp .le off, 3)) (ht : (pc : Int) + off = (tgt : Int)) (kt : x ≤ y → mh_W own cc nL rt ini R n0 mc ms Ex Φ slots sh I L tgt lv st) (kf : ¬ x ≤ y → mh_W own cc nL rt ini R n0 mc ms Ex Φ slots sh I L (pc + 3) lv st) : mh_W own cc nL rt ini R n0 mc ms Ex Φ slots sh I L pc lv (.int y :: .int x :: st) := by
  intro p l e s m args below meth c D ad A cA H locs ls K S
  exact lv_icmp_le K.1 K.2.1 hd ht (fun h => kt h p l e s m args below meth c D ad A cA H locs ls K S) (fun h => kf h p l e s m args below meth c D ad A cA H locs ls K S)
theorem mw_tableIn {dflt lo hi : Int} {offs : Array Int} {len : Nat} {x : Int32} {off : Int} {tgt : Nat} (hd : decode cc pc = .ok (.tableswitch dflt lo hi offs, len)) (h1 : ¬ x.toInt < lo) (h2 : ¬ hi < x.toInt) (ho : offs[(x.toInt - lo).toNat]? = some off) (ht : (pc : Int) + off = (tgt : Int)) (k : mh_W own cc nL rt ini R n0 mc ms Ex Φ slots sh I L tgt lv st) : mh_W own cc nL rt ini R n0 mc ms Ex Φ slots sh I L pc lv (.int x :: st) := by
  intro p l e s m args below meth c D ad A cA H locs ls K S
  exact lv_tableIn K.1 K.2.1 hd h1 h2 ho ht (k p l e s m args below meth c D ad A cA H locs ls K S)
theorem mw_tableOut {dflt lo hi : Int} {offs : Array Int} {len : Nat} {x : Int32} {tgt : Nat} (hd : decode cc pc = .ok (.tableswitch dflt lo hi offs, len)) (h : x.toInt < lo ∨ hi < x.toInt) (ht : (pc : Int) + dflt = (tgt : Int)) (k : mh_W own cc nL rt ini R n0 mc ms Ex Φ slots sh I L tgt lv st) : mh_W own cc nL rt ini R n0 mc ms Ex Φ slots sh I L pc lv (.int x :: st) := by
  intro p l e s m args below meth c D ad A cA H locs ls K S
  exact lv_tableOut K.1 K.2.1 hd h ht (k p l e s m args below meth c D ad A cA H locs ls K S)
theorem mw_lookup {dflt : Int} {ps : Array (Int × Int)} {len : Nat} {x : Int32} {off : Int} {tgt : Nat} (hd : decode cc pc = .ok (.lookupswitch dflt ps, len)) (hp : (ps.toList.zip (ps.toList.drop 1)).all (fun (a, next) => a.1 < next.1) = true) (ho : Op.lookupswitch.offset ps.toList dflt x.toInt = off) (ht : (pc : Int) + off = (tgt : Int)) (k : mh_W own cc nL rt ini R n0 mc ms Ex Φ slots sh I L tgt lv st) : mh_W own cc nL rt ini R n0 mc ms Ex Φ slots sh I L pc lv (.int x :: st) := by
  intro p l e s m args below meth c D ad A cA H locs ls K S
  exact lv_lookup K.1 K.2.1 hd hp ho ht (k p l e s m args below meth c D ad A cA H locs ls K S)
end MW
end
section
/-! the mini heap's rows: its cells by their places, and what a write does -/
theorem mh_ws_at {ad : Nat → Nat} {cA : Nat → ClassId} {sh : List mh_C} {I : mh_I} {L : mh_L} {a : Nat} {c : mh_C} (h : sh[a]? = some c) : (mh_ws ad cA sh I L)[a]? = some (ad a, mh_cell ad cA I L a c) := by
  rw [mh_ws, List.getElem?_mapIdx, h]; rfl
theorem mh_ws_len {ad : Nat → Nat} {cA : Nat → ClassId} {sh : List mh_C} {I : mh_I} {L : mh_L} : (mh_ws ad cA sh I L).length = sh.length := by
  rw [mh_ws, List.length_mapIdx]
theorem mh_fs_at {ad : Nat → Nat} {I : mh_I} {L : mh_L} {a k : Nat} {fs : List mh_F} {f : mh_F} (h : fs[k]? = some f) : (fs.mapIdx (fun k f => mh_fv ad I L a k f))[k]? = some (mh_fv ad I L a k f) := by
  rw [List.getElem?_mapIdx, h]; rfl
theorem mh_fv_congr {ad : Nat → Nat} {I I' : mh_I} {L L' : mh_L} {a k : Nat} (hI : I' a k = I a k) (hL : L' a k = L a k) (f : mh_F) : mh_fv ad I' L' a k f = mh_fv ad I L a k f := by
  rcases f with n | r
  · cases n with
    | zero => exact congrArg Value.int hI
    | succ n => exact congrArg Value.long hL
  · rfl
theorem mh_cell_congr {ad : Nat → Nat} {cA cA' : Nat → ClassId} {I I' : mh_I} {L L' : mh_L} {a : Nat} (hI : I' a = I a) (hL : L' a = L a) (hA : cA' a = cA a) (c : mh_C) : mh_cell ad cA' I' L' a c = mh_cell ad cA I L a c := by
  rcases c with ⟨ci, fs⟩ | ⟨t, n, r⟩
  · simp only [mh_cell]
    refine congrArg (fun z => (Sum.inr (ci, z) : va_E)) ?_
    refine congrArg (fun f => fs.mapIdx f) ?_
    funext k f
    exact mh_fv_congr (congrFun hI k) (congrFun hL k) f
  · match t with
    | 0 => simp only [mh_cell, hI, hA]
    | 1 => simp only [mh_cell, hL, hA]
    | t + 2 => simp only [mh_cell, hA]
/-- one cell written: the world that has it -/
theorem mh_ws_set {ad : Nat → Nat} {cA : Nat → ClassId} {sh : List mh_C} {I I' : mh_I} {L L' : mh_L} {a : Nat} {c' : mh_C} (ha : a < sh.length) (hI : ∀ b, b ≠ a → I' b = I b) (hL : ∀ b, b ≠ a → L' b = L b) : (mh_ws ad cA sh I L).set a (ad a, mh_cell ad cA I' L' a c') = mh_ws ad cA (sh.set a c') I' L' := by
  apply List.ext_getElem?
  intro j
  by_cases hj : j = a
  · subst hj
    rw [List.getElem?_set_self (by rw [mh_ws_len]; exact ha), mh_ws_at (c := c')]
    rw [List.getElem?_set_self ha]
  · rw [List.getElem?_set_ne (Ne.symm hj)]
    simp only [mh_ws, List.getElem?_mapIdx]
    rw [List.getElem?_set_ne (Ne.symm hj)]
    cases sh[j]? with
    | none => rfl
    | some c => simp only [Option.map_some]; rw [mh_cell_congr (hI j hj) (hL j hj) rfl]
theorem mh_set_same {sh : List mh_C} {a : Nat} {c : mh_C} (h : sh[a]? = some c) : sh.set a c = sh := by
  obtain ⟨h1, h2⟩ := List.getElem?_eq_some_iff.mp h
  rw [← h2]
  exact List.set_getElem_self h1
theorem mh_u_ne {I : mh_I} {a k : Nat} {x : Int32} : ∀ b, b ≠ a → mh_u I a k x b = I b := fun b hb => by funext j; simp [mh_u, hb]
theorem mh_ul_ne {L : mh_L} {a k : Nat} {x : Int64} : ∀ b, b ≠ a → mh_ul L a k x b = L b := fun b hb => by funext j; simp [mh_ul, hb]
theorem mh_u_row {I : mh_I} {a k : Nat} {x : Int32} : mh_u I a k x a = upd (I a) k x := by funext j; simp [mh_u, upd]
theorem mh_fs_seti {ad : Nat → Nat} {I : mh_I} {L : mh_L} {a k : Nat} {fs : List mh_F} {x : Int32} (h : fs[k]? = some (.inl 0)) : (fs.mapIdx (fun k f => mh_fv ad I L a k f)).set k (.int x) = fs.mapIdx (fun j f => mh_fv ad (mh_u I a k x) L a j f) := by
  apply List.ext_getElem?
  intro j
  by_cases hj : j = k
  · subst hj
    rw [List.getElem?_set_self (by rw [List.length_mapIdx]; exact (List.getElem?_eq_some_iff.mp h).1), List.getElem?_mapIdx, h]
    simp [mh_fv, mh_u]
  · rw [List.getElem?_set_ne (Ne.symm hj), List.getElem?_mapIdx, List.getElem?_mapIdx]
    cases fs[j]? with
    | none => rfl
    | some f => simp only [Option.map_some]; rw [mh_fv_congr (I := I) (I' := mh_u I a k x) (by simp [mh_u, hj]) rfl f]
theorem mh_fs_setl {ad : Nat → Nat} {I : mh_I} {L : mh_L} {a k n : Nat} {fs : List mh_F} {x : Int64} (h : fs[k]? = some (.inl (n + 1))) : (fs.mapIdx (fun k f => mh_fv ad I L a k f)).set k (.long x) = fs.mapIdx (fun j f => mh_fv ad I (mh_ul L a k x) a j f) := by
  apply List.ext_getElem?
  intro j
  by_cases hj : j = k
  · subst hj
    rw [List.getElem?_set_self (by rw [List.length_mapIdx]; exact (List.getElem?_eq_some_iff.mp h).1), List.getElem?_mapIdx, h]
    simp [mh_fv, mh_ul]
  · rw [List.getElem?_set_ne (Ne.symm hj), List.getElem?_mapIdx, List.getElem?_mapIdx]
    cases fs[j]? with
    | none => rfl
    | some f => simp only [Option.map_some]; rw [mh_fv_congr (L := L) (L' := mh_ul L a k x) rfl (by simp [mh_ul, hj]) f]
theorem mh_fs_setr {ad : Nat → Nat} {I : mh_I} {L : mh_L} {a k : Nat} {fs : List mh_F} {r : Option Nat} (h : k < fs.length) : (fs.mapIdx (fun k f => mh_fv ad I L a k f)).set k (va_rf (r.map ad)) = (fs.set k (.inr r)).mapIdx (fun j f => mh_fv ad I L a j f) := by
  apply List.ext_getElem?
  intro j
  by_cases hj : j = k
  · subst hj
    rw [List.getElem?_set_self (by rw [List.length_mapIdx]; exact h), List.getElem?_mapIdx, List.getElem?_set_self h]
    rfl
  · rw [List.getElem?_set_ne (Ne.symm hj), List.getElem?_mapIdx, List.getElem?_mapIdx, List.getElem?_set_ne (Ne.symm hj)]
theorem mh_B.set {D : va_G} {ad : Nat → Nat} {cA : Nat → ClassId} {A : Nat → Prop} {sh sh' : List mh_C} {I I' : mh_I} {L L' : mh_L} {H H1 : Heap} {U : State} (B : mh_B D ad cA A sh I L H U) (hP : va_P D vwCl (mh_ws ad cA sh' I' L') H1) (hD : va_D A (mh_ws ad cA sh' I' L')) (hs : ∀ (a t n : Nat) (r : Nat → Option Nat), sh'[a]? = some (.inr (t, n, r)) → ∃ r', sh[a]? = some (.inr (t, n, r'))) : mh_B D ad cA A sh' I' L' H1 U :=
  ⟨hP, hD, B.2.2.1, fun a t n r h => (hs a t n r h).elim fun r' h' => B.2.2.2 a t n r' h'⟩
/-- a field that is read: by the tables, of its own class or of a nest mate -/
def mh_fl (own : String) (index ci k : Nat) : Prop :=
  ∃ (C : String) (T : u_T) (N : Nat), vwCl[ci]? = some (C, T, N) ∧ (∀ w ∈ u_ws C T N, w ∈ mh_TB) ∧ k < N ∧ (T k).1 = C ∧ (Cond.fieldLink own index C (T k).2.1 (T k).2.2.1 ∈ mh_TB ∨ ∃ host : String, Cond.fieldLinkNest own index C (T k).2.1 (T k).2.2.1 host ∈ mh_NW)
/-- a field that is written -/
def mh_fp (own : String) (index ci k : Nat) (ty : FieldType) (fin : Bool) : Prop :=
  ∃ (C : String) (T : u_T) (N : Nat) (ty0 : Nat → FieldType), vwCl[ci]? = some (C, T, N) ∧ (∀ w ∈ u_ws C T N, w ∈ mh_TB) ∧ k < N ∧ (T k).1 = C ∧ (Cond.fieldLink own index C (T k).2.1 (T k).2.2.1 ∈ mh_TB ∨ (fin = false ∧ ∃ host : String, Cond.fieldLinkNest own index C (T k).2.1 (T k).2.2.1 host ∈ mh_NW)) ∧
    (∀ k, k < N → parseFieldDescriptor (T k).2.2.1 = some (ty0 k)) ∧ (∀ a, a < N → ∀ b, b < N → a ≠ b → (T a).2.1 ≠ (T b).2.1) ∧ (T k).2.2.2 = fin ∧ parseFieldDescriptor (T k).2.2.1 = some ty ∧ (fin = true → C = own)
section MH2
variable {own : String} {cc : ByteArray} {nL : Nat} {rt : Option FieldType} {ini : Bool} {R : Room} {n0 mc ms : Nat} {Ex : mh_X} {Φ : mh_P} {slots : Nat} {sh : List mh_C} {I : mh_I} {L : mh_L} {pc : Nat} {lv : List (Nat × Value)} {st : List Value}
theorem mw_getv {index ci k a : Nat} {fs : List mh_F} {f : mh_F} {v : Value} (q : mh_fl own index ci k) (hd : decode cc pc = .ok (.getfield index, 3)) (hs : sh[a]? = some (.inl (ci, fs))) (hf : fs[k]? = some f) (hv : ∀ ad, mh_fv ad I L a k f = mh_v ad v) (kk : mh_W own cc nL rt ini R n0 mc ms Ex Φ slots sh I L (pc + 3) lv (v :: st)) : mh_W own cc nL rt ini R n0 mc ms Ex Φ slots sh I L pc lv (.ref a :: st) := by
  intro p l e s m args below meth c D ad A cA H locs ls K S
  obtain ⟨C, T, N, hc, hin, hk, hC, hl⟩ := q
  have h1 := mh_ws_at (ad := ad) (cA := cA) (I := I) (L := L) hs
  have h2 : (fs.mapIdx (fun k f => mh_fv ad I L a k f))[k]? = some (mh_v ad v) := (mh_fs_at hf).trans (by rw [hv])
  have hK := kk p l e s m args below meth c D ad A cA H locs ls K S
  rcases hl with hl | ⟨host, hl⟩
  · exact va_get (T := T) K.x K.b K.tb hin K.hown S.K S.P a h1 hc k hk (K.tb _ hl) (fun _ h => by rw [hC] at h; exact h) h2 hd hK
  · exact va_getN (T := T) (host := host) K.x K.b K.tb hin K.hown S.K S.P a h1 hc k hk (va_Nw.use rfl (K.e.1 _ hl)) (fun _ h => by rw [hC] at h; exact h) h2 hd hK
theorem mw_geti {index ci k a : Nat} {fs : List mh_F} (q : mh_fl own index ci k) (hd : decode cc pc = .ok (.getfield index, 3)) (hs : sh[a]? = some (.inl (ci, fs))) (hf : fs[k]? = some (.inl 0)) (kk : mh_W own cc nL rt ini R n0 mc ms Ex Φ slots sh I L (pc + 3) lv (.int (I a k) :: st)) : mh_W own cc nL rt ini R n0 mc ms Ex Φ slots sh I L pc lv (.ref a :: st) := mw_getv q hd hs hf (fun _ => rfl) kk
theorem mw_getl {index ci k a : Nat} {fs : List mh_F} (q : mh_fl own index ci k) (hd : decode cc pc = .ok (.getfield index, 3)) (hs : sh[a]? = some (.inl (ci, fs))) (hf : fs[k]? = some (.inl 1)) (kk : mh_W own cc nL rt ini R n0 mc ms Ex Φ slots sh I L (pc + 3) lv (.long (L a k) :: st)) : mh_W own cc nL rt ini R n0 mc ms Ex Φ slots sh I L pc lv (.ref a :: st) := mw_getv q hd hs hf (fun _ => rfl) kk
theorem mw_getr {index ci k a b : Nat} {fs : List mh_F} (q : mh_fl own index ci k) (hd : decode cc pc = .ok (.getfield index, 3)) (hs : sh[a]? = some (.inl (ci, fs))) (hf : fs[k]? = some (.inr (some b))) (kk : mh_W own cc nL rt ini R n0 mc ms Ex Φ slots sh I L (pc + 3) lv (.ref b :: st)) : mh_W own cc nL rt ini R n0 mc ms Ex Φ slots sh I L pc lv (.ref a :: st) := mw_getv q hd hs hf (fun _ => rfl) kk
/-- a write of a field, whatever it holds -/
theorem mw_putv {index ci k a : Nat} {fs fs' : List mh_F} {v : Value} {ty : FieldType} {fin : Bool} {I' : mh_I} {L' : mh_L} (q : mh_fp own index ci k ty fin) (hi : fin = true → ini = true) (hd : decode cc pc = .ok (.putfield index, 3)) (hs : sh[a]? = some (.inl (ci, fs))) (hkl : k < fs.length)
    (hn : ∀ ad, narrow ty (mh_v ad v) = mh_v ad v) (hfit : ∀ ad, fits ty (mh_v ad v) = true) (hI : ∀ b, b ≠ a → I' b = I b) (hL : ∀ b, b ≠ a → L' b = L b)
    (hset : ∀ ad : Nat → Nat, (fs.mapIdx (fun k f => mh_fv ad I L a k f)).set k (mh_v ad v) = fs'.mapIdx (fun k f => mh_fv ad I' L' a k f))
    (kk : mh_W own cc nL rt ini R n0 mc ms Ex Φ slots (sh.set a (.inl (ci, fs'))) I' L' (pc + 3) lv st) : mh_W own cc nL rt ini R n0 mc ms Ex Φ slots sh I L pc lv (v :: .ref a :: st) := by
  intro p l e s m args below meth c D ad A cA H locs ls K S
  obtain ⟨C, T, N, ty0, hc, hin, hk, hC, hl, hty, hnm, hfin, hpd, how⟩ := q
  have h1 := mh_ws_at (ad := ad) (cA := cA) (I := I) (L := L) hs
  have ha : a < sh.length := (List.getElem?_eq_some_iff.mp hs).1
  have hcont : ∀ (H1 : Heap) (locs1 : List Loc), va_P D vwCl ((mh_ws ad cA sh I L).set a (ad a, .inr (ci, (fs.mapIdx (fun k f => mh_fv ad I L a k f)).set k (mh_v ad v)))) H1 → va_D A ((mh_ws ad cA sh I L).set a (ad a, .inr (ci, (fs.mapIdx (fun k f => mh_fv ad I L a k f)).set k (mh_v ad v)))) → va_S A s.heap H1 locs1 →
      W p l e R s m args below meth c H1 locs1 (sh.length - n0) slots (MQ below (mh_Q D ad A n0 Φ) args s mc ms A) (F0 m (pc + 3) ls (st.map (mh_v ad))) := by
    intro H1 locs1 hP hD hS
    have hw : (mh_ws ad cA sh I L).set a (ad a, .inr (ci, (fs.mapIdx (fun k f => mh_fv ad I L a k f)).set k (mh_v ad v))) = mh_ws ad cA (sh.set a (.inl (ci, fs'))) I' L' := by
      rw [hset ad]
      exact mh_ws_set (c' := .inl (ci, fs')) ha hI hL
    rw [hw] at hP hD
    have hk := kk p l e s m args below meth c D ad A cA H1 locs1 ls K ⟨S.1.set hP hD (fun b t n r h => ?_), hS, S.hlv, by rw [List.length_set]; exact S.hn0, by rw [List.length_set]; exact S.big⟩
    · rw [List.length_set] at hk
      exact hk
    by_cases hb : b = a
    · subst hb
      rw [List.getElem?_set_self ha] at h
      cases h
    · rw [List.getElem?_set_ne (Ne.symm hb)] at h
      exact ⟨r, h⟩
  have hkf : k < (fs.mapIdx (fun k f => mh_fv ad I L a k f)).length := by rw [List.length_mapIdx]; exact hkl
  have hdecl : ∀ x, s.fieldFound? (T k).1 (T k).2.1 (T k).2.2.1 = some x → s.fieldFound? C (T k).2.1 (T k).2.2.1 = some x := fun _ h => by rw [hC] at h; exact h
  rcases hl with hl | ⟨hf0, host, hl⟩
  · cases fin with
    | false => exact va_put (T := T) K.x K.b K.tb hin ty0 hty hnm K.hown S.K S.P S.hD S.S a h1 hc k hk (K.tb _ hl) hdecl hfin hpd (hn ad) (hfit ad) hkf hd hcont
    | true => exact va_putF (T := T) K.x K.b K.tb hin ty0 hty hnm K.hown S.K S.P S.hD S.S a h1 hc k hk (K.tb _ hl) hdecl hfin (K.hini (hi rfl)) (hC.trans (how rfl)) hpd (hn ad) (hfit ad) hkf hd hcont
  · subst hf0
    exact va_putN (T := T) (host := host) K.x K.b K.tb hin ty0 hty hnm K.hown S.K S.P S.hD S.S a h1 hc k hk (va_Nw.use rfl (K.e.1 _ hl)) hdecl hfin hpd (hn ad) (hfit ad) hkf hd hcont
end MH2
end
section
section MH3
variable {own : String} {cc : ByteArray} {nL : Nat} {rt : Option FieldType} {ini : Bool} {R : Room} {n0 mc ms : Nat} {Ex : mh_X} {Φ : mh_P} {slots : Nat} {sh : List mh_C} {I : mh_I} {L : mh_L} {pc : Nat} {lv : List (Nat × Value)} {st : List Value}
theorem mw_puti {index ci k a : Nat} {fs : List mh_F} {x : Int32} {ty : FieldType} {fin : Bool} (q : mh_fp own index ci k ty fin) (hi : fin = true → ini = true) (hn : narrow ty (.int x) = .int x) (hfit : fits ty (.int x) = true) (hd : decode cc pc = .ok (.putfield index, 3)) (hs : sh[a]? = some (.inl (ci, fs))) (hf : fs[k]? = some (.inl 0))
    (kk : mh_W own cc nL rt ini R n0 mc ms Ex Φ slots sh (mh_u I a k x) L (pc + 3) lv st) : mh_W own cc nL rt ini R n0 mc ms Ex Φ slots sh I L pc lv (.int x :: .ref a :: st) := by
  refine mw_putv (fs' := fs) (v := .int x) q hi hd hs (List.getElem?_eq_some_iff.mp hf).1 (fun _ => hn) (fun _ => hfit) mh_u_ne (fun _ _ => rfl) (fun ad => mh_fs_seti hf) ?_
  rw [mh_set_same hs]
  exact kk
theorem mw_putl {index ci k a : Nat} {fs : List mh_F} {x : Int64} {fin : Bool} (q : mh_fp own index ci k .long fin) (hi : fin = true → ini = true) (hd : decode cc pc = .ok (.putfield index, 3)) (hs : sh[a]? = some (.inl (ci, fs))) (hf : fs[k]? = some (.inl 1))
    (kk : mh_W own cc nL rt ini R n0 mc ms Ex Φ slots sh I (mh_ul L a k x) (pc + 3) lv st) : mh_W own cc nL rt ini R n0 mc ms Ex Φ slots sh I L pc lv (.long x :: .ref a :: st) := by
  refine mw_putv (fs' := fs) (v := .long x) q hi hd hs (List.getElem?_eq_some_iff.mp hf).1 (fun _ => rfl) (fun _ => rfl) (fun _ _ => rfl) mh_ul_ne (fun ad => mh_fs_setl hf) ?_
  rw [mh_set_same hs]
  exact kk
theorem mw_putr {index ci k a b : Nat} {fs : List mh_F} {ty : FieldType} {fin : Bool} (q : mh_fp own index ci k ty fin) (hi : fin = true → ini = true) (hty : refKind ty = true) (hd : decode cc pc = .ok (.putfield index, 3)) (hs : sh[a]? = some (.inl (ci, fs))) (hk : k < fs.length)
    (kk : mh_W own cc nL rt ini R n0 mc ms Ex Φ slots (sh.set a (.inl (ci, fs.set k (.inr (some b))))) I L (pc + 3) lv st) : mh_W own cc nL rt ini R n0 mc ms Ex Φ slots sh I L pc lv (.ref b :: .ref a :: st) :=
  mw_putv (fs' := fs.set k (.inr (some b))) (v := .ref b) q hi hd hs hk (fun _ => by cases ty <;> first | rfl | cases hty) (fun _ => by cases ty <;> first | rfl | cases hty) (fun _ _ => rfl) (fun _ _ => rfl) (fun ad => mh_fs_setr (r := some b) hk) kk
theorem mw_iald {a n : Nat} {r : Nat → Option Nat} {i : Int32} (hd : decode cc pc = .ok (.iaload, 1)) (hs : sh[a]? = some (.inr (0, n, r))) (hin : ¬ (i < 0 ∨ n ≤ i.toNatClampNeg)) (kk : mh_W own cc nL rt ini R n0 mc ms Ex Φ slots sh I L (pc + 1) lv (.int (I a i.toNatClampNeg) :: st)) : mh_W own cc nL rt ini R n0 mc ms Ex Φ slots sh I L pc lv (.int i :: .ref a :: st) := by
  intro p l e s m args below meth c D ad A cA H locs ls K S
  exact va_iald K.x K.b (S.KA hs) S.P a 0 (mh_ws_at hs) rfl hin hd (kk p l e s m args below meth c D ad A cA H locs ls K S)
theorem mw_lald {a n : Nat} {r : Nat → Option Nat} {i : Int32} (hd : decode cc pc = .ok (.laload, 1)) (hs : sh[a]? = some (.inr (1, n, r))) (hin : ¬ (i < 0 ∨ n ≤ i.toNatClampNeg)) (kk : mh_W own cc nL rt ini R n0 mc ms Ex Φ slots sh I L (pc + 1) lv (.long (L a i.toNatClampNeg) :: st)) : mh_W own cc nL rt ini R n0 mc ms Ex Φ slots sh I L pc lv (.int i :: .ref a :: st) := by
  intro p l e s m args below meth c D ad A cA H locs ls K S
  exact va_lald K.x K.b (S.KA hs) S.P a 0 (mh_ws_at hs) rfl hin hd (kk p l e s m args below meth c D ad A cA H locs ls K S)
theorem mh_ty_ref (t : Nat) : ∃ C : String, mh_ty (t + 2) = .object C ∧ ∃ (ci : Nat) (T : u_T) (N : Nat), vwCl[ci]? = some (C, T, N) := by
  match t with
  | 0 => exact ⟨RX2, rfl, 2, TX2, 3, rfl⟩
  | t + 1 => exact ⟨RX4, rfl, 4, TX4, 5, rfl⟩
theorem mw_aald {a n t b : Nat} {r : Nat → Option Nat} {i : Int32} (hd : decode cc pc = .ok (.aaload, 1)) (hs : sh[a]? = some (.inr (t + 2, n, r))) (hin : ¬ (i < 0 ∨ n ≤ i.toNatClampNeg)) (hb : r i.toNatClampNeg = some b) (kk : mh_W own cc nL rt ini R n0 mc ms Ex Φ slots sh I L (pc + 1) lv (.ref b :: st)) : mh_W own cc nL rt ini R n0 mc ms Ex Φ slots sh I L pc lv (.int i :: .ref a :: st) := by
  intro p l e s m args below meth c D ad A cA H locs ls K S
  obtain ⟨C, hC, -⟩ := mh_ty_ref t
  have hKA := S.KA hs
  rw [hC] at hKA
  have hk := kk p l e s m args below meth c D ad A cA H locs ls K S
  refine va_aldq (f := fun k => (r k).map ad) K.x K.b hKA S.P a 0 (mh_ws_at hs) rfl hin hd ?_
  rw [hb]
  exact hk
/-- an array's cell written -/
theorem mh_arr_step {nL' : Nat} {s : State} {D : va_G} {ad : Nat → Nat} {A : Nat → Prop} {cA : Nat → ClassId} {H H1 : Heap} {locs locs1 : List Loc} {ls : Array Slot} {sh' : List mh_C} {I' : mh_I} {L' : mh_L} {a t n : Nat} {r r' : Nat → Option Nat} (hs : sh[a]? = some (.inr (t, n, r))) (hsh : sh' = sh.set a (.inr (t, n, r'))) (S : mh_S nL' n0 s D ad A cA sh I L lv H locs ls) {c' : va_E}
    (hc : c' = mh_cell ad cA I' L' a (.inr (t, n, r'))) (hI : ∀ b, b ≠ a → I' b = I b) (hL : ∀ b, b ≠ a → L' b = L b) (hP : va_P D vwCl ((mh_ws ad cA sh I L).set a (ad a, c')) H1) (hD : va_D A ((mh_ws ad cA sh I L).set a (ad a, c'))) (hS : va_S A s.heap H1 locs1) : mh_S nL' n0 s D ad A cA sh' I' L' lv H1 locs1 ls := by
  have ha : a < sh.length := (List.getElem?_eq_some_iff.mp hs).1
  subst hc
  subst hsh
  rw [mh_ws_set ha hI hL] at hP hD
  refine ⟨S.1.set hP hD (fun b t1 n1 r1 h => ?_), hS, S.hlv, by rw [List.length_set]; exact S.hn0, by rw [List.length_set]; exact S.big⟩
  by_cases hb : b = a
  · subst hb
    rw [List.getElem?_set_self ha] at h
    cases h
    exact ⟨r, hs⟩
  · rw [List.getElem?_set_ne (Ne.symm hb)] at h
    exact ⟨r1, h⟩
theorem mw_iast {a n : Nat} {r : Nat → Option Nat} {i x : Int32} (hd : decode cc pc = .ok (.iastore, 1)) (hs : sh[a]? = some (.inr (0, n, r))) (hin : ¬ (i < 0 ∨ n ≤ i.toNatClampNeg)) (kk : mh_W own cc nL rt ini R n0 mc ms Ex Φ slots sh (mh_u I a i.toNatClampNeg x) L (pc + 1) lv st) : mh_W own cc nL rt ini R n0 mc ms Ex Φ slots sh I L pc lv (.int x :: .int i :: .ref a :: st) := by
  intro p l e s m args below meth c D ad A cA H locs ls K S
  refine va_iast K.x K.b (S.KA hs) S.P S.hD S.S a 0 (mh_ws_at hs) rfl hin hd (fun H1 locs1 hP hD hS => ?_)
  exact kk p l e s m args below meth c D ad A cA H1 locs1 ls K (mh_arr_step hs (mh_set_same hs).symm S (by rw [mh_cell, mh_u_row]) mh_u_ne (fun _ _ => rfl) hP hD hS)
theorem mw_last {a n : Nat} {r : Nat → Option Nat} {i : Int32} {x : Int64} (hd : decode cc pc = .ok (.lastore, 1)) (hs : sh[a]? = some (.inr (1, n, r))) (hin : ¬ (i < 0 ∨ n ≤ i.toNatClampNeg)) (kk : mh_W own cc nL rt ini R n0 mc ms Ex Φ slots sh I (mh_ul L a i.toNatClampNeg x) (pc + 1) lv st) : mh_W own cc nL rt ini R n0 mc ms Ex Φ slots sh I L pc lv (.long x :: .int i :: .ref a :: st) := by
  intro p l e s m args below meth c D ad A cA H locs ls K S
  refine va_last K.x K.b (S.KA hs) S.P S.hD S.S a 0 (mh_ws_at hs) rfl hin hd (fun H1 locs1 hP hD hS => ?_)
  refine kk p l e s m args below meth c D ad A cA H1 locs1 ls K (mh_arr_step hs (mh_set_same hs).symm S ?_ (fun _ _ => rfl) mh_ul_ne hP hD hS)
  have hr : vp_updL (L a) i.toNatClampNeg x = mh_ul L a i.toNatClampNeg x a := by funext j; simp [mh_ul, vp_updL]
  rw [mh_cell, hr]
theorem mw_aast {a n t b ci : Nat} {r : Nat → Option Nat} {i : Int32} {fs : List mh_F} (hd : decode cc pc = .ok (.aastore, 1)) (hs : sh[a]? = some (.inr (t + 2, n, r))) (hb : sh[b]? = some (.inl (ci, fs))) (hci : ∃ (C : String) (T : u_T) (N : Nat), vwCl[ci]? = some (C, T, N) ∧ mh_ty (t + 2) = .object C) (hin : ¬ (i < 0 ∨ n ≤ i.toNatClampNeg)) (kk : mh_W own cc nL rt ini R n0 mc ms Ex Φ slots (sh.set a (.inr (t + 2, n, va_up r i.toNatClampNeg (some b)))) I L (pc + 1) lv st) : mh_W own cc nL rt ini R n0 mc ms Ex Φ slots sh I L pc lv (.ref b :: .int i :: .ref a :: st) := by
  intro p l e s m args below meth c D ad A cA H locs ls K S
  obtain ⟨C, T, N, hc, hC⟩ := hci
  have hKA := S.KA hs
  rw [hC] at hKA
  refine va_astq (r := (C, T, N)) (f := fun k => (r k).map ad) K.x K.b ⟨hKA.1, hKA.2⟩ S.P S.hD S.S a 0 b ci (mh_ws_at hs) rfl (mh_ws_at hb) hc hin hd (fun H1 locs1 hP hD hS => ?_)
  have hk := kk p l e s m args below meth c D ad A cA H1 locs1 ls K (mh_arr_step (I' := I) (L' := L) hs rfl S ?_ (fun _ _ => rfl) (fun _ _ => rfl) hP hD hS)
  · rw [List.length_set] at hk
    exact hk
  · rw [mh_cell]
    congr 7
    funext j
    by_cases hj : j = i.toNatClampNeg <;> simp [va_up, hj]
theorem mw_copy {a0 a1 n0' n1' index : Nat} {r0 r1 : Nat → Option Nat} {sp dp n : Int32} (hl : Cond.methodLink own index arraycopyName ∈ mh_TB) (hd : decode cc pc = .ok (.invokestatic index, 3)) (hs0 : sh[a0]? = some (.inr (0, n0', r0))) (hs1 : sh[a1]? = some (.inr (0, n1', r1))) (h1 : ¬ sp < 0) (h2 : ¬ dp < 0) (h3 : ¬ n < 0) (h4 : sp.toNatClampNeg + n.toNatClampNeg ≤ n0') (h5 : dp.toNatClampNeg + n.toNatClampNeg ≤ n1')
    (hw : Cond.native arraycopyName ∈ mh_TB ∧ Cond.static arraycopyName ∈ mh_TB ∧ Cond.initialized "java/lang/System" ∈ mh_TB) (hR : 1 ≤ R.frames ∧ (st.map fun v => v.category).sum + (nativeFrameWords "java/lang/System" "arraycopy" 5 + 11) ≤ R.locals)
    (kk : mh_W own cc nL rt ini R n0 mc ms Ex Φ slots sh (fun b => if b = a1 then va_cpy (I a0) (I a1) sp.toNatClampNeg dp.toNatClampNeg n.toNatClampNeg else I b) L (pc + 3) lv st) : mh_W own cc nL rt ini R n0 mc ms Ex Φ slots sh I L pc lv (.int n :: .int dp :: .ref a1 :: .int sp :: .ref a0 :: st) := by
  intro p l e s m args below meth c D ad A cA H locs ls K S
  have hKK : va_K D vwCl [(cA a0, .int), (cA a1, .int)] s := va_K.app (S.KA hs0) (S.KA hs1)
  refine va_copyi (ty := .int) K.x K.b (K.ml.trans S.hlv.1.symm) K.hown (K.tb _ hl) (K.tb _ hw.1) (K.tb _ hw.2.1) (K.tb _ hw.2.2) hKK S.P S.hD S.S a0 a1 0 1 (mh_ws_at hs0) (mh_ws_at hs1) rfl rfl rfl h1 h2 h3 h4 h5 (fun _ _ => rfl) hR.1 (by rw [mh_cats]; exact hR.2) hd (fun H1 locs1 hP hD hS => ?_)
  exact kk p l e s m args below meth c D ad A cA H1 locs1 ls K (mh_arr_step hs1 (mh_set_same hs1).symm S (by rw [mh_cell]; simp) (fun b hb => by simp [hb]) (fun _ _ => rfl) hP hD hS)
/-- the size of the heap is known between two numbers -/
theorem W_szb {p : Program} {l : Launch} {e : Env} {s : State} {m : MethodId} {args : Array Value} {below : List Frame} {meth : Method} {c : Code} {H : Heap} {locs : List Loc} {cells slots : Nat} {Q : State → Prop} {g : JFrame} (k : s.heap.size ≤ H.size → H.size ≤ s.heap.size + cells → W p l e R s m args below meth c H locs cells slots Q g) : W p l e R s m args below meth c H locs cells slots Q g := by
  intro T hT X
  have h := X.same
  unfold State.sameButNew at h
  have h1 : s.heap.size ≤ T.heap.size := h.2.1
  have h2 : T.heap.size ≤ s.heap.size + cells := h.2.2.1
  rw [hT] at h1 h2
  exact k h1 h2 T hT X
theorem mh_low {D : va_G} {ad : Nat → Nat} {cA : Nat → ClassId} {H : Heap} {z : Nat} (hP : va_P D vwCl (mh_ws ad cA sh I L) H) (had : ∀ a : Nat, n0 ≤ a → a < 1000 → ad a = z + (a - n0)) (hn : n0 ≤ sh.length) (hb : sh.length < 1000) (hz : z ≤ H.size) : z + (sh.length - n0) ≤ H.size := by
  by_cases h : sh.length = n0
  · omega
  · have h1 : sh.length - 1 < sh.length := by omega
    obtain ⟨c, hc⟩ : ∃ c, sh[sh.length - 1]? = some c := ⟨_, List.getElem?_eq_getElem h1⟩
    have h2 := (hP _ _ (mh_ws_at hc)).lt
    rw [had (sh.length - 1) (by omega) (by omega)] at h2
    omega
end MH3
end
section
/-! contracts in the words of the mini heap; a method's start, its end, its calls -/
def mh_CT (y : MethodName) (cc : ByteArray) (maxL : Nat) (rt : Option FieldType) (Rc : Room) (sh : List mh_C) (I : mh_I) (L : mh_L) (av : List Value) (Φ : mh_P) : Prop :=
  ∀ (l : Launch) (D : va_G) (ad : Nat → Nat) (cA : Nat → ClassId) (sz : Nat), sh.length < 1000 → (∀ a : Nat, sh.length ≤ a → a < 1000 → ad a = sz + (a - sh.length)) →
    Met l y (.code y cc maxL rt :: mh_TB) Rc (va_Pc (av.map (mh_v ad)) (fun U => U.heap.size = sz ∧ mh_B D ad cA (mh_A ad sh.length sz) sh I L U.heap U ∧ mh_E (mh_A ad sh.length sz) ad U)) (mh_Q D ad (mh_A ad sh.length sz) sh.length Φ) Rc.cells Rc.slots (mh_A ad sh.length sz)
theorem mh_lvargs (ad : Nat → Nat) : ∀ (av : List Value) (i : Nat), lv_args i (av.map (mh_v ad)) = (lv_args i av).map (fun q => (q.1, mh_v ad q.2))
  | [], _ => rfl
  | v :: vs, i => by
    rw [List.map_cons, lv_args, lv_args, List.map_cons, mh_v_cat, mh_lvargs ad vs]
theorem mh_lgsl (ad : Nat → Nat) : ∀ (av : List Value), (lg_sl (av.map (mh_v ad))).length = (lg_sl av).length
  | [] => rfl
  | v :: vs => by
    have h := mh_lgsl ad vs
    unfold lg_sl at h ⊢
    rw [List.map_cons, List.flatMap_cons, List.flatMap_cons, List.length_append, List.length_append, h, mh_v_cat]
    by_cases hc : v.category = 2 <;> simp [hc]
theorem mh_ofW {y : MethodName} {cc : ByteArray} {maxL : Nat} {rt : Option FieldType} {Rc : Room} {sh : List mh_C} {I : mh_I} {L : mh_L} {av : List Value} {Φ : mh_P} {ini : Bool} (own : String) (hown : own = y.cls) (hy : plainName y.cls = true) (hini : ini = true → y.name = "<init>") (hn : (lg_sl av).length ≤ maxL)
    (h : mh_W own cc maxL rt ini Rc sh.length Rc.cells Rc.slots mh_noX Φ 0 sh I L 0 (lv_args 0 av) []) : mh_CT y cc maxL rt Rc sh I L av Φ := by
  subst hown
  intro l D ad cA sz hbig had
  refine Met.ofW (cc := cc) (maxL := maxL) (ret := rt) hy rfl ?_
  intro p e s m args below meth c s₁ B hml hv
  obtain ⟨rfl, hsz, hB, hE⟩ := hv
  have hts := atoms_spec (ws := .code y cc maxL rt :: mh_TB) B.pre
  have hown : s.vm.findClass y.cls = some m.cls := findClass_of_methodNamed B.named
  subst hsz
  have hl := lv_entry (av.map (mh_v ad)) (n := maxL) (by rw [mh_lgsl]; exact hn)
  rw [lg_entry_eq]
  generalize (lg_sl (av.map (mh_v ad)) ++ List.replicate (maxL - (lg_sl (av.map (mh_v ad))).length) Slot.unset).toArray = ls at hl ⊢
  rw [mh_lvargs] at hl
  have hk := h p l e s m (av.map (mh_v ad)).toArray below meth c D ad (mh_A ad sh.length s.heap.size) cA s.heap [] ls
    ⟨B.exec, B.bytes, hml, B.returns, B.notSynchronized, fun hi => (name_of_methodNamed B.named B.method).1.trans (hini hi), hown, fun w hw => hts w (List.mem_cons_of_mem _ hw), hE, fun q hq => Or.inr hq, had, trivial⟩
    ⟨hB, va_S.rf, hl, Nat.le_refl _, hbig⟩
  rw [Nat.sub_self] at hk
  exact hk
theorem mh_B.moved {D : va_G} {ad : Nat → Nat} {cA : Nat → ClassId} {A : Nat → Prop} {sh : List mh_C} {I : mh_I} {L : mh_L} {H : Heap} {u U : State} (hvm : u.vm.Alike U.vm) (h : mh_B D ad cA A sh I L H u) : mh_B D ad cA A sh I L H U :=
  ⟨h.1, h.2.1, va_K.moved hvm h.2.2.1, fun a t n r hs => va_K.moved hvm (h.2.2.2 a t n r hs)⟩
section MH4
variable {own : String} {cc : ByteArray} {nL : Nat} {rt : Option FieldType} {ini : Bool} {R : Room} {n0 mc ms : Nat} {Ex : mh_X} {Φ : mh_P} {slots : Nat} {sh : List mh_C} {I : mh_I} {L : mh_L} {pc : Nat} {lv : List (Nat × Value)} {st : List Value}
theorem mh_Qof {nL' : Nat} {s : State} {D : va_G} {ad : Nat → Nat} {A : Nat → Prop} {cA : Nat → ClassId} {H : Heap} {locs : List Loc} {ls : Array Slot} (S : mh_S nL' n0 s D ad A cA sh I L lv H locs ls) {r : Option Value} (hq : Φ r sh I L) {args : Array Value} {t : State} (ht : t.heap = H) (hW : s.WarmedH t.vm) : mh_Q D ad A n0 Φ args s (.returned (r.map (mh_v ad))) t := by
  refine ⟨⟨r, cA, sh, I, L, rfl, hq, ?_, S.big, S.hn0⟩, S.S.F ht⟩
  rw [ht]
  exact S.1.moved hW.alike
theorem mw_iret {v : Int32} {ty : FieldType} (hd : decode cc pc = .ok (.ireturn, 1)) (hr : rt = some ty) (hn : narrow ty (.int v) = .int v) (hc : sh.length - n0 ≤ mc) (hsl : slots ≤ ms) (hq : Φ (some (.int v)) sh I L) : mh_W own cc nL rt ini R n0 mc ms Ex Φ slots sh I L pc lv [.int v] := by
  intro p l e s m args below meth c D ad A cA H locs ls K S
  refine W.widen hc hsl ?_
  exact W.zret K.x K.b (K.hrt.trans hr) hn (fun t ht hW => mh_Qof S hq ht hW) S.S.2.2 hd K.locks
theorem mw_lret {v : Int64} (hd : decode cc pc = .ok (.lreturn, 1)) (hr : rt = some .long) (hc : sh.length - n0 ≤ mc) (hsl : slots ≤ ms) (hq : Φ (some (.long v)) sh I L) : mh_W own cc nL rt ini R n0 mc ms Ex Φ slots sh I L pc lv [.long v] := by
  intro p l e s m args below meth c D ad A cA H locs ls K S
  refine W.widen hc hsl ?_
  exact W.lret K.x K.b (K.hrt.trans hr) (fun t ht hW => mh_Qof S hq ht hW) S.S.2.2 hd K.locks
theorem mw_aret {b : Nat} {ty : FieldType} (hd : decode cc pc = .ok (.areturn, 1)) (hr : rt = some ty) (hty : (∃ n, ty = .object n) ∨ ∃ t, ty = .array t) (hc : sh.length - n0 ≤ mc) (hsl : slots ≤ ms) (hq : Φ (some (.ref b)) sh I L) : mh_W own cc nL rt ini R n0 mc ms Ex Φ slots sh I L pc lv [.ref b] := by
  intro p l e s m args below meth c D ad A cA H locs ls K S
  refine W.widen hc hsl ?_
  exact W.aret K.x K.b (K.hrt.trans hr) hty (Or.inr ⟨_, rfl⟩) (fun t ht hW => mh_Qof S hq ht hW) S.S.2.2 hd K.locks
theorem mw_vret (hd : decode cc pc = .ok (.return_, 1)) (hr : rt = none) (hc : sh.length - n0 ≤ mc) (hsl : slots ≤ ms) (hq : Φ none sh I L) : mh_W own cc nL rt ini R n0 mc ms Ex Φ slots sh I L pc lv [] := by
  intro p l e s m args below meth c D ad A cA H locs ls K S
  refine W.widen hc hsl ?_
  exact W.vret K.x K.b (K.hrt.trans hr) (fun t ht hW => mh_Qof S hq ht hW) S.S.2.2 hd K.locks
end MH4
theorem mh_nw_warm {s U : State} (hW : s.WarmedH U.vm) {w : Cond} (hw : w ∈ mh_NW) (h : va_Nw w s) : va_Nw w U := by
  have h1 : mh_nest w = true := (List.mem_filter.mp hw).2
  cases w with
  | fieldLinkNest a b c d e f => exact va_Nw.warmF hW h
  | methodLinkNest a b c d => exact va_Nw.warmM hW h
  | _ => cases h1
theorem mh_E.move {A B : Nat → Prop} {ad : Nat → Nat} {s U : State} (h : mh_E A ad s) (hW : s.WarmedH U.vm) (hk : ∀ a : Nat, a < s.heap.size → ¬ A a → U.heap[a]? = s.heap[a]?) (hAB : ∀ q, B q → A q) : mh_E B ad U := by
  obtain ⟨h1, ⟨h2, h3⟩, ⟨adV, h4⟩, h5, ⟨t, h6⟩, h7, h8⟩ := h
  exact ⟨fun w hw => mh_nw_warm hW hw (h1 w hw), ⟨vk_R.warm hW h2, vk_R.warm hW h3⟩, ⟨adV, ((h4.kept hk).moved hW.alike).narrow hAB⟩, ((h5.kept hk).moved hW.alike).narrow hAB, ⟨t, ((h6.kept hk).moved hW.alike).narrow hAB⟩, va_AO.moved hW.alike h7, va_AO.moved hW.alike h8⟩
theorem mh_blind {D : va_G} {ad : Nat → Nat} {cA : Nat → ClassId} {A : Nat → Prop} {sh : List mh_C} {I : mh_I} {L : mh_L} {sz : Nat} {vs : List Value} : FrameBlind (va_Pc vs (fun U => U.heap.size = sz ∧ mh_B D ad cA A sh I L U.heap U ∧ mh_E A ad U)) := by
  intro a U g mk h
  obtain ⟨h1, h2, h3, h4⟩ := h
  exact ⟨h1, h2, h3.moved (u := U) (U := U.calling g mk a) (Vm.Alike.refl U.vm), h4.move (s := U) (U := U.calling g mk a) (State.WarmedH.refl U) (fun _ _ _ => rfl) (fun _ hq => hq)⟩
/-- what the tables say of a call -/
def mh_cl (own : String) (index : Nat) (y : MethodName) (n : Nat) : Prop :=
  (Cond.methodLink own index y ∈ mh_TB ∨ ∃ host : String, Cond.methodLinkNest own index y host ∈ mh_NW) ∧ Cond.initialized y.cls ∈ mh_TB ∧ (y.cls ≠ "java/lang/invoke/MethodHandle" ∧ y.cls ≠ "java/lang/invoke/VarHandle") ∧ (parseMethodDescriptor y.desc).map (fun d => d.parameters.length) = some n
def mh_cv (own : String) (index : Nat) (y : MethodName) (n : Nat) : Prop := mh_cl own index y n ∧ Cond.instanceMethod y ∈ mh_TB ∧ Cond.selects y.cls y y ∈ mh_TB
def mh_cs (own : String) (index : Nat) (y : MethodName) (n : Nat) : Prop := mh_cl own index y n ∧ Cond.static y ∈ mh_TB
def mh_ci (own : String) (index : Nat) (y : MethodName) (n : Nat) : Prop := mh_cl own index y n ∧ Cond.instanceMethod y ∈ mh_TB ∧ y.name = "<init>"
theorem mh_good {y : MethodName} {cc : ByteArray} {maxL : Nat} {rt : Option FieldType} (h : Cond.code y cc maxL rt ∈ mh_TB) : GoodIn mh_TB (.code y cc maxL rt :: mh_TB) := by
  intro w hw
  rcases List.mem_cons.mp hw with rfl | hw
  · exact ⟨h, good_of_word (List.mem_filter.mp h).2⟩
  · exact ⟨hw, good_of_word (List.mem_filter.mp hw).2⟩
section MH5
variable {p : Program} {l : Launch} {e : Env} {R : Room} {s : State} {m : MethodId} {args : Array Value} {below : List Frame} {meth : Method} {c : Code} {H : Heap} {locs : List Loc} {cells slots : Nat} {Q : State → Prop} {pc : Nat} {ls : Array Slot} {rest st0 : List Value} {a : Array Value} {mc ms : Nat} {free : Addr → Prop}
/-- behind a call -/
theorem mh_on {D : va_G} {ad : Nat → Nat} {A A1 : Nat → Prop} {n1 : Nat} {Φ : mh_P} (hr : va_Run p l e R s m args below meth c H locs cells slots mc ms (F0 m pc ls st0) rest (mh_Q D ad A1 n1 Φ a) free) (hS : va_S A s.heap H locs) (hA : ∀ q, A1 q → A q) (hf : ∀ q, free q → A q)
    (kk : ∀ (r : Option Value) (cA : Nat → ClassId) (sh : List mh_C) (I : mh_I) (L : mh_L) (H1 : Heap) (locs1 : List Loc), Φ r sh I L → mh_B D ad cA A1 sh I L H1 s → sh.length < 1000 → n1 ≤ sh.length → va_S A s.heap H1 locs1 → (H.size ≤ H1.size ∧ ∀ q : Nat, q < H.size → ¬ A1 q → H1[q]? = H[q]?) → W p l e R s m args below meth c H1 locs1 (cells + mc) (slots + ms) Q (F0 m (pc + 3) ls ((r.map (mh_v ad)).toList ++ rest))) : W p l e R s m args below meth c H locs cells slots Q (F0 m pc ls st0) := by
  intro T hT X
  obtain ⟨v, st₀, t, T', L0, h0, X', hL, e1, e2, ⟨⟨r, cA, sh, I, L, hv, hφ, hB, hbig, hn⟩, hz, hk⟩, st⟩ := hr T hT X
  cases hv
  rw [h0] at hz hk
  have hal : s.vm.Alike t.vm := by rw [← e2]; exact X'.warmed.alike
  obtain ⟨t2, a1, b1⟩ := kk r cA sh I L T'.heap (locs ++ L0) hφ (by rw [e1]; exact hB.moved hal.symm) hbig hn
    ⟨Nat.le_trans hS.1 (by rw [e1]; exact hz), fun q h1 h2 => by rw [e1, hk q (Nat.lt_of_lt_of_le h1 hS.1) (fun z => h2 (hA q z))]; exact hS.2.1 q h1 h2, fun q hq => by
      rcases List.mem_append.mp hq with h | h
      · exact hS.2.2 q h
      · exact hf _ (hL q h)⟩ ⟨by rw [e1]; exact hz, fun q h1 h2 => by rw [e1]; exact hk q h1 h2⟩ T' rfl X'
  exact ⟨t2, st t2 a1, b1⟩
end MH5
end
section
theorem zz_last : True := trivial
end
