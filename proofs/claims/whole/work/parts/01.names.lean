-- ===== PART A: goes FIRST, ahead of the names: the tables' words, and 'selects' of the private methods out of them =====
/-- a private method of a class that the tables say can be made, by its rows of tables_1 -/
def lw_okq (q : MethodName × Nat) : Prop := (q.1.cls ≠ "java/lang/invoke/MethodHandle" ∧ q.1.cls ≠ "java/lang/invoke/VarHandle") ∧ Cond.instantiable q.1.cls q.2 ∈ tables_1 ∧ Cond.privateMethod q.1 ∈ tables_1 ∧ Cond.instanceMethod q.1 ∈ tables_1
theorem lw_p0 : lw_okq (⟨"TapeStudio", "feedPair", "(I)V"⟩, 10) := ⟨⟨by decide +kernel, by decide +kernel⟩, List.mem_of_getElem? (i := 21) (by decide +kernel), List.mem_of_getElem? (i := 348) (by decide +kernel), List.mem_of_getElem? (i := 349) (by decide +kernel)⟩
theorem lw_p1 : lw_okq (⟨"TapeStudio$Shelf", "begin", "(II)LTapeStudio$Strip;"⟩, 12) := ⟨⟨by decide +kernel, by decide +kernel⟩, List.mem_of_getElem? (i := 29) (by decide +kernel), List.mem_of_getElem? (i := 397) (by decide +kernel), List.mem_of_getElem? (i := 398) (by decide +kernel)⟩
theorem lw_p2 : lw_okq (⟨"TapeStudio$Shelf", "addPart", "(LTapeStudio$Strip;II)I"⟩, 12) := ⟨⟨by decide +kernel, by decide +kernel⟩, List.mem_of_getElem? (i := 29) (by decide +kernel), List.mem_of_getElem? (i := 498) (by decide +kernel), List.mem_of_getElem? (i := 499) (by decide +kernel)⟩
theorem lw_p3 : lw_okq (⟨"TapeStudio$Shelf", "beginOf", "(IILTapeStudio$Strip;)LTapeStudio$Strip;"⟩, 12) := ⟨⟨by decide +kernel, by decide +kernel⟩, List.mem_of_getElem? (i := 29) (by decide +kernel), List.mem_of_getElem? (i := 502) (by decide +kernel), List.mem_of_getElem? (i := 503) (by decide +kernel)⟩
theorem lw_p4 : lw_okq (⟨"TapeStudio$Shelf", "freeStrip", "(I)LTapeStudio$Strip;"⟩, 12) := ⟨⟨by decide +kernel, by decide +kernel⟩, List.mem_of_getElem? (i := 29) (by decide +kernel), List.mem_of_getElem? (i := 523) (by decide +kernel), List.mem_of_getElem? (i := 524) (by decide +kernel)⟩
theorem lw_p5 : lw_okq (⟨"TapeStudio$Shelf", "canPlay", "(LTapeStudio$Strip;LTapeStudio$Machine;II)Z"⟩, 12) := ⟨⟨by decide +kernel, by decide +kernel⟩, List.mem_of_getElem? (i := 29) (by decide +kernel), List.mem_of_getElem? (i := 611) (by decide +kernel), List.mem_of_getElem? (i := 612) (by decide +kernel)⟩
theorem lw_p6 : lw_okq (⟨"TapeStudio$Shelf", "played", "(ILTapeStudio$Strip;LTapeStudio$Machine;II)LTapeStudio$Strip;"⟩, 12) := ⟨⟨by decide +kernel, by decide +kernel⟩, List.mem_of_getElem? (i := 29) (by decide +kernel), List.mem_of_getElem? (i := 619) (by decide +kernel), List.mem_of_getElem? (i := 620) (by decide +kernel)⟩
theorem lw_p7 : lw_okq (⟨"TapeStudio$Row", "between", "(II)I"⟩, 2) := ⟨⟨by decide +kernel, by decide +kernel⟩, List.mem_of_getElem? (i := 85) (by decide +kernel), List.mem_of_getElem? (i := 628) (by decide +kernel), List.mem_of_getElem? (i := 629) (by decide +kernel)⟩
theorem lw_p8 : lw_okq (⟨"TapeStudio$Reader", "addByte", "(I)V"⟩, 11) := ⟨⟨by decide +kernel, by decide +kernel⟩, List.mem_of_getElem? (i := 99) (by decide +kernel), List.mem_of_getElem? (i := 713) (by decide +kernel), List.mem_of_getElem? (i := 714) (by decide +kernel)⟩
theorem lw_p9 : lw_okq (⟨"TapeStudio$Reader", "readTokens", "()V"⟩, 11) := ⟨⟨by decide +kernel, by decide +kernel⟩, List.mem_of_getElem? (i := 99) (by decide +kernel), List.mem_of_getElem? (i := 729) (by decide +kernel), List.mem_of_getElem? (i := 730) (by decide +kernel)⟩
theorem lw_p10 : lw_okq (⟨"TapeStudio$Reader", "byteAt", "(I)I"⟩, 11) := ⟨⟨by decide +kernel, by decide +kernel⟩, List.mem_of_getElem? (i := 99) (by decide +kernel), List.mem_of_getElem? (i := 733) (by decide +kernel), List.mem_of_getElem? (i := 734) (by decide +kernel)⟩
theorem lw_p11 : lw_okq (⟨"TapeStudio$Reader", "readWord", "(I)V"⟩, 11) := ⟨⟨by decide +kernel, by decide +kernel⟩, List.mem_of_getElem? (i := 99) (by decide +kernel), List.mem_of_getElem? (i := 740) (by decide +kernel), List.mem_of_getElem? (i := 741) (by decide +kernel)⟩
theorem lw_p12 : lw_okq (⟨"TapeStudio$Reader", "addToken", "(III)V"⟩, 11) := ⟨⟨by decide +kernel, by decide +kernel⟩, List.mem_of_getElem? (i := 99) (by decide +kernel), List.mem_of_getElem? (i := 744) (by decide +kernel), List.mem_of_getElem? (i := 745) (by decide +kernel)⟩
theorem lw_p13 : lw_okq (⟨"TapeStudio$Reader", "isKeyword", "(II)Z"⟩, 11) := ⟨⟨by decide +kernel, by decide +kernel⟩, List.mem_of_getElem? (i := 99) (by decide +kernel), List.mem_of_getElem? (i := 749) (by decide +kernel), List.mem_of_getElem? (i := 750) (by decide +kernel)⟩
theorem lw_p14 : lw_okq (⟨"TapeStudio$Reader", "readNumber", "(I)V"⟩, 11) := ⟨⟨by decide +kernel, by decide +kernel⟩, List.mem_of_getElem? (i := 99) (by decide +kernel), List.mem_of_getElem? (i := 805) (by decide +kernel), List.mem_of_getElem? (i := 806) (by decide +kernel)⟩
theorem lw_p15 : lw_okq (⟨"TapeStudio$Reader", "kind", "()I"⟩, 11) := ⟨⟨by decide +kernel, by decide +kernel⟩, List.mem_of_getElem? (i := 99) (by decide +kernel), List.mem_of_getElem? (i := 814) (by decide +kernel), List.mem_of_getElem? (i := 815) (by decide +kernel)⟩
def lw_privs_1 : List (MethodName × Nat) := [(⟨"TapeStudio", "feedPair", "(I)V"⟩, 10), (⟨"TapeStudio$Shelf", "begin", "(II)LTapeStudio$Strip;"⟩, 12), (⟨"TapeStudio$Shelf", "addPart", "(LTapeStudio$Strip;II)I"⟩, 12), (⟨"TapeStudio$Shelf", "beginOf", "(IILTapeStudio$Strip;)LTapeStudio$Strip;"⟩, 12), (⟨"TapeStudio$Shelf", "freeStrip", "(I)LTapeStudio$Strip;"⟩, 12), (⟨"TapeStudio$Shelf", "canPlay", "(LTapeStudio$Strip;LTapeStudio$Machine;II)Z"⟩, 12), (⟨"TapeStudio$Shelf", "played", "(ILTapeStudio$Strip;LTapeStudio$Machine;II)LTapeStudio$Strip;"⟩, 12), (⟨"TapeStudio$Row", "between", "(II)I"⟩, 2), (⟨"TapeStudio$Reader", "addByte", "(I)V"⟩, 11), (⟨"TapeStudio$Reader", "readTokens", "()V"⟩, 11), (⟨"TapeStudio$Reader", "byteAt", "(I)I"⟩, 11), (⟨"TapeStudio$Reader", "readWord", "(I)V"⟩, 11), (⟨"TapeStudio$Reader", "addToken", "(III)V"⟩, 11), (⟨"TapeStudio$Reader", "isKeyword", "(II)Z"⟩, 11), (⟨"TapeStudio$Reader", "readNumber", "(I)V"⟩, 11), (⟨"TapeStudio$Reader", "kind", "()I"⟩, 11)]
theorem lw_r1 : ∀ q ∈ lw_privs_1, lw_okq q := List.forall_mem_cons.mpr ⟨lw_p0, List.forall_mem_cons.mpr ⟨lw_p1, List.forall_mem_cons.mpr ⟨lw_p2, List.forall_mem_cons.mpr ⟨lw_p3, List.forall_mem_cons.mpr ⟨lw_p4, List.forall_mem_cons.mpr ⟨lw_p5, List.forall_mem_cons.mpr ⟨lw_p6, List.forall_mem_cons.mpr ⟨lw_p7, List.forall_mem_cons.mpr ⟨lw_p8, List.forall_mem_cons.mpr ⟨lw_p9, List.forall_mem_cons.mpr ⟨lw_p10, List.forall_mem_cons.mpr ⟨lw_p11, List.forall_mem_cons.mpr ⟨lw_p12, List.forall_mem_cons.mpr ⟨lw_p13, List.forall_mem_cons.mpr ⟨lw_p14, List.forall_mem_cons.mpr ⟨lw_p15, fun _ h => absurd h List.not_mem_nil⟩⟩⟩⟩⟩⟩⟩⟩⟩⟩⟩⟩⟩⟩⟩⟩
theorem lw_p16 : lw_okq (⟨"TapeStudio$Reader", "readAgain", "()Z"⟩, 11) := ⟨⟨by decide +kernel, by decide +kernel⟩, List.mem_of_getElem? (i := 99) (by decide +kernel), List.mem_of_getElem? (i := 818) (by decide +kernel), List.mem_of_getElem? (i := 819) (by decide +kernel)⟩
theorem lw_p17 : lw_okq (⟨"TapeStudio$Reader", "value", "()I"⟩, 11) := ⟨⟨by decide +kernel, by decide +kernel⟩, List.mem_of_getElem? (i := 99) (by decide +kernel), List.mem_of_getElem? (i := 822) (by decide +kernel), List.mem_of_getElem? (i := 823) (by decide +kernel)⟩
theorem lw_p18 : lw_okq (⟨"TapeStudio$Reader", "isNumber", "(II)Z"⟩, 11) := ⟨⟨by decide +kernel, by decide +kernel⟩, List.mem_of_getElem? (i := 99) (by decide +kernel), List.mem_of_getElem? (i := 826) (by decide +kernel), List.mem_of_getElem? (i := 827) (by decide +kernel)⟩
theorem lw_p19 : lw_okq (⟨"TapeStudio$Reader", "pass", "(I)Z"⟩, 11) := ⟨⟨by decide +kernel, by decide +kernel⟩, List.mem_of_getElem? (i := 99) (by decide +kernel), List.mem_of_getElem? (i := 830) (by decide +kernel), List.mem_of_getElem? (i := 831) (by decide +kernel)⟩
theorem lw_p20 : lw_okq (⟨"TapeStudio$Reader", "readPut", "(II)Z"⟩, 11) := ⟨⟨by decide +kernel, by decide +kernel⟩, List.mem_of_getElem? (i := 99) (by decide +kernel), List.mem_of_getElem? (i := 834) (by decide +kernel), List.mem_of_getElem? (i := 835) (by decide +kernel)⟩
theorem lw_p21 : lw_okq (⟨"TapeStudio$Reader", "beginOrder", "(II)V"⟩, 11) := ⟨⟨by decide +kernel, by decide +kernel⟩, List.mem_of_getElem? (i := 99) (by decide +kernel), List.mem_of_getElem? (i := 838) (by decide +kernel), List.mem_of_getElem? (i := 839) (by decide +kernel)⟩
theorem lw_p22 : lw_okq (⟨"TapeStudio$Reader", "setCell", "(II)V"⟩, 11) := ⟨⟨by decide +kernel, by decide +kernel⟩, List.mem_of_getElem? (i := 99) (by decide +kernel), List.mem_of_getElem? (i := 842) (by decide +kernel), List.mem_of_getElem? (i := 843) (by decide +kernel)⟩
theorem lw_p23 : lw_okq (⟨"TapeStudio$Reader", "passRow", "(I)Z"⟩, 11) := ⟨⟨by decide +kernel, by decide +kernel⟩, List.mem_of_getElem? (i := 99) (by decide +kernel), List.mem_of_getElem? (i := 846) (by decide +kernel), List.mem_of_getElem? (i := 847) (by decide +kernel)⟩
theorem lw_p24 : lw_okq (⟨"TapeStudio$Reader", "namedOrder", "()I"⟩, 11) := ⟨⟨by decide +kernel, by decide +kernel⟩, List.mem_of_getElem? (i := 99) (by decide +kernel), List.mem_of_getElem? (i := 850) (by decide +kernel), List.mem_of_getElem? (i := 851) (by decide +kernel)⟩
theorem lw_p25 : lw_okq (⟨"TapeStudio$Reader", "passNumber", "(II)Z"⟩, 11) := ⟨⟨by decide +kernel, by decide +kernel⟩, List.mem_of_getElem? (i := 99) (by decide +kernel), List.mem_of_getElem? (i := 855) (by decide +kernel), List.mem_of_getElem? (i := 856) (by decide +kernel)⟩
theorem lw_p26 : lw_okq (⟨"TapeStudio$Reader", "endOrder", "()Z"⟩, 11) := ⟨⟨by decide +kernel, by decide +kernel⟩, List.mem_of_getElem? (i := 99) (by decide +kernel), List.mem_of_getElem? (i := 859) (by decide +kernel), List.mem_of_getElem? (i := 860) (by decide +kernel)⟩
theorem lw_p27 : lw_okq (⟨"TapeStudio$Reader", "readMaking", "()Z"⟩, 11) := ⟨⟨by decide +kernel, by decide +kernel⟩, List.mem_of_getElem? (i := 99) (by decide +kernel), List.mem_of_getElem? (i := 863) (by decide +kernel), List.mem_of_getElem? (i := 864) (by decide +kernel)⟩
theorem lw_p28 : lw_okq (⟨"TapeStudio$Reader", "readParts", "(I)Z"⟩, 11) := ⟨⟨by decide +kernel, by decide +kernel⟩, List.mem_of_getElem? (i := 99) (by decide +kernel), List.mem_of_getElem? (i := 867) (by decide +kernel), List.mem_of_getElem? (i := 868) (by decide +kernel)⟩
theorem lw_p29 : lw_okq (⟨"TapeStudio", "scoreOf", "(I)LTapeStudio$Score;"⟩, 10) := ⟨⟨by decide +kernel, by decide +kernel⟩, List.mem_of_getElem? (i := 21) (by decide +kernel), List.mem_of_getElem? (i := 896) (by decide +kernel), List.mem_of_getElem? (i := 897) (by decide +kernel)⟩
theorem lw_p30 : lw_okq (⟨"TapeStudio", "isPast", "(I)Z"⟩, 10) := ⟨⟨by decide +kernel, by decide +kernel⟩, List.mem_of_getElem? (i := 21) (by decide +kernel), List.mem_of_getElem? (i := 900) (by decide +kernel), List.mem_of_getElem? (i := 901) (by decide +kernel)⟩
theorem lw_p31 : lw_okq (⟨"TapeStudio$Player", "stripOf", "(LTapeStudio$Score;II)I"⟩, 5) := ⟨⟨by decide +kernel, by decide +kernel⟩, List.mem_of_getElem? (i := 169) (by decide +kernel), List.mem_of_getElem? (i := 908) (by decide +kernel), List.mem_of_getElem? (i := 909) (by decide +kernel)⟩
def lw_privs_2 : List (MethodName × Nat) := [(⟨"TapeStudio$Reader", "readAgain", "()Z"⟩, 11), (⟨"TapeStudio$Reader", "value", "()I"⟩, 11), (⟨"TapeStudio$Reader", "isNumber", "(II)Z"⟩, 11), (⟨"TapeStudio$Reader", "pass", "(I)Z"⟩, 11), (⟨"TapeStudio$Reader", "readPut", "(II)Z"⟩, 11), (⟨"TapeStudio$Reader", "beginOrder", "(II)V"⟩, 11), (⟨"TapeStudio$Reader", "setCell", "(II)V"⟩, 11), (⟨"TapeStudio$Reader", "passRow", "(I)Z"⟩, 11), (⟨"TapeStudio$Reader", "namedOrder", "()I"⟩, 11), (⟨"TapeStudio$Reader", "passNumber", "(II)Z"⟩, 11), (⟨"TapeStudio$Reader", "endOrder", "()Z"⟩, 11), (⟨"TapeStudio$Reader", "readMaking", "()Z"⟩, 11), (⟨"TapeStudio$Reader", "readParts", "(I)Z"⟩, 11), (⟨"TapeStudio", "scoreOf", "(I)LTapeStudio$Score;"⟩, 10), (⟨"TapeStudio", "isPast", "(I)Z"⟩, 10), (⟨"TapeStudio$Player", "stripOf", "(LTapeStudio$Score;II)I"⟩, 5)]
theorem lw_r2 : ∀ q ∈ lw_privs_2, lw_okq q := List.forall_mem_cons.mpr ⟨lw_p16, List.forall_mem_cons.mpr ⟨lw_p17, List.forall_mem_cons.mpr ⟨lw_p18, List.forall_mem_cons.mpr ⟨lw_p19, List.forall_mem_cons.mpr ⟨lw_p20, List.forall_mem_cons.mpr ⟨lw_p21, List.forall_mem_cons.mpr ⟨lw_p22, List.forall_mem_cons.mpr ⟨lw_p23, List.forall_mem_cons.mpr ⟨lw_p24, List.forall_mem_cons.mpr ⟨lw_p25, List.forall_mem_cons.mpr ⟨lw_p26, List.forall_mem_cons.mpr ⟨lw_p27, List.forall_mem_cons.mpr ⟨lw_p28, List.forall_mem_cons.mpr ⟨lw_p29, List.forall_mem_cons.mpr ⟨lw_p30, List.forall_mem_cons.mpr ⟨lw_p31, fun _ h => absurd h List.not_mem_nil⟩⟩⟩⟩⟩⟩⟩⟩⟩⟩⟩⟩⟩⟩⟩⟩
theorem lw_p32 : lw_okq (⟨"TapeStudio$Player", "canPut", "(LTapeStudio$Score;I)Z"⟩, 5) := ⟨⟨by decide +kernel, by decide +kernel⟩, List.mem_of_getElem? (i := 169) (by decide +kernel), List.mem_of_getElem? (i := 935) (by decide +kernel), List.mem_of_getElem? (i := 936) (by decide +kernel)⟩
theorem lw_p33 : lw_okq (⟨"TapeStudio$Player", "fillRow", "(LTapeStudio$Score;I)Z"⟩, 5) := ⟨⟨by decide +kernel, by decide +kernel⟩, List.mem_of_getElem? (i := 169) (by decide +kernel), List.mem_of_getElem? (i := 949) (by decide +kernel), List.mem_of_getElem? (i := 950) (by decide +kernel)⟩
theorem lw_p34 : lw_okq (⟨"TapeStudio$Player", "fillStrip", "(LTapeStudio$Row;I)Z"⟩, 5) := ⟨⟨by decide +kernel, by decide +kernel⟩, List.mem_of_getElem? (i := 169) (by decide +kernel), List.mem_of_getElem? (i := 954) (by decide +kernel), List.mem_of_getElem? (i := 955) (by decide +kernel)⟩
theorem lw_p35 : lw_okq (⟨"TapeStudio$Piece", "times", "(I)I"⟩, 8) := ⟨⟨by decide +kernel, by decide +kernel⟩, List.mem_of_getElem? (i := 195) (by decide +kernel), List.mem_of_getElem? (i := 1024) (by decide +kernel), List.mem_of_getElem? (i := 1025) (by decide +kernel)⟩
theorem lw_p36 : lw_okq (⟨"TapeStudio$Piece", "beginOf", "(II)I"⟩, 8) := ⟨⟨by decide +kernel, by decide +kernel⟩, List.mem_of_getElem? (i := 195) (by decide +kernel), List.mem_of_getElem? (i := 1029) (by decide +kernel), List.mem_of_getElem? (i := 1030) (by decide +kernel)⟩
theorem lw_p37 : lw_okq (⟨"TapeStudio$Piece", "length", "(I)I"⟩, 8) := ⟨⟨by decide +kernel, by decide +kernel⟩, List.mem_of_getElem? (i := 195) (by decide +kernel), List.mem_of_getElem? (i := 1033) (by decide +kernel), List.mem_of_getElem? (i := 1034) (by decide +kernel)⟩
theorem lw_p38 : lw_okq (⟨"TapeStudio$Piece", "layPut", "(ILTapeStudio$Row;)V"⟩, 8) := ⟨⟨by decide +kernel, by decide +kernel⟩, List.mem_of_getElem? (i := 195) (by decide +kernel), List.mem_of_getElem? (i := 1045) (by decide +kernel), List.mem_of_getElem? (i := 1046) (by decide +kernel)⟩
theorem lw_p39 : lw_okq (⟨"TapeStudio$Piece", "reasons", "(I)J"⟩, 8) := ⟨⟨by decide +kernel, by decide +kernel⟩, List.mem_of_getElem? (i := 195) (by decide +kernel), List.mem_of_getElem? (i := 1074) (by decide +kernel), List.mem_of_getElem? (i := 1075) (by decide +kernel)⟩
theorem lw_p40 : lw_okq (⟨"TapeStudio$Piece", "beginWith", "(II)I"⟩, 8) := ⟨⟨by decide +kernel, by decide +kernel⟩, List.mem_of_getElem? (i := 195) (by decide +kernel), List.mem_of_getElem? (i := 1078) (by decide +kernel), List.mem_of_getElem? (i := 1079) (by decide +kernel)⟩
theorem lw_p41 : lw_okq (⟨"TapeStudio$Piece", "firstPut", "(II)I"⟩, 8) := ⟨⟨by decide +kernel, by decide +kernel⟩, List.mem_of_getElem? (i := 195) (by decide +kernel), List.mem_of_getElem? (i := 1094) (by decide +kernel), List.mem_of_getElem? (i := 1095) (by decide +kernel)⟩
theorem lw_p42 : lw_okq (⟨"TapeStudio$Piece", "track", "(I)I"⟩, 8) := ⟨⟨by decide +kernel, by decide +kernel⟩, List.mem_of_getElem? (i := 195) (by decide +kernel), List.mem_of_getElem? (i := 1098) (by decide +kernel), List.mem_of_getElem? (i := 1099) (by decide +kernel)⟩
theorem lw_p43 : lw_okq (⟨"TapeStudio$Piece", "stepBack", "()V"⟩, 8) := ⟨⟨by decide +kernel, by decide +kernel⟩, List.mem_of_getElem? (i := 195) (by decide +kernel), List.mem_of_getElem? (i := 1106) (by decide +kernel), List.mem_of_getElem? (i := 1107) (by decide +kernel)⟩
theorem lw_p44 : lw_okq (⟨"TapeStudio$Piece", "quarrels", "(II)Z"⟩, 8) := ⟨⟨by decide +kernel, by decide +kernel⟩, List.mem_of_getElem? (i := 195) (by decide +kernel), List.mem_of_getElem? (i := 1125) (by decide +kernel), List.mem_of_getElem? (i := 1126) (by decide +kernel)⟩
theorem lw_p45 : lw_okq (⟨"TapeStudio$Work", "gather", "()Z"⟩, 7) := ⟨⟨by decide +kernel, by decide +kernel⟩, List.mem_of_getElem? (i := 232) (by decide +kernel), List.mem_of_getElem? (i := 1145) (by decide +kernel), List.mem_of_getElem? (i := 1146) (by decide +kernel)⟩
theorem lw_p46 : lw_okq (⟨"TapeStudio$Work", "stepBit", "(I)I"⟩, 7) := ⟨⟨by decide +kernel, by decide +kernel⟩, List.mem_of_getElem? (i := 232) (by decide +kernel), List.mem_of_getElem? (i := 1153) (by decide +kernel), List.mem_of_getElem? (i := 1154) (by decide +kernel)⟩
theorem lw_p47 : lw_okq (⟨"TapeStudio$Work", "weigh", "()V"⟩, 7) := ⟨⟨by decide +kernel, by decide +kernel⟩, List.mem_of_getElem? (i := 232) (by decide +kernel), List.mem_of_getElem? (i := 1159) (by decide +kernel), List.mem_of_getElem? (i := 1160) (by decide +kernel)⟩
def lw_privs_3 : List (MethodName × Nat) := [(⟨"TapeStudio$Player", "canPut", "(LTapeStudio$Score;I)Z"⟩, 5), (⟨"TapeStudio$Player", "fillRow", "(LTapeStudio$Score;I)Z"⟩, 5), (⟨"TapeStudio$Player", "fillStrip", "(LTapeStudio$Row;I)Z"⟩, 5), (⟨"TapeStudio$Piece", "times", "(I)I"⟩, 8), (⟨"TapeStudio$Piece", "beginOf", "(II)I"⟩, 8), (⟨"TapeStudio$Piece", "length", "(I)I"⟩, 8), (⟨"TapeStudio$Piece", "layPut", "(ILTapeStudio$Row;)V"⟩, 8), (⟨"TapeStudio$Piece", "reasons", "(I)J"⟩, 8), (⟨"TapeStudio$Piece", "beginWith", "(II)I"⟩, 8), (⟨"TapeStudio$Piece", "firstPut", "(II)I"⟩, 8), (⟨"TapeStudio$Piece", "track", "(I)I"⟩, 8), (⟨"TapeStudio$Piece", "stepBack", "()V"⟩, 8), (⟨"TapeStudio$Piece", "quarrels", "(II)Z"⟩, 8), (⟨"TapeStudio$Work", "gather", "()Z"⟩, 7), (⟨"TapeStudio$Work", "stepBit", "(I)I"⟩, 7), (⟨"TapeStudio$Work", "weigh", "()V"⟩, 7)]
theorem lw_r3 : ∀ q ∈ lw_privs_3, lw_okq q := List.forall_mem_cons.mpr ⟨lw_p32, List.forall_mem_cons.mpr ⟨lw_p33, List.forall_mem_cons.mpr ⟨lw_p34, List.forall_mem_cons.mpr ⟨lw_p35, List.forall_mem_cons.mpr ⟨lw_p36, List.forall_mem_cons.mpr ⟨lw_p37, List.forall_mem_cons.mpr ⟨lw_p38, List.forall_mem_cons.mpr ⟨lw_p39, List.forall_mem_cons.mpr ⟨lw_p40, List.forall_mem_cons.mpr ⟨lw_p41, List.forall_mem_cons.mpr ⟨lw_p42, List.forall_mem_cons.mpr ⟨lw_p43, List.forall_mem_cons.mpr ⟨lw_p44, List.forall_mem_cons.mpr ⟨lw_p45, List.forall_mem_cons.mpr ⟨lw_p46, List.forall_mem_cons.mpr ⟨lw_p47, fun _ h => absurd h List.not_mem_nil⟩⟩⟩⟩⟩⟩⟩⟩⟩⟩⟩⟩⟩⟩⟩⟩
theorem lw_p48 : lw_okq (⟨"TapeStudio$Work", "readyAfter", "(I)I"⟩, 7) := ⟨⟨by decide +kernel, by decide +kernel⟩, List.mem_of_getElem? (i := 232) (by decide +kernel), List.mem_of_getElem? (i := 1163) (by decide +kernel), List.mem_of_getElem? (i := 1164) (by decide +kernel)⟩
theorem lw_p49 : lw_okq (⟨"TapeStudio$Work", "leftFrom", "(I)I"⟩, 7) := ⟨⟨by decide +kernel, by decide +kernel⟩, List.mem_of_getElem? (i := 232) (by decide +kernel), List.mem_of_getElem? (i := 1168) (by decide +kernel), List.mem_of_getElem? (i := 1169) (by decide +kernel)⟩
theorem lw_p50 : lw_okq (⟨"TapeStudio$Work", "fitsRoom", "(I)Z"⟩, 7) := ⟨⟨by decide +kernel, by decide +kernel⟩, List.mem_of_getElem? (i := 232) (by decide +kernel), List.mem_of_getElem? (i := 1172) (by decide +kernel), List.mem_of_getElem? (i := 1173) (by decide +kernel)⟩
theorem lw_p51 : lw_okq (⟨"TapeStudio$Work", "firstHeap", "(I)I"⟩, 7) := ⟨⟨by decide +kernel, by decide +kernel⟩, List.mem_of_getElem? (i := 232) (by decide +kernel), List.mem_of_getElem? (i := 1191) (by decide +kernel), List.mem_of_getElem? (i := 1192) (by decide +kernel)⟩
theorem lw_p52 : lw_okq (⟨"TapeStudio$Player", "depthOf", "(LTapeStudio$Score;I)I"⟩, 5) := ⟨⟨by decide +kernel, by decide +kernel⟩, List.mem_of_getElem? (i := 169) (by decide +kernel), List.mem_of_getElem? (i := 1203) (by decide +kernel), List.mem_of_getElem? (i := 1204) (by decide +kernel)⟩
theorem lw_p53 : lw_okq (⟨"TapeStudio$Match", "layable", "(I)LTapeStudio$Row;"⟩, 13) := ⟨⟨by decide +kernel, by decide +kernel⟩, List.mem_of_getElem? (i := 260) (by decide +kernel), List.mem_of_getElem? (i := 1234) (by decide +kernel), List.mem_of_getElem? (i := 1235) (by decide +kernel)⟩
theorem lw_p54 : lw_okq (⟨"TapeStudio$Match", "fillWay", "(LTapeStudio$Row;I)V"⟩, 13) := ⟨⟨by decide +kernel, by decide +kernel⟩, List.mem_of_getElem? (i := 260) (by decide +kernel), List.mem_of_getElem? (i := 1239) (by decide +kernel), List.mem_of_getElem? (i := 1240) (by decide +kernel)⟩
theorem lw_p55 : lw_okq (⟨"TapeStudio$Match", "searchWay", "(IIIII)V"⟩, 13) := ⟨⟨by decide +kernel, by decide +kernel⟩, List.mem_of_getElem? (i := 260) (by decide +kernel), List.mem_of_getElem? (i := 1246) (by decide +kernel), List.mem_of_getElem? (i := 1247) (by decide +kernel)⟩
theorem lw_p56 : lw_okq (⟨"TapeStudio$Match", "missAt", "(IIII)I"⟩, 13) := ⟨⟨by decide +kernel, by decide +kernel⟩, List.mem_of_getElem? (i := 260) (by decide +kernel), List.mem_of_getElem? (i := 1250) (by decide +kernel), List.mem_of_getElem? (i := 1251) (by decide +kernel)⟩
theorem lw_p57 : lw_okq (⟨"TapeStudio$Match", "measure", "(I)V"⟩, 13) := ⟨⟨by decide +kernel, by decide +kernel⟩, List.mem_of_getElem? (i := 260) (by decide +kernel), List.mem_of_getElem? (i := 1272) (by decide +kernel), List.mem_of_getElem? (i := 1273) (by decide +kernel)⟩
theorem lw_p58 : lw_okq (⟨"TapeStudio$Match", "measureWay", "(I)V"⟩, 13) := ⟨⟨by decide +kernel, by decide +kernel⟩, List.mem_of_getElem? (i := 260) (by decide +kernel), List.mem_of_getElem? (i := 1277) (by decide +kernel), List.mem_of_getElem? (i := 1278) (by decide +kernel)⟩
theorem lw_p59 : lw_okq (⟨"TapeStudio$Match", "longestFrom", "(I)I"⟩, 13) := ⟨⟨by decide +kernel, by decide +kernel⟩, List.mem_of_getElem? (i := 260) (by decide +kernel), List.mem_of_getElem? (i := 1282) (by decide +kernel), List.mem_of_getElem? (i := 1283) (by decide +kernel)⟩
theorem lw_p60 : lw_okq (⟨"TapeStudio$Match", "fewestFrom", "(I)I"⟩, 13) := ⟨⟨by decide +kernel, by decide +kernel⟩, List.mem_of_getElem? (i := 260) (by decide +kernel), List.mem_of_getElem? (i := 1289) (by decide +kernel), List.mem_of_getElem? (i := 1290) (by decide +kernel)⟩
theorem lw_p61 : lw_okq (⟨"TapeStudio$Match", "longestOfFewest", "(II)I"⟩, 13) := ⟨⟨by decide +kernel, by decide +kernel⟩, List.mem_of_getElem? (i := 260) (by decide +kernel), List.mem_of_getElem? (i := 1306) (by decide +kernel), List.mem_of_getElem? (i := 1307) (by decide +kernel)⟩
theorem lw_p62 : lw_okq (⟨"TapeStudioModel", "hands", "(I)V"⟩, 92) := ⟨⟨by decide +kernel, by decide +kernel⟩, List.mem_of_getElem? (i := 1326) (by decide +kernel), List.mem_of_getElem? (i := 1643) (by decide +kernel), List.mem_of_getElem? (i := 1644) (by decide +kernel)⟩
theorem lw_p63 : lw_okq (⟨"TapeStudioModel", "isRoom", "(II)Z"⟩, 92) := ⟨⟨by decide +kernel, by decide +kernel⟩, List.mem_of_getElem? (i := 1326) (by decide +kernel), List.mem_of_getElem? (i := 1658) (by decide +kernel), List.mem_of_getElem? (i := 1659) (by decide +kernel)⟩
def lw_privs_4 : List (MethodName × Nat) := [(⟨"TapeStudio$Work", "readyAfter", "(I)I"⟩, 7), (⟨"TapeStudio$Work", "leftFrom", "(I)I"⟩, 7), (⟨"TapeStudio$Work", "fitsRoom", "(I)Z"⟩, 7), (⟨"TapeStudio$Work", "firstHeap", "(I)I"⟩, 7), (⟨"TapeStudio$Player", "depthOf", "(LTapeStudio$Score;I)I"⟩, 5), (⟨"TapeStudio$Match", "layable", "(I)LTapeStudio$Row;"⟩, 13), (⟨"TapeStudio$Match", "fillWay", "(LTapeStudio$Row;I)V"⟩, 13), (⟨"TapeStudio$Match", "searchWay", "(IIIII)V"⟩, 13), (⟨"TapeStudio$Match", "missAt", "(IIII)I"⟩, 13), (⟨"TapeStudio$Match", "measure", "(I)V"⟩, 13), (⟨"TapeStudio$Match", "measureWay", "(I)V"⟩, 13), (⟨"TapeStudio$Match", "longestFrom", "(I)I"⟩, 13), (⟨"TapeStudio$Match", "fewestFrom", "(I)I"⟩, 13), (⟨"TapeStudio$Match", "longestOfFewest", "(II)I"⟩, 13), (⟨"TapeStudioModel", "hands", "(I)V"⟩, 92), (⟨"TapeStudioModel", "isRoom", "(II)Z"⟩, 92)]
theorem lw_r4 : ∀ q ∈ lw_privs_4, lw_okq q := List.forall_mem_cons.mpr ⟨lw_p48, List.forall_mem_cons.mpr ⟨lw_p49, List.forall_mem_cons.mpr ⟨lw_p50, List.forall_mem_cons.mpr ⟨lw_p51, List.forall_mem_cons.mpr ⟨lw_p52, List.forall_mem_cons.mpr ⟨lw_p53, List.forall_mem_cons.mpr ⟨lw_p54, List.forall_mem_cons.mpr ⟨lw_p55, List.forall_mem_cons.mpr ⟨lw_p56, List.forall_mem_cons.mpr ⟨lw_p57, List.forall_mem_cons.mpr ⟨lw_p58, List.forall_mem_cons.mpr ⟨lw_p59, List.forall_mem_cons.mpr ⟨lw_p60, List.forall_mem_cons.mpr ⟨lw_p61, List.forall_mem_cons.mpr ⟨lw_p62, List.forall_mem_cons.mpr ⟨lw_p63, fun _ h => absurd h List.not_mem_nil⟩⟩⟩⟩⟩⟩⟩⟩⟩⟩⟩⟩⟩⟩⟩⟩
theorem lw_p64 : lw_okq (⟨"TapeStudioModel", "comes", "(IIII)I"⟩, 92) := ⟨⟨by decide +kernel, by decide +kernel⟩, List.mem_of_getElem? (i := 1326) (by decide +kernel), List.mem_of_getElem? (i := 1662) (by decide +kernel), List.mem_of_getElem? (i := 1663) (by decide +kernel)⟩
theorem lw_p65 : lw_okq (⟨"TapeStudioModel", "adds", "(II)V"⟩, 92) := ⟨⟨by decide +kernel, by decide +kernel⟩, List.mem_of_getElem? (i := 1326) (by decide +kernel), List.mem_of_getElem? (i := 1666) (by decide +kernel), List.mem_of_getElem? (i := 1667) (by decide +kernel)⟩
theorem lw_p66 : lw_okq (⟨"TapeStudioModel", "handLoses", "(I)V"⟩, 92) := ⟨⟨by decide +kernel, by decide +kernel⟩, List.mem_of_getElem? (i := 1326) (by decide +kernel), List.mem_of_getElem? (i := 1670) (by decide +kernel), List.mem_of_getElem? (i := 1671) (by decide +kernel)⟩
theorem lw_p67 : lw_okq (⟨"TapeStudioModel", "isThere", "(I)Z"⟩, 92) := ⟨⟨by decide +kernel, by decide +kernel⟩, List.mem_of_getElem? (i := 1326) (by decide +kernel), List.mem_of_getElem? (i := 1683) (by decide +kernel), List.mem_of_getElem? (i := 1684) (by decide +kernel)⟩
theorem lw_p68 : lw_okq (⟨"TapeStudioModel", "isStrip", "(I)Z"⟩, 92) := ⟨⟨by decide +kernel, by decide +kernel⟩, List.mem_of_getElem? (i := 1326) (by decide +kernel), List.mem_of_getElem? (i := 1687) (by decide +kernel), List.mem_of_getElem? (i := 1688) (by decide +kernel)⟩
theorem lw_p69 : lw_okq (⟨"TapeStudioModel", "at", "(II)I"⟩, 92) := ⟨⟨by decide +kernel, by decide +kernel⟩, List.mem_of_getElem? (i := 1326) (by decide +kernel), List.mem_of_getElem? (i := 1691) (by decide +kernel), List.mem_of_getElem? (i := 1692) (by decide +kernel)⟩
theorem lw_p70 : lw_okq (⟨"TapeStudioModel", "uses", "(II)V"⟩, 92) := ⟨⟨by decide +kernel, by decide +kernel⟩, List.mem_of_getElem? (i := 1326) (by decide +kernel), List.mem_of_getElem? (i := 1695) (by decide +kernel), List.mem_of_getElem? (i := 1696) (by decide +kernel)⟩
theorem lw_p71 : lw_okq (⟨"TapeStudioModel", "isPlain", "(I)Z"⟩, 92) := ⟨⟨by decide +kernel, by decide +kernel⟩, List.mem_of_getElem? (i := 1326) (by decide +kernel), List.mem_of_getElem? (i := 1703) (by decide +kernel), List.mem_of_getElem? (i := 1704) (by decide +kernel)⟩
theorem lw_p72 : lw_okq (⟨"TapeStudioModel", "isMachine", "(I)Z"⟩, 92) := ⟨⟨by decide +kernel, by decide +kernel⟩, List.mem_of_getElem? (i := 1326) (by decide +kernel), List.mem_of_getElem? (i := 1738) (by decide +kernel), List.mem_of_getElem? (i := 1739) (by decide +kernel)⟩
theorem lw_p73 : lw_okq (⟨"TapeStudioModel", "plays", "(IIIIII)I"⟩, 92) := ⟨⟨by decide +kernel, by decide +kernel⟩, List.mem_of_getElem? (i := 1326) (by decide +kernel), List.mem_of_getElem? (i := 1742) (by decide +kernel), List.mem_of_getElem? (i := 1743) (by decide +kernel)⟩
theorem lw_p74 : lw_okq (⟨"TapeStudioModel", "sampleAt", "(IIII)I"⟩, 92) := ⟨⟨by decide +kernel, by decide +kernel⟩, List.mem_of_getElem? (i := 1326) (by decide +kernel), List.mem_of_getElem? (i := 1749) (by decide +kernel), List.mem_of_getElem? (i := 1750) (by decide +kernel)⟩
theorem lw_p75 : lw_okq (⟨"TapeStudioModel", "markOf", "(II)I"⟩, 92) := ⟨⟨by decide +kernel, by decide +kernel⟩, List.mem_of_getElem? (i := 1326) (by decide +kernel), List.mem_of_getElem? (i := 1783) (by decide +kernel), List.mem_of_getElem? (i := 1784) (by decide +kernel)⟩
theorem lw_p76 : lw_okq (⟨"TapeStudioModel", "feeds", "(I)V"⟩, 92) := ⟨⟨by decide +kernel, by decide +kernel⟩, List.mem_of_getElem? (i := 1326) (by decide +kernel), List.mem_of_getElem? (i := 1804) (by decide +kernel), List.mem_of_getElem? (i := 1805) (by decide +kernel)⟩
theorem lw_p77 : lw_okq (⟨"TapeStudioModel", "reads", "()V"⟩, 92) := ⟨⟨by decide +kernel, by decide +kernel⟩, List.mem_of_getElem? (i := 1326) (by decide +kernel), List.mem_of_getElem? (i := 1816) (by decide +kernel), List.mem_of_getElem? (i := 1817) (by decide +kernel)⟩
theorem lw_p78 : lw_okq (⟨"TapeStudioModel", "skips", "()V"⟩, 92) := ⟨⟨by decide +kernel, by decide +kernel⟩, List.mem_of_getElem? (i := 1326) (by decide +kernel), List.mem_of_getElem? (i := 1820) (by decide +kernel), List.mem_of_getElem? (i := 1821) (by decide +kernel)⟩
theorem lw_p79 : lw_okq (⟨"TapeStudioModel", "isWord", "(Ljava/lang/String;)Z"⟩, 92) := ⟨⟨by decide +kernel, by decide +kernel⟩, List.mem_of_getElem? (i := 1326) (by decide +kernel), List.mem_of_getElem? (i := 1827) (by decide +kernel), List.mem_of_getElem? (i := 1828) (by decide +kernel)⟩
def lw_privs_5 : List (MethodName × Nat) := [(⟨"TapeStudioModel", "comes", "(IIII)I"⟩, 92), (⟨"TapeStudioModel", "adds", "(II)V"⟩, 92), (⟨"TapeStudioModel", "handLoses", "(I)V"⟩, 92), (⟨"TapeStudioModel", "isThere", "(I)Z"⟩, 92), (⟨"TapeStudioModel", "isStrip", "(I)Z"⟩, 92), (⟨"TapeStudioModel", "at", "(II)I"⟩, 92), (⟨"TapeStudioModel", "uses", "(II)V"⟩, 92), (⟨"TapeStudioModel", "isPlain", "(I)Z"⟩, 92), (⟨"TapeStudioModel", "isMachine", "(I)Z"⟩, 92), (⟨"TapeStudioModel", "plays", "(IIIIII)I"⟩, 92), (⟨"TapeStudioModel", "sampleAt", "(IIII)I"⟩, 92), (⟨"TapeStudioModel", "markOf", "(II)I"⟩, 92), (⟨"TapeStudioModel", "feeds", "(I)V"⟩, 92), (⟨"TapeStudioModel", "reads", "()V"⟩, 92), (⟨"TapeStudioModel", "skips", "()V"⟩, 92), (⟨"TapeStudioModel", "isWord", "(Ljava/lang/String;)Z"⟩, 92)]
theorem lw_r5 : ∀ q ∈ lw_privs_5, lw_okq q := List.forall_mem_cons.mpr ⟨lw_p64, List.forall_mem_cons.mpr ⟨lw_p65, List.forall_mem_cons.mpr ⟨lw_p66, List.forall_mem_cons.mpr ⟨lw_p67, List.forall_mem_cons.mpr ⟨lw_p68, List.forall_mem_cons.mpr ⟨lw_p69, List.forall_mem_cons.mpr ⟨lw_p70, List.forall_mem_cons.mpr ⟨lw_p71, List.forall_mem_cons.mpr ⟨lw_p72, List.forall_mem_cons.mpr ⟨lw_p73, List.forall_mem_cons.mpr ⟨lw_p74, List.forall_mem_cons.mpr ⟨lw_p75, List.forall_mem_cons.mpr ⟨lw_p76, List.forall_mem_cons.mpr ⟨lw_p77, List.forall_mem_cons.mpr ⟨lw_p78, List.forall_mem_cons.mpr ⟨lw_p79, fun _ h => absurd h List.not_mem_nil⟩⟩⟩⟩⟩⟩⟩⟩⟩⟩⟩⟩⟩⟩⟩⟩
theorem lw_p80 : lw_okq (⟨"TapeStudioModel", "puts", "(II)V"⟩, 92) := ⟨⟨by decide +kernel, by decide +kernel⟩, List.mem_of_getElem? (i := 1326) (by decide +kernel), List.mem_of_getElem? (i := 1833) (by decide +kernel), List.mem_of_getElem? (i := 1834) (by decide +kernel)⟩
theorem lw_p81 : lw_okq (⟨"TapeStudioModel", "fails", "()V"⟩, 92) := ⟨⟨by decide +kernel, by decide +kernel⟩, List.mem_of_getElem? (i := 1326) (by decide +kernel), List.mem_of_getElem? (i := 1837) (by decide +kernel), List.mem_of_getElem? (i := 1838) (by decide +kernel)⟩
theorem lw_p82 : lw_okq (⟨"TapeStudioModel", "word", "(Ljava/lang/String;)V"⟩, 92) := ⟨⟨by decide +kernel, by decide +kernel⟩, List.mem_of_getElem? (i := 1326) (by decide +kernel), List.mem_of_getElem? (i := 1841) (by decide +kernel), List.mem_of_getElem? (i := 1842) (by decide +kernel)⟩
theorem lw_p83 : lw_okq (⟨"TapeStudioModel", "goesOn", "()V"⟩, 92) := ⟨⟨by decide +kernel, by decide +kernel⟩, List.mem_of_getElem? (i := 1326) (by decide +kernel), List.mem_of_getElem? (i := 1845) (by decide +kernel), List.mem_of_getElem? (i := 1846) (by decide +kernel)⟩
theorem lw_p84 : lw_okq (⟨"TapeStudioModel", "made", "()I"⟩, 92) := ⟨⟨by decide +kernel, by decide +kernel⟩, List.mem_of_getElem? (i := 1326) (by decide +kernel), List.mem_of_getElem? (i := 1849) (by decide +kernel), List.mem_of_getElem? (i := 1850) (by decide +kernel)⟩
theorem lw_p85 : lw_okq (⟨"TapeStudioModel", "wordKnown", "()I"⟩, 92) := ⟨⟨by decide +kernel, by decide +kernel⟩, List.mem_of_getElem? (i := 1326) (by decide +kernel), List.mem_of_getElem? (i := 1853) (by decide +kernel), List.mem_of_getElem? (i := 1854) (by decide +kernel)⟩
theorem lw_p86 : lw_okq (⟨"TapeStudioModel", "number", "(II)I"⟩, 92) := ⟨⟨by decide +kernel, by decide +kernel⟩, List.mem_of_getElem? (i := 1326) (by decide +kernel), List.mem_of_getElem? (i := 1857) (by decide +kernel), List.mem_of_getElem? (i := 1858) (by decide +kernel)⟩
theorem lw_p87 : lw_okq (⟨"TapeStudioModel", "sign", "(I)V"⟩, 92) := ⟨⟨by decide +kernel, by decide +kernel⟩, List.mem_of_getElem? (i := 1326) (by decide +kernel), List.mem_of_getElem? (i := 1866) (by decide +kernel), List.mem_of_getElem? (i := 1867) (by decide +kernel)⟩
theorem lw_p88 : lw_okq (⟨"TapeStudioModel", "again", "()V"⟩, 92) := ⟨⟨by decide +kernel, by decide +kernel⟩, List.mem_of_getElem? (i := 1326) (by decide +kernel), List.mem_of_getElem? (i := 1870) (by decide +kernel), List.mem_of_getElem? (i := 1871) (by decide +kernel)⟩
theorem lw_p89 : lw_okq (⟨"TapeStudioModel", "isSign", "(I)Z"⟩, 92) := ⟨⟨by decide +kernel, by decide +kernel⟩, List.mem_of_getElem? (i := 1326) (by decide +kernel), List.mem_of_getElem? (i := 1874) (by decide +kernel), List.mem_of_getElem? (i := 1875) (by decide +kernel)⟩
theorem lw_p90 : lw_okq (⟨"TapeStudioModel", "makes", "()V"⟩, 92) := ⟨⟨by decide +kernel, by decide +kernel⟩, List.mem_of_getElem? (i := 1326) (by decide +kernel), List.mem_of_getElem? (i := 1878) (by decide +kernel), List.mem_of_getElem? (i := 1879) (by decide +kernel)⟩
theorem lw_p91 : lw_okq (⟨"TapeStudioModel", "isBarred", "()Z"⟩, 92) := ⟨⟨by decide +kernel, by decide +kernel⟩, List.mem_of_getElem? (i := 1326) (by decide +kernel), List.mem_of_getElem? (i := 1883) (by decide +kernel), List.mem_of_getElem? (i := 1884) (by decide +kernel)⟩
theorem lw_p92 : lw_okq (⟨"TapeStudioModel", "verbAt", "()I"⟩, 92) := ⟨⟨by decide +kernel, by decide +kernel⟩, List.mem_of_getElem? (i := 1326) (by decide +kernel), List.mem_of_getElem? (i := 1887) (by decide +kernel), List.mem_of_getElem? (i := 1888) (by decide +kernel)⟩
theorem lw_p93 : lw_okq (⟨"TapeStudioModel", "numbers", "(II)V"⟩, 92) := ⟨⟨by decide +kernel, by decide +kernel⟩, List.mem_of_getElem? (i := 1326) (by decide +kernel), List.mem_of_getElem? (i := 1891) (by decide +kernel), List.mem_of_getElem? (i := 1892) (by decide +kernel)⟩
theorem lw_p94 : lw_okq (⟨"TapeStudioModel", "canMake", "(II)Z"⟩, 92) := ⟨⟨by decide +kernel, by decide +kernel⟩, List.mem_of_getElem? (i := 1326) (by decide +kernel), List.mem_of_getElem? (i := 1903) (by decide +kernel), List.mem_of_getElem? (i := 1904) (by decide +kernel)⟩
theorem lw_p95 : lw_okq (⟨"TapeStudioModel", "isScore", "(I)Z"⟩, 92) := ⟨⟨by decide +kernel, by decide +kernel⟩, List.mem_of_getElem? (i := 1326) (by decide +kernel), List.mem_of_getElem? (i := 1907) (by decide +kernel), List.mem_of_getElem? (i := 1908) (by decide +kernel)⟩
def lw_privs_6 : List (MethodName × Nat) := [(⟨"TapeStudioModel", "puts", "(II)V"⟩, 92), (⟨"TapeStudioModel", "fails", "()V"⟩, 92), (⟨"TapeStudioModel", "word", "(Ljava/lang/String;)V"⟩, 92), (⟨"TapeStudioModel", "goesOn", "()V"⟩, 92), (⟨"TapeStudioModel", "made", "()I"⟩, 92), (⟨"TapeStudioModel", "wordKnown", "()I"⟩, 92), (⟨"TapeStudioModel", "number", "(II)I"⟩, 92), (⟨"TapeStudioModel", "sign", "(I)V"⟩, 92), (⟨"TapeStudioModel", "again", "()V"⟩, 92), (⟨"TapeStudioModel", "isSign", "(I)Z"⟩, 92), (⟨"TapeStudioModel", "makes", "()V"⟩, 92), (⟨"TapeStudioModel", "isBarred", "()Z"⟩, 92), (⟨"TapeStudioModel", "verbAt", "()I"⟩, 92), (⟨"TapeStudioModel", "numbers", "(II)V"⟩, 92), (⟨"TapeStudioModel", "canMake", "(II)Z"⟩, 92), (⟨"TapeStudioModel", "isScore", "(I)Z"⟩, 92)]
theorem lw_r6 : ∀ q ∈ lw_privs_6, lw_okq q := List.forall_mem_cons.mpr ⟨lw_p80, List.forall_mem_cons.mpr ⟨lw_p81, List.forall_mem_cons.mpr ⟨lw_p82, List.forall_mem_cons.mpr ⟨lw_p83, List.forall_mem_cons.mpr ⟨lw_p84, List.forall_mem_cons.mpr ⟨lw_p85, List.forall_mem_cons.mpr ⟨lw_p86, List.forall_mem_cons.mpr ⟨lw_p87, List.forall_mem_cons.mpr ⟨lw_p88, List.forall_mem_cons.mpr ⟨lw_p89, List.forall_mem_cons.mpr ⟨lw_p90, List.forall_mem_cons.mpr ⟨lw_p91, List.forall_mem_cons.mpr ⟨lw_p92, List.forall_mem_cons.mpr ⟨lw_p93, List.forall_mem_cons.mpr ⟨lw_p94, List.forall_mem_cons.mpr ⟨lw_p95, fun _ h => absurd h List.not_mem_nil⟩⟩⟩⟩⟩⟩⟩⟩⟩⟩⟩⟩⟩⟩⟩⟩
theorem lw_p96 : lw_okq (⟨"TapeStudioModel", "makes", "(II)I"⟩, 92) := ⟨⟨by decide +kernel, by decide +kernel⟩, List.mem_of_getElem? (i := 1326) (by decide +kernel), List.mem_of_getElem? (i := 1911) (by decide +kernel), List.mem_of_getElem? (i := 1912) (by decide +kernel)⟩
theorem lw_p97 : lw_okq (⟨"TapeStudioModel", "does", "(III)Z"⟩, 92) := ⟨⟨by decide +kernel, by decide +kernel⟩, List.mem_of_getElem? (i := 1326) (by decide +kernel), List.mem_of_getElem? (i := 1915) (by decide +kernel), List.mem_of_getElem? (i := 1916) (by decide +kernel)⟩
theorem lw_p98 : lw_okq (⟨"TapeStudioModel", "takes", "(III)Z"⟩, 92) := ⟨⟨by decide +kernel, by decide +kernel⟩, List.mem_of_getElem? (i := 1326) (by decide +kernel), List.mem_of_getElem? (i := 1919) (by decide +kernel), List.mem_of_getElem? (i := 1920) (by decide +kernel)⟩
theorem lw_p99 : lw_okq (⟨"TapeStudioModel", "stripOf", "(III)I"⟩, 92) := ⟨⟨by decide +kernel, by decide +kernel⟩, List.mem_of_getElem? (i := 1326) (by decide +kernel), List.mem_of_getElem? (i := 1923) (by decide +kernel), List.mem_of_getElem? (i := 1924) (by decide +kernel)⟩
theorem lw_p100 : lw_okq (⟨"TapeStudioModel", "cuts", "(IIII)Z"⟩, 92) := ⟨⟨by decide +kernel, by decide +kernel⟩, List.mem_of_getElem? (i := 1326) (by decide +kernel), List.mem_of_getElem? (i := 1927) (by decide +kernel), List.mem_of_getElem? (i := 1928) (by decide +kernel)⟩
theorem lw_p101 : lw_okq (⟨"TapeStudioModel", "playsRow", "(IIIII)Z"⟩, 92) := ⟨⟨by decide +kernel, by decide +kernel⟩, List.mem_of_getElem? (i := 1326) (by decide +kernel), List.mem_of_getElem? (i := 1931) (by decide +kernel), List.mem_of_getElem? (i := 1932) (by decide +kernel)⟩
theorem lw_p102 : lw_okq (⟨"TapeStudioModel", "splices", "(IIII)Z"⟩, 92) := ⟨⟨by decide +kernel, by decide +kernel⟩, List.mem_of_getElem? (i := 1326) (by decide +kernel), List.mem_of_getElem? (i := 1936) (by decide +kernel), List.mem_of_getElem? (i := 1937) (by decide +kernel)⟩
theorem lw_p103 : lw_okq (⟨"TapeStudioModel", "loops", "(III)Z"⟩, 92) := ⟨⟨by decide +kernel, by decide +kernel⟩, List.mem_of_getElem? (i := 1326) (by decide +kernel), List.mem_of_getElem? (i := 1940) (by decide +kernel), List.mem_of_getElem? (i := 1941) (by decide +kernel)⟩
theorem lw_p104 : lw_okq (⟨"TapeStudioModel", "lists", "(II)V"⟩, 92) := ⟨⟨by decide +kernel, by decide +kernel⟩, List.mem_of_getElem? (i := 1326) (by decide +kernel), List.mem_of_getElem? (i := 1944) (by decide +kernel), List.mem_of_getElem? (i := 1945) (by decide +kernel)⟩
theorem lw_p105 : lw_okq (⟨"TapeStudioModel", "echoes", "(III)V"⟩, 92) := ⟨⟨by decide +kernel, by decide +kernel⟩, List.mem_of_getElem? (i := 1326) (by decide +kernel), List.mem_of_getElem? (i := 1948) (by decide +kernel), List.mem_of_getElem? (i := 1949) (by decide +kernel)⟩
theorem lw_p106 : lw_okq (⟨"TapeStudioModel", "filters", "(IIIII)V"⟩, 92) := ⟨⟨by decide +kernel, by decide +kernel⟩, List.mem_of_getElem? (i := 1326) (by decide +kernel), List.mem_of_getElem? (i := 1953) (by decide +kernel), List.mem_of_getElem? (i := 1954) (by decide +kernel)⟩
theorem lw_p107 : lw_okq (⟨"TapeStudioModel", "fades", "(III)Z"⟩, 92) := ⟨⟨by decide +kernel, by decide +kernel⟩, List.mem_of_getElem? (i := 1326) (by decide +kernel), List.mem_of_getElem? (i := 1957) (by decide +kernel), List.mem_of_getElem? (i := 1958) (by decide +kernel)⟩
theorem lw_p108 : lw_okq (⟨"TapeStudioModel", "lays", "(II)Z"⟩, 92) := ⟨⟨by decide +kernel, by decide +kernel⟩, List.mem_of_getElem? (i := 1326) (by decide +kernel), List.mem_of_getElem? (i := 1961) (by decide +kernel), List.mem_of_getElem? (i := 1962) (by decide +kernel)⟩
theorem lw_p109 : lw_okq (⟨"TapeStudioModel", "isOver", "(II)Z"⟩, 92) := ⟨⟨by decide +kernel, by decide +kernel⟩, List.mem_of_getElem? (i := 1326) (by decide +kernel), List.mem_of_getElem? (i := 1977) (by decide +kernel), List.mem_of_getElem? (i := 1978) (by decide +kernel)⟩
theorem lw_p110 : lw_okq (⟨"TapeStudioModel", "leads", "()V"⟩, 92) := ⟨⟨by decide +kernel, by decide +kernel⟩, List.mem_of_getElem? (i := 1326) (by decide +kernel), List.mem_of_getElem? (i := 1986) (by decide +kernel), List.mem_of_getElem? (i := 1987) (by decide +kernel)⟩
theorem lw_p111 : lw_okq (⟨"TapeStudioModel", "quarrels", "(II)Z"⟩, 92) := ⟨⟨by decide +kernel, by decide +kernel⟩, List.mem_of_getElem? (i := 1326) (by decide +kernel), List.mem_of_getElem? (i := 1995) (by decide +kernel), List.mem_of_getElem? (i := 1996) (by decide +kernel)⟩
def lw_privs_7 : List (MethodName × Nat) := [(⟨"TapeStudioModel", "makes", "(II)I"⟩, 92), (⟨"TapeStudioModel", "does", "(III)Z"⟩, 92), (⟨"TapeStudioModel", "takes", "(III)Z"⟩, 92), (⟨"TapeStudioModel", "stripOf", "(III)I"⟩, 92), (⟨"TapeStudioModel", "cuts", "(IIII)Z"⟩, 92), (⟨"TapeStudioModel", "playsRow", "(IIIII)Z"⟩, 92), (⟨"TapeStudioModel", "splices", "(IIII)Z"⟩, 92), (⟨"TapeStudioModel", "loops", "(III)Z"⟩, 92), (⟨"TapeStudioModel", "lists", "(II)V"⟩, 92), (⟨"TapeStudioModel", "echoes", "(III)V"⟩, 92), (⟨"TapeStudioModel", "filters", "(IIIII)V"⟩, 92), (⟨"TapeStudioModel", "fades", "(III)Z"⟩, 92), (⟨"TapeStudioModel", "lays", "(II)Z"⟩, 92), (⟨"TapeStudioModel", "isOver", "(II)Z"⟩, 92), (⟨"TapeStudioModel", "leads", "()V"⟩, 92), (⟨"TapeStudioModel", "quarrels", "(II)Z"⟩, 92)]
theorem lw_r7 : ∀ q ∈ lw_privs_7, lw_okq q := List.forall_mem_cons.mpr ⟨lw_p96, List.forall_mem_cons.mpr ⟨lw_p97, List.forall_mem_cons.mpr ⟨lw_p98, List.forall_mem_cons.mpr ⟨lw_p99, List.forall_mem_cons.mpr ⟨lw_p100, List.forall_mem_cons.mpr ⟨lw_p101, List.forall_mem_cons.mpr ⟨lw_p102, List.forall_mem_cons.mpr ⟨lw_p103, List.forall_mem_cons.mpr ⟨lw_p104, List.forall_mem_cons.mpr ⟨lw_p105, List.forall_mem_cons.mpr ⟨lw_p106, List.forall_mem_cons.mpr ⟨lw_p107, List.forall_mem_cons.mpr ⟨lw_p108, List.forall_mem_cons.mpr ⟨lw_p109, List.forall_mem_cons.mpr ⟨lw_p110, List.forall_mem_cons.mpr ⟨lw_p111, fun _ h => absurd h List.not_mem_nil⟩⟩⟩⟩⟩⟩⟩⟩⟩⟩⟩⟩⟩⟩⟩⟩
theorem lw_p112 : lw_okq (⟨"TapeStudioModel", "plans", "(I)Z"⟩, 92) := ⟨⟨by decide +kernel, by decide +kernel⟩, List.mem_of_getElem? (i := 1326) (by decide +kernel), List.mem_of_getElem? (i := 2007) (by decide +kernel), List.mem_of_getElem? (i := 2008) (by decide +kernel)⟩
theorem lw_p113 : lw_okq (⟨"TapeStudioModel", "need", "(III)V"⟩, 92) := ⟨⟨by decide +kernel, by decide +kernel⟩, List.mem_of_getElem? (i := 1326) (by decide +kernel), List.mem_of_getElem? (i := 2011) (by decide +kernel), List.mem_of_getElem? (i := 2012) (by decide +kernel)⟩
theorem lw_p114 : lw_okq (⟨"TapeStudioModel", "stepOf", "(I)I"⟩, 92) := ⟨⟨by decide +kernel, by decide +kernel⟩, List.mem_of_getElem? (i := 1326) (by decide +kernel), List.mem_of_getElem? (i := 2015) (by decide +kernel), List.mem_of_getElem? (i := 2016) (by decide +kernel)⟩
theorem lw_p115 : lw_okq (⟨"TapeStudioModel", "least", "(II)I"⟩, 92) := ⟨⟨by decide +kernel, by decide +kernel⟩, List.mem_of_getElem? (i := 1326) (by decide +kernel), List.mem_of_getElem? (i := 2019) (by decide +kernel), List.mem_of_getElem? (i := 2020) (by decide +kernel)⟩
theorem lw_p116 : lw_okq (⟨"TapeStudioModel", "canDo", "(III)Z"⟩, 92) := ⟨⟨by decide +kernel, by decide +kernel⟩, List.mem_of_getElem? (i := 1326) (by decide +kernel), List.mem_of_getElem? (i := 2023) (by decide +kernel), List.mem_of_getElem? (i := 2024) (by decide +kernel)⟩
theorem lw_p117 : lw_okq (⟨"TapeStudioModel", "isBench", "(I)Z"⟩, 92) := ⟨⟨by decide +kernel, by decide +kernel⟩, List.mem_of_getElem? (i := 1326) (by decide +kernel), List.mem_of_getElem? (i := 2027) (by decide +kernel), List.mem_of_getElem? (i := 2028) (by decide +kernel)⟩
theorem lw_p118 : lw_okq (⟨"TapeStudioModel", "nears", "(III)Z"⟩, 92) := ⟨⟨by decide +kernel, by decide +kernel⟩, List.mem_of_getElem? (i := 1326) (by decide +kernel), List.mem_of_getElem? (i := 2052) (by decide +kernel), List.mem_of_getElem? (i := 2053) (by decide +kernel)⟩
theorem lw_p119 : lw_okq (⟨"TapeStudioModel", "isLaid", "(I)Z"⟩, 92) := ⟨⟨by decide +kernel, by decide +kernel⟩, List.mem_of_getElem? (i := 1326) (by decide +kernel), List.mem_of_getElem? (i := 2060) (by decide +kernel), List.mem_of_getElem? (i := 2061) (by decide +kernel)⟩
theorem lw_p120 : lw_okq (⟨"TapeStudioModel", "gives", "(II)V"⟩, 92) := ⟨⟨by decide +kernel, by decide +kernel⟩, List.mem_of_getElem? (i := 1326) (by decide +kernel), List.mem_of_getElem? (i := 2064) (by decide +kernel), List.mem_of_getElem? (i := 2065) (by decide +kernel)⟩
theorem lw_p121 : lw_okq (⟨"TapeStudioModel", "sumAt", "(IIII)I"⟩, 92) := ⟨⟨by decide +kernel, by decide +kernel⟩, List.mem_of_getElem? (i := 1326) (by decide +kernel), List.mem_of_getElem? (i := 2068) (by decide +kernel), List.mem_of_getElem? (i := 2069) (by decide +kernel)⟩
theorem lw_p122 : lw_okq (⟨"TapeStudioModel", "covers", "(II)Z"⟩, 92) := ⟨⟨by decide +kernel, by decide +kernel⟩, List.mem_of_getElem? (i := 1326) (by decide +kernel), List.mem_of_getElem? (i := 2083) (by decide +kernel), List.mem_of_getElem? (i := 2084) (by decide +kernel)⟩
theorem lw_p123 : lw_okq (⟨"TapeStudioModel", "longest", "(I)V"⟩, 92) := ⟨⟨by decide +kernel, by decide +kernel⟩, List.mem_of_getElem? (i := 1326) (by decide +kernel), List.mem_of_getElem? (i := 2087) (by decide +kernel), List.mem_of_getElem? (i := 2088) (by decide +kernel)⟩
theorem lw_p124 : lw_okq (⟨"TapeStudioModel", "better", "(II)V"⟩, 92) := ⟨⟨by decide +kernel, by decide +kernel⟩, List.mem_of_getElem? (i := 1326) (by decide +kernel), List.mem_of_getElem? (i := 2091) (by decide +kernel), List.mem_of_getElem? (i := 2092) (by decide +kernel)⟩
def lw_privs_8 : List (MethodName × Nat) := [(⟨"TapeStudioModel", "plans", "(I)Z"⟩, 92), (⟨"TapeStudioModel", "need", "(III)V"⟩, 92), (⟨"TapeStudioModel", "stepOf", "(I)I"⟩, 92), (⟨"TapeStudioModel", "least", "(II)I"⟩, 92), (⟨"TapeStudioModel", "canDo", "(III)Z"⟩, 92), (⟨"TapeStudioModel", "isBench", "(I)Z"⟩, 92), (⟨"TapeStudioModel", "nears", "(III)Z"⟩, 92), (⟨"TapeStudioModel", "isLaid", "(I)Z"⟩, 92), (⟨"TapeStudioModel", "gives", "(II)V"⟩, 92), (⟨"TapeStudioModel", "sumAt", "(IIII)I"⟩, 92), (⟨"TapeStudioModel", "covers", "(II)Z"⟩, 92), (⟨"TapeStudioModel", "longest", "(I)V"⟩, 92), (⟨"TapeStudioModel", "better", "(II)V"⟩, 92)]
theorem lw_r8 : ∀ q ∈ lw_privs_8, lw_okq q := List.forall_mem_cons.mpr ⟨lw_p112, List.forall_mem_cons.mpr ⟨lw_p113, List.forall_mem_cons.mpr ⟨lw_p114, List.forall_mem_cons.mpr ⟨lw_p115, List.forall_mem_cons.mpr ⟨lw_p116, List.forall_mem_cons.mpr ⟨lw_p117, List.forall_mem_cons.mpr ⟨lw_p118, List.forall_mem_cons.mpr ⟨lw_p119, List.forall_mem_cons.mpr ⟨lw_p120, List.forall_mem_cons.mpr ⟨lw_p121, List.forall_mem_cons.mpr ⟨lw_p122, List.forall_mem_cons.mpr ⟨lw_p123, List.forall_mem_cons.mpr ⟨lw_p124, fun _ h => absurd h List.not_mem_nil⟩⟩⟩⟩⟩⟩⟩⟩⟩⟩⟩⟩⟩
def lw_privs : List (MethodName × Nat) := lw_privs_1 ++ (lw_privs_2 ++ (lw_privs_3 ++ (lw_privs_4 ++ (lw_privs_5 ++ (lw_privs_6 ++ (lw_privs_7 ++ (lw_privs_8)))))))
def lw_tbl : List Cond := k2_sels lw_privs ++ tables_1
theorem lw_privs_ok : ∀ q ∈ lw_privs, lw_okq q := by
  show ∀ q ∈ lw_privs_1 ++ (lw_privs_2 ++ (lw_privs_3 ++ (lw_privs_4 ++ (lw_privs_5 ++ (lw_privs_6 ++ (lw_privs_7 ++ (lw_privs_8))))))), lw_okq q
  exact List.forall_mem_append.mpr ⟨lw_r1, List.forall_mem_append.mpr ⟨lw_r2, List.forall_mem_append.mpr ⟨lw_r3, List.forall_mem_append.mpr ⟨lw_r4, List.forall_mem_append.mpr ⟨lw_r5, List.forall_mem_append.mpr ⟨lw_r6, List.forall_mem_append.mpr ⟨lw_r7, lw_r8⟩⟩⟩⟩⟩⟩⟩
/-! ===== BEGIN words of one list among another's, by their places ===== -/
theorem goodIn_r {big : List Cond} (ws : List Cond) (ps : List Nat) (hp : ws = ps.filterMap (fun i => big[i]?)) (h : ws.all goodWord = true) : GoodIn big ws := by
  intro w hw
  have h1 := List.all_eq_true.mp h w hw
  rw [hp] at hw
  obtain ⟨i, -, hi⟩ := List.mem_filterMap.mp hw
  have hm : w ∈ big := by first | exact List.mem_of_getElem? hi | exact List.getElem?_mem hi
  exact ⟨hm, good_of_word h1⟩
theorem goodIn_app {big a b : List Cond} (ha : GoodIn big a) (hb : GoodIn big b) : GoodIn big (a ++ b) := fun w h => (List.mem_append.mp h).elim (ha w) (hb w)
theorem goodIn_ca {big a b : List Cond} {c : Cond} (ha : GoodIn big (c :: a)) (hb : GoodIn big b) : GoodIn big (c :: (a ++ b)) := fun w h => (List.mem_cons.mp h).elim (fun e => ha w (List.mem_cons.mpr (Or.inl e))) (fun h => (List.mem_append.mp h).elim (fun h => ha w (List.mem_cons.mpr (Or.inr h))) (hb w))
theorem goodIn_sub {big ws : List Cond} (hm : ∀ w ∈ ws, w ∈ big) (h : ws.all goodWord = true) : GoodIn big ws := fun w hw => ⟨hm w hw, good_of_word (List.all_eq_true.mp h w hw)⟩
/-! ===== END ===== -/
def RX0 : String := "TapeStudio$Machine"
def TX0 : u_T := fun k => match k with
  | 0 => ("TapeStudio$Machine", "drift", "I", true)
  | 1 => ("TapeStudio$Machine", "level", "I", true)
  | 2 => ("TapeStudio$Machine", "hiss", "I", true)
  | _ => ("TapeStudio$Machine", "rough", "I", true)
def tyX0 : Nat → FieldType := fun k => match k with
  | 0 => .int
  | 1 => .int
  | 2 => .int
  | _ => .int
abbrev wsX00 : List Cond := u_ws RX0 TX0 4
theorem nmX0 : ∀ a, a < 4 → ∀ b, b < 4 → a ≠ b → (TX0 a).2.1 ≠ (TX0 b).2.1 := by decide +kernel
theorem tyX0_ok : ∀ k, k < 4 → parseFieldDescriptor (TX0 k).2.2.1 = some (tyX0 k) := by decide +kernel
abbrev cX0_init : ByteArray := prog_2_method_1_code
def yX0_init : MethodName := ⟨RX0, "<init>", "(IIII)V"⟩
abbrev cX0_copyPace : ByteArray := prog_2_method_2_code
def yX0_copyPace : MethodName := ⟨RX0, "copyPace", "()I"⟩
def RX1 : String := "TapeStudio$Match"
def TX1 : u_T := fun k => match k with
  | 0 => ("TapeStudio$Match", "shelf", "LTapeStudio$Shelf;", true)
  | 1 => ("TapeStudio$Match", "tape", "LTapeStudio$Row;", true)
  | 2 => ("TapeStudio$Match", "way", "LTapeStudio$Row;", true)
  | 3 => ("TapeStudio$Match", "bestStrip", "I", false)
  | 4 => ("TapeStudio$Match", "bestWay", "I", false)
  | 5 => ("TapeStudio$Match", "bestPlace", "I", false)
  | 6 => ("TapeStudio$Match", "bestSum", "I", false)
  | 7 => ("TapeStudio$Match", "fitting", "I", false)
  | 8 => ("TapeStudio$Match", "longest", "[I", true)
  | 9 => ("TapeStudio$Match", "fewest", "[I", true)
  | 10 => ("TapeStudio$Match", "runs", "[I", true)
  | 11 => ("TapeStudio$Match", "measuredMiss", "I", false)
  | _ => ("TapeStudio$Match", "measuredChanges", "I", false)
def tyX1 : Nat → FieldType := fun k => match k with
  | 0 => .object "TapeStudio$Shelf"
  | 1 => .object "TapeStudio$Row"
  | 2 => .object "TapeStudio$Row"
  | 3 => .int
  | 4 => .int
  | 5 => .int
  | 6 => .int
  | 7 => .int
  | 8 => .array .int
  | 9 => .array .int
  | 10 => .array .int
  | 11 => .int
  | _ => .int
abbrev wsX10 : List Cond := u_ws RX1 TX1 13
theorem nmX1 : ∀ a, a < 13 → ∀ b, b < 13 → a ≠ b → (TX1 a).2.1 ≠ (TX1 b).2.1 := by decide +kernel
theorem tyX1_ok : ∀ k, k < 13 → parseFieldDescriptor (TX1 k).2.2.1 = some (tyX1 k) := by decide +kernel
abbrev cX1_init : ByteArray := prog_3_method_1_code
def yX1_init : MethodName := ⟨RX1, "<init>", "(LTapeStudio$Shelf;LTapeStudio$Row;)V"⟩
abbrev cX1_forget : ByteArray := prog_3_method_2_code
def yX1_forget : MethodName := ⟨RX1, "forget", "()V"⟩
abbrev cX1_isAsked : ByteArray := prog_3_method_3_code
def yX1_isAsked : MethodName := ⟨RX1, "isAsked", "(II)Z"⟩
abbrev cX1_layable : ByteArray := prog_3_method_4_code
def yX1_layable : MethodName := ⟨RX1, "layable", "(I)LTapeStudio$Row;"⟩
abbrev cX1_fillWay : ByteArray := prog_3_method_5_code
def yX1_fillWay : MethodName := ⟨RX1, "fillWay", "(LTapeStudio$Row;I)V"⟩
abbrev cX1_search : ByteArray := prog_3_method_6_code
def yX1_search : MethodName := ⟨RX1, "search", "(III)Z"⟩
abbrev cX1_searchWay : ByteArray := prog_3_method_7_code
def yX1_searchWay : MethodName := ⟨RX1, "searchWay", "(IIIII)V"⟩
abbrev cX1_missAt : ByteArray := prog_3_method_8_code
def yX1_missAt : MethodName := ⟨RX1, "missAt", "(IIII)I"⟩
abbrev cX1_best : ByteArray := prog_3_method_9_code
def yX1_best : MethodName := ⟨RX1, "best", "(I)I"⟩
abbrev cX1_measure : ByteArray := prog_3_method_10_code
def yX1_measure : MethodName := ⟨RX1, "measure", "(I)V"⟩
abbrev cX1_measureWay : ByteArray := prog_3_method_11_code
def yX1_measureWay : MethodName := ⟨RX1, "measureWay", "(I)V"⟩
abbrev cX1_longestFrom : ByteArray := prog_3_method_12_code
def yX1_longestFrom : MethodName := ⟨RX1, "longestFrom", "(I)I"⟩
abbrev cX1_coveredBy : ByteArray := prog_3_method_13_code
def yX1_coveredBy : MethodName := ⟨RX1, "coveredBy", "(II)Z"⟩
abbrev cX1_fewestFrom : ByteArray := prog_3_method_14_code
def yX1_fewestFrom : MethodName := ⟨RX1, "fewestFrom", "(I)I"⟩
abbrev cX1_stretches : ByteArray := prog_3_method_15_code
def yX1_stretches : MethodName := ⟨RX1, "stretches", "()I"⟩
abbrev cX1_stretchBegin : ByteArray := prog_3_method_16_code
def yX1_stretchBegin : MethodName := ⟨RX1, "stretchBegin", "(II)I"⟩
abbrev cX1_longestOfFewest : ByteArray := prog_3_method_17_code
def yX1_longestOfFewest : MethodName := ⟨RX1, "longestOfFewest", "(II)I"⟩
abbrev cX1_firstUnfound : ByteArray := prog_3_method_18_code
def yX1_firstUnfound : MethodName := ⟨RX1, "firstUnfound", "(II)I"⟩
def RX2 : String := "TapeStudio$Piece"
def TX2 : u_T := fun k => match k with
  | 0 => ("TapeStudio$Piece", "shelf", "LTapeStudio$Shelf;", true)
  | 1 => ("TapeStudio$Piece", "sound", "LTapeStudio$Row;", true)
  | 2 => ("TapeStudio$Piece", "score", "LTapeStudio$Score;", false)
  | 3 => ("TapeStudio$Piece", "number", "I", false)
  | 4 => ("TapeStudio$Piece", "lengths", "[I", true)
  | 5 => ("TapeStudio$Piece", "leads", "[I", true)
  | 6 => ("TapeStudio$Piece", "backOrder", "I", false)
  | _ => ("TapeStudio$Piece", "backPlace", "I", false)
def tyX2 : Nat → FieldType := fun k => match k with
  | 0 => .object "TapeStudio$Shelf"
  | 1 => .object "TapeStudio$Row"
  | 2 => .object "TapeStudio$Score"
  | 3 => .int
  | 4 => .array .int
  | 5 => .array .int
  | 6 => .int
  | _ => .int
abbrev wsX20 : List Cond := u_ws RX2 TX2 8
theorem nmX2 : ∀ a, a < 8 → ∀ b, b < 8 → a ≠ b → (TX2 a).2.1 ≠ (TX2 b).2.1 := by decide +kernel
theorem tyX2_ok : ∀ k, k < 8 → parseFieldDescriptor (TX2 k).2.2.1 = some (tyX2 k) := by decide +kernel
abbrev cX2_init : ByteArray := prog_4_method_1_code
def yX2_init : MethodName := ⟨RX2, "<init>", "(LTapeStudio$Shelf;)V"⟩
abbrev cX2_layAll : ByteArray := prog_4_method_2_code
def yX2_layAll : MethodName := ⟨RX2, "layAll", "(LTapeStudio$Score;ILTapeStudio$Player;)V"⟩
abbrev cX2_layPut : ByteArray := prog_4_method_3_code
def yX2_layPut : MethodName := ⟨RX2, "layPut", "(ILTapeStudio$Row;)V"⟩
abbrev cX2_length : ByteArray := prog_4_method_4_code
def yX2_length : MethodName := ⟨RX2, "length", "(I)I"⟩
abbrev cX2_times : ByteArray := prog_4_method_5_code
def yX2_times : MethodName := ⟨RX2, "times", "(I)I"⟩
abbrev cX2_beginOf : ByteArray := prog_4_method_6_code
def yX2_beginOf : MethodName := ⟨RX2, "beginOf", "(II)I"⟩
abbrev cX2_track : ByteArray := prog_4_method_7_code
def yX2_track : MethodName := ⟨RX2, "track", "(I)I"⟩
abbrev cX2_beginWith : ByteArray := prog_4_method_8_code
def yX2_beginWith : MethodName := ⟨RX2, "beginWith", "(II)I"⟩
abbrev cX2_reason : ByteArray := prog_4_method_9_code
def yX2_reason : MethodName := ⟨RX2, "reason", "(II)I"⟩
abbrev cX2_reasons : ByteArray := prog_4_method_10_code
def yX2_reasons : MethodName := ⟨RX2, "reasons", "(I)J"⟩
abbrev cX2_bit : ByteArray := prog_4_method_11_code
def yX2_bit : MethodName := ⟨RX2, "bit", "(I)J"⟩
abbrev cX2_leadTo : ByteArray := prog_4_method_12_code
def yX2_leadTo : MethodName := ⟨RX2, "leadTo", "(III)I"⟩
abbrev cX2_firstPut : ByteArray := prog_4_method_13_code
def yX2_firstPut : MethodName := ⟨RX2, "firstPut", "(II)I"⟩
abbrev cX2_stepBack : ByteArray := prog_4_method_14_code
def yX2_stepBack : MethodName := ⟨RX2, "stepBack", "()V"⟩
abbrev cX2_quotient : ByteArray := prog_4_method_15_code
def yX2_quotient : MethodName := ⟨RX2, "quotient", "(II)I"⟩
abbrev cX2_quarrelAt : ByteArray := prog_4_method_16_code
def yX2_quarrelAt : MethodName := ⟨RX2, "quarrelAt", "(I)I"⟩
abbrev cX2_quarrels : ByteArray := prog_4_method_17_code
def yX2_quarrels : MethodName := ⟨RX2, "quarrels", "(II)Z"⟩
def RX3 : String := "TapeStudio$Player"
def TX3 : u_T := fun k => match k with
  | 0 => ("TapeStudio$Player", "shelf", "LTapeStudio$Shelf;", true)
  | 1 => ("TapeStudio$Player", "rows", "[LTapeStudio$Row;", true)
  | 2 => ("TapeStudio$Player", "silent", "LTapeStudio$Row;", true)
  | 3 => ("TapeStudio$Player", "leads", "[I", true)
  | _ => ("TapeStudio$Player", "depths", "[I", true)
def tyX3 : Nat → FieldType := fun k => match k with
  | 0 => .object "TapeStudio$Shelf"
  | 1 => .array (.object "TapeStudio$Row")
  | 2 => .object "TapeStudio$Row"
  | 3 => .array .int
  | _ => .array .int
abbrev wsX30 : List Cond := u_ws RX3 TX3 5
theorem nmX3 : ∀ a, a < 5 → ∀ b, b < 5 → a ≠ b → (TX3 a).2.1 ≠ (TX3 b).2.1 := by decide +kernel
theorem tyX3_ok : ∀ k, k < 5 → parseFieldDescriptor (TX3 k).2.2.1 = some (tyX3 k) := by decide +kernel
abbrev cX3_init : ByteArray := prog_5_method_1_code
def yX3_init : MethodName := ⟨RX3, "<init>", "(LTapeStudio$Shelf;)V"⟩
abbrev cX3_row : ByteArray := prog_5_method_2_code
def yX3_row : MethodName := ⟨RX3, "row", "(I)LTapeStudio$Row;"⟩
abbrev cX3_firstFailing : ByteArray := prog_5_method_3_code
def yX3_firstFailing : MethodName := ⟨RX3, "firstFailing", "(LTapeStudio$Score;I)I"⟩
abbrev cX3_stripOf : ByteArray := prog_5_method_4_code
def yX3_stripOf : MethodName := ⟨RX3, "stripOf", "(LTapeStudio$Score;II)I"⟩
abbrev cX3_canPut : ByteArray := prog_5_method_5_code
def yX3_canPut : MethodName := ⟨RX3, "canPut", "(LTapeStudio$Score;I)Z"⟩
abbrev cX3_fillRow : ByteArray := prog_5_method_6_code
def yX3_fillRow : MethodName := ⟨RX3, "fillRow", "(LTapeStudio$Score;I)Z"⟩
abbrev cX3_isLength : ByteArray := prog_5_method_7_code
def yX3_isLength : MethodName := ⟨RX3, "isLength", "(I)Z"⟩
abbrev cX3_fillStrip : ByteArray := prog_5_method_8_code
def yX3_fillStrip : MethodName := ⟨RX3, "fillStrip", "(LTapeStudio$Row;I)Z"⟩
abbrev cX3_fillCut : ByteArray := prog_5_method_9_code
def yX3_fillCut : MethodName := ⟨RX3, "fillCut", "(LTapeStudio$Row;LTapeStudio$Row;II)Z"⟩
abbrev cX3_fillPlayed : ByteArray := prog_5_method_10_code
def yX3_fillPlayed : MethodName := ⟨RX3, "fillPlayed", "(LTapeStudio$Row;LTapeStudio$Row;II)Z"⟩
abbrev cX3_fillJoined : ByteArray := prog_5_method_11_code
def yX3_fillJoined : MethodName := ⟨RX3, "fillJoined", "(LTapeStudio$Row;LTapeStudio$Row;LTapeStudio$Row;I)Z"⟩
abbrev cX3_fillCopied : ByteArray := prog_5_method_12_code
def yX3_fillCopied : MethodName := ⟨RX3, "fillCopied", "(LTapeStudio$Row;LTapeStudio$Row;LTapeStudio$Machine;)Z"⟩
abbrev cX3_fillFaded : ByteArray := prog_5_method_13_code
def yX3_fillFaded : MethodName := ⟨RX3, "fillFaded", "(LTapeStudio$Row;LTapeStudio$Row;II)Z"⟩
abbrev cX3_noteLeads : ByteArray := prog_5_method_14_code
def yX3_noteLeads : MethodName := ⟨RX3, "noteLeads", "(LTapeStudio$Score;)V"⟩
abbrev cX3_leadsOtherwise : ByteArray := prog_5_method_15_code
def yX3_leadsOtherwise : MethodName := ⟨RX3, "leadsOtherwise", "(LTapeStudio$Score;)Z"⟩
abbrev cX3_depth : ByteArray := prog_5_method_16_code
def yX3_depth : MethodName := ⟨RX3, "depth", "(LTapeStudio$Score;)I"⟩
abbrev cX3_depthOf : ByteArray := prog_5_method_17_code
def yX3_depthOf : MethodName := ⟨RX3, "depthOf", "(LTapeStudio$Score;I)I"⟩
def RX4 : String := "TapeStudio$Reader"
def TX4 : u_T := fun k => match k with
  | 0 => ("TapeStudio$Reader", "bytes", "[I", true)
  | 1 => ("TapeStudio$Reader", "size", "I", false)
  | 2 => ("TapeStudio$Reader", "starts", "[I", true)
  | 3 => ("TapeStudio$Reader", "kinds", "[I", true)
  | 4 => ("TapeStudio$Reader", "values", "[I", true)
  | 5 => ("TapeStudio$Reader", "tokens", "I", false)
  | 6 => ("TapeStudio$Reader", "place", "I", false)
  | 7 => ("TapeStudio$Reader", "next", "I", false)
  | 8 => ("TapeStudio$Reader", "draft", "LTapeStudio$Score;", true)
  | 9 => ("TapeStudio$Reader", "names", "[I", true)
  | _ => ("TapeStudio$Reader", "numbers", "I", false)
def tyX4 : Nat → FieldType := fun k => match k with
  | 0 => .array .int
  | 1 => .int
  | 2 => .array .int
  | 3 => .array .int
  | 4 => .array .int
  | 5 => .int
  | 6 => .int
  | 7 => .int
  | 8 => .object "TapeStudio$Score"
  | 9 => .array .int
  | _ => .int
abbrev wsX40 : List Cond := u_ws RX4 TX4 11
theorem nmX4 : ∀ a, a < 11 → ∀ b, b < 11 → a ≠ b → (TX4 a).2.1 ≠ (TX4 b).2.1 := by decide +kernel
theorem tyX4_ok : ∀ k, k < 11 → parseFieldDescriptor (TX4 k).2.2.1 = some (tyX4 k) := by decide +kernel
abbrev cX4_init : ByteArray := prog_6_method_1_code
def yX4_init : MethodName := ⟨RX4, "<init>", "()V"⟩
abbrev cX4_addFour : ByteArray := prog_6_method_2_code
def yX4_addFour : MethodName := ⟨RX4, "addFour", "(I)V"⟩
abbrev cX4_addByte : ByteArray := prog_6_method_3_code
def yX4_addByte : MethodName := ⟨RX4, "addByte", "(I)V"⟩
abbrev cX4_firstFault : ByteArray := prog_6_method_4_code
def yX4_firstFault : MethodName := ⟨RX4, "firstFault", "()I"⟩
abbrev cX4_written : ByteArray := prog_6_method_5_code
def yX4_written : MethodName := ⟨RX4, "written", "()LTapeStudio$Score;"⟩
abbrev cX4_byteAt : ByteArray := prog_6_method_6_code
def yX4_byteAt : MethodName := ⟨RX4, "byteAt", "(I)I"⟩
abbrev cX4_isLetter : ByteArray := prog_6_method_7_code
def yX4_isLetter : MethodName := ⟨RX4, "isLetter", "(I)Z"⟩
abbrev cX4_isDigit : ByteArray := prog_6_method_8_code
def yX4_isDigit : MethodName := ⟨RX4, "isDigit", "(I)Z"⟩
abbrev cX4_isSign : ByteArray := prog_6_method_9_code
def yX4_isSign : MethodName := ⟨RX4, "isSign", "(I)Z"⟩
abbrev cX4_readTokens : ByteArray := prog_6_method_10_code
def yX4_readTokens : MethodName := ⟨RX4, "readTokens", "()V"⟩
abbrev cX4_addToken : ByteArray := prog_6_method_11_code
def yX4_addToken : MethodName := ⟨RX4, "addToken", "(III)V"⟩
abbrev cX4_readWord : ByteArray := prog_6_method_12_code
def yX4_readWord : MethodName := ⟨RX4, "readWord", "(I)V"⟩
abbrev cX4_isKeyword : ByteArray := prog_6_method_13_code
def yX4_isKeyword : MethodName := ⟨RX4, "isKeyword", "(II)Z"⟩
abbrev cX4_readNumber : ByteArray := prog_6_method_14_code
def yX4_readNumber : MethodName := ⟨RX4, "readNumber", "(I)V"⟩
abbrev cX4_kind : ByteArray := prog_6_method_15_code
def yX4_kind : MethodName := ⟨RX4, "kind", "()I"⟩
abbrev cX4_value : ByteArray := prog_6_method_16_code
def yX4_value : MethodName := ⟨RX4, "value", "()I"⟩
abbrev cX4_pass : ByteArray := prog_6_method_17_code
def yX4_pass : MethodName := ⟨RX4, "pass", "(I)Z"⟩
abbrev cX4_isNumber : ByteArray := prog_6_method_18_code
def yX4_isNumber : MethodName := ⟨RX4, "isNumber", "(II)Z"⟩
abbrev cX4_passNumber : ByteArray := prog_6_method_19_code
def yX4_passNumber : MethodName := ⟨RX4, "passNumber", "(II)Z"⟩
abbrev cX4_passRow : ByteArray := prog_6_method_20_code
def yX4_passRow : MethodName := ⟨RX4, "passRow", "(I)Z"⟩
abbrev cX4_namedOrder : ByteArray := prog_6_method_21_code
def yX4_namedOrder : MethodName := ⟨RX4, "namedOrder", "()I"⟩
abbrev cX4_setCell : ByteArray := prog_6_method_22_code
def yX4_setCell : MethodName := ⟨RX4, "setCell", "(II)V"⟩
abbrev cX4_beginOrder : ByteArray := prog_6_method_23_code
def yX4_beginOrder : MethodName := ⟨RX4, "beginOrder", "(II)V"⟩
abbrev cX4_endOrder : ByteArray := prog_6_method_24_code
def yX4_endOrder : MethodName := ⟨RX4, "endOrder", "()Z"⟩
abbrev cX4_readAgain : ByteArray := prog_6_method_25_code
def yX4_readAgain : MethodName := ⟨RX4, "readAgain", "()Z"⟩
abbrev cX4_readPut : ByteArray := prog_6_method_26_code
def yX4_readPut : MethodName := ⟨RX4, "readPut", "(II)Z"⟩
abbrev cX4_readMaking : ByteArray := prog_6_method_27_code
def yX4_readMaking : MethodName := ⟨RX4, "readMaking", "()Z"⟩
abbrev cX4_readParts : ByteArray := prog_6_method_28_code
def yX4_readParts : MethodName := ⟨RX4, "readParts", "(I)Z"⟩
def RX5 : String := "TapeStudio$Row"
def TX5 : u_T := fun k => match k with
  | 0 => ("TapeStudio$Row", "samples", "[I", false)
  | _ => ("TapeStudio$Row", "length", "I", false)
def tyX5 : Nat → FieldType := fun k => match k with
  | 0 => .array .int
  | _ => .int
abbrev wsX50 : List Cond := u_ws RX5 TX5 2
theorem nmX5 : ∀ a, a < 2 → ∀ b, b < 2 → a ≠ b → (TX5 a).2.1 ≠ (TX5 b).2.1 := by decide +kernel
theorem tyX5_ok : ∀ k, k < 2 → parseFieldDescriptor (TX5 k).2.2.1 = some (tyX5 k) := by decide +kernel
abbrev cX5_init : ByteArray := prog_7_method_1_code
def yX5_init : MethodName := ⟨RX5, "<init>", "()V"⟩
abbrev cX5_size : ByteArray := prog_7_method_2_code
def yX5_size : MethodName := ⟨RX5, "size", "()I"⟩
abbrev cX5_get : ByteArray := prog_7_method_3_code
def yX5_get : MethodName := ⟨RX5, "get", "(I)I"⟩
abbrev cX5_set : ByteArray := prog_7_method_4_code
def yX5_set : MethodName := ⟨RX5, "set", "(II)V"⟩
abbrev cX5_raise : ByteArray := prog_7_method_5_code
def yX5_raise : MethodName := ⟨RX5, "raise", "(II)V"⟩
abbrev cX5_limit : ByteArray := prog_7_method_6_code
def yX5_limit : MethodName := ⟨RX5, "limit", "()V"⟩
abbrev cX5_add : ByteArray := prog_7_method_7_code
def yX5_add : MethodName := ⟨RX5, "add", "(I)V"⟩
abbrev cX5_resize : ByteArray := prog_7_method_8_code
def yX5_resize : MethodName := ⟨RX5, "resize", "(I)V"⟩
abbrev cX5_silence : ByteArray := prog_7_method_9_code
def yX5_silence : MethodName := ⟨RX5, "silence", "(I)V"⟩
abbrev cX5_dropFirst : ByteArray := prog_7_method_10_code
def yX5_dropFirst : MethodName := ⟨RX5, "dropFirst", "(I)V"⟩
abbrev cX5_fillPart : ByteArray := prog_7_method_11_code
def yX5_fillPart : MethodName := ⟨RX5, "fillPart", "(LTapeStudio$Row;II)V"⟩
abbrev cX5_fillTurned : ByteArray := prog_7_method_12_code
def yX5_fillTurned : MethodName := ⟨RX5, "fillTurned", "(LTapeStudio$Row;)V"⟩
abbrev cX5_fillRound : ByteArray := prog_7_method_13_code
def yX5_fillRound : MethodName := ⟨RX5, "fillRound", "(LTapeStudio$Row;I)V"⟩
abbrev cX5_fillJoined : ByteArray := prog_7_method_14_code
def yX5_fillJoined : MethodName := ⟨RX5, "fillJoined", "(LTapeStudio$Row;LTapeStudio$Row;I)V"⟩
abbrev cX5_joinedSize : ByteArray := prog_7_method_15_code
def yX5_joinedSize : MethodName := ⟨RX5, "joinedSize", "(LTapeStudio$Row;LTapeStudio$Row;I)I"⟩
abbrev cX5_fillPlayed : ByteArray := prog_7_method_16_code
def yX5_fillPlayed : MethodName := ⟨RX5, "fillPlayed", "(LTapeStudio$Row;II)V"⟩
abbrev cX5_playedSize : ByteArray := prog_7_method_17_code
def yX5_playedSize : MethodName := ⟨RX5, "playedSize", "(II)I"⟩
abbrev cX5_between : ByteArray := prog_7_method_18_code
def yX5_between : MethodName := ⟨RX5, "between", "(II)I"⟩
abbrev cX5_level : ByteArray := prog_7_method_19_code
def yX5_level : MethodName := ⟨RX5, "level", "(I)V"⟩
abbrev cX5_echo : ByteArray := prog_7_method_20_code
def yX5_echo : MethodName := ⟨RX5, "echo", "(II)V"⟩
abbrev cX5_fillFiltered : ByteArray := prog_7_method_21_code
def yX5_fillFiltered : MethodName := ⟨RX5, "fillFiltered", "(LTapeStudio$Row;III)V"⟩
abbrev cX5_fadeIn : ByteArray := prog_7_method_22_code
def yX5_fadeIn : MethodName := ⟨RX5, "fadeIn", "(I)V"⟩
abbrev cX5_fadeOut : ByteArray := prog_7_method_23_code
def yX5_fadeOut : MethodName := ⟨RX5, "fadeOut", "(I)V"⟩
def RX6 : String := "TapeStudio$Score"
def TX6 : u_T := fun k => match k with
  | 0 => ("TapeStudio$Score", "cells", "[I", true)
  | 1 => ("TapeStudio$Score", "count", "I", false)
  | 2 => ("TapeStudio$Score", "made", "Z", false)
  | _ => ("TapeStudio$Score", "leads", "[I", true)
def tyX6 : Nat → FieldType := fun k => match k with
  | 0 => .array .int
  | 1 => .int
  | 2 => .boolean
  | _ => .array .int
abbrev wsX60 : List Cond := u_ws RX6 TX6 4
theorem nmX6 : ∀ a, a < 4 → ∀ b, b < 4 → a ≠ b → (TX6 a).2.1 ≠ (TX6 b).2.1 := by decide +kernel
theorem tyX6_ok : ∀ k, k < 4 → parseFieldDescriptor (TX6 k).2.2.1 = some (tyX6 k) := by decide +kernel
abbrev cX6_init : ByteArray := prog_8_method_1_code
def yX6_init : MethodName := ⟨RX6, "<init>", "([II)V"⟩
abbrev cX6_cell : ByteArray := prog_8_method_2_code
def yX6_cell : MethodName := ⟨RX6, "cell", "(II)I"⟩
abbrev cX6_verb : ByteArray := prog_8_method_3_code
def yX6_verb : MethodName := ⟨RX6, "verb", "(I)I"⟩
abbrev cX6_one : ByteArray := prog_8_method_4_code
def yX6_one : MethodName := ⟨RX6, "one", "(I)I"⟩
abbrev cX6_other : ByteArray := prog_8_method_5_code
def yX6_other : MethodName := ⟨RX6, "other", "(I)I"⟩
abbrev cX6_number : ByteArray := prog_8_method_6_code
def yX6_number : MethodName := ⟨RX6, "number", "(II)I"⟩
abbrev cX6_isSource : ByteArray := prog_8_method_7_code
def yX6_isSource : MethodName := ⟨RX6, "isSource", "(I)Z"⟩
abbrev cX6_isPut : ByteArray := prog_8_method_8_code
def yX6_isPut : MethodName := ⟨RX6, "isPut", "(I)Z"⟩
abbrev cX6_isBench : ByteArray := prog_8_method_9_code
def yX6_isBench : MethodName := ⟨RX6, "isBench", "(I)Z"⟩
def RX7 : String := "TapeStudio$Shelf"
def TX7 : u_T := fun k => match k with
  | 0 => ("TapeStudio$Shelf", "strips", "[LTapeStudio$Strip;", true)
  | 1 => ("TapeStudio$Shelf", "count", "I", false)
  | 2 => ("TapeStudio$Shelf", "samples", "I", false)
  | 3 => ("TapeStudio$Shelf", "now", "I", false)
  | 4 => ("TapeStudio$Shelf", "sliver", "I", false)
  | 5 => ("TapeStudio$Shelf", "machines", "[LTapeStudio$Machine;", true)
  | 6 => ("TapeStudio$Shelf", "machineCount", "I", false)
  | 7 => ("TapeStudio$Shelf", "readStrips", "[I", true)
  | 8 => ("TapeStudio$Shelf", "readMarks", "[I", true)
  | 9 => ("TapeStudio$Shelf", "readDays", "[I", true)
  | 10 => ("TapeStudio$Shelf", "readings", "I", false)
  | _ => ("TapeStudio$Shelf", "changes", "I", false)
def tyX7 : Nat → FieldType := fun k => match k with
  | 0 => .array (.object "TapeStudio$Strip")
  | 1 => .int
  | 2 => .int
  | 3 => .int
  | 4 => .int
  | 5 => .array (.object "TapeStudio$Machine")
  | 6 => .int
  | 7 => .array .int
  | 8 => .array .int
  | 9 => .array .int
  | 10 => .int
  | _ => .int
abbrev wsX70 : List Cond := u_ws RX7 TX7 12
theorem nmX7 : ∀ a, a < 12 → ∀ b, b < 12 → a ≠ b → (TX7 a).2.1 ≠ (TX7 b).2.1 := by decide +kernel
theorem tyX7_ok : ∀ k, k < 12 → parseFieldDescriptor (TX7 k).2.2.1 = some (tyX7 k) := by decide +kernel
abbrev cX7_init : ByteArray := prog_9_method_1_code
def yX7_init : MethodName := ⟨RX7, "<init>", "()V"⟩
abbrev cX7_known : ByteArray := prog_9_method_2_code
def yX7_known : MethodName := ⟨RX7, "known", "(I)LTapeStudio$Strip;"⟩
abbrev cX7_there : ByteArray := prog_9_method_3_code
def yX7_there : MethodName := ⟨RX7, "there", "(I)LTapeStudio$Strip;"⟩
abbrev cX7_machineOf : ByteArray := prog_9_method_4_code
def yX7_machineOf : MethodName := ⟨RX7, "machineOf", "(I)LTapeStudio$Machine;"⟩
abbrev cX7_countThere : ByteArray := prog_9_method_5_code
def yX7_countThere : MethodName := ⟨RX7, "countThere", "()I"⟩
abbrev cX7_hasRoom : ByteArray := prog_9_method_6_code
def yX7_hasRoom : MethodName := ⟨RX7, "hasRoom", "(II)Z"⟩
abbrev cX7_begin : ByteArray := prog_9_method_7_code
def yX7_begin : MethodName := ⟨RX7, "begin", "(II)LTapeStudio$Strip;"⟩
abbrev cX7_beginOf : ByteArray := prog_9_method_8_code
def yX7_beginOf : MethodName := ⟨RX7, "beginOf", "(IILTapeStudio$Strip;)LTapeStudio$Strip;"⟩
abbrev cX7_takeAway : ByteArray := prog_9_method_9_code
def yX7_takeAway : MethodName := ⟨RX7, "takeAway", "(LTapeStudio$Strip;I)V"⟩
abbrev cX7_layStrip : ByteArray := prog_9_method_10_code
def yX7_layStrip : MethodName := ⟨RX7, "layStrip", "(LTapeStudio$Row;I)I"⟩
abbrev cX7_cutAt : ByteArray := prog_9_method_11_code
def yX7_cutAt : MethodName := ⟨RX7, "cutAt", "(II)I"⟩
abbrev cX7_addPart : ByteArray := prog_9_method_12_code
def yX7_addPart : MethodName := ⟨RX7, "addPart", "(LTapeStudio$Strip;II)I"⟩
abbrev cX7_freeStrip : ByteArray := prog_9_method_13_code
def yX7_freeStrip : MethodName := ⟨RX7, "freeStrip", "(I)LTapeStudio$Strip;"⟩
abbrev cX7_turnedOf : ByteArray := prog_9_method_14_code
def yX7_turnedOf : MethodName := ⟨RX7, "turnedOf", "(I)I"⟩
abbrev cX7_loopOf : ByteArray := prog_9_method_15_code
def yX7_loopOf : MethodName := ⟨RX7, "loopOf", "(I)I"⟩
abbrev cX7_joinedOf : ByteArray := prog_9_method_16_code
def yX7_joinedOf : MethodName := ⟨RX7, "joinedOf", "(III)I"⟩
abbrev cX7_addMachine : ByteArray := prog_9_method_17_code
def yX7_addMachine : MethodName := ⟨RX7, "addMachine", "(III)I"⟩
abbrev cX7_canPlay : ByteArray := prog_9_method_18_code
def yX7_canPlay : MethodName := ⟨RX7, "canPlay", "(LTapeStudio$Strip;LTapeStudio$Machine;II)Z"⟩
abbrev cX7_played : ByteArray := prog_9_method_19_code
def yX7_played : MethodName := ⟨RX7, "played", "(ILTapeStudio$Strip;LTapeStudio$Machine;II)LTapeStudio$Strip;"⟩
abbrev cX7_copiedOf : ByteArray := prog_9_method_20_code
def yX7_copiedOf : MethodName := ⟨RX7, "copiedOf", "(II)I"⟩
abbrev cX7_speededOf : ByteArray := prog_9_method_21_code
def yX7_speededOf : MethodName := ⟨RX7, "speededOf", "(IIII)I"⟩
abbrev cX7_hangingOn : ByteArray := prog_9_method_22_code
def yX7_hangingOn : MethodName := ⟨RX7, "hangingOn", "(I)I"⟩
abbrev cX7_readMark : ByteArray := prog_9_method_23_code
def yX7_readMark : MethodName := ⟨RX7, "readMark", "(II)Z"⟩
abbrev cX7_markOf : ByteArray := prog_9_method_24_code
def yX7_markOf : MethodName := ⟨RX7, "markOf", "(II)I"⟩
abbrev cX7_leastMarked : ByteArray := prog_9_method_25_code
def yX7_leastMarked : MethodName := ⟨RX7, "leastMarked", "(II)I"⟩
def RX8 : String := "TapeStudio$Strip"
def TX8 : u_T := fun k => match k with
  | 0 => ("TapeStudio$Strip", "number", "I", true)
  | 1 => ("TapeStudio$Strip", "kind", "I", true)
  | 2 => ("TapeStudio$Strip", "day", "I", true)
  | 3 => ("TapeStudio$Strip", "row", "LTapeStudio$Row;", true)
  | 4 => ("TapeStudio$Strip", "state", "I", false)
  | 5 => ("TapeStudio$Strip", "generation", "I", false)
  | 6 => ("TapeStudio$Strip", "hiss", "I", false)
  | 7 => ("TapeStudio$Strip", "wear", "I", false)
  | 8 => ("TapeStudio$Strip", "nail", "I", false)
  | 9 => ("TapeStudio$Strip", "one", "I", false)
  | 10 => ("TapeStudio$Strip", "other", "I", false)
  | _ => ("TapeStudio$Strip", "begin", "I", false)
def tyX8 : Nat → FieldType := fun k => match k with
  | 0 => .int
  | 1 => .int
  | 2 => .int
  | 3 => .object "TapeStudio$Row"
  | 4 => .int
  | 5 => .int
  | 6 => .int
  | 7 => .int
  | 8 => .int
  | 9 => .int
  | 10 => .int
  | _ => .int
abbrev wsX80 : List Cond := u_ws RX8 TX8 12
theorem nmX8 : ∀ a, a < 12 → ∀ b, b < 12 → a ≠ b → (TX8 a).2.1 ≠ (TX8 b).2.1 := by decide +kernel
theorem tyX8_ok : ∀ k, k < 12 → parseFieldDescriptor (TX8 k).2.2.1 = some (tyX8 k) := by decide +kernel
abbrev cX8_init : ByteArray := prog_10_method_1_code
def yX8_init : MethodName := ⟨RX8, "<init>", "(III)V"⟩
abbrev cX8_fact : ByteArray := prog_10_method_2_code
def yX8_fact : MethodName := ⟨RX8, "fact", "(I)I"⟩
abbrev cX8_ageAs : ByteArray := prog_10_method_3_code
def yX8_ageAs : MethodName := ⟨RX8, "ageAs", "(LTapeStudio$Strip;)V"⟩
def RX9 : String := "TapeStudio$Work"
def TX9 : u_T := fun k => match k with
  | 0 => ("TapeStudio$Work", "steps", "[I", true)
  | 1 => ("TapeStudio$Work", "needs", "[I", true)
  | 2 => ("TapeStudio$Work", "stepOf", "[I", true)
  | 3 => ("TapeStudio$Work", "least", "[I", true)
  | 4 => ("TapeStudio$Work", "score", "LTapeStudio$Score;", false)
  | 5 => ("TapeStudio$Work", "count", "I", false)
  | _ => ("TapeStudio$Work", "machines", "I", false)
def tyX9 : Nat → FieldType := fun k => match k with
  | 0 => .array .int
  | 1 => .array .int
  | 2 => .array .int
  | 3 => .array .int
  | 4 => .object "TapeStudio$Score"
  | 5 => .int
  | _ => .int
abbrev wsX90 : List Cond := u_ws RX9 TX9 7
theorem nmX9 : ∀ a, a < 7 → ∀ b, b < 7 → a ≠ b → (TX9 a).2.1 ≠ (TX9 b).2.1 := by decide +kernel
theorem tyX9_ok : ∀ k, k < 7 → parseFieldDescriptor (TX9 k).2.2.1 = some (tyX9 k) := by decide +kernel
abbrev cX9_init : ByteArray := prog_11_method_1_code
def yX9_init : MethodName := ⟨RX9, "<init>", "()V"⟩
abbrev cX9_leastTurns : ByteArray := prog_11_method_2_code
def yX9_leastTurns : MethodName := ⟨RX9, "leastTurns", "(LTapeStudio$Score;I)I"⟩
abbrev cX9_plannedTurn : ByteArray := prog_11_method_3_code
def yX9_plannedTurn : MethodName := ⟨RX9, "plannedTurn", "(LTapeStudio$Score;II)I"⟩
abbrev cX9_gather : ByteArray := prog_11_method_4_code
def yX9_gather : MethodName := ⟨RX9, "gather", "()Z"⟩
abbrev cX9_stepBit : ByteArray := prog_11_method_5_code
def yX9_stepBit : MethodName := ⟨RX9, "stepBit", "(I)I"⟩
abbrev cX9_leftFrom : ByteArray := prog_11_method_6_code
def yX9_leftFrom : MethodName := ⟨RX9, "leftFrom", "(I)I"⟩
abbrev cX9_weigh : ByteArray := prog_11_method_7_code
def yX9_weigh : MethodName := ⟨RX9, "weigh", "()V"⟩
abbrev cX9_readyAfter : ByteArray := prog_11_method_8_code
def yX9_readyAfter : MethodName := ⟨RX9, "readyAfter", "(I)I"⟩
abbrev cX9_fitsRoom : ByteArray := prog_11_method_9_code
def yX9_fitsRoom : MethodName := ⟨RX9, "fitsRoom", "(I)Z"⟩
abbrev cX9_firstHeap : ByteArray := prog_11_method_10_code
def yX9_firstHeap : MethodName := ⟨RX9, "firstHeap", "(I)I"⟩
def RX10 : String := "TapeStudio"
def TX10 : u_T := fun k => match k with
  | 0 => ("TapeStudio", "shelf", "LTapeStudio$Shelf;", true)
  | 1 => ("TapeStudio", "hand", "LTapeStudio$Row;", true)
  | 2 => ("TapeStudio", "reader", "LTapeStudio$Reader;", true)
  | 3 => ("TapeStudio", "scores", "[LTapeStudio$Score;", true)
  | 4 => ("TapeStudio", "scoreCount", "I", false)
  | 5 => ("TapeStudio", "player", "LTapeStudio$Player;", true)
  | 6 => ("TapeStudio", "piece", "LTapeStudio$Piece;", true)
  | 7 => ("TapeStudio", "work", "LTapeStudio$Work;", true)
  | 8 => ("TapeStudio", "tape", "LTapeStudio$Row;", true)
  | _ => ("TapeStudio", "match", "LTapeStudio$Match;", true)
def tyX10 : Nat → FieldType := fun k => match k with
  | 0 => .object "TapeStudio$Shelf"
  | 1 => .object "TapeStudio$Row"
  | 2 => .object "TapeStudio$Reader"
  | 3 => .array (.object "TapeStudio$Score")
  | 4 => .int
  | 5 => .object "TapeStudio$Player"
  | 6 => .object "TapeStudio$Piece"
  | 7 => .object "TapeStudio$Work"
  | 8 => .object "TapeStudio$Row"
  | _ => .object "TapeStudio$Match"
abbrev wsX100 : List Cond := u_ws RX10 TX10 10
theorem nmX10 : ∀ a, a < 10 → ∀ b, b < 10 → a ≠ b → (TX10 a).2.1 ≠ (TX10 b).2.1 := by decide +kernel
theorem tyX10_ok : ∀ k, k < 10 → parseFieldDescriptor (TX10 k).2.2.1 = some (tyX10 k) := by decide +kernel
abbrev cX10_init : ByteArray := prog_1_method_1_code
def yX10_init : MethodName := ⟨RX10, "<init>", "()V"⟩
abbrev cX10_hand : ByteArray := prog_1_method_2_code
def yX10_hand : MethodName := ⟨RX10, "hand", "(IIIII)I"⟩
abbrev cX10_feedPair : ByteArray := prog_1_method_3_code
def yX10_feedPair : MethodName := ⟨RX10, "feedPair", "(I)V"⟩
abbrev cX10_drop : ByteArray := prog_1_method_4_code
def yX10_drop : MethodName := ⟨RX10, "drop", "()I"⟩
abbrev cX10_strip : ByteArray := prog_1_method_5_code
def yX10_strip : MethodName := ⟨RX10, "strip", "(I)I"⟩
abbrev cX10_sliver : ByteArray := prog_1_method_6_code
def yX10_sliver : MethodName := ⟨RX10, "sliver", "(I)Z"⟩
abbrev cX10_cut : ByteArray := prog_1_method_7_code
def yX10_cut : MethodName := ⟨RX10, "cut", "(II)I"⟩
abbrev cX10_turn : ByteArray := prog_1_method_8_code
def yX10_turn : MethodName := ⟨RX10, "turn", "(I)I"⟩
abbrev cX10_loop : ByteArray := prog_1_method_9_code
def yX10_loop : MethodName := ⟨RX10, "loop", "(I)I"⟩
abbrev cX10_seam : ByteArray := prog_1_method_10_code
def yX10_seam : MethodName := ⟨RX10, "seam", "(I)I"⟩
abbrev cX10_splice : ByteArray := prog_1_method_11_code
def yX10_splice : MethodName := ⟨RX10, "splice", "(III)I"⟩
abbrev cX10_machine : ByteArray := prog_1_method_12_code
def yX10_machine : MethodName := ⟨RX10, "machine", "(III)I"⟩
abbrev cX10_copy : ByteArray := prog_1_method_13_code
def yX10_copy : MethodName := ⟨RX10, "copy", "(II)I"⟩
abbrev cX10_speed : ByteArray := prog_1_method_14_code
def yX10_speed : MethodName := ⟨RX10, "speed", "(IIII)I"⟩
abbrev cX10_lose : ByteArray := prog_1_method_15_code
def yX10_lose : MethodName := ⟨RX10, "lose", "(I)Z"⟩
abbrev cX10_hang : ByteArray := prog_1_method_16_code
def yX10_hang : MethodName := ⟨RX10, "hang", "(II)Z"⟩
abbrev cX10_nail : ByteArray := prog_1_method_17_code
def yX10_nail : MethodName := ⟨RX10, "nail", "(I)I"⟩
abbrev cX10_read : ByteArray := prog_1_method_18_code
def yX10_read : MethodName := ⟨RX10, "read", "(II)Z"⟩
abbrev cX10_marked : ByteArray := prog_1_method_19_code
def yX10_marked : MethodName := ⟨RX10, "marked", "(II)I"⟩
abbrev cX10_go : ByteArray := prog_1_method_20_code
def yX10_go : MethodName := ⟨RX10, "go", "(I)I"⟩
abbrev cX10_sample : ByteArray := prog_1_method_21_code
def yX10_sample : MethodName := ⟨RX10, "sample", "(II)I"⟩
abbrev cX10_told : ByteArray := prog_1_method_22_code
def yX10_told : MethodName := ⟨RX10, "told", "(II)I"⟩
abbrev cX10_feed : ByteArray := prog_1_method_23_code
def yX10_feed : MethodName := ⟨RX10, "feed", "(IIIII)I"⟩
abbrev cX10_end : ByteArray := prog_1_method_24_code
def yX10_end : MethodName := ⟨RX10, "end", "(I)Z"⟩
abbrev cX10_fault : ByteArray := prog_1_method_25_code
def yX10_fault : MethodName := ⟨RX10, "fault", "()I"⟩
abbrev cX10_score : ByteArray := prog_1_method_26_code
def yX10_score : MethodName := ⟨RX10, "score", "()I"⟩
abbrev cX10_make : ByteArray := prog_1_method_27_code
def yX10_make : MethodName := ⟨RX10, "make", "(II)I"⟩
abbrev cX10_fails : ByteArray := prog_1_method_28_code
def yX10_fails : MethodName := ⟨RX10, "fails", "(II)I"⟩
abbrev cX10_out : ByteArray := prog_1_method_29_code
def yX10_out : MethodName := ⟨RX10, "out", "(I)I"⟩
abbrev cX10_why : ByteArray := prog_1_method_30_code
def yX10_why : MethodName := ⟨RX10, "why", "(II)I"⟩
abbrev cX10_lead : ByteArray := prog_1_method_31_code
def yX10_lead : MethodName := ⟨RX10, "lead", "(III)I"⟩
abbrev cX10_quarrel : ByteArray := prog_1_method_32_code
def yX10_quarrel : MethodName := ⟨RX10, "quarrel", "(I)I"⟩
abbrev cX10_open : ByteArray := prog_1_method_33_code
def yX10_open : MethodName := ⟨RX10, "open", "(I)I"⟩
abbrev cX10_turns : ByteArray := prog_1_method_34_code
def yX10_turns : MethodName := ⟨RX10, "turns", "(I)I"⟩
abbrev cX10_turnOf : ByteArray := prog_1_method_35_code
def yX10_turnOf : MethodName := ⟨RX10, "turnOf", "(II)I"⟩
abbrev cX10_deep : ByteArray := prog_1_method_36_code
def yX10_deep : MethodName := ⟨RX10, "deep", "(I)I"⟩
abbrev cX10_tape : ByteArray := prog_1_method_37_code
def yX10_tape : MethodName := ⟨RX10, "tape", "(I)I"⟩
abbrev cX10_wipe : ByteArray := prog_1_method_38_code
def yX10_wipe : MethodName := ⟨RX10, "wipe", "()I"⟩
abbrev cX10_near : ByteArray := prog_1_method_39_code
def yX10_near : MethodName := ⟨RX10, "near", "(IIII)I"⟩
abbrev cX10_rivals : ByteArray := prog_1_method_40_code
def yX10_rivals : MethodName := ⟨RX10, "rivals", "(III)I"⟩
abbrev cX10_remade : ByteArray := prog_1_method_41_code
def yX10_remade : MethodName := ⟨RX10, "remade", "(II)I"⟩
abbrev cX10_stretch : ByteArray := prog_1_method_42_code
def yX10_stretch : MethodName := ⟨RX10, "stretch", "(III)I"⟩
abbrev cX10_unfound : ByteArray := prog_1_method_43_code
def yX10_unfound : MethodName := ⟨RX10, "unfound", "(II)I"⟩
abbrev cX10_count : ByteArray := prog_1_method_44_code
def yX10_count : MethodName := ⟨RX10, "count", "(I)I"⟩
abbrev cX10_scoreOf : ByteArray := prog_1_method_45_code
def yX10_scoreOf : MethodName := ⟨RX10, "scoreOf", "(I)LTapeStudio$Score;"⟩
abbrev cX10_isPast : ByteArray := prog_1_method_46_code
def yX10_isPast : MethodName := ⟨RX10, "isPast", "(I)Z"⟩
abbrev cX10_emptied : ByteArray := prog_1_method_47_code
def yX10_emptied : MethodName := ⟨RX10, "emptied", "(LTapeStudio$Row;)I"⟩
abbrev cX10_sampleOf : ByteArray := prog_1_method_48_code
def yX10_sampleOf : MethodName := ⟨RX10, "sampleOf", "(LTapeStudio$Row;I)I"⟩
abbrev cX10_nearest : ByteArray := prog_1_method_49_code
def yX10_nearest : MethodName := ⟨RX10, "nearest", "(III)I"⟩
abbrev cX10_entry : ByteArray := prog_1_method_50_code
def yX10_entry : MethodName := ⟨RX10, "entry", "([III)I"⟩
abbrev cX10_setEntry : ByteArray := prog_1_method_51_code
def yX10_setEntry : MethodName := ⟨RX10, "setEntry", "([III)V"⟩
def RX11 : String := "TapeStudioModel"
def TX11 : u_T := fun k => match k with
  | 0 => ("TapeStudioModel", "samples", "[I", true)
  | 1 => ("TapeStudioModel", "hand", "[I", true)
  | 2 => ("TapeStudioModel", "begin", "[I", true)
  | 3 => ("TapeStudioModel", "size", "[I", true)
  | 4 => ("TapeStudioModel", "kind", "[I", true)
  | 5 => ("TapeStudioModel", "state", "[I", true)
  | 6 => ("TapeStudioModel", "generation", "[I", true)
  | 7 => ("TapeStudioModel", "hiss", "[I", true)
  | 8 => ("TapeStudioModel", "wear", "[I", true)
  | 9 => ("TapeStudioModel", "nailOf", "[I", true)
  | 10 => ("TapeStudioModel", "cameOn", "[I", true)
  | 11 => ("TapeStudioModel", "madeOf", "[I", true)
  | 12 => ("TapeStudioModel", "alsoOf", "[I", true)
  | 13 => ("TapeStudioModel", "from", "[I", true)
  | 14 => ("TapeStudioModel", "strips", "I", false)
  | 15 => ("TapeStudioModel", "all", "I", false)
  | 16 => ("TapeStudioModel", "handMany", "I", false)
  | 17 => ("TapeStudioModel", "sliver", "I", false)
  | 18 => ("TapeStudioModel", "now", "I", false)
  | 19 => ("TapeStudioModel", "drift", "[I", true)
  | 20 => ("TapeStudioModel", "level", "[I", true)
  | 21 => ("TapeStudioModel", "machineHiss", "[I", true)
  | 22 => ("TapeStudioModel", "rough", "[I", true)
  | 23 => ("TapeStudioModel", "machines", "I", false)
  | 24 => ("TapeStudioModel", "readStrip", "[I", true)
  | 25 => ("TapeStudioModel", "readMark", "[I", true)
  | 26 => ("TapeStudioModel", "readDay", "[I", true)
  | 27 => ("TapeStudioModel", "readings", "I", false)
  | 28 => ("TapeStudioModel", "played", "[I", true)
  | 29 => ("TapeStudioModel", "text", "[B", true)
  | 30 => ("TapeStudioModel", "textMany", "I", false)
  | 31 => ("TapeStudioModel", "at0", "I", false)
  | 32 => ("TapeStudioModel", "end0", "I", false)
  | 33 => ("TapeStudioModel", "faultAt", "I", false)
  | 34 => ("TapeStudioModel", "orders", "[I", true)
  | 35 => ("TapeStudioModel", "verb", "[[I", true)
  | 36 => ("TapeStudioModel", "of", "[[I", true)
  | 37 => ("TapeStudioModel", "also", "[[I", true)
  | 38 => ("TapeStudioModel", "first", "[[I", true)
  | 39 => ("TapeStudioModel", "second", "[[I", true)
  | 40 => ("TapeStudioModel", "third", "[[I", true)
  | 41 => ("TapeStudioModel", "times", "[[I", true)
  | 42 => ("TapeStudioModel", "later", "[[I", true)
  | 43 => ("TapeStudioModel", "scores", "I", false)
  | 44 => ("TapeStudioModel", "wordAt", "[I", true)
  | 45 => ("TapeStudioModel", "wordSize", "[I", true)
  | 46 => ("TapeStudioModel", "wordOrder", "[I", true)
  | 47 => ("TapeStudioModel", "words", "I", false)
  | 48 => ("TapeStudioModel", "verbs", "[Ljava/lang/String;", true)
  | 49 => ("TapeStudioModel", "others", "[Ljava/lang/String;", true)
  | 50 => ("TapeStudioModel", "rows", "[[I", true)
  | 51 => ("TapeStudioModel", "length", "[I", true)
  | 52 => ("TapeStudioModel", "source", "[I", true)
  | 53 => ("TapeStudioModel", "sums", "[J", true)
  | 54 => ("TapeStudioModel", "layOrder", "[I", true)
  | 55 => ("TapeStudioModel", "layTrack", "[I", true)
  | 56 => ("TapeStudioModel", "layAt", "[I", true)
  | 57 => ("TapeStudioModel", "layLong", "[I", true)
  | 58 => ("TapeStudioModel", "layings", "I", false)
  | 59 => ("TapeStudioModel", "pieceLong", "I", false)
  | 60 => ("TapeStudioModel", "lastScore", "I", false)
  | 61 => ("TapeStudioModel", "lastLong", "I", false)
  | 62 => ("TapeStudioModel", "lastLayings", "I", false)
  | 63 => ("TapeStudioModel", "piece", "[I", true)
  | 64 => ("TapeStudioModel", "lastLength", "[I", true)
  | 65 => ("TapeStudioModel", "lastSource", "[I", true)
  | 66 => ("TapeStudioModel", "lastOrder", "[I", true)
  | 67 => ("TapeStudioModel", "lastTrack", "[I", true)
  | 68 => ("TapeStudioModel", "lastAt", "[I", true)
  | 69 => ("TapeStudioModel", "lastOf", "[I", true)
  | 70 => ("TapeStudioModel", "wasMade", "[Z", true)
  | 71 => ("TapeStudioModel", "ledTo", "[[I", true)
  | 72 => ("TapeStudioModel", "isOf", "[Z", true)
  | 73 => ("TapeStudioModel", "leadOrder", "I", false)
  | 74 => ("TapeStudioModel", "leadPlace", "I", false)
  | 75 => ("TapeStudioModel", "step", "[I", true)
  | 76 => ("TapeStudioModel", "needs", "[I", true)
  | 77 => ("TapeStudioModel", "best", "[I", true)
  | 78 => ("TapeStudioModel", "turnFor", "[I", true)
  | 79 => ("TapeStudioModel", "steps", "I", false)
  | 80 => ("TapeStudioModel", "deeps", "[I", true)
  | 81 => ("TapeStudioModel", "tape", "[I", true)
  | 82 => ("TapeStudioModel", "other", "[I", true)
  | 83 => ("TapeStudioModel", "bestLong", "[I", true)
  | 84 => ("TapeStudioModel", "need", "[I", true)
  | 85 => ("TapeStudioModel", "taped", "I", false)
  | 86 => ("TapeStudioModel", "otherLong", "I", false)
  | 87 => ("TapeStudioModel", "nearStrip", "I", false)
  | 88 => ("TapeStudioModel", "nearWay", "I", false)
  | 89 => ("TapeStudioModel", "nearPlace", "I", false)
  | 90 => ("TapeStudioModel", "nearSum", "I", false)
  | _ => ("TapeStudioModel", "fitting", "I", false)
def tyX11 : Nat → FieldType := fun k => match k with
  | 0 => .array .int
  | 1 => .array .int
  | 2 => .array .int
  | 3 => .array .int
  | 4 => .array .int
  | 5 => .array .int
  | 6 => .array .int
  | 7 => .array .int
  | 8 => .array .int
  | 9 => .array .int
  | 10 => .array .int
  | 11 => .array .int
  | 12 => .array .int
  | 13 => .array .int
  | 14 => .int
  | 15 => .int
  | 16 => .int
  | 17 => .int
  | 18 => .int
  | 19 => .array .int
  | 20 => .array .int
  | 21 => .array .int
  | 22 => .array .int
  | 23 => .int
  | 24 => .array .int
  | 25 => .array .int
  | 26 => .array .int
  | 27 => .int
  | 28 => .array .int
  | 29 => .array .byte
  | 30 => .int
  | 31 => .int
  | 32 => .int
  | 33 => .int
  | 34 => .array .int
  | 35 => .array (.array .int)
  | 36 => .array (.array .int)
  | 37 => .array (.array .int)
  | 38 => .array (.array .int)
  | 39 => .array (.array .int)
  | 40 => .array (.array .int)
  | 41 => .array (.array .int)
  | 42 => .array (.array .int)
  | 43 => .int
  | 44 => .array .int
  | 45 => .array .int
  | 46 => .array .int
  | 47 => .int
  | 48 => .array (.object "java/lang/String")
  | 49 => .array (.object "java/lang/String")
  | 50 => .array (.array .int)
  | 51 => .array .int
  | 52 => .array .int
  | 53 => .array .long
  | 54 => .array .int
  | 55 => .array .int
  | 56 => .array .int
  | 57 => .array .int
  | 58 => .int
  | 59 => .int
  | 60 => .int
  | 61 => .int
  | 62 => .int
  | 63 => .array .int
  | 64 => .array .int
  | 65 => .array .int
  | 66 => .array .int
  | 67 => .array .int
  | 68 => .array .int
  | 69 => .array .int
  | 70 => .array .boolean
  | 71 => .array (.array .int)
  | 72 => .array .boolean
  | 73 => .int
  | 74 => .int
  | 75 => .array .int
  | 76 => .array .int
  | 77 => .array .int
  | 78 => .array .int
  | 79 => .int
  | 80 => .array .int
  | 81 => .array .int
  | 82 => .array .int
  | 83 => .array .int
  | 84 => .array .int
  | 85 => .int
  | 86 => .int
  | 87 => .int
  | 88 => .int
  | 89 => .int
  | 90 => .int
  | _ => .int
abbrev wsX110 : List Cond := u_ws RX11 TX11 92
theorem nmX11 : ∀ a, a < 92 → ∀ b, b < 92 → a ≠ b → (TX11 a).2.1 ≠ (TX11 b).2.1 := by decide +kernel
theorem tyX11_ok : ∀ k, k < 92 → parseFieldDescriptor (TX11 k).2.2.1 = some (tyX11 k) := by decide +kernel
abbrev cX11_in : ByteArray := prog_13_method_1_code
def yX11_in : MethodName := ⟨RX11, "in", "(JJJ)Z"⟩
abbrev cX11_bounded : ByteArray := prog_13_method_2_code
def yX11_bounded : MethodName := ⟨RX11, "bounded", "(J)I"⟩
abbrev cX11_init : ByteArray := prog_13_method_3_code
def yX11_init : MethodName := ⟨RX11, "<init>", "()V"⟩
abbrev cX11_isStrip : ByteArray := prog_13_method_4_code
def yX11_isStrip : MethodName := ⟨RX11, "isStrip", "(I)Z"⟩
abbrev cX11_isThere : ByteArray := prog_13_method_5_code
def yX11_isThere : MethodName := ⟨RX11, "isThere", "(I)Z"⟩
abbrev cX11_hands : ByteArray := prog_13_method_6_code
def yX11_hands : MethodName := ⟨RX11, "hands", "(I)V"⟩
abbrev cX11_hand : ByteArray := prog_13_method_7_code
def yX11_hand : MethodName := ⟨RX11, "hand", "(IIIII)I"⟩
abbrev cX11_drop : ByteArray := prog_13_method_8_code
def yX11_drop : MethodName := ⟨RX11, "drop", "()I"⟩
abbrev cX11_handLoses : ByteArray := prog_13_method_9_code
def yX11_handLoses : MethodName := ⟨RX11, "handLoses", "(I)V"⟩
abbrev cX11_comes : ByteArray := prog_13_method_10_code
def yX11_comes : MethodName := ⟨RX11, "comes", "(IIII)I"⟩
abbrev cX11_adds : ByteArray := prog_13_method_11_code
def yX11_adds : MethodName := ⟨RX11, "adds", "(II)V"⟩
abbrev cX11_isRoom : ByteArray := prog_13_method_12_code
def yX11_isRoom : MethodName := ⟨RX11, "isRoom", "(II)Z"⟩
abbrev cX11_uses : ByteArray := prog_13_method_13_code
def yX11_uses : MethodName := ⟨RX11, "uses", "(II)V"⟩
abbrev cX11_at : ByteArray := prog_13_method_14_code
def yX11_at : MethodName := ⟨RX11, "at", "(II)I"⟩
abbrev cX11_strip : ByteArray := prog_13_method_15_code
def yX11_strip : MethodName := ⟨RX11, "strip", "(I)I"⟩
abbrev cX11_sliver : ByteArray := prog_13_method_16_code
def yX11_sliver : MethodName := ⟨RX11, "sliver", "(I)Z"⟩
abbrev cX11_cut : ByteArray := prog_13_method_17_code
def yX11_cut : MethodName := ⟨RX11, "cut", "(II)I"⟩
abbrev cX11_isPlain : ByteArray := prog_13_method_18_code
def yX11_isPlain : MethodName := ⟨RX11, "isPlain", "(I)Z"⟩
abbrev cX11_turn : ByteArray := prog_13_method_19_code
def yX11_turn : MethodName := ⟨RX11, "turn", "(I)I"⟩
abbrev cX11_loop : ByteArray := prog_13_method_20_code
def yX11_loop : MethodName := ⟨RX11, "loop", "(I)I"⟩
abbrev cX11_seam : ByteArray := prog_13_method_21_code
def yX11_seam : MethodName := ⟨RX11, "seam", "(I)I"⟩
abbrev cX11_spliced : ByteArray := prog_13_method_22_code
def yX11_spliced : MethodName := ⟨RX11, "spliced", "(IIII)I"⟩
abbrev cX11_splice : ByteArray := prog_13_method_23_code
def yX11_splice : MethodName := ⟨RX11, "splice", "(III)I"⟩
abbrev cX11_machine : ByteArray := prog_13_method_24_code
def yX11_machine : MethodName := ⟨RX11, "machine", "(III)I"⟩
abbrev cX11_isMachine : ByteArray := prog_13_method_25_code
def yX11_isMachine : MethodName := ⟨RX11, "isMachine", "(I)Z"⟩
abbrev cX11_longAt : ByteArray := prog_13_method_26_code
def yX11_longAt : MethodName := ⟨RX11, "longAt", "(III)I"⟩
abbrev cX11_sampleAt : ByteArray := prog_13_method_27_code
def yX11_sampleAt : MethodName := ⟨RX11, "sampleAt", "(IIII)I"⟩
abbrev cX11_plays : ByteArray := prog_13_method_28_code
def yX11_plays : MethodName := ⟨RX11, "plays", "(IIIIII)I"⟩
abbrev cX11_copy : ByteArray := prog_13_method_29_code
def yX11_copy : MethodName := ⟨RX11, "copy", "(II)I"⟩
abbrev cX11_speed : ByteArray := prog_13_method_30_code
def yX11_speed : MethodName := ⟨RX11, "speed", "(IIII)I"⟩
abbrev cX11_lose : ByteArray := prog_13_method_31_code
def yX11_lose : MethodName := ⟨RX11, "lose", "(I)Z"⟩
abbrev cX11_hang : ByteArray := prog_13_method_32_code
def yX11_hang : MethodName := ⟨RX11, "hang", "(II)Z"⟩
abbrev cX11_nail : ByteArray := prog_13_method_33_code
def yX11_nail : MethodName := ⟨RX11, "nail", "(I)I"⟩
abbrev cX11_read : ByteArray := prog_13_method_34_code
def yX11_read : MethodName := ⟨RX11, "read", "(II)Z"⟩
abbrev cX11_markOf : ByteArray := prog_13_method_35_code
def yX11_markOf : MethodName := ⟨RX11, "markOf", "(II)I"⟩
abbrev cX11_marked : ByteArray := prog_13_method_36_code
def yX11_marked : MethodName := ⟨RX11, "marked", "(II)I"⟩
abbrev cX11_go : ByteArray := prog_13_method_37_code
def yX11_go : MethodName := ⟨RX11, "go", "(I)I"⟩
abbrev cX11_sample : ByteArray := prog_13_method_38_code
def yX11_sample : MethodName := ⟨RX11, "sample", "(II)I"⟩
abbrev cX11_told : ByteArray := prog_13_method_39_code
def yX11_told : MethodName := ⟨RX11, "told", "(II)I"⟩
abbrev cX11_feeds : ByteArray := prog_13_method_40_code
def yX11_feeds : MethodName := ⟨RX11, "feeds", "(I)V"⟩
abbrev cX11_feed : ByteArray := prog_13_method_41_code
def yX11_feed : MethodName := ⟨RX11, "feed", "(IIIII)I"⟩
abbrev cX11_end : ByteArray := prog_13_method_42_code
def yX11_end : MethodName := ⟨RX11, "end", "(I)Z"⟩
abbrev cX11_isLetter : ByteArray := prog_13_method_43_code
def yX11_isLetter : MethodName := ⟨RX11, "isLetter", "(I)Z"⟩
abbrev cX11_isDigit : ByteArray := prog_13_method_44_code
def yX11_isDigit : MethodName := ⟨RX11, "isDigit", "(I)Z"⟩
abbrev cX11_skips : ByteArray := prog_13_method_45_code
def yX11_skips : MethodName := ⟨RX11, "skips", "()V"⟩
abbrev cX11_fails : ByteArray := prog_13_method_46_code
def yX11_fails : MethodName := ⟨RX11, "fails", "()V"⟩
abbrev cX11_isWord : ByteArray := prog_13_method_47_code
def yX11_isWord : MethodName := ⟨RX11, "isWord", "(Ljava/lang/String;)Z"⟩
abbrev cX11_goesOn : ByteArray := prog_13_method_48_code
def yX11_goesOn : MethodName := ⟨RX11, "goesOn", "()V"⟩
abbrev cX11_word : ByteArray := prog_13_method_49_code
def yX11_word : MethodName := ⟨RX11, "word", "(Ljava/lang/String;)V"⟩
abbrev cX11_sign : ByteArray := prog_13_method_50_code
def yX11_sign : MethodName := ⟨RX11, "sign", "(I)V"⟩
abbrev cX11_isSign : ByteArray := prog_13_method_51_code
def yX11_isSign : MethodName := ⟨RX11, "isSign", "(I)Z"⟩
abbrev cX11_number : ByteArray := prog_13_method_52_code
def yX11_number : MethodName := ⟨RX11, "number", "(II)I"⟩
abbrev cX11_isBarred : ByteArray := prog_13_method_53_code
def yX11_isBarred : MethodName := ⟨RX11, "isBarred", "()Z"⟩
abbrev cX11_wordKnown : ByteArray := prog_13_method_54_code
def yX11_wordKnown : MethodName := ⟨RX11, "wordKnown", "()I"⟩
abbrev cX11_made : ByteArray := prog_13_method_55_code
def yX11_made : MethodName := ⟨RX11, "made", "()I"⟩
abbrev cX11_verbAt : ByteArray := prog_13_method_56_code
def yX11_verbAt : MethodName := ⟨RX11, "verbAt", "()I"⟩
abbrev cX11_puts : ByteArray := prog_13_method_57_code
def yX11_puts : MethodName := ⟨RX11, "puts", "(II)V"⟩
abbrev cX11_again : ByteArray := prog_13_method_58_code
def yX11_again : MethodName := ⟨RX11, "again", "()V"⟩
abbrev cX11_numbers : ByteArray := prog_13_method_59_code
def yX11_numbers : MethodName := ⟨RX11, "numbers", "(II)V"⟩
abbrev cX11_makes : ByteArray := prog_13_method_60_code
def yX11_makes : MethodName := ⟨RX11, "makes", "()V"⟩
abbrev cX11_reads : ByteArray := prog_13_method_61_code
def yX11_reads : MethodName := ⟨RX11, "reads", "()V"⟩
abbrev cX11_fault : ByteArray := prog_13_method_62_code
def yX11_fault : MethodName := ⟨RX11, "fault", "()I"⟩
abbrev cX11_score : ByteArray := prog_13_method_63_code
def yX11_score : MethodName := ⟨RX11, "score", "()I"⟩
abbrev cX11_isScore : ByteArray := prog_13_method_64_code
def yX11_isScore : MethodName := ⟨RX11, "isScore", "(I)Z"⟩
abbrev cX11_lists : ByteArray := prog_13_method_65_code
def yX11_lists : MethodName := ⟨RX11, "lists", "(II)V"⟩
abbrev cX11_stripOf : ByteArray := prog_13_method_66_code
def yX11_stripOf : MethodName := ⟨RX11, "stripOf", "(III)I"⟩
abbrev cX11_takes : ByteArray := prog_13_method_67_code
def yX11_takes : MethodName := ⟨RX11, "takes", "(III)Z"⟩
abbrev cX11_cuts : ByteArray := prog_13_method_68_code
def yX11_cuts : MethodName := ⟨RX11, "cuts", "(IIII)Z"⟩
abbrev cX11_playsRow : ByteArray := prog_13_method_69_code
def yX11_playsRow : MethodName := ⟨RX11, "playsRow", "(IIIII)Z"⟩
abbrev cX11_splices : ByteArray := prog_13_method_70_code
def yX11_splices : MethodName := ⟨RX11, "splices", "(IIII)Z"⟩
abbrev cX11_loops : ByteArray := prog_13_method_71_code
def yX11_loops : MethodName := ⟨RX11, "loops", "(III)Z"⟩
abbrev cX11_echoes : ByteArray := prog_13_method_72_code
def yX11_echoes : MethodName := ⟨RX11, "echoes", "(III)V"⟩
abbrev cX11_filters : ByteArray := prog_13_method_73_code
def yX11_filters : MethodName := ⟨RX11, "filters", "(IIIII)V"⟩
abbrev cX11_fades : ByteArray := prog_13_method_74_code
def yX11_fades : MethodName := ⟨RX11, "fades", "(III)Z"⟩
abbrev cX11_lays : ByteArray := prog_13_method_75_code
def yX11_lays : MethodName := ⟨RX11, "lays", "(II)Z"⟩
abbrev cX11_does : ByteArray := prog_13_method_76_code
def yX11_does : MethodName := ⟨RX11, "does", "(III)Z"⟩
abbrev cX11_makes_ : ByteArray := prog_13_method_77_code
def yX11_makes_ : MethodName := ⟨RX11, "makes", "(II)I"⟩
abbrev cX11_canMake : ByteArray := prog_13_method_78_code
def yX11_canMake : MethodName := ⟨RX11, "canMake", "(II)Z"⟩
abbrev cX11_make : ByteArray := prog_13_method_79_code
def yX11_make : MethodName := ⟨RX11, "make", "(II)I"⟩
abbrev cX11_fails_ : ByteArray := prog_13_method_80_code
def yX11_fails_ : MethodName := ⟨RX11, "fails", "(II)I"⟩
abbrev cX11_out : ByteArray := prog_13_method_81_code
def yX11_out : MethodName := ⟨RX11, "out", "(I)I"⟩
abbrev cX11_isOver : ByteArray := prog_13_method_82_code
def yX11_isOver : MethodName := ⟨RX11, "isOver", "(II)Z"⟩
abbrev cX11_why : ByteArray := prog_13_method_83_code
def yX11_why : MethodName := ⟨RX11, "why", "(II)I"⟩
abbrev cX11_leads : ByteArray := prog_13_method_84_code
def yX11_leads : MethodName := ⟨RX11, "leads", "()V"⟩
abbrev cX11_lead : ByteArray := prog_13_method_85_code
def yX11_lead : MethodName := ⟨RX11, "lead", "(III)I"⟩
abbrev cX11_quarrels : ByteArray := prog_13_method_86_code
def yX11_quarrels : MethodName := ⟨RX11, "quarrels", "(II)Z"⟩
abbrev cX11_quarrel : ByteArray := prog_13_method_87_code
def yX11_quarrel : MethodName := ⟨RX11, "quarrel", "(I)I"⟩
abbrev cX11_open : ByteArray := prog_13_method_88_code
def yX11_open : MethodName := ⟨RX11, "open", "(I)I"⟩
abbrev cX11_stepOf : ByteArray := prog_13_method_89_code
def yX11_stepOf : MethodName := ⟨RX11, "stepOf", "(I)I"⟩
abbrev cX11_need : ByteArray := prog_13_method_90_code
def yX11_need : MethodName := ⟨RX11, "need", "(III)V"⟩
abbrev cX11_isBench : ByteArray := prog_13_method_91_code
def yX11_isBench : MethodName := ⟨RX11, "isBench", "(I)Z"⟩
abbrev cX11_canDo : ByteArray := prog_13_method_92_code
def yX11_canDo : MethodName := ⟨RX11, "canDo", "(III)Z"⟩
abbrev cX11_least : ByteArray := prog_13_method_93_code
def yX11_least : MethodName := ⟨RX11, "least", "(II)I"⟩
abbrev cX11_plans : ByteArray := prog_13_method_94_code
def yX11_plans : MethodName := ⟨RX11, "plans", "(I)Z"⟩
abbrev cX11_turns : ByteArray := prog_13_method_95_code
def yX11_turns : MethodName := ⟨RX11, "turns", "(I)I"⟩
abbrev cX11_turnOf : ByteArray := prog_13_method_96_code
def yX11_turnOf : MethodName := ⟨RX11, "turnOf", "(II)I"⟩
abbrev cX11_deep : ByteArray := prog_13_method_97_code
def yX11_deep : MethodName := ⟨RX11, "deep", "(I)I"⟩
abbrev cX11_tape : ByteArray := prog_13_method_98_code
def yX11_tape : MethodName := ⟨RX11, "tape", "(I)I"⟩
abbrev cX11_wipe : ByteArray := prog_13_method_99_code
def yX11_wipe : MethodName := ⟨RX11, "wipe", "()I"⟩
abbrev cX11_gives : ByteArray := prog_13_method_100_code
def yX11_gives : MethodName := ⟨RX11, "gives", "(II)V"⟩
abbrev cX11_isLaid : ByteArray := prog_13_method_101_code
def yX11_isLaid : MethodName := ⟨RX11, "isLaid", "(I)Z"⟩
abbrev cX11_differs : ByteArray := prog_13_method_102_code
def yX11_differs : MethodName := ⟨RX11, "differs", "(II)I"⟩
abbrev cX11_canAsk : ByteArray := prog_13_method_103_code
def yX11_canAsk : MethodName := ⟨RX11, "canAsk", "(II)Z"⟩
abbrev cX11_sumAt : ByteArray := prog_13_method_104_code
def yX11_sumAt : MethodName := ⟨RX11, "sumAt", "(IIII)I"⟩
abbrev cX11_nears : ByteArray := prog_13_method_105_code
def yX11_nears : MethodName := ⟨RX11, "nears", "(III)Z"⟩
abbrev cX11_near : ByteArray := prog_13_method_106_code
def yX11_near : MethodName := ⟨RX11, "near", "(IIII)I"⟩
abbrev cX11_rivals : ByteArray := prog_13_method_107_code
def yX11_rivals : MethodName := ⟨RX11, "rivals", "(III)I"⟩
abbrev cX11_better : ByteArray := prog_13_method_108_code
def yX11_better : MethodName := ⟨RX11, "better", "(II)V"⟩
abbrev cX11_longest : ByteArray := prog_13_method_109_code
def yX11_longest : MethodName := ⟨RX11, "longest", "(I)V"⟩
abbrev cX11_covers : ByteArray := prog_13_method_110_code
def yX11_covers : MethodName := ⟨RX11, "covers", "(II)Z"⟩
abbrev cX11_remade : ByteArray := prog_13_method_111_code
def yX11_remade : MethodName := ⟨RX11, "remade", "(II)I"⟩
abbrev cX11_stretch : ByteArray := prog_13_method_112_code
def yX11_stretch : MethodName := ⟨RX11, "stretch", "(III)I"⟩
abbrev cX11_unfound : ByteArray := prog_13_method_113_code
def yX11_unfound : MethodName := ⟨RX11, "unfound", "(II)I"⟩
abbrev cX11_count : ByteArray := prog_13_method_114_code
def yX11_count : MethodName := ⟨RX11, "count", "(I)I"⟩
def RJx145de : String := "java/io/Serializable"
def TJx145de : u_T := fun k => match k with
  | _ => ("", "", "", false)
def tyJx145de : Nat → FieldType := fun k => match k with
  | _ => .int
abbrev wsJx145de0 : List Cond := u_ws RJx145de TJx145de 0
theorem nmJx145de : ∀ a, a < 0 → ∀ b, b < 0 → a ≠ b → (TJx145de a).2.1 ≠ (TJx145de b).2.1 := by decide +kernel
theorem tyJx145de_ok : ∀ k, k < 0 → parseFieldDescriptor (TJx145de k).2.2.1 = some (tyJx145de k) := by decide +kernel
def RJx9f9b0 : String := "java/lang/CharSequence"
def TJx9f9b0 : u_T := fun k => match k with
  | _ => ("", "", "", false)
def tyJx9f9b0 : Nat → FieldType := fun k => match k with
  | _ => .int
abbrev wsJx9f9b00 : List Cond := u_ws RJx9f9b0 TJx9f9b0 0
theorem nmJx9f9b0 : ∀ a, a < 0 → ∀ b, b < 0 → a ≠ b → (TJx9f9b0 a).2.1 ≠ (TJx9f9b0 b).2.1 := by decide +kernel
theorem tyJx9f9b0_ok : ∀ k, k < 0 → parseFieldDescriptor (TJx9f9b0 k).2.2.1 = some (tyJx9f9b0 k) := by decide +kernel
def RJx8e188 : String := "java/lang/Cloneable"
def TJx8e188 : u_T := fun k => match k with
  | _ => ("", "", "", false)
def tyJx8e188 : Nat → FieldType := fun k => match k with
  | _ => .int
abbrev wsJx8e1880 : List Cond := u_ws RJx8e188 TJx8e188 0
theorem nmJx8e188 : ∀ a, a < 0 → ∀ b, b < 0 → a ≠ b → (TJx8e188 a).2.1 ≠ (TJx8e188 b).2.1 := by decide +kernel
theorem tyJx8e188_ok : ∀ k, k < 0 → parseFieldDescriptor (TJx8e188 k).2.2.1 = some (tyJx8e188 k) := by decide +kernel
def RJxb160c : String := "java/lang/Comparable"
def TJxb160c : u_T := fun k => match k with
  | _ => ("", "", "", false)
def tyJxb160c : Nat → FieldType := fun k => match k with
  | _ => .int
abbrev wsJxb160c0 : List Cond := u_ws RJxb160c TJxb160c 0
theorem nmJxb160c : ∀ a, a < 0 → ∀ b, b < 0 → a ≠ b → (TJxb160c a).2.1 ≠ (TJxb160c b).2.1 := by decide +kernel
theorem tyJxb160c_ok : ∀ k, k < 0 → parseFieldDescriptor (TJxb160c k).2.2.1 = some (tyJxb160c k) := by decide +kernel
def RJ9 : String := "java/lang/Math"
def TJ9 : u_T := fun k => match k with
  | _ => ("", "", "", false)
def tyJ9 : Nat → FieldType := fun k => match k with
  | _ => .int
abbrev wsJ90 : List Cond := u_ws RJ9 TJ9 0
theorem nmJ9 : ∀ a, a < 0 → ∀ b, b < 0 → a ≠ b → (TJ9 a).2.1 ≠ (TJ9 b).2.1 := by decide +kernel
theorem tyJ9_ok : ∀ k, k < 0 → parseFieldDescriptor (TJ9 k).2.2.1 = some (tyJ9 k) := by decide +kernel
abbrev cJ9_abs_0f7a4 : ByteArray := prog_15_method_59_code
def yJ9_abs_0f7a4 : MethodName := ⟨RJ9, "abs", "(I)I"⟩
abbrev cJ9_max_7cf53 : ByteArray := prog_15_method_65_code
def yJ9_max_7cf53 : MethodName := ⟨RJ9, "max", "(II)I"⟩
abbrev cJ9_min_7cf53 : ByteArray := prog_15_method_69_code
def yJ9_min_7cf53 : MethodName := ⟨RJ9, "min", "(II)I"⟩
def RJ0 : String := "java/lang/String"
def TJ0 : u_T := fun k => match k with
  | _ => ("", "", "", false)
def tyJ0 : Nat → FieldType := fun k => match k with
  | _ => .int
abbrev wsJ00 : List Cond := u_ws RJ0 TJ0 0
theorem nmJ0 : ∀ a, a < 0 → ∀ b, b < 0 → a ≠ b → (TJ0 a).2.1 ≠ (TJ0 b).2.1 := by decide +kernel
theorem tyJ0_ok : ∀ k, k < 0 → parseFieldDescriptor (TJ0 k).2.2.1 = some (tyJ0 k) := by decide +kernel
abbrev cJ0_length_8abf5 : ByteArray := prog_16_method_54_code
def yJ0_length_8abf5 : MethodName := ⟨RJ0, "length", "()I"⟩
abbrev cJ0_charAt_5068e : ByteArray := prog_16_method_56_code
def yJ0_charAt_5068e : MethodName := ⟨RJ0, "charAt", "(I)C"⟩
abbrev cJ0_coder_7d493 : ByteArray := prog_16_method_152_code
def yJ0_coder_7d493 : MethodName := ⟨RJ0, "coder", "()B"⟩
abbrev cJ0_isLatin1_aae02 : ByteArray := prog_16_method_154_code
def yJ0_isLatin1_aae02 : MethodName := ⟨RJ0, "isLatin1", "()Z"⟩
abbrev cJ0_checkIndex_df160 : ByteArray := prog_16_method_155_code
def yJ0_checkIndex_df160 : MethodName := ⟨RJ0, "checkIndex", "(II)V"⟩
def RJ1 : String := "java/lang/StringLatin1"
def TJ1 : u_T := fun k => match k with
  | _ => ("", "", "", false)
def tyJ1 : Nat → FieldType := fun k => match k with
  | _ => .int
abbrev wsJ10 : List Cond := u_ws RJ1 TJ1 0
theorem nmJ1 : ∀ a, a < 0 → ∀ b, b < 0 → a ≠ b → (TJ1 a).2.1 ≠ (TJ1 b).2.1 := by decide +kernel
theorem tyJ1_ok : ∀ k, k < 0 → parseFieldDescriptor (TJ1 k).2.2.1 = some (tyJ1 k) := by decide +kernel
abbrev cJ1_charAt_3b067 : ByteArray := prog_17_method_2_code
def yJ1_charAt_3b067 : MethodName := ⟨RJ1, "charAt", "([BI)C"⟩
def RJ2 : String := "java/lang/StringUTF16"
def TJ2 : u_T := fun k => match k with
  | _ => ("", "", "", false)
def tyJ2 : Nat → FieldType := fun k => match k with
  | _ => .int
abbrev wsJ20 : List Cond := u_ws RJ2 TJ2 0
theorem nmJ2 : ∀ a, a < 0 → ∀ b, b < 0 → a ≠ b → (TJ2 a).2.1 ≠ (TJ2 b).2.1 := by decide +kernel
theorem tyJ2_ok : ∀ k, k < 0 → parseFieldDescriptor (TJ2 k).2.2.1 = some (tyJ2 k) := by decide +kernel
abbrev cJ2_getChar_3b067 : ByteArray := prog_18_method_5_code
def yJ2_getChar_3b067 : MethodName := ⟨RJ2, "getChar", "([BI)C"⟩
abbrev cJ2_length_9d52b : ByteArray := prog_18_method_6_code
def yJ2_length_9d52b : MethodName := ⟨RJ2, "length", "([B)I"⟩
abbrev cJ2_charAt_3b067 : ByteArray := prog_18_method_83_code
def yJ2_charAt_3b067 : MethodName := ⟨RJ2, "charAt", "([BI)C"⟩
abbrev cJ2_checkIndex_2214a : ByteArray := prog_18_method_91_code
def yJ2_checkIndex_2214a : MethodName := ⟨RJ2, "checkIndex", "(I[B)V"⟩
def RJ10 : String := "java/lang/System"
def TJ10 : u_T := fun k => match k with
  | _ => ("", "", "", false)
def tyJ10 : Nat → FieldType := fun k => match k with
  | _ => .int
abbrev wsJ100 : List Cond := u_ws RJ10 TJ10 0
theorem nmJ10 : ∀ a, a < 0 → ∀ b, b < 0 → a ≠ b → (TJ10 a).2.1 ≠ (TJ10 b).2.1 := by decide +kernel
theorem tyJ10_ok : ∀ k, k < 0 → parseFieldDescriptor (TJ10 k).2.2.1 = some (tyJ10 k) := by decide +kernel
def RJxfd54e : String := "java/lang/constant/Constable"
def TJxfd54e : u_T := fun k => match k with
  | _ => ("", "", "", false)
def tyJxfd54e : Nat → FieldType := fun k => match k with
  | _ => .int
abbrev wsJxfd54e0 : List Cond := u_ws RJxfd54e TJxfd54e 0
theorem nmJxfd54e : ∀ a, a < 0 → ∀ b, b < 0 → a ≠ b → (TJxfd54e a).2.1 ≠ (TJxfd54e b).2.1 := by decide +kernel
theorem tyJxfd54e_ok : ∀ k, k < 0 → parseFieldDescriptor (TJxfd54e k).2.2.1 = some (tyJxfd54e k) := by decide +kernel
def RJx3cf43 : String := "java/lang/constant/ConstantDesc"
def TJx3cf43 : u_T := fun k => match k with
  | _ => ("", "", "", false)
def tyJx3cf43 : Nat → FieldType := fun k => match k with
  | _ => .int
abbrev wsJx3cf430 : List Cond := u_ws RJx3cf43 TJx3cf43 0
theorem nmJx3cf43 : ∀ a, a < 0 → ∀ b, b < 0 → a ≠ b → (TJx3cf43 a).2.1 ≠ (TJx3cf43 b).2.1 := by decide +kernel
theorem tyJx3cf43_ok : ∀ k, k < 0 → parseFieldDescriptor (TJx3cf43 k).2.2.1 = some (tyJx3cf43 k) := by decide +kernel
def RJ7 : String := "java/util/Arrays"
def TJ7 : u_T := fun k => match k with
  | _ => ("", "", "", false)
def tyJ7 : Nat → FieldType := fun k => match k with
  | _ => .int
abbrev wsJ70 : List Cond := u_ws RJ7 TJ7 0
theorem nmJ7 : ∀ a, a < 0 → ∀ b, b < 0 → a ≠ b → (TJ7 a).2.1 ≠ (TJ7 b).2.1 := by decide +kernel
theorem tyJ7_ok : ∀ k, k < 0 → parseFieldDescriptor (TJ7 k).2.2.1 = some (tyJ7 k) := by decide +kernel
abbrev cJ7_fill_53178 : ByteArray := prog_20_method_103_code
def yJ7_fill_53178 : MethodName := ⟨RJ7, "fill", "([II)V"⟩
abbrev cJ7_copyOf_59c91 : ByteArray := prog_20_method_123_code
def yJ7_copyOf_59c91 : MethodName := ⟨RJ7, "copyOf", "([II)[I"⟩
def RJ3 : String := "jdk/internal/util/Preconditions"
def TJ3 : u_T := fun k => match k with
  | _ => ("", "", "", false)
def tyJ3 : Nat → FieldType := fun k => match k with
  | _ => .int
abbrev wsJ30 : List Cond := u_ws RJ3 TJ3 0
theorem nmJ3 : ∀ a, a < 0 → ∀ b, b < 0 → a ≠ b → (TJ3 a).2.1 ≠ (TJ3 b).2.1 := by decide +kernel
theorem tyJ3_ok : ∀ k, k < 0 → parseFieldDescriptor (TJ3 k).2.2.1 = some (tyJ3 k) := by decide +kernel
abbrev cJ3_checkIndex_8e157 : ByteArray := prog_21_method_11_code
def yJ3_checkIndex_8e157 : MethodName := ⟨RJ3, "checkIndex", "(IILjava/util/function/BiFunction;)I"⟩
def RL : String := "TapeStudioLaw"
abbrev cL_law : ByteArray := code
def yL_law : MethodName := ⟨RL, "law", "([I)Z"⟩
abbrev vwCl : List vw_C := [(RX0, TX0, 4), (RX1, TX1, 13), (RX2, TX2, 8), (RX3, TX3, 5), (RX4, TX4, 11), (RX5, TX5, 2), (RX6, TX6, 4), (RX7, TX7, 12), (RX8, TX8, 12), (RX9, TX9, 7), (RX10, TX10, 10), (RX11, TX11, 92)]
/-- the words that every method of the claim is given -/
def m_big : List Cond := lw_tbl.filter goodWord
theorem m_big_mem {i : Nat} {w : Cond} (h : lw_tbl[i]? = some w) (hg : goodWord w = true) : w ∈ m_big := List.mem_filter.mpr ⟨List.mem_of_getElem? h, hg⟩
theorem m_big_good : ∀ w ∈ m_big, ((w.onTables && w.keeps) = true ∨ ∃ ty, w = .arrayClass ty) := fun w hw => good_of_word (List.mem_filter.mp hw).2
