/-! words and links, by their places in the tables -/
theorem w_701 : Cond.methodLink "TapeStudio$Machine" 1 ⟨"java/lang/Object","<init>","()V"⟩ ∈ m_big := m_big_mem (i := 701) (by decide +kernel) (by decide +kernel)
theorem w_151 : Cond.instanceMethod ⟨"java/lang/Object","<init>","()V"⟩ ∈ m_big := m_big_mem (i := 151) (by decide +kernel) (by decide +kernel)
theorem w_152 : Cond.code ⟨"java/lang/Object","<init>","()V"⟩ object_method_1_code 1 (Option.none : Option Jvm.ClassFile.FieldType) ∈ m_big := m_big_mem (i := 152) (by decide +kernel) (by decide +kernel)
theorem lo_X0_1 : Cond.methodLink RX0 1 objectInit ∈ m_big ∧ Cond.instanceMethod objectInit ∈ m_big ∧ Cond.code objectInit ⟨#[0xb1]⟩ 1 none ∈ m_big := ⟨w_701, w_151, w_152⟩
theorem uw_0 : ∀ w ∈ u_ws RX0 TX0 4, w ∈ m_big := m_sub [710,712,714,716] (by decide +kernel) (by decide +kernel)
theorem vw_0 : vwCl[0]? = some (RX0, TX0, 4) := rfl
theorem w_702 : Cond.fieldLink "TapeStudio$Machine" 7 "TapeStudio$Machine" "drift" "I" ∈ m_big := m_big_mem (i := 702) (by decide +kernel) (by decide +kernel)
theorem lp_X0_7 : m_PL RX0 7 0 0 .int true := ⟨RX0, TX0, 4, tyX0, rfl, rfl, by decide, by decide, uw_0, Or.inl w_702, rfl, fun _ => rfl, by decide +kernel, tyX0_ok, nmX0⟩
theorem w_703 : Cond.fieldLink "TapeStudio$Machine" 13 "TapeStudio$Machine" "level" "I" ∈ m_big := m_big_mem (i := 703) (by decide +kernel) (by decide +kernel)
theorem lp_X0_13 : m_PL RX0 13 0 1 .int true := ⟨RX0, TX0, 4, tyX0, rfl, rfl, by decide, by decide, uw_0, Or.inl w_703, rfl, fun _ => rfl, by decide +kernel, tyX0_ok, nmX0⟩
theorem w_706 : Cond.fieldLink "TapeStudio$Machine" 16 "TapeStudio$Machine" "hiss" "I" ∈ m_big := m_big_mem (i := 706) (by decide +kernel) (by decide +kernel)
theorem lp_X0_16 : m_PL RX0 16 0 2 .int true := ⟨RX0, TX0, 4, tyX0, rfl, rfl, by decide, by decide, uw_0, Or.inl w_706, rfl, fun _ => rfl, by decide +kernel, tyX0_ok, nmX0⟩
theorem w_708 : Cond.fieldLink "TapeStudio$Machine" 19 "TapeStudio$Machine" "rough" "I" ∈ m_big := m_big_mem (i := 708) (by decide +kernel) (by decide +kernel)
theorem lp_X0_19 : m_PL RX0 19 0 3 .int true := ⟨RX0, TX0, 4, tyX0, rfl, rfl, by decide, by decide, uw_0, Or.inl w_708, rfl, fun _ => rfl, by decide +kernel, tyX0_ok, nmX0⟩
theorem lf_X0_7 : m_FL RX0 7 0 0 := ⟨RX0, TX0, 4, rfl, rfl, by decide, by decide, uw_0, Or.inl w_702⟩
theorem w_214 : Cond.methodLink "TapeStudio$Row" 1 ⟨"java/lang/Object","<init>","()V"⟩ ∈ m_big := m_big_mem (i := 214) (by decide +kernel) (by decide +kernel)
theorem lo_X5_1 : Cond.methodLink RX5 1 objectInit ∈ m_big ∧ Cond.instanceMethod objectInit ∈ m_big ∧ Cond.code objectInit ⟨#[0xb1]⟩ 1 none ∈ m_big := ⟨w_214, w_151, w_152⟩
theorem w_208 : Cond.arrayClass .int ∈ m_big := m_big_mem (i := 208) (by decide +kernel) (by decide +kernel)
theorem uw_5 : ∀ w ∈ u_ws RX5 TX5 2, w ∈ m_big := m_sub [218,220] (by decide +kernel) (by decide +kernel)
theorem vw_5 : vwCl[5]? = some (RX5, TX5, 2) := rfl
theorem w_215 : Cond.fieldLink "TapeStudio$Row" 7 "TapeStudio$Row" "samples" "[I" ∈ m_big := m_big_mem (i := 215) (by decide +kernel) (by decide +kernel)
theorem lp_X5_7 : m_PL RX5 7 5 0 (.array .int) false := ⟨RX5, TX5, 2, tyX5, rfl, rfl, by decide, by decide, uw_5, Or.inl w_215, rfl, fun _ => rfl, by decide +kernel, tyX5_ok, nmX5⟩
theorem w_217 : Cond.fieldLink "TapeStudio$Row" 13 "TapeStudio$Row" "length" "I" ∈ m_big := m_big_mem (i := 217) (by decide +kernel) (by decide +kernel)
theorem lf_X5_13 : m_FL RX5 13 5 1 := ⟨RX5, TX5, 2, rfl, rfl, by decide, by decide, uw_5, Or.inl w_217⟩
theorem lf_X5_7 : m_FL RX5 7 5 0 := ⟨RX5, TX5, 2, rfl, rfl, by decide, by decide, uw_5, Or.inl w_215⟩
theorem w_497 : Cond.methodLink "TapeStudio" 168 ⟨"java/lang/Math","min","(II)I"⟩ ∈ m_big := m_big_mem (i := 497) (by decide +kernel) (by decide +kernel)
theorem w_498 : Cond.static ⟨"java/lang/Math","min","(II)I"⟩ ∈ m_big := m_big_mem (i := 498) (by decide +kernel) (by decide +kernel)
theorem w_136 : Cond.initialized "java/lang/Math" ∈ m_big := m_big_mem (i := 136) (by decide +kernel) (by decide +kernel)
theorem w_499 : Cond.code ⟨"java/lang/Math","min","(II)I"⟩ prog_15_method_69_code 2 (Option.some .int) ∈ m_big := m_big_mem (i := 499) (by decide +kernel) (by decide +kernel)
theorem w_500 : Cond.methodLink "TapeStudio" 288 ⟨"java/lang/Math","max","(II)I"⟩ ∈ m_big := m_big_mem (i := 500) (by decide +kernel) (by decide +kernel)
theorem w_485 : Cond.static ⟨"java/lang/Math","max","(II)I"⟩ ∈ m_big := m_big_mem (i := 485) (by decide +kernel) (by decide +kernel)
theorem w_486 : Cond.code ⟨"java/lang/Math","max","(II)I"⟩ prog_15_method_65_code 2 (Option.some .int) ∈ m_big := m_big_mem (i := 486) (by decide +kernel) (by decide +kernel)
theorem w_494 : Cond.methodLinkNest "TapeStudio$Row" 17 ⟨"TapeStudio","nearest","(III)I"⟩ "TapeStudio" ∈ m_nest := m_nest_mem (i := 494) (by decide +kernel) (by decide +kernel)
theorem w_496 : Cond.code ⟨"TapeStudio","nearest","(III)I"⟩ prog_1_method_49_code 3 (Option.some .int) ∈ m_big := m_big_mem (i := 496) (by decide +kernel) (by decide +kernel)
theorem w_126 : Cond.initialized "TapeStudio" ∈ m_big := m_big_mem (i := 126) (by decide +kernel) (by decide +kernel)
theorem w_495 : Cond.static ⟨"TapeStudio","nearest","(III)I"⟩ ∈ m_big := m_big_mem (i := 495) (by decide +kernel) (by decide +kernel)
theorem lm_X5_17 : m_MS RX5 17 yX10_nearest cX10_nearest 3 (some .int) 3 := ⟨⟨Or.inr ⟨_, w_494⟩, w_126, w_496, by decide +kernel, by decide⟩, w_495⟩
theorem w_592 : Cond.methodLink "TapeStudio$Row" 23 ⟨"TapeStudio$Row","get","(I)I"⟩ ∈ m_big := m_big_mem (i := 592) (by decide +kernel) (by decide +kernel)
theorem w_595 : Cond.code ⟨"TapeStudio$Row","get","(I)I"⟩ prog_7_method_3_code 2 (Option.some .int) ∈ m_big := m_big_mem (i := 595) (by decide +kernel) (by decide +kernel)
theorem w_128 : Cond.initialized "TapeStudio$Row" ∈ m_big := m_big_mem (i := 128) (by decide +kernel) (by decide +kernel)
theorem w_593 : Cond.instanceMethod ⟨"TapeStudio$Row","get","(I)I"⟩ ∈ m_big := m_big_mem (i := 593) (by decide +kernel) (by decide +kernel)
theorem w_594 : Cond.selects "TapeStudio$Row" ⟨"TapeStudio$Row","get","(I)I"⟩ ⟨"TapeStudio$Row","get","(I)I"⟩ ∈ m_big := m_big_mem (i := 594) (by decide +kernel) (by decide +kernel)
theorem lm_X5_23 : m_MV RX5 23 yX5_get cX5_get 2 (some .int) 1 := ⟨⟨Or.inl w_592, w_128, w_595, by decide +kernel, by decide⟩, w_593, w_594⟩
theorem w_490 : Cond.methodLink "TapeStudio$Row" 27 ⟨"TapeStudio$Row","set","(II)V"⟩ ∈ m_big := m_big_mem (i := 490) (by decide +kernel) (by decide +kernel)
theorem w_493 : Cond.code ⟨"TapeStudio$Row","set","(II)V"⟩ prog_7_method_4_code 3 (Option.none : Option Jvm.ClassFile.FieldType) ∈ m_big := m_big_mem (i := 493) (by decide +kernel) (by decide +kernel)
theorem w_491 : Cond.instanceMethod ⟨"TapeStudio$Row","set","(II)V"⟩ ∈ m_big := m_big_mem (i := 491) (by decide +kernel) (by decide +kernel)
theorem w_492 : Cond.selects "TapeStudio$Row" ⟨"TapeStudio$Row","set","(II)V"⟩ ⟨"TapeStudio$Row","set","(II)V"⟩ ∈ m_big := m_big_mem (i := 492) (by decide +kernel) (by decide +kernel)
theorem lm_X5_27 : m_MV RX5 27 yX5_set cX5_set 3 none 2 := ⟨⟨Or.inl w_490, w_128, w_493, by decide +kernel, by decide⟩, w_491, w_492⟩
theorem w_484 : Cond.methodLink "TapeStudio$Row" 35 ⟨"java/lang/Math","max","(II)I"⟩ ∈ m_big := m_big_mem (i := 484) (by decide +kernel) (by decide +kernel)
theorem w_487 : Cond.methodLink "TapeStudio$Row" 41 ⟨"java/lang/System","arraycopy","(Ljava/lang/Object;ILjava/lang/Object;II)V"⟩ ∈ m_big := m_big_mem (i := 487) (by decide +kernel) (by decide +kernel)
theorem w_489 : Cond.native ⟨"java/lang/System","arraycopy","(Ljava/lang/Object;ILjava/lang/Object;II)V"⟩ ∈ m_big := m_big_mem (i := 489) (by decide +kernel) (by decide +kernel)
theorem w_488 : Cond.static ⟨"java/lang/System","arraycopy","(Ljava/lang/Object;ILjava/lang/Object;II)V"⟩ ∈ m_big := m_big_mem (i := 488) (by decide +kernel) (by decide +kernel)
theorem w_137 : Cond.initialized "java/lang/System" ∈ m_big := m_big_mem (i := 137) (by decide +kernel) (by decide +kernel)
theorem lp_X5_13 : m_PL RX5 13 5 1 .int false := ⟨RX5, TX5, 2, tyX5, rfl, rfl, by decide, by decide, uw_5, Or.inl w_217, rfl, fun _ => rfl, by decide +kernel, tyX5_ok, nmX5⟩
theorem w_480 : Cond.methodLink "TapeStudio$Row" 31 ⟨"TapeStudio$Row","resize","(I)V"⟩ ∈ m_big := m_big_mem (i := 480) (by decide +kernel) (by decide +kernel)
theorem w_483 : Cond.code ⟨"TapeStudio$Row","resize","(I)V"⟩ prog_7_method_8_code 4 (Option.none : Option Jvm.ClassFile.FieldType) ∈ m_big := m_big_mem (i := 483) (by decide +kernel) (by decide +kernel)
theorem w_481 : Cond.instanceMethod ⟨"TapeStudio$Row","resize","(I)V"⟩ ∈ m_big := m_big_mem (i := 481) (by decide +kernel) (by decide +kernel)
theorem w_482 : Cond.selects "TapeStudio$Row" ⟨"TapeStudio$Row","resize","(I)V"⟩ ⟨"TapeStudio$Row","resize","(I)V"⟩ ∈ m_big := m_big_mem (i := 482) (by decide +kernel) (by decide +kernel)
theorem lm_X5_31 : m_MV RX5 31 yX5_resize cX5_resize 4 none 1 := ⟨⟨Or.inl w_480, w_128, w_483, by decide +kernel, by decide⟩, w_481, w_482⟩
theorem w_1166 : Cond.methodLink "TapeStudio$Row" 47 ⟨"java/util/Arrays","fill","([II)V"⟩ ∈ m_big := m_big_mem (i := 1166) (by decide +kernel) (by decide +kernel)
theorem w_1168 : Cond.code ⟨"java/util/Arrays","fill","([II)V"⟩ prog_20_method_103_code 4 (Option.none : Option Jvm.ClassFile.FieldType) ∈ m_big := m_big_mem (i := 1168) (by decide +kernel) (by decide +kernel)
theorem w_144 : Cond.initialized "java/util/Arrays" ∈ m_big := m_big_mem (i := 144) (by decide +kernel) (by decide +kernel)
theorem w_1167 : Cond.static ⟨"java/util/Arrays","fill","([II)V"⟩ ∈ m_big := m_big_mem (i := 1167) (by decide +kernel) (by decide +kernel)
theorem lm_X5_47 : m_MS RX5 47 yJ7_fill_53178 cJ7_fill_53178 4 none 2 := ⟨⟨Or.inl w_1166, w_144, w_1168, by decide +kernel, by decide⟩, w_1167⟩
theorem w_688 : Cond.methodLink "TapeStudio$Row" 53 ⟨"TapeStudio$Row","joinedSize","(LTapeStudio$Row;LTapeStudio$Row;I)I"⟩ ∈ m_big := m_big_mem (i := 688) (by decide +kernel) (by decide +kernel)
theorem w_683 : Cond.code ⟨"TapeStudio$Row","joinedSize","(LTapeStudio$Row;LTapeStudio$Row;I)I"⟩ prog_7_method_15_code 3 (Option.some .int) ∈ m_big := m_big_mem (i := 683) (by decide +kernel) (by decide +kernel)
theorem w_682 : Cond.static ⟨"TapeStudio$Row","joinedSize","(LTapeStudio$Row;LTapeStudio$Row;I)I"⟩ ∈ m_big := m_big_mem (i := 682) (by decide +kernel) (by decide +kernel)
theorem lm_X5_53 : m_MS RX5 53 yX5_joinedSize cX5_joinedSize 3 (some .int) 3 := ⟨⟨Or.inl w_688, w_128, w_683, by decide +kernel, by decide⟩, w_682⟩
theorem w_752 : Cond.methodLink "TapeStudio$Row" 60 ⟨"TapeStudio$Row","between","(II)I"⟩ ∈ m_big := m_big_mem (i := 752) (by decide +kernel) (by decide +kernel)
theorem w_755 : Cond.code ⟨"TapeStudio$Row","between","(II)I"⟩ prog_7_method_18_code 5 (Option.some .int) ∈ m_big := m_big_mem (i := 755) (by decide +kernel) (by decide +kernel)
theorem w_754 : Cond.instanceMethod ⟨"TapeStudio$Row","between","(II)I"⟩ ∈ m_big := m_big_mem (i := 754) (by decide +kernel) (by decide +kernel)
theorem w_7 : Cond.selects "TapeStudio$Row" ⟨"TapeStudio$Row","between","(II)I"⟩ ⟨"TapeStudio$Row","between","(II)I"⟩ ∈ m_big := m_big_mem (i := 7) (by decide +kernel) (by decide +kernel)
theorem lm_X5_60 : m_MV RX5 60 yX5_between cX5_between 5 (some .int) 2 := ⟨⟨Or.inl w_752, w_128, w_755, by decide +kernel, by decide⟩, w_754, w_7⟩
theorem w_751 : Cond.methodLink "TapeStudio$Row" 57 ⟨"TapeStudio$Row","playedSize","(II)I"⟩ ∈ m_big := m_big_mem (i := 751) (by decide +kernel) (by decide +kernel)
theorem w_742 : Cond.code ⟨"TapeStudio$Row","playedSize","(II)I"⟩ prog_7_method_17_code 3 (Option.some .int) ∈ m_big := m_big_mem (i := 742) (by decide +kernel) (by decide +kernel)
theorem w_740 : Cond.instanceMethod ⟨"TapeStudio$Row","playedSize","(II)I"⟩ ∈ m_big := m_big_mem (i := 740) (by decide +kernel) (by decide +kernel)
theorem w_741 : Cond.selects "TapeStudio$Row" ⟨"TapeStudio$Row","playedSize","(II)I"⟩ ⟨"TapeStudio$Row","playedSize","(II)I"⟩ ∈ m_big := m_big_mem (i := 741) (by decide +kernel) (by decide +kernel)
theorem lm_X5_57 : m_MV RX5 57 yX5_playedSize cX5_playedSize 3 (some .int) 2 := ⟨⟨Or.inl w_751, w_128, w_742, by decide +kernel, by decide⟩, w_740, w_741⟩
theorem w_234 : Cond.methodLink "TapeStudio$Score" 3 ⟨"java/lang/Object","<init>","()V"⟩ ∈ m_big := m_big_mem (i := 234) (by decide +kernel) (by decide +kernel)
theorem lo_X6_3 : Cond.methodLink RX6 3 objectInit ∈ m_big ∧ Cond.instanceMethod objectInit ∈ m_big ∧ Cond.code objectInit ⟨#[0xb1]⟩ 1 none ∈ m_big := ⟨w_234, w_151, w_152⟩
theorem uw_6 : ∀ w ∈ u_ws RX6 TX6 4, w ∈ m_big := m_sub [247,249,251,253] (by decide +kernel) (by decide +kernel)
theorem vw_6 : vwCl[6]? = some (RX6, TX6, 4) := rfl
theorem w_245 : Cond.fieldLink "TapeStudio$Score" 9 "TapeStudio$Score" "leads" "[I" ∈ m_big := m_big_mem (i := 245) (by decide +kernel) (by decide +kernel)
theorem lp_X6_9 : m_PL RX6 9 6 3 (.array .int) true := ⟨RX6, TX6, 4, tyX6, rfl, rfl, by decide, by decide, uw_6, Or.inl w_245, rfl, fun _ => rfl, by decide +kernel, tyX6_ok, nmX6⟩
theorem w_235 : Cond.fieldLink "TapeStudio$Score" 15 "TapeStudio$Score" "cells" "[I" ∈ m_big := m_big_mem (i := 235) (by decide +kernel) (by decide +kernel)
theorem lp_X6_15 : m_PL RX6 15 6 0 (.array .int) true := ⟨RX6, TX6, 4, tyX6, rfl, rfl, by decide, by decide, uw_6, Or.inl w_235, rfl, fun _ => rfl, by decide +kernel, tyX6_ok, nmX6⟩
theorem w_237 : Cond.fieldLink "TapeStudio$Score" 18 "TapeStudio$Score" "count" "I" ∈ m_big := m_big_mem (i := 237) (by decide +kernel) (by decide +kernel)
theorem lp_X6_18 : m_PL RX6 18 6 1 .int false := ⟨RX6, TX6, 4, tyX6, rfl, rfl, by decide, by decide, uw_6, Or.inl w_237, rfl, fun _ => rfl, by decide +kernel, tyX6_ok, nmX6⟩
theorem lf_X6_18 : m_FL RX6 18 6 1 := ⟨RX6, TX6, 4, rfl, rfl, by decide, by decide, uw_6, Or.inl w_237⟩
theorem lf_X6_15 : m_FL RX6 15 6 0 := ⟨RX6, TX6, 4, rfl, rfl, by decide, by decide, uw_6, Or.inl w_235⟩
theorem w_1040 : Cond.methodLink "TapeStudio$Score" 22 ⟨"TapeStudio$Score","cell","(II)I"⟩ ∈ m_big := m_big_mem (i := 1040) (by decide +kernel) (by decide +kernel)
theorem w_1043 : Cond.code ⟨"TapeStudio$Score","cell","(II)I"⟩ prog_8_method_2_code 4 (Option.some .int) ∈ m_big := m_big_mem (i := 1043) (by decide +kernel) (by decide +kernel)
theorem w_130 : Cond.initialized "TapeStudio$Score" ∈ m_big := m_big_mem (i := 130) (by decide +kernel) (by decide +kernel)
theorem w_1041 : Cond.instanceMethod ⟨"TapeStudio$Score","cell","(II)I"⟩ ∈ m_big := m_big_mem (i := 1041) (by decide +kernel) (by decide +kernel)
theorem w_1042 : Cond.selects "TapeStudio$Score" ⟨"TapeStudio$Score","cell","(II)I"⟩ ⟨"TapeStudio$Score","cell","(II)I"⟩ ∈ m_big := m_big_mem (i := 1042) (by decide +kernel) (by decide +kernel)
theorem lm_X6_22 : m_MV RX6 22 yX6_cell cX6_cell 4 (some .int) 2 := ⟨⟨Or.inl w_1040, w_130, w_1043, by decide +kernel, by decide⟩, w_1041, w_1042⟩
theorem w_529 : Cond.methodLink "TapeStudio$Strip" 3 ⟨"java/lang/Object","<init>","()V"⟩ ∈ m_big := m_big_mem (i := 529) (by decide +kernel) (by decide +kernel)
theorem lo_X8_3 : Cond.methodLink RX8 3 objectInit ∈ m_big ∧ Cond.instanceMethod objectInit ∈ m_big ∧ Cond.code objectInit ⟨#[0xb1]⟩ 1 none ∈ m_big := ⟨w_529, w_151, w_152⟩
theorem w_530 : Cond.classLink "TapeStudio$Strip" 9 "TapeStudio$Row" ∈ m_big := m_big_mem (i := 530) (by decide +kernel) (by decide +kernel)
theorem w_210 : Cond.instantiable "TapeStudio$Row" 2 ∈ m_big := m_big_mem (i := 210) (by decide +kernel) (by decide +kernel)
theorem ln_X8_9 : m_NL RX8 9 5 := ⟨RX5, TX5, 2, tyX5, rfl, rfl, by decide, uw_5, w_530, w_210, w_128, tyX5_ok, by decide +kernel⟩
theorem w_531 : Cond.methodLinkNest "TapeStudio$Strip" 11 ⟨"TapeStudio$Row","<init>","()V"⟩ "TapeStudio" ∈ m_nest := m_nest_mem (i := 531) (by decide +kernel) (by decide +kernel)
theorem w_213 : Cond.code ⟨"TapeStudio$Row","<init>","()V"⟩ prog_7_method_1_code 1 (Option.none : Option Jvm.ClassFile.FieldType) ∈ m_big := m_big_mem (i := 213) (by decide +kernel) (by decide +kernel)
theorem w_212 : Cond.instanceMethod ⟨"TapeStudio$Row","<init>","()V"⟩ ∈ m_big := m_big_mem (i := 212) (by decide +kernel) (by decide +kernel)
theorem lm_X8_11 : m_MI RX8 11 yX5_init cX5_init 1 0 := ⟨⟨Or.inr ⟨_, w_531⟩, w_128, w_213, by decide +kernel, by decide⟩, w_212, rfl⟩
theorem uw_8 : ∀ w ∈ u_ws RX8 TX8 12, w ∈ m_big := m_sub [562,564,566,568,570,572,574,576,578,580,582,584] (by decide +kernel) (by decide +kernel)
theorem vw_8 : vwCl[8]? = some (RX8, TX8, 12) := rfl
theorem w_538 : Cond.fieldLink "TapeStudio$Strip" 12 "TapeStudio$Strip" "row" "LTapeStudio$Row;" ∈ m_big := m_big_mem (i := 538) (by decide +kernel) (by decide +kernel)
theorem lp_X8_12 : m_PL RX8 12 8 3 (.object "TapeStudio$Row") true := ⟨RX8, TX8, 12, tyX8, rfl, rfl, by decide, by decide, uw_8, Or.inl w_538, rfl, fun _ => rfl, by decide +kernel, tyX8_ok, nmX8⟩
theorem w_543 : Cond.fieldLink "TapeStudio$Strip" 18 "TapeStudio$Strip" "state" "I" ∈ m_big := m_big_mem (i := 543) (by decide +kernel) (by decide +kernel)
theorem lp_X8_18 : m_PL RX8 18 8 4 .int false := ⟨RX8, TX8, 12, tyX8, rfl, rfl, by decide, by decide, uw_8, Or.inl w_543, rfl, fun _ => rfl, by decide +kernel, tyX8_ok, nmX8⟩
theorem w_553 : Cond.fieldLink "TapeStudio$Strip" 22 "TapeStudio$Strip" "nail" "I" ∈ m_big := m_big_mem (i := 553) (by decide +kernel) (by decide +kernel)
theorem lp_X8_22 : m_PL RX8 22 8 8 .int false := ⟨RX8, TX8, 12, tyX8, rfl, rfl, by decide, by decide, uw_8, Or.inl w_553, rfl, fun _ => rfl, by decide +kernel, tyX8_ok, nmX8⟩
theorem w_556 : Cond.fieldLink "TapeStudio$Strip" 25 "TapeStudio$Strip" "one" "I" ∈ m_big := m_big_mem (i := 556) (by decide +kernel) (by decide +kernel)
theorem lp_X8_25 : m_PL RX8 25 8 9 .int false := ⟨RX8, TX8, 12, tyX8, rfl, rfl, by decide, by decide, uw_8, Or.inl w_556, rfl, fun _ => rfl, by decide +kernel, tyX8_ok, nmX8⟩
theorem w_558 : Cond.fieldLink "TapeStudio$Strip" 28 "TapeStudio$Strip" "other" "I" ∈ m_big := m_big_mem (i := 558) (by decide +kernel) (by decide +kernel)
theorem lp_X8_28 : m_PL RX8 28 8 10 .int false := ⟨RX8, TX8, 12, tyX8, rfl, rfl, by decide, by decide, uw_8, Or.inl w_558, rfl, fun _ => rfl, by decide +kernel, tyX8_ok, nmX8⟩
theorem w_532 : Cond.fieldLink "TapeStudio$Strip" 31 "TapeStudio$Strip" "number" "I" ∈ m_big := m_big_mem (i := 532) (by decide +kernel) (by decide +kernel)
theorem lp_X8_31 : m_PL RX8 31 8 0 .int true := ⟨RX8, TX8, 12, tyX8, rfl, rfl, by decide, by decide, uw_8, Or.inl w_532, rfl, fun _ => rfl, by decide +kernel, tyX8_ok, nmX8⟩
theorem w_534 : Cond.fieldLink "TapeStudio$Strip" 34 "TapeStudio$Strip" "kind" "I" ∈ m_big := m_big_mem (i := 534) (by decide +kernel) (by decide +kernel)
theorem lp_X8_34 : m_PL RX8 34 8 1 .int true := ⟨RX8, TX8, 12, tyX8, rfl, rfl, by decide, by decide, uw_8, Or.inl w_534, rfl, fun _ => rfl, by decide +kernel, tyX8_ok, nmX8⟩
theorem w_537 : Cond.fieldLink "TapeStudio$Strip" 37 "TapeStudio$Strip" "day" "I" ∈ m_big := m_big_mem (i := 537) (by decide +kernel) (by decide +kernel)
theorem lp_X8_37 : m_PL RX8 37 8 2 .int true := ⟨RX8, TX8, 12, tyX8, rfl, rfl, by decide, by decide, uw_8, Or.inl w_537, rfl, fun _ => rfl, by decide +kernel, tyX8_ok, nmX8⟩
theorem lf_X8_34 : m_FL RX8 34 8 1 := ⟨RX8, TX8, 12, rfl, rfl, by decide, by decide, uw_8, Or.inl w_534⟩
theorem lf_X8_18 : m_FL RX8 18 8 4 := ⟨RX8, TX8, 12, rfl, rfl, by decide, by decide, uw_8, Or.inl w_543⟩
theorem lf_X8_12 : m_FL RX8 12 8 3 := ⟨RX8, TX8, 12, rfl, rfl, by decide, by decide, uw_8, Or.inl w_538⟩
theorem w_828 : Cond.methodLink "TapeStudio$Strip" 40 ⟨"TapeStudio$Row","size","()I"⟩ ∈ m_big := m_big_mem (i := 828) (by decide +kernel) (by decide +kernel)
theorem w_471 : Cond.code ⟨"TapeStudio$Row","size","()I"⟩ prog_7_method_2_code 1 (Option.some .int) ∈ m_big := m_big_mem (i := 471) (by decide +kernel) (by decide +kernel)
theorem w_469 : Cond.instanceMethod ⟨"TapeStudio$Row","size","()I"⟩ ∈ m_big := m_big_mem (i := 469) (by decide +kernel) (by decide +kernel)
theorem w_470 : Cond.selects "TapeStudio$Row" ⟨"TapeStudio$Row","size","()I"⟩ ⟨"TapeStudio$Row","size","()I"⟩ ∈ m_big := m_big_mem (i := 470) (by decide +kernel) (by decide +kernel)
theorem lm_X8_40 : m_MV RX8 40 yX5_size cX5_size 1 (some .int) 0 := ⟨⟨Or.inl w_828, w_128, w_471, by decide +kernel, by decide⟩, w_469, w_470⟩
theorem w_546 : Cond.fieldLink "TapeStudio$Strip" 44 "TapeStudio$Strip" "generation" "I" ∈ m_big := m_big_mem (i := 546) (by decide +kernel) (by decide +kernel)
theorem lf_X8_44 : m_FL RX8 44 8 5 := ⟨RX8, TX8, 12, rfl, rfl, by decide, by decide, uw_8, Or.inl w_546⟩
theorem w_549 : Cond.fieldLink "TapeStudio$Strip" 47 "TapeStudio$Strip" "hiss" "I" ∈ m_big := m_big_mem (i := 549) (by decide +kernel) (by decide +kernel)
theorem lf_X8_47 : m_FL RX8 47 8 6 := ⟨RX8, TX8, 12, rfl, rfl, by decide, by decide, uw_8, Or.inl w_549⟩
theorem w_551 : Cond.fieldLink "TapeStudio$Strip" 50 "TapeStudio$Strip" "wear" "I" ∈ m_big := m_big_mem (i := 551) (by decide +kernel) (by decide +kernel)
theorem lf_X8_50 : m_FL RX8 50 8 7 := ⟨RX8, TX8, 12, rfl, rfl, by decide, by decide, uw_8, Or.inl w_551⟩
theorem lf_X8_22 : m_FL RX8 22 8 8 := ⟨RX8, TX8, 12, rfl, rfl, by decide, by decide, uw_8, Or.inl w_553⟩
theorem lf_X8_37 : m_FL RX8 37 8 2 := ⟨RX8, TX8, 12, rfl, rfl, by decide, by decide, uw_8, Or.inl w_537⟩
theorem lf_X8_25 : m_FL RX8 25 8 9 := ⟨RX8, TX8, 12, rfl, rfl, by decide, by decide, uw_8, Or.inl w_556⟩
theorem lf_X8_28 : m_FL RX8 28 8 10 := ⟨RX8, TX8, 12, rfl, rfl, by decide, by decide, uw_8, Or.inl w_558⟩
theorem w_560 : Cond.fieldLink "TapeStudio$Strip" 53 "TapeStudio$Strip" "begin" "I" ∈ m_big := m_big_mem (i := 560) (by decide +kernel) (by decide +kernel)
theorem lf_X8_53 : m_FL RX8 53 8 11 := ⟨RX8, TX8, 12, rfl, rfl, by decide, by decide, uw_8, Or.inl w_560⟩
theorem w_634 : Cond.methodLink "TapeStudio$Strip" 56 ⟨"java/lang/Math","max","(II)I"⟩ ∈ m_big := m_big_mem (i := 634) (by decide +kernel) (by decide +kernel)
theorem lp_X8_44 : m_PL RX8 44 8 5 .int false := ⟨RX8, TX8, 12, tyX8, rfl, rfl, by decide, by decide, uw_8, Or.inl w_546, rfl, fun _ => rfl, by decide +kernel, tyX8_ok, nmX8⟩
theorem lp_X8_47 : m_PL RX8 47 8 6 .int false := ⟨RX8, TX8, 12, tyX8, rfl, rfl, by decide, by decide, uw_8, Or.inl w_549, rfl, fun _ => rfl, by decide +kernel, tyX8_ok, nmX8⟩
theorem lp_X8_50 : m_PL RX8 50 8 7 .int false := ⟨RX8, TX8, 12, tyX8, rfl, rfl, by decide, by decide, uw_8, Or.inl w_551, rfl, fun _ => rfl, by decide +kernel, tyX8_ok, nmX8⟩
