/-! words and links, by their places in the tables -/
theorem w_701 : Cond.methodLink "TapeStudio$Machine" 1 ⟨"java/lang/Object","<init>","()V"⟩ ∈ m_big := m_big_mem (i := 701) (by decide +kernel) (by decide +kernel)
theorem w_151 : Cond.instanceMethod ⟨"java/lang/Object","<init>","()V"⟩ ∈ m_big := m_big_mem (i := 151) (by decide +kernel) (by decide +kernel)
theorem w_152 : Cond.code ⟨"java/lang/Object","<init>","()V"⟩ object_method_1_code 1 (Option.none : Option Jvm.ClassFile.FieldType) ∈ m_big := m_big_mem (i := 152) (by decide +kernel) (by decide +kernel)
theorem lo_X0_1 : Cond.methodLink RX0 1 objectInit ∈ m_big ∧ Cond.instanceMethod objectInit ∈ m_big ∧ Cond.code objectInit ⟨#[0xb1]⟩ 1 none ∈ m_big := ⟨w_701, w_151, w_152⟩
theorem uw_0 : ∀ w ∈ u_ws RX0 TX0 4, w ∈ m_big := m_sub [710,712,714,716] (by decide +kernel) (by decide +kernel)
theorem vw_0 : vwCl[0]? = some (RX0, TX0, 4) := rfl
theorem w_702 : Cond.fieldLink "TapeStudio$Machine" 7 "TapeStudio$Machine" "drift" "I" ∈ m_big := m_big_mem (i := 702) (by decide +kernel) (by decide +kernel)
theorem lp_X0_7 : m_PL RX0 7 0 0 .int true := ⟨RX0, TX0, 4, tyX0, rfl, rfl, by decide, by decide, uw_0, Or.inl w_702, rfl, fun _ => rfl, by decide +kernel, tyX0_ok, nmX0⟩
theorem w_703 : Cond.fieldLink "TapeStudio$Machine" 13 "TapeStudio$Machine" "level" "I" ∈ m_big := m_big_mem (i := 703) (by decide +kernel) (by decide +kernel)
theorem lp_X0_13 : m_PL RX0 13 0 1 .int true := ⟨RX0, TX0, 4, tyX0, rfl, rfl, by decide, by decide, uw_0, Or.inl w_703, rfl, fun _ => rfl, by decide +kernel, tyX0_ok, nmX0⟩
theorem w_706 : Cond.fieldLink "TapeStudio$Machine" 16 "TapeStudio$Machine" "hiss" "I" ∈ m_big := m_big_mem (i := 706) (by decide +kernel) (by decide +kernel)
theorem lp_X0_16 : m_PL RX0 16 0 2 .int true := ⟨RX0, TX0, 4, tyX0, rfl, rfl, by decide, by decide, uw_0, Or.inl w_706, rfl, fun _ => rfl, by decide +kernel, tyX0_ok, nmX0⟩
theorem w_708 : Cond.fieldLink "TapeStudio$Machine" 19 "TapeStudio$Machine" "rough" "I" ∈ m_big := m_big_mem (i := 708) (by decide +kernel) (by decide +kernel)
theorem lp_X0_19 : m_PL RX0 19 0 3 .int true := ⟨RX0, TX0, 4, tyX0, rfl, rfl, by decide, by decide, uw_0, Or.inl w_708, rfl, fun _ => rfl, by decide +kernel, tyX0_ok, nmX0⟩
theorem lf_X0_7 : m_FL RX0 7 0 0 := ⟨RX0, TX0, 4, rfl, rfl, by decide, by decide, uw_0, Or.inl w_702⟩
theorem w_214 : Cond.methodLink "TapeStudio$Row" 1 ⟨"java/lang/Object","<init>","()V"⟩ ∈ m_big := m_big_mem (i := 214) (by decide +kernel) (by decide +kernel)
theorem lo_X5_1 : Cond.methodLink RX5 1 objectInit ∈ m_big ∧ Cond.instanceMethod objectInit ∈ m_big ∧ Cond.code objectInit ⟨#[0xb1]⟩ 1 none ∈ m_big := ⟨w_214, w_151, w_152⟩
theorem w_208 : Cond.arrayClass .int ∈ m_big := m_big_mem (i := 208) (by decide +kernel) (by decide +kernel)
theorem uw_5 : ∀ w ∈ u_ws RX5 TX5 2, w ∈ m_big := m_sub [218,220] (by decide +kernel) (by decide +kernel)
theorem vw_5 : vwCl[5]? = some (RX5, TX5, 2) := rfl
theorem w_215 : Cond.fieldLink "TapeStudio$Row" 7 "TapeStudio$Row" "samples" "[I" ∈ m_big := m_big_mem (i := 215) (by decide +kernel) (by decide +kernel)
theorem lp_X5_7 : m_PL RX5 7 5 0 (.array .int) false := ⟨RX5, TX5, 2, tyX5, rfl, rfl, by decide, by decide, uw_5, Or.inl w_215, rfl, (fun q => by cases q), by decide +kernel, tyX5_ok, nmX5⟩
theorem w_389 : Cond.methodLink "TapeStudio$Match" 3 ⟨"java/lang/Object","<init>","()V"⟩ ∈ m_big := m_big_mem (i := 389) (by decide +kernel) (by decide +kernel)
theorem lo_X1_3 : Cond.methodLink RX1 3 objectInit ∈ m_big ∧ Cond.instanceMethod objectInit ∈ m_big ∧ Cond.code objectInit ⟨#[0xb1]⟩ 1 none ∈ m_big := ⟨w_389, w_151, w_152⟩
theorem w_390 : Cond.classLink "TapeStudio$Match" 9 "TapeStudio$Row" ∈ m_big := m_big_mem (i := 390) (by decide +kernel) (by decide +kernel)
theorem w_210 : Cond.instantiable "TapeStudio$Row" 2 ∈ m_big := m_big_mem (i := 210) (by decide +kernel) (by decide +kernel)
theorem w_128 : Cond.initialized "TapeStudio$Row" ∈ m_big := m_big_mem (i := 128) (by decide +kernel) (by decide +kernel)
theorem ln_X1_9 : m_NL RX1 9 5 := ⟨RX5, TX5, 2, tyX5, rfl, rfl, by decide, uw_5, w_390, w_210, w_128, tyX5_ok, by decide +kernel⟩
theorem w_391 : Cond.methodLinkNest "TapeStudio$Match" 11 ⟨"TapeStudio$Row","<init>","()V"⟩ "TapeStudio" ∈ m_nest := m_nest_mem (i := 391) (by decide +kernel) (by decide +kernel)
theorem w_213 : Cond.code ⟨"TapeStudio$Row","<init>","()V"⟩ prog_7_method_1_code 1 (Option.none : Option Jvm.ClassFile.FieldType) ∈ m_big := m_big_mem (i := 213) (by decide +kernel) (by decide +kernel)
theorem w_212 : Cond.instanceMethod ⟨"TapeStudio$Row","<init>","()V"⟩ ∈ m_big := m_big_mem (i := 212) (by decide +kernel) (by decide +kernel)
theorem lm_X1_11 : m_MI RX1 11 yX5_init cX5_init 1 0 := ⟨⟨Or.inr ⟨_, w_391⟩, w_128, w_213, by decide +kernel, by decide⟩, w_212, rfl⟩
theorem uw_1 : ∀ w ∈ u_ws RX1 TX1 13, w ∈ m_big := m_sub [406,408,410,412,414,416,418,420,422,424,426,428,430] (by decide +kernel) (by decide +kernel)
theorem vw_1 : vwCl[1]? = some (RX1, TX1, 13) := rfl
theorem w_394 : Cond.fieldLink "TapeStudio$Match" 12 "TapeStudio$Match" "way" "LTapeStudio$Row;" ∈ m_big := m_big_mem (i := 394) (by decide +kernel) (by decide +kernel)
theorem lp_X1_12 : m_PL RX1 12 1 2 (.object "TapeStudio$Row") true := ⟨RX1, TX1, 13, tyX1, rfl, rfl, by decide, by decide, uw_1, Or.inl w_394, rfl, fun _ => rfl, by decide +kernel, tyX1_ok, nmX1⟩
theorem w_401 : Cond.fieldLink "TapeStudio$Match" 18 "TapeStudio$Match" "longest" "[I" ∈ m_big := m_big_mem (i := 401) (by decide +kernel) (by decide +kernel)
theorem lp_X1_18 : m_PL RX1 18 1 8 (.array .int) true := ⟨RX1, TX1, 13, tyX1, rfl, rfl, by decide, by decide, uw_1, Or.inl w_401, rfl, fun _ => rfl, by decide +kernel, tyX1_ok, nmX1⟩
theorem w_402 : Cond.fieldLink "TapeStudio$Match" 22 "TapeStudio$Match" "fewest" "[I" ∈ m_big := m_big_mem (i := 402) (by decide +kernel) (by decide +kernel)
theorem lp_X1_22 : m_PL RX1 22 1 9 (.array .int) true := ⟨RX1, TX1, 13, tyX1, rfl, rfl, by decide, by decide, uw_1, Or.inl w_402, rfl, fun _ => rfl, by decide +kernel, tyX1_ok, nmX1⟩
theorem w_403 : Cond.fieldLink "TapeStudio$Match" 25 "TapeStudio$Match" "runs" "[I" ∈ m_big := m_big_mem (i := 403) (by decide +kernel) (by decide +kernel)
theorem lp_X1_25 : m_PL RX1 25 1 10 (.array .int) true := ⟨RX1, TX1, 13, tyX1, rfl, rfl, by decide, by decide, uw_1, Or.inl w_403, rfl, fun _ => rfl, by decide +kernel, tyX1_ok, nmX1⟩
theorem w_404 : Cond.fieldLink "TapeStudio$Match" 28 "TapeStudio$Match" "measuredMiss" "I" ∈ m_big := m_big_mem (i := 404) (by decide +kernel) (by decide +kernel)
theorem lp_X1_28 : m_PL RX1 28 1 11 .int false := ⟨RX1, TX1, 13, tyX1, rfl, rfl, by decide, by decide, uw_1, Or.inl w_404, rfl, (fun q => by cases q), by decide +kernel, tyX1_ok, nmX1⟩
theorem w_392 : Cond.fieldLink "TapeStudio$Match" 32 "TapeStudio$Match" "shelf" "LTapeStudio$Shelf;" ∈ m_big := m_big_mem (i := 392) (by decide +kernel) (by decide +kernel)
theorem lp_X1_32 : m_PL RX1 32 1 0 (.object "TapeStudio$Shelf") true := ⟨RX1, TX1, 13, tyX1, rfl, rfl, by decide, by decide, uw_1, Or.inl w_392, rfl, fun _ => rfl, by decide +kernel, tyX1_ok, nmX1⟩
theorem w_393 : Cond.fieldLink "TapeStudio$Match" 36 "TapeStudio$Match" "tape" "LTapeStudio$Row;" ∈ m_big := m_big_mem (i := 393) (by decide +kernel) (by decide +kernel)
theorem lp_X1_36 : m_PL RX1 36 1 1 (.object "TapeStudio$Row") true := ⟨RX1, TX1, 13, tyX1, rfl, rfl, by decide, by decide, uw_1, Or.inl w_393, rfl, fun _ => rfl, by decide +kernel, tyX1_ok, nmX1⟩
theorem w_1356 : Cond.constant "TapeStudio$Match" 39 (Int32.ofInt (65535)) ∈ m_nest := m_nest_mem (i := 1356) (by decide +kernel) (by decide +kernel)
theorem uw_7 : ∀ w ∈ u_ws RX7 TX7 12, w ∈ m_big := m_sub [183,185,187,189,191,193,195,197,199,201,203,205] (by decide +kernel) (by decide +kernel)
theorem vw_7 : vwCl[7]? = some (RX7, TX7, 12) := rfl
theorem w_164 : Cond.fieldLink "TapeStudio$Shelf" 33 "TapeStudio$Shelf" "count" "I" ∈ m_big := m_big_mem (i := 164) (by decide +kernel) (by decide +kernel)
theorem lf_X7_33 : m_FL RX7 33 7 1 := ⟨RX7, TX7, 12, rfl, rfl, by decide, by decide, uw_7, Or.inl w_164⟩
theorem w_163 : Cond.fieldLink "TapeStudio$Shelf" 11 "TapeStudio$Shelf" "strips" "[LTapeStudio$Strip;" ∈ m_big := m_big_mem (i := 163) (by decide +kernel) (by decide +kernel)
theorem lf_X7_11 : m_FL RX7 11 7 0 := ⟨RX7, TX7, 12, rfl, rfl, by decide, by decide, uw_7, Or.inl w_163⟩
theorem lf_X1_32 : m_FL RX1 32 1 0 := ⟨RX1, TX1, 13, rfl, rfl, by decide, by decide, uw_1, Or.inl w_392⟩
theorem w_1362 : Cond.methodLink "TapeStudio$Match" 40 ⟨"TapeStudio$Shelf","known","(I)LTapeStudio$Strip;"⟩ ∈ m_big := m_big_mem (i := 1362) (by decide +kernel) (by decide +kernel)
theorem w_619 : Cond.code ⟨"TapeStudio$Shelf","known","(I)LTapeStudio$Strip;"⟩ prog_9_method_2_code 2 (Option.some (.object "TapeStudio$Strip")) ∈ m_big := m_big_mem (i := 619) (by decide +kernel) (by decide +kernel)
theorem w_127 : Cond.initialized "TapeStudio$Shelf" ∈ m_big := m_big_mem (i := 127) (by decide +kernel) (by decide +kernel)
theorem w_617 : Cond.instanceMethod ⟨"TapeStudio$Shelf","known","(I)LTapeStudio$Strip;"⟩ ∈ m_big := m_big_mem (i := 617) (by decide +kernel) (by decide +kernel)
theorem w_618 : Cond.selects "TapeStudio$Shelf" ⟨"TapeStudio$Shelf","known","(I)LTapeStudio$Strip;"⟩ ⟨"TapeStudio$Shelf","known","(I)LTapeStudio$Strip;"⟩ ∈ m_big := m_big_mem (i := 618) (by decide +kernel) (by decide +kernel)
theorem lm_X1_40 : m_MV RX1 40 yX7_known cX7_known 2 (some (.object "TapeStudio$Strip")) 1 := ⟨⟨Or.inl w_1362, w_127, w_619, by decide +kernel, by decide⟩, w_617, w_618⟩
theorem uw_8 : ∀ w ∈ u_ws RX8 TX8 12, w ∈ m_big := m_sub [562,564,566,568,570,572,574,576,578,580,582,584] (by decide +kernel) (by decide +kernel)
theorem vw_8 : vwCl[8]? = some (RX8, TX8, 12) := rfl
theorem w_545 : Cond.fieldLinkNest "TapeStudio$Match" 46 "TapeStudio$Strip" "state" "I" "TapeStudio" ∈ m_nest := m_nest_mem (i := 545) (by decide +kernel) (by decide +kernel)
theorem lf_X1_46 : m_FL RX1 46 8 4 := ⟨RX8, TX8, 12, rfl, rfl, by decide, by decide, uw_8, Or.inr ⟨_, w_545⟩⟩
theorem w_539 : Cond.fieldLinkNest "TapeStudio$Match" 51 "TapeStudio$Strip" "row" "LTapeStudio$Row;" "TapeStudio" ∈ m_nest := m_nest_mem (i := 539) (by decide +kernel) (by decide +kernel)
theorem lf_X1_51 : m_FL RX1 51 8 3 := ⟨RX8, TX8, 12, rfl, rfl, by decide, by decide, uw_8, Or.inr ⟨_, w_539⟩⟩
theorem w_484 : Cond.methodLink "TapeStudio$Row" 35 ⟨"java/lang/Math","max","(II)I"⟩ ∈ m_big := m_big_mem (i := 484) (by decide +kernel) (by decide +kernel)
theorem w_485 : Cond.static ⟨"java/lang/Math","max","(II)I"⟩ ∈ m_big := m_big_mem (i := 485) (by decide +kernel) (by decide +kernel)
theorem w_136 : Cond.initialized "java/lang/Math" ∈ m_big := m_big_mem (i := 136) (by decide +kernel) (by decide +kernel)
theorem w_486 : Cond.code ⟨"java/lang/Math","max","(II)I"⟩ prog_15_method_65_code 2 (Option.some .int) ∈ m_big := m_big_mem (i := 486) (by decide +kernel) (by decide +kernel)
theorem lf_X5_7 : m_FL RX5 7 5 0 := ⟨RX5, TX5, 2, rfl, rfl, by decide, by decide, uw_5, Or.inl w_215⟩
theorem w_487 : Cond.methodLink "TapeStudio$Row" 41 ⟨"java/lang/System","arraycopy","(Ljava/lang/Object;ILjava/lang/Object;II)V"⟩ ∈ m_big := m_big_mem (i := 487) (by decide +kernel) (by decide +kernel)
theorem w_489 : Cond.native ⟨"java/lang/System","arraycopy","(Ljava/lang/Object;ILjava/lang/Object;II)V"⟩ ∈ m_big := m_big_mem (i := 489) (by decide +kernel) (by decide +kernel)
theorem w_488 : Cond.static ⟨"java/lang/System","arraycopy","(Ljava/lang/Object;ILjava/lang/Object;II)V"⟩ ∈ m_big := m_big_mem (i := 488) (by decide +kernel) (by decide +kernel)
theorem w_137 : Cond.initialized "java/lang/System" ∈ m_big := m_big_mem (i := 137) (by decide +kernel) (by decide +kernel)
theorem w_217 : Cond.fieldLink "TapeStudio$Row" 13 "TapeStudio$Row" "length" "I" ∈ m_big := m_big_mem (i := 217) (by decide +kernel) (by decide +kernel)
theorem lp_X5_13 : m_PL RX5 13 5 1 .int false := ⟨RX5, TX5, 2, tyX5, rfl, rfl, by decide, by decide, uw_5, Or.inl w_217, rfl, (fun q => by cases q), by decide +kernel, tyX5_ok, nmX5⟩
theorem lf_X5_13 : m_FL RX5 13 5 1 := ⟨RX5, TX5, 2, rfl, rfl, by decide, by decide, uw_5, Or.inl w_217⟩
theorem w_497 : Cond.methodLink "TapeStudio" 168 ⟨"java/lang/Math","min","(II)I"⟩ ∈ m_big := m_big_mem (i := 497) (by decide +kernel) (by decide +kernel)
theorem w_498 : Cond.static ⟨"java/lang/Math","min","(II)I"⟩ ∈ m_big := m_big_mem (i := 498) (by decide +kernel) (by decide +kernel)
theorem w_499 : Cond.code ⟨"java/lang/Math","min","(II)I"⟩ prog_15_method_69_code 2 (Option.some .int) ∈ m_big := m_big_mem (i := 499) (by decide +kernel) (by decide +kernel)
theorem w_500 : Cond.methodLink "TapeStudio" 288 ⟨"java/lang/Math","max","(II)I"⟩ ∈ m_big := m_big_mem (i := 500) (by decide +kernel) (by decide +kernel)
theorem w_494 : Cond.methodLinkNest "TapeStudio$Row" 17 ⟨"TapeStudio","nearest","(III)I"⟩ "TapeStudio" ∈ m_nest := m_nest_mem (i := 494) (by decide +kernel) (by decide +kernel)
theorem w_496 : Cond.code ⟨"TapeStudio","nearest","(III)I"⟩ prog_1_method_49_code 3 (Option.some .int) ∈ m_big := m_big_mem (i := 496) (by decide +kernel) (by decide +kernel)
theorem w_126 : Cond.initialized "TapeStudio" ∈ m_big := m_big_mem (i := 126) (by decide +kernel) (by decide +kernel)
theorem w_495 : Cond.static ⟨"TapeStudio","nearest","(III)I"⟩ ∈ m_big := m_big_mem (i := 495) (by decide +kernel) (by decide +kernel)
theorem lm_X5_17 : m_MS RX5 17 yX10_nearest cX10_nearest 3 (some .int) 3 := ⟨⟨Or.inr ⟨_, w_494⟩, w_126, w_496, by decide +kernel, by decide⟩, w_495⟩
theorem w_592 : Cond.methodLink "TapeStudio$Row" 23 ⟨"TapeStudio$Row","get","(I)I"⟩ ∈ m_big := m_big_mem (i := 592) (by decide +kernel) (by decide +kernel)
theorem w_595 : Cond.code ⟨"TapeStudio$Row","get","(I)I"⟩ prog_7_method_3_code 2 (Option.some .int) ∈ m_big := m_big_mem (i := 595) (by decide +kernel) (by decide +kernel)
theorem w_593 : Cond.instanceMethod ⟨"TapeStudio$Row","get","(I)I"⟩ ∈ m_big := m_big_mem (i := 593) (by decide +kernel) (by decide +kernel)
theorem w_594 : Cond.selects "TapeStudio$Row" ⟨"TapeStudio$Row","get","(I)I"⟩ ⟨"TapeStudio$Row","get","(I)I"⟩ ∈ m_big := m_big_mem (i := 594) (by decide +kernel) (by decide +kernel)
theorem lm_X5_23 : m_MV RX5 23 yX5_get cX5_get 2 (some .int) 1 := ⟨⟨Or.inl w_592, w_128, w_595, by decide +kernel, by decide⟩, w_593, w_594⟩
theorem w_490 : Cond.methodLink "TapeStudio$Row" 27 ⟨"TapeStudio$Row","set","(II)V"⟩ ∈ m_big := m_big_mem (i := 490) (by decide +kernel) (by decide +kernel)
theorem w_493 : Cond.code ⟨"TapeStudio$Row","set","(II)V"⟩ prog_7_method_4_code 3 (Option.none : Option Jvm.ClassFile.FieldType) ∈ m_big := m_big_mem (i := 493) (by decide +kernel) (by decide +kernel)
theorem w_491 : Cond.instanceMethod ⟨"TapeStudio$Row","set","(II)V"⟩ ∈ m_big := m_big_mem (i := 491) (by decide +kernel) (by decide +kernel)
theorem w_492 : Cond.selects "TapeStudio$Row" ⟨"TapeStudio$Row","set","(II)V"⟩ ⟨"TapeStudio$Row","set","(II)V"⟩ ∈ m_big := m_big_mem (i := 492) (by decide +kernel) (by decide +kernel)
theorem lm_X5_27 : m_MV RX5 27 yX5_set cX5_set 3 none 2 := ⟨⟨Or.inl w_490, w_128, w_493, by decide +kernel, by decide⟩, w_491, w_492⟩
theorem w_480 : Cond.methodLink "TapeStudio$Row" 31 ⟨"TapeStudio$Row","resize","(I)V"⟩ ∈ m_big := m_big_mem (i := 480) (by decide +kernel) (by decide +kernel)
theorem w_483 : Cond.code ⟨"TapeStudio$Row","resize","(I)V"⟩ prog_7_method_8_code 4 (Option.none : Option Jvm.ClassFile.FieldType) ∈ m_big := m_big_mem (i := 483) (by decide +kernel) (by decide +kernel)
theorem w_481 : Cond.instanceMethod ⟨"TapeStudio$Row","resize","(I)V"⟩ ∈ m_big := m_big_mem (i := 481) (by decide +kernel) (by decide +kernel)
theorem w_482 : Cond.selects "TapeStudio$Row" ⟨"TapeStudio$Row","resize","(I)V"⟩ ⟨"TapeStudio$Row","resize","(I)V"⟩ ∈ m_big := m_big_mem (i := 482) (by decide +kernel) (by decide +kernel)
theorem lm_X5_31 : m_MV RX5 31 yX5_resize cX5_resize 4 none 1 := ⟨⟨Or.inl w_480, w_128, w_483, by decide +kernel, by decide⟩, w_481, w_482⟩
theorem w_752 : Cond.methodLink "TapeStudio$Row" 60 ⟨"TapeStudio$Row","between","(II)I"⟩ ∈ m_big := m_big_mem (i := 752) (by decide +kernel) (by decide +kernel)
theorem w_755 : Cond.code ⟨"TapeStudio$Row","between","(II)I"⟩ prog_7_method_18_code 5 (Option.some .int) ∈ m_big := m_big_mem (i := 755) (by decide +kernel) (by decide +kernel)
theorem w_754 : Cond.instanceMethod ⟨"TapeStudio$Row","between","(II)I"⟩ ∈ m_big := m_big_mem (i := 754) (by decide +kernel) (by decide +kernel)
theorem w_7 : Cond.selects "TapeStudio$Row" ⟨"TapeStudio$Row","between","(II)I"⟩ ⟨"TapeStudio$Row","between","(II)I"⟩ ∈ m_big := m_big_mem (i := 7) (by decide +kernel) (by decide +kernel)
theorem lm_X5_60 : m_MV RX5 60 yX5_between cX5_between 5 (some .int) 2 := ⟨⟨Or.inl w_752, w_128, w_755, by decide +kernel, by decide⟩, w_754, w_7⟩
theorem w_751 : Cond.methodLink "TapeStudio$Row" 57 ⟨"TapeStudio$Row","playedSize","(II)I"⟩ ∈ m_big := m_big_mem (i := 751) (by decide +kernel) (by decide +kernel)
theorem w_742 : Cond.code ⟨"TapeStudio$Row","playedSize","(II)I"⟩ prog_7_method_17_code 3 (Option.some .int) ∈ m_big := m_big_mem (i := 742) (by decide +kernel) (by decide +kernel)
theorem w_740 : Cond.instanceMethod ⟨"TapeStudio$Row","playedSize","(II)I"⟩ ∈ m_big := m_big_mem (i := 740) (by decide +kernel) (by decide +kernel)
theorem w_741 : Cond.selects "TapeStudio$Row" ⟨"TapeStudio$Row","playedSize","(II)I"⟩ ⟨"TapeStudio$Row","playedSize","(II)I"⟩ ∈ m_big := m_big_mem (i := 741) (by decide +kernel) (by decide +kernel)
theorem lm_X5_57 : m_MV RX5 57 yX5_playedSize cX5_playedSize 3 (some .int) 2 := ⟨⟨Or.inl w_751, w_128, w_742, by decide +kernel, by decide⟩, w_740, w_741⟩
theorem lf_X1_12 : m_FL RX1 12 1 2 := ⟨RX1, TX1, 13, rfl, rfl, by decide, by decide, uw_1, Or.inl w_394⟩
theorem w_1367 : Cond.methodLink "TapeStudio$Match" 54 ⟨"TapeStudio$Row","fillTurned","(LTapeStudio$Row;)V"⟩ ∈ m_big := m_big_mem (i := 1367) (by decide +kernel) (by decide +kernel)
theorem w_654 : Cond.code ⟨"TapeStudio$Row","fillTurned","(LTapeStudio$Row;)V"⟩ prog_7_method_12_code 3 (Option.none : Option Jvm.ClassFile.FieldType) ∈ m_big := m_big_mem (i := 654) (by decide +kernel) (by decide +kernel)
theorem w_652 : Cond.instanceMethod ⟨"TapeStudio$Row","fillTurned","(LTapeStudio$Row;)V"⟩ ∈ m_big := m_big_mem (i := 652) (by decide +kernel) (by decide +kernel)
theorem w_653 : Cond.selects "TapeStudio$Row" ⟨"TapeStudio$Row","fillTurned","(LTapeStudio$Row;)V"⟩ ⟨"TapeStudio$Row","fillTurned","(LTapeStudio$Row;)V"⟩ ∈ m_big := m_big_mem (i := 653) (by decide +kernel) (by decide +kernel)
theorem lm_X1_54 : m_MV RX1 54 yX5_fillTurned cX5_fillTurned 3 none 1 := ⟨⟨Or.inl w_1367, w_128, w_654, by decide +kernel, by decide⟩, w_652, w_653⟩
theorem w_1368 : Cond.methodLink "TapeStudio$Match" 58 ⟨"TapeStudio$Row","fillPlayed","(LTapeStudio$Row;II)V"⟩ ∈ m_big := m_big_mem (i := 1368) (by decide +kernel) (by decide +kernel)
theorem w_750 : Cond.code ⟨"TapeStudio$Row","fillPlayed","(LTapeStudio$Row;II)V"⟩ prog_7_method_16_code 6 (Option.none : Option Jvm.ClassFile.FieldType) ∈ m_big := m_big_mem (i := 750) (by decide +kernel) (by decide +kernel)
theorem w_748 : Cond.instanceMethod ⟨"TapeStudio$Row","fillPlayed","(LTapeStudio$Row;II)V"⟩ ∈ m_big := m_big_mem (i := 748) (by decide +kernel) (by decide +kernel)
theorem w_749 : Cond.selects "TapeStudio$Row" ⟨"TapeStudio$Row","fillPlayed","(LTapeStudio$Row;II)V"⟩ ⟨"TapeStudio$Row","fillPlayed","(LTapeStudio$Row;II)V"⟩ ∈ m_big := m_big_mem (i := 749) (by decide +kernel) (by decide +kernel)
theorem lm_X1_58 : m_MV RX1 58 yX5_fillPlayed cX5_fillPlayed 6 none 3 := ⟨⟨Or.inl w_1368, w_128, w_750, by decide +kernel, by decide⟩, w_748, w_749⟩
theorem w_1357 : Cond.methodLink "TapeStudio$Match" 62 ⟨"TapeStudio$Row","size","()I"⟩ ∈ m_big := m_big_mem (i := 1357) (by decide +kernel) (by decide +kernel)
theorem w_471 : Cond.code ⟨"TapeStudio$Row","size","()I"⟩ prog_7_method_2_code 1 (Option.some .int) ∈ m_big := m_big_mem (i := 471) (by decide +kernel) (by decide +kernel)
theorem w_469 : Cond.instanceMethod ⟨"TapeStudio$Row","size","()I"⟩ ∈ m_big := m_big_mem (i := 469) (by decide +kernel) (by decide +kernel)
theorem w_470 : Cond.selects "TapeStudio$Row" ⟨"TapeStudio$Row","size","()I"⟩ ⟨"TapeStudio$Row","size","()I"⟩ ∈ m_big := m_big_mem (i := 470) (by decide +kernel) (by decide +kernel)
theorem lm_X1_62 : m_MV RX1 62 yX5_size cX5_size 1 (some .int) 0 := ⟨⟨Or.inl w_1357, w_128, w_471, by decide +kernel, by decide⟩, w_469, w_470⟩
theorem w_1369 : Cond.methodLink "TapeStudio$Match" 66 ⟨"TapeStudio$Row","fillPart","(LTapeStudio$Row;II)V"⟩ ∈ m_big := m_big_mem (i := 1369) (by decide +kernel) (by decide +kernel)
theorem w_591 : Cond.code ⟨"TapeStudio$Row","fillPart","(LTapeStudio$Row;II)V"⟩ prog_7_method_11_code 5 (Option.none : Option Jvm.ClassFile.FieldType) ∈ m_big := m_big_mem (i := 591) (by decide +kernel) (by decide +kernel)
theorem w_589 : Cond.instanceMethod ⟨"TapeStudio$Row","fillPart","(LTapeStudio$Row;II)V"⟩ ∈ m_big := m_big_mem (i := 589) (by decide +kernel) (by decide +kernel)
theorem w_590 : Cond.selects "TapeStudio$Row" ⟨"TapeStudio$Row","fillPart","(LTapeStudio$Row;II)V"⟩ ⟨"TapeStudio$Row","fillPart","(LTapeStudio$Row;II)V"⟩ ∈ m_big := m_big_mem (i := 590) (by decide +kernel) (by decide +kernel)
theorem lm_X1_66 : m_MV RX1 66 yX5_fillPart cX5_fillPart 5 none 3 := ⟨⟨Or.inl w_1369, w_128, w_591, by decide +kernel, by decide⟩, w_589, w_590⟩
theorem lf_X1_36 : m_FL RX1 36 1 1 := ⟨RX1, TX1, 13, rfl, rfl, by decide, by decide, uw_1, Or.inl w_393⟩
theorem w_1378 : Cond.methodLink "TapeStudio$Match" 107 ⟨"TapeStudio$Row","get","(I)I"⟩ ∈ m_big := m_big_mem (i := 1378) (by decide +kernel) (by decide +kernel)
theorem lm_X1_107 : m_MV RX1 107 yX5_get cX5_get 2 (some .int) 1 := ⟨⟨Or.inl w_1378, w_128, w_595, by decide +kernel, by decide⟩, w_593, w_594⟩
theorem w_1379 : Cond.methodLink "TapeStudio$Match" 111 ⟨"java/lang/Math","abs","(I)I"⟩ ∈ m_big := m_big_mem (i := 1379) (by decide +kernel) (by decide +kernel)
theorem w_670 : Cond.static ⟨"java/lang/Math","abs","(I)I"⟩ ∈ m_big := m_big_mem (i := 670) (by decide +kernel) (by decide +kernel)
theorem w_671 : Cond.code ⟨"java/lang/Math","abs","(I)I"⟩ prog_15_method_59_code 1 (Option.some .int) ∈ m_big := m_big_mem (i := 671) (by decide +kernel) (by decide +kernel)
theorem w_1374 : Cond.methodLink "TapeStudio$Match" 91 ⟨"TapeStudio$Match","missAt","(IIII)I"⟩ ∈ m_big := m_big_mem (i := 1374) (by decide +kernel) (by decide +kernel)
theorem w_1377 : Cond.code ⟨"TapeStudio$Match","missAt","(IIII)I"⟩ prog_3_method_8_code 8 (Option.some .int) ∈ m_big := m_big_mem (i := 1377) (by decide +kernel) (by decide +kernel)
theorem w_134 : Cond.initialized "TapeStudio$Match" ∈ m_big := m_big_mem (i := 134) (by decide +kernel) (by decide +kernel)
theorem w_1376 : Cond.instanceMethod ⟨"TapeStudio$Match","missAt","(IIII)I"⟩ ∈ m_big := m_big_mem (i := 1376) (by decide +kernel) (by decide +kernel)
theorem w_56 : Cond.selects "TapeStudio$Match" ⟨"TapeStudio$Match","missAt","(IIII)I"⟩ ⟨"TapeStudio$Match","missAt","(IIII)I"⟩ ∈ m_big := m_big_mem (i := 56) (by decide +kernel) (by decide +kernel)
theorem lm_X1_91 : m_MV RX1 91 yX1_missAt cX1_missAt 8 (some .int) 4 := ⟨⟨Or.inl w_1374, w_134, w_1377, by decide +kernel, by decide⟩, w_1376, w_56⟩
theorem w_399 : Cond.fieldLink "TapeStudio$Match" 69 "TapeStudio$Match" "fitting" "I" ∈ m_big := m_big_mem (i := 399) (by decide +kernel) (by decide +kernel)
theorem lf_X1_69 : m_FL RX1 69 1 7 := ⟨RX1, TX1, 13, rfl, rfl, by decide, by decide, uw_1, Or.inl w_399⟩
theorem w_398 : Cond.fieldLink "TapeStudio$Match" 95 "TapeStudio$Match" "bestSum" "I" ∈ m_big := m_big_mem (i := 398) (by decide +kernel) (by decide +kernel)
theorem lf_X1_95 : m_FL RX1 95 1 6 := ⟨RX1, TX1, 13, rfl, rfl, by decide, by decide, uw_1, Or.inl w_398⟩
theorem w_395 : Cond.fieldLink "TapeStudio$Match" 98 "TapeStudio$Match" "bestStrip" "I" ∈ m_big := m_big_mem (i := 395) (by decide +kernel) (by decide +kernel)
theorem lp_X1_98 : m_PL RX1 98 1 3 .int false := ⟨RX1, TX1, 13, tyX1, rfl, rfl, by decide, by decide, uw_1, Or.inl w_395, rfl, (fun q => by cases q), by decide +kernel, tyX1_ok, nmX1⟩
theorem w_396 : Cond.fieldLink "TapeStudio$Match" 101 "TapeStudio$Match" "bestWay" "I" ∈ m_big := m_big_mem (i := 396) (by decide +kernel) (by decide +kernel)
theorem lp_X1_101 : m_PL RX1 101 1 4 .int false := ⟨RX1, TX1, 13, tyX1, rfl, rfl, by decide, by decide, uw_1, Or.inl w_396, rfl, (fun q => by cases q), by decide +kernel, tyX1_ok, nmX1⟩
theorem w_397 : Cond.fieldLink "TapeStudio$Match" 104 "TapeStudio$Match" "bestPlace" "I" ∈ m_big := m_big_mem (i := 397) (by decide +kernel) (by decide +kernel)
theorem lp_X1_104 : m_PL RX1 104 1 5 .int false := ⟨RX1, TX1, 13, tyX1, rfl, rfl, by decide, by decide, uw_1, Or.inl w_397, rfl, (fun q => by cases q), by decide +kernel, tyX1_ok, nmX1⟩
theorem lp_X1_95 : m_PL RX1 95 1 6 .int false := ⟨RX1, TX1, 13, tyX1, rfl, rfl, by decide, by decide, uw_1, Or.inl w_398, rfl, (fun q => by cases q), by decide +kernel, tyX1_ok, nmX1⟩
theorem lp_X1_69 : m_PL RX1 69 1 7 .int false := ⟨RX1, TX1, 13, tyX1, rfl, rfl, by decide, by decide, uw_1, Or.inl w_399, rfl, (fun q => by cases q), by decide +kernel, tyX1_ok, nmX1⟩
theorem w_165 : Cond.fieldLinkNest "TapeStudio$Match" 76 "TapeStudio$Shelf" "count" "I" "TapeStudio" ∈ m_nest := m_nest_mem (i := 165) (by decide +kernel) (by decide +kernel)
theorem lf_X1_76 : m_FL RX1 76 7 1 := ⟨RX7, TX7, 12, rfl, rfl, by decide, by decide, uw_7, Or.inr ⟨_, w_165⟩⟩
theorem w_1358 : Cond.methodLink "TapeStudio$Match" 79 ⟨"TapeStudio$Match","layable","(I)LTapeStudio$Row;"⟩ ∈ m_big := m_big_mem (i := 1358) (by decide +kernel) (by decide +kernel)
theorem w_1361 : Cond.code ⟨"TapeStudio$Match","layable","(I)LTapeStudio$Row;"⟩ prog_3_method_4_code 3 (Option.some (.object "TapeStudio$Row")) ∈ m_big := m_big_mem (i := 1361) (by decide +kernel) (by decide +kernel)
theorem w_1360 : Cond.instanceMethod ⟨"TapeStudio$Match","layable","(I)LTapeStudio$Row;"⟩ ∈ m_big := m_big_mem (i := 1360) (by decide +kernel) (by decide +kernel)
theorem w_53 : Cond.selects "TapeStudio$Match" ⟨"TapeStudio$Match","layable","(I)LTapeStudio$Row;"⟩ ⟨"TapeStudio$Match","layable","(I)LTapeStudio$Row;"⟩ ∈ m_big := m_big_mem (i := 53) (by decide +kernel) (by decide +kernel)
theorem lm_X1_79 : m_MV RX1 79 yX1_layable cX1_layable 3 (some (.object "TapeStudio$Row")) 1 := ⟨⟨Or.inl w_1358, w_134, w_1361, by decide +kernel, by decide⟩, w_1360, w_53⟩
theorem w_1363 : Cond.methodLink "TapeStudio$Match" 83 ⟨"TapeStudio$Match","fillWay","(LTapeStudio$Row;I)V"⟩ ∈ m_big := m_big_mem (i := 1363) (by decide +kernel) (by decide +kernel)
theorem w_1366 : Cond.code ⟨"TapeStudio$Match","fillWay","(LTapeStudio$Row;I)V"⟩ prog_3_method_5_code 3 (Option.none : Option Jvm.ClassFile.FieldType) ∈ m_big := m_big_mem (i := 1366) (by decide +kernel) (by decide +kernel)
theorem w_1365 : Cond.instanceMethod ⟨"TapeStudio$Match","fillWay","(LTapeStudio$Row;I)V"⟩ ∈ m_big := m_big_mem (i := 1365) (by decide +kernel) (by decide +kernel)
theorem w_54 : Cond.selects "TapeStudio$Match" ⟨"TapeStudio$Match","fillWay","(LTapeStudio$Row;I)V"⟩ ⟨"TapeStudio$Match","fillWay","(LTapeStudio$Row;I)V"⟩ ∈ m_big := m_big_mem (i := 54) (by decide +kernel) (by decide +kernel)
theorem lm_X1_83 : m_MV RX1 83 yX1_fillWay cX1_fillWay 3 none 2 := ⟨⟨Or.inl w_1363, w_134, w_1366, by decide +kernel, by decide⟩, w_1365, w_54⟩
theorem w_1370 : Cond.methodLink "TapeStudio$Match" 87 ⟨"TapeStudio$Match","searchWay","(IIIII)V"⟩ ∈ m_big := m_big_mem (i := 1370) (by decide +kernel) (by decide +kernel)
theorem w_1373 : Cond.code ⟨"TapeStudio$Match","searchWay","(IIIII)V"⟩ prog_3_method_7_code 8 (Option.none : Option Jvm.ClassFile.FieldType) ∈ m_big := m_big_mem (i := 1373) (by decide +kernel) (by decide +kernel)
theorem w_1372 : Cond.instanceMethod ⟨"TapeStudio$Match","searchWay","(IIIII)V"⟩ ∈ m_big := m_big_mem (i := 1372) (by decide +kernel) (by decide +kernel)
theorem w_55 : Cond.selects "TapeStudio$Match" ⟨"TapeStudio$Match","searchWay","(IIIII)V"⟩ ⟨"TapeStudio$Match","searchWay","(IIIII)V"⟩ ∈ m_big := m_big_mem (i := 55) (by decide +kernel) (by decide +kernel)
theorem lm_X1_87 : m_MV RX1 87 yX1_searchWay cX1_searchWay 8 none 5 := ⟨⟨Or.inl w_1370, w_134, w_1373, by decide +kernel, by decide⟩, w_1372, w_55⟩
theorem w_1353 : Cond.methodLink "TapeStudio$Match" 72 ⟨"TapeStudio$Match","isAsked","(II)Z"⟩ ∈ m_big := m_big_mem (i := 1353) (by decide +kernel) (by decide +kernel)
theorem w_1355 : Cond.code ⟨"TapeStudio$Match","isAsked","(II)Z"⟩ prog_3_method_3_code 2 (Option.some .boolean) ∈ m_big := m_big_mem (i := 1355) (by decide +kernel) (by decide +kernel)
theorem w_1354 : Cond.static ⟨"TapeStudio$Match","isAsked","(II)Z"⟩ ∈ m_big := m_big_mem (i := 1354) (by decide +kernel) (by decide +kernel)
theorem lm_X1_72 : m_MS RX1 72 yX1_isAsked cX1_isAsked 2 (some .boolean) 2 := ⟨⟨Or.inl w_1353, w_134, w_1355, by decide +kernel, by decide⟩, w_1354⟩
theorem lf_X1_98 : m_FL RX1 98 1 3 := ⟨RX1, TX1, 13, rfl, rfl, by decide, by decide, uw_1, Or.inl w_395⟩
theorem lf_X1_101 : m_FL RX1 101 1 4 := ⟨RX1, TX1, 13, rfl, rfl, by decide, by decide, uw_1, Or.inl w_396⟩
theorem lf_X1_104 : m_FL RX1 104 1 5 := ⟨RX1, TX1, 13, rfl, rfl, by decide, by decide, uw_1, Or.inl w_397⟩
theorem lf_X1_18 : m_FL RX1 18 1 8 := ⟨RX1, TX1, 13, rfl, rfl, by decide, by decide, uw_1, Or.inl w_401⟩
theorem w_1410 : Cond.methodLinkNest "TapeStudio$Match" 146 ⟨"TapeStudio","entry","([III)I"⟩ "TapeStudio" ∈ m_nest := m_nest_mem (i := 1410) (by decide +kernel) (by decide +kernel)
theorem w_807 : Cond.code ⟨"TapeStudio","entry","([III)I"⟩ prog_1_method_50_code 3 (Option.some .int) ∈ m_big := m_big_mem (i := 807) (by decide +kernel) (by decide +kernel)
theorem w_806 : Cond.static ⟨"TapeStudio","entry","([III)I"⟩ ∈ m_big := m_big_mem (i := 806) (by decide +kernel) (by decide +kernel)
theorem lm_X1_146 : m_MS RX1 146 yX10_entry cX10_entry 3 (some .int) 3 := ⟨⟨Or.inr ⟨_, w_1410⟩, w_126, w_807, by decide +kernel, by decide⟩, w_806⟩
theorem w_1406 : Cond.methodLink "TapeStudio$Match" 139 ⟨"TapeStudio$Match","longestFrom","(I)I"⟩ ∈ m_big := m_big_mem (i := 1406) (by decide +kernel) (by decide +kernel)
theorem w_1409 : Cond.code ⟨"TapeStudio$Match","longestFrom","(I)I"⟩ prog_3_method_12_code 2 (Option.some .int) ∈ m_big := m_big_mem (i := 1409) (by decide +kernel) (by decide +kernel)
theorem w_1408 : Cond.instanceMethod ⟨"TapeStudio$Match","longestFrom","(I)I"⟩ ∈ m_big := m_big_mem (i := 1408) (by decide +kernel) (by decide +kernel)
theorem w_59 : Cond.selects "TapeStudio$Match" ⟨"TapeStudio$Match","longestFrom","(I)I"⟩ ⟨"TapeStudio$Match","longestFrom","(I)I"⟩ ∈ m_big := m_big_mem (i := 59) (by decide +kernel) (by decide +kernel)
theorem lm_X1_139 : m_MV RX1 139 yX1_longestFrom cX1_longestFrom 2 (some .int) 1 := ⟨⟨Or.inl w_1406, w_134, w_1409, by decide +kernel, by decide⟩, w_1408, w_59⟩
theorem lf_X1_25 : m_FL RX1 25 1 10 := ⟨RX1, TX1, 13, rfl, rfl, by decide, by decide, uw_1, Or.inl w_403⟩
theorem w_1411 : Cond.methodLinkNest "TapeStudio$Match" 142 ⟨"TapeStudio","setEntry","([III)V"⟩ "TapeStudio" ∈ m_nest := m_nest_mem (i := 1411) (by decide +kernel) (by decide +kernel)
theorem w_796 : Cond.code ⟨"TapeStudio","setEntry","([III)V"⟩ prog_1_method_51_code 3 (Option.none : Option Jvm.ClassFile.FieldType) ∈ m_big := m_big_mem (i := 796) (by decide +kernel) (by decide +kernel)
theorem w_795 : Cond.static ⟨"TapeStudio","setEntry","([III)V"⟩ ∈ m_big := m_big_mem (i := 795) (by decide +kernel) (by decide +kernel)
theorem lm_X1_142 : m_MS RX1 142 yX10_setEntry cX10_setEntry 3 none 3 := ⟨⟨Or.inr ⟨_, w_1411⟩, w_126, w_796, by decide +kernel, by decide⟩, w_795⟩
theorem w_216 : Cond.fieldLinkNest "TapeStudio$Match" 132 "TapeStudio$Row" "samples" "[I" "TapeStudio" ∈ m_nest := m_nest_mem (i := 216) (by decide +kernel) (by decide +kernel)
theorem lf_X1_132 : m_FL RX1 132 5 0 := ⟨RX5, TX5, 2, rfl, rfl, by decide, by decide, uw_5, Or.inr ⟨_, w_216⟩⟩
theorem w_1405 : Cond.methodLink "TapeStudio$Match" 135 ⟨"java/lang/Math","min","(II)I"⟩ ∈ m_big := m_big_mem (i := 1405) (by decide +kernel) (by decide +kernel)
theorem w_1400 : Cond.methodLink "TapeStudio$Match" 122 ⟨"java/util/Arrays","fill","([II)V"⟩ ∈ m_big := m_big_mem (i := 1400) (by decide +kernel) (by decide +kernel)
theorem w_1168 : Cond.code ⟨"java/util/Arrays","fill","([II)V"⟩ prog_20_method_103_code 4 (Option.none : Option Jvm.ClassFile.FieldType) ∈ m_big := m_big_mem (i := 1168) (by decide +kernel) (by decide +kernel)
theorem w_144 : Cond.initialized "java/util/Arrays" ∈ m_big := m_big_mem (i := 144) (by decide +kernel) (by decide +kernel)
theorem w_1167 : Cond.static ⟨"java/util/Arrays","fill","([II)V"⟩ ∈ m_big := m_big_mem (i := 1167) (by decide +kernel) (by decide +kernel)
theorem lm_X1_122 : m_MS RX1 122 yJ7_fill_53178 cJ7_fill_53178 4 none 2 := ⟨⟨Or.inl w_1400, w_144, w_1168, by decide +kernel, by decide⟩, w_1167⟩
theorem w_182 : Cond.fieldLinkNest "TapeStudio$Match" 119 "TapeStudio$Shelf" "changes" "I" "TapeStudio" ∈ m_nest := m_nest_mem (i := 182) (by decide +kernel) (by decide +kernel)
theorem lf_X1_119 : m_FL RX1 119 7 11 := ⟨RX7, TX7, 12, rfl, rfl, by decide, by decide, uw_7, Or.inr ⟨_, w_182⟩⟩
theorem w_405 : Cond.fieldLink "TapeStudio$Match" 116 "TapeStudio$Match" "measuredChanges" "I" ∈ m_big := m_big_mem (i := 405) (by decide +kernel) (by decide +kernel)
theorem lp_X1_116 : m_PL RX1 116 1 12 .int false := ⟨RX1, TX1, 13, tyX1, rfl, rfl, by decide, by decide, uw_1, Or.inl w_405, rfl, (fun q => by cases q), by decide +kernel, tyX1_ok, nmX1⟩
theorem w_1401 : Cond.methodLink "TapeStudio$Match" 128 ⟨"TapeStudio$Match","measureWay","(I)V"⟩ ∈ m_big := m_big_mem (i := 1401) (by decide +kernel) (by decide +kernel)
theorem w_1404 : Cond.code ⟨"TapeStudio$Match","measureWay","(I)V"⟩ prog_3_method_11_code 10 (Option.none : Option Jvm.ClassFile.FieldType) ∈ m_big := m_big_mem (i := 1404) (by decide +kernel) (by decide +kernel)
theorem w_1403 : Cond.instanceMethod ⟨"TapeStudio$Match","measureWay","(I)V"⟩ ∈ m_big := m_big_mem (i := 1403) (by decide +kernel) (by decide +kernel)
theorem w_58 : Cond.selects "TapeStudio$Match" ⟨"TapeStudio$Match","measureWay","(I)V"⟩ ⟨"TapeStudio$Match","measureWay","(I)V"⟩ ∈ m_big := m_big_mem (i := 58) (by decide +kernel) (by decide +kernel)
theorem lm_X1_128 : m_MV RX1 128 yX1_measureWay cX1_measureWay 10 none 1 := ⟨⟨Or.inl w_1401, w_134, w_1404, by decide +kernel, by decide⟩, w_1403, w_58⟩
theorem lf_X1_28 : m_FL RX1 28 1 11 := ⟨RX1, TX1, 13, rfl, rfl, by decide, by decide, uw_1, Or.inl w_404⟩
theorem lf_X1_116 : m_FL RX1 116 1 12 := ⟨RX1, TX1, 13, rfl, rfl, by decide, by decide, uw_1, Or.inl w_405⟩
theorem lf_X1_22 : m_FL RX1 22 1 9 := ⟨RX1, TX1, 13, rfl, rfl, by decide, by decide, uw_1, Or.inl w_402⟩
theorem w_1412 : Cond.constant "TapeStudio$Match" 153 (Int32.ofInt (1000000)) ∈ m_nest := m_nest_mem (i := 1412) (by decide +kernel) (by decide +kernel)
theorem w_1413 : Cond.methodLink "TapeStudio$Match" 154 ⟨"TapeStudio$Match","fewestFrom","(I)I"⟩ ∈ m_big := m_big_mem (i := 1413) (by decide +kernel) (by decide +kernel)
theorem w_1416 : Cond.code ⟨"TapeStudio$Match","fewestFrom","(I)I"⟩ prog_3_method_14_code 2 (Option.some .int) ∈ m_big := m_big_mem (i := 1416) (by decide +kernel) (by decide +kernel)
theorem w_1415 : Cond.instanceMethod ⟨"TapeStudio$Match","fewestFrom","(I)I"⟩ ∈ m_big := m_big_mem (i := 1415) (by decide +kernel) (by decide +kernel)
theorem w_60 : Cond.selects "TapeStudio$Match" ⟨"TapeStudio$Match","fewestFrom","(I)I"⟩ ⟨"TapeStudio$Match","fewestFrom","(I)I"⟩ ∈ m_big := m_big_mem (i := 60) (by decide +kernel) (by decide +kernel)
theorem lm_X1_154 : m_MV RX1 154 yX1_fewestFrom cX1_fewestFrom 2 (some .int) 1 := ⟨⟨Or.inl w_1413, w_134, w_1416, by decide +kernel, by decide⟩, w_1415, w_60⟩
theorem w_1396 : Cond.methodLink "TapeStudio$Match" 150 ⟨"TapeStudio$Match","measure","(I)V"⟩ ∈ m_big := m_big_mem (i := 1396) (by decide +kernel) (by decide +kernel)
theorem w_1399 : Cond.code ⟨"TapeStudio$Match","measure","(I)V"⟩ prog_3_method_10_code 5 (Option.none : Option Jvm.ClassFile.FieldType) ∈ m_big := m_big_mem (i := 1399) (by decide +kernel) (by decide +kernel)
theorem w_1398 : Cond.instanceMethod ⟨"TapeStudio$Match","measure","(I)V"⟩ ∈ m_big := m_big_mem (i := 1398) (by decide +kernel) (by decide +kernel)
theorem w_57 : Cond.selects "TapeStudio$Match" ⟨"TapeStudio$Match","measure","(I)V"⟩ ⟨"TapeStudio$Match","measure","(I)V"⟩ ∈ m_big := m_big_mem (i := 57) (by decide +kernel) (by decide +kernel)
theorem lm_X1_150 : m_MV RX1 150 yX1_measure cX1_measure 5 none 1 := ⟨⟨Or.inl w_1396, w_134, w_1399, by decide +kernel, by decide⟩, w_1398, w_57⟩
theorem w_1430 : Cond.methodLink "TapeStudio$Match" 160 ⟨"TapeStudio$Match","longestOfFewest","(II)I"⟩ ∈ m_big := m_big_mem (i := 1430) (by decide +kernel) (by decide +kernel)
theorem w_1433 : Cond.code ⟨"TapeStudio$Match","longestOfFewest","(II)I"⟩ prog_3_method_17_code 4 (Option.some .int) ∈ m_big := m_big_mem (i := 1433) (by decide +kernel) (by decide +kernel)
theorem w_1432 : Cond.instanceMethod ⟨"TapeStudio$Match","longestOfFewest","(II)I"⟩ ∈ m_big := m_big_mem (i := 1432) (by decide +kernel) (by decide +kernel)
theorem w_61 : Cond.selects "TapeStudio$Match" ⟨"TapeStudio$Match","longestOfFewest","(II)I"⟩ ⟨"TapeStudio$Match","longestOfFewest","(II)I"⟩ ∈ m_big := m_big_mem (i := 61) (by decide +kernel) (by decide +kernel)
theorem lm_X1_160 : m_MV RX1 160 yX1_longestOfFewest cX1_longestOfFewest 4 (some .int) 2 := ⟨⟨Or.inl w_1430, w_134, w_1433, by decide +kernel, by decide⟩, w_1432, w_61⟩
theorem w_1429 : Cond.methodLink "TapeStudio$Match" 157 ⟨"TapeStudio$Match","stretches","()I"⟩ ∈ m_big := m_big_mem (i := 1429) (by decide +kernel) (by decide +kernel)
theorem w_1420 : Cond.code ⟨"TapeStudio$Match","stretches","()I"⟩ prog_3_method_15_code 1 (Option.some .int) ∈ m_big := m_big_mem (i := 1420) (by decide +kernel) (by decide +kernel)
theorem w_1418 : Cond.instanceMethod ⟨"TapeStudio$Match","stretches","()I"⟩ ∈ m_big := m_big_mem (i := 1418) (by decide +kernel) (by decide +kernel)
theorem w_1419 : Cond.selects "TapeStudio$Match" ⟨"TapeStudio$Match","stretches","()I"⟩ ⟨"TapeStudio$Match","stretches","()I"⟩ ∈ m_big := m_big_mem (i := 1419) (by decide +kernel) (by decide +kernel)
theorem lm_X1_157 : m_MV RX1 157 yX1_stretches cX1_stretches 1 (some .int) 0 := ⟨⟨Or.inl w_1429, w_134, w_1420, by decide +kernel, by decide⟩, w_1418, w_1419⟩
theorem w_234 : Cond.methodLink "TapeStudio$Score" 3 ⟨"java/lang/Object","<init>","()V"⟩ ∈ m_big := m_big_mem (i := 234) (by decide +kernel) (by decide +kernel)
theorem lo_X6_3 : Cond.methodLink RX6 3 objectInit ∈ m_big ∧ Cond.instanceMethod objectInit ∈ m_big ∧ Cond.code objectInit ⟨#[0xb1]⟩ 1 none ∈ m_big := ⟨w_234, w_151, w_152⟩
theorem uw_6 : ∀ w ∈ u_ws RX6 TX6 4, w ∈ m_big := m_sub [247,249,251,253] (by decide +kernel) (by decide +kernel)
theorem vw_6 : vwCl[6]? = some (RX6, TX6, 4) := rfl
theorem w_245 : Cond.fieldLink "TapeStudio$Score" 9 "TapeStudio$Score" "leads" "[I" ∈ m_big := m_big_mem (i := 245) (by decide +kernel) (by decide +kernel)
theorem lp_X6_9 : m_PL RX6 9 6 3 (.array .int) true := ⟨RX6, TX6, 4, tyX6, rfl, rfl, by decide, by decide, uw_6, Or.inl w_245, rfl, fun _ => rfl, by decide +kernel, tyX6_ok, nmX6⟩
theorem w_235 : Cond.fieldLink "TapeStudio$Score" 15 "TapeStudio$Score" "cells" "[I" ∈ m_big := m_big_mem (i := 235) (by decide +kernel) (by decide +kernel)
theorem lp_X6_15 : m_PL RX6 15 6 0 (.array .int) true := ⟨RX6, TX6, 4, tyX6, rfl, rfl, by decide, by decide, uw_6, Or.inl w_235, rfl, fun _ => rfl, by decide +kernel, tyX6_ok, nmX6⟩
theorem w_237 : Cond.fieldLink "TapeStudio$Score" 18 "TapeStudio$Score" "count" "I" ∈ m_big := m_big_mem (i := 237) (by decide +kernel) (by decide +kernel)
theorem lp_X6_18 : m_PL RX6 18 6 1 .int false := ⟨RX6, TX6, 4, tyX6, rfl, rfl, by decide, by decide, uw_6, Or.inl w_237, rfl, (fun q => by cases q), by decide +kernel, tyX6_ok, nmX6⟩
theorem w_324 : Cond.methodLink "TapeStudio$Piece" 3 ⟨"java/lang/Object","<init>","()V"⟩ ∈ m_big := m_big_mem (i := 324) (by decide +kernel) (by decide +kernel)
theorem lo_X2_3 : Cond.methodLink RX2 3 objectInit ∈ m_big ∧ Cond.instanceMethod objectInit ∈ m_big ∧ Cond.code objectInit ⟨#[0xb1]⟩ 1 none ∈ m_big := ⟨w_324, w_151, w_152⟩
theorem w_325 : Cond.classLink "TapeStudio$Piece" 9 "TapeStudio$Row" ∈ m_big := m_big_mem (i := 325) (by decide +kernel) (by decide +kernel)
theorem ln_X2_9 : m_NL RX2 9 5 := ⟨RX5, TX5, 2, tyX5, rfl, rfl, by decide, uw_5, w_325, w_210, w_128, tyX5_ok, by decide +kernel⟩
theorem w_326 : Cond.methodLinkNest "TapeStudio$Piece" 11 ⟨"TapeStudio$Row","<init>","()V"⟩ "TapeStudio" ∈ m_nest := m_nest_mem (i := 326) (by decide +kernel) (by decide +kernel)
theorem lm_X2_11 : m_MI RX2 11 yX5_init cX5_init 1 0 := ⟨⟨Or.inr ⟨_, w_326⟩, w_128, w_213, by decide +kernel, by decide⟩, w_212, rfl⟩
theorem uw_2 : ∀ w ∈ u_ws RX2 TX2 8, w ∈ m_big := m_sub [339,341,343,345,347,349,351,353] (by decide +kernel) (by decide +kernel)
theorem vw_2 : vwCl[2]? = some (RX2, TX2, 8) := rfl
theorem w_330 : Cond.fieldLink "TapeStudio$Piece" 12 "TapeStudio$Piece" "sound" "LTapeStudio$Row;" ∈ m_big := m_big_mem (i := 330) (by decide +kernel) (by decide +kernel)
theorem lp_X2_12 : m_PL RX2 12 2 1 (.object "TapeStudio$Row") true := ⟨RX2, TX2, 8, tyX2, rfl, rfl, by decide, by decide, uw_2, Or.inl w_330, rfl, fun _ => rfl, by decide +kernel, tyX2_ok, nmX2⟩
theorem w_327 : Cond.classLink "TapeStudio$Piece" 18 "TapeStudio$Score" ∈ m_big := m_big_mem (i := 327) (by decide +kernel) (by decide +kernel)
theorem w_230 : Cond.instantiable "TapeStudio$Score" 4 ∈ m_big := m_big_mem (i := 230) (by decide +kernel) (by decide +kernel)
theorem w_130 : Cond.initialized "TapeStudio$Score" ∈ m_big := m_big_mem (i := 130) (by decide +kernel) (by decide +kernel)
theorem ln_X2_18 : m_NL RX2 18 6 := ⟨RX6, TX6, 4, tyX6, rfl, rfl, by decide, uw_6, w_327, w_230, w_130, tyX6_ok, by decide +kernel⟩
theorem w_328 : Cond.methodLink "TapeStudio$Piece" 20 ⟨"TapeStudio$Score","<init>","([II)V"⟩ ∈ m_big := m_big_mem (i := 328) (by decide +kernel) (by decide +kernel)
theorem w_233 : Cond.code ⟨"TapeStudio$Score","<init>","([II)V"⟩ prog_8_method_1_code 3 (Option.none : Option Jvm.ClassFile.FieldType) ∈ m_big := m_big_mem (i := 233) (by decide +kernel) (by decide +kernel)
theorem w_232 : Cond.instanceMethod ⟨"TapeStudio$Score","<init>","([II)V"⟩ ∈ m_big := m_big_mem (i := 232) (by decide +kernel) (by decide +kernel)
theorem lm_X2_20 : m_MI RX2 20 yX6_init cX6_init 3 2 := ⟨⟨Or.inl w_328, w_130, w_233, by decide +kernel, by decide⟩, w_232, rfl⟩
theorem w_332 : Cond.fieldLink "TapeStudio$Piece" 23 "TapeStudio$Piece" "score" "LTapeStudio$Score;" ∈ m_big := m_big_mem (i := 332) (by decide +kernel) (by decide +kernel)
theorem lp_X2_23 : m_PL RX2 23 2 2 (.object "TapeStudio$Score") false := ⟨RX2, TX2, 8, tyX2, rfl, rfl, by decide, by decide, uw_2, Or.inl w_332, rfl, (fun q => by cases q), by decide +kernel, tyX2_ok, nmX2⟩
theorem w_333 : Cond.fieldLink "TapeStudio$Piece" 27 "TapeStudio$Piece" "number" "I" ∈ m_big := m_big_mem (i := 333) (by decide +kernel) (by decide +kernel)
theorem lp_X2_27 : m_PL RX2 27 2 3 .int false := ⟨RX2, TX2, 8, tyX2, rfl, rfl, by decide, by decide, uw_2, Or.inl w_333, rfl, (fun q => by cases q), by decide +kernel, tyX2_ok, nmX2⟩
theorem w_335 : Cond.fieldLink "TapeStudio$Piece" 31 "TapeStudio$Piece" "lengths" "[I" ∈ m_big := m_big_mem (i := 335) (by decide +kernel) (by decide +kernel)
theorem lp_X2_31 : m_PL RX2 31 2 4 (.array .int) true := ⟨RX2, TX2, 8, tyX2, rfl, rfl, by decide, by decide, uw_2, Or.inl w_335, rfl, fun _ => rfl, by decide +kernel, tyX2_ok, nmX2⟩
theorem w_336 : Cond.fieldLink "TapeStudio$Piece" 35 "TapeStudio$Piece" "leads" "[I" ∈ m_big := m_big_mem (i := 336) (by decide +kernel) (by decide +kernel)
theorem lp_X2_35 : m_PL RX2 35 2 5 (.array .int) true := ⟨RX2, TX2, 8, tyX2, rfl, rfl, by decide, by decide, uw_2, Or.inl w_336, rfl, fun _ => rfl, by decide +kernel, tyX2_ok, nmX2⟩
theorem w_329 : Cond.fieldLink "TapeStudio$Piece" 38 "TapeStudio$Piece" "shelf" "LTapeStudio$Shelf;" ∈ m_big := m_big_mem (i := 329) (by decide +kernel) (by decide +kernel)
theorem lp_X2_38 : m_PL RX2 38 2 0 (.object "TapeStudio$Shelf") true := ⟨RX2, TX2, 8, tyX2, rfl, rfl, by decide, by decide, uw_2, Or.inl w_329, rfl, fun _ => rfl, by decide +kernel, tyX2_ok, nmX2⟩
theorem lf_X6_18 : m_FL RX6 18 6 1 := ⟨RX6, TX6, 4, rfl, rfl, by decide, by decide, uw_6, Or.inl w_237⟩
theorem lf_X6_15 : m_FL RX6 15 6 0 := ⟨RX6, TX6, 4, rfl, rfl, by decide, by decide, uw_6, Or.inl w_235⟩
theorem w_1040 : Cond.methodLink "TapeStudio$Score" 22 ⟨"TapeStudio$Score","cell","(II)I"⟩ ∈ m_big := m_big_mem (i := 1040) (by decide +kernel) (by decide +kernel)
theorem w_1043 : Cond.code ⟨"TapeStudio$Score","cell","(II)I"⟩ prog_8_method_2_code 4 (Option.some .int) ∈ m_big := m_big_mem (i := 1043) (by decide +kernel) (by decide +kernel)
theorem w_1041 : Cond.instanceMethod ⟨"TapeStudio$Score","cell","(II)I"⟩ ∈ m_big := m_big_mem (i := 1041) (by decide +kernel) (by decide +kernel)
theorem w_1042 : Cond.selects "TapeStudio$Score" ⟨"TapeStudio$Score","cell","(II)I"⟩ ⟨"TapeStudio$Score","cell","(II)I"⟩ ∈ m_big := m_big_mem (i := 1042) (by decide +kernel) (by decide +kernel)
theorem lm_X6_22 : m_MV RX6 22 yX6_cell cX6_cell 4 (some .int) 2 := ⟨⟨Or.inl w_1040, w_130, w_1043, by decide +kernel, by decide⟩, w_1041, w_1042⟩
theorem uw_3 : ∀ w ∈ u_ws RX3 TX3 5, w ∈ m_big := m_sub [308,310,312,314,316] (by decide +kernel) (by decide +kernel)
theorem vw_3 : vwCl[3]? = some (RX3, TX3, 5) := rfl
theorem w_304 : Cond.fieldLink "TapeStudio$Player" 18 "TapeStudio$Player" "silent" "LTapeStudio$Row;" ∈ m_big := m_big_mem (i := 304) (by decide +kernel) (by decide +kernel)
theorem lf_X3_18 : m_FL RX3 18 3 2 := ⟨RX3, TX3, 5, rfl, rfl, by decide, by decide, uw_3, Or.inl w_304⟩
theorem w_303 : Cond.fieldLink "TapeStudio$Player" 11 "TapeStudio$Player" "rows" "[LTapeStudio$Row;" ∈ m_big := m_big_mem (i := 303) (by decide +kernel) (by decide +kernel)
theorem lf_X3_11 : m_FL RX3 11 3 1 := ⟨RX3, TX3, 5, rfl, rfl, by decide, by decide, uw_3, Or.inl w_303⟩
theorem lf_X2_23 : m_FL RX2 23 2 2 := ⟨RX2, TX2, 8, rfl, rfl, by decide, by decide, uw_2, Or.inl w_332⟩
theorem w_1152 : Cond.methodLink "TapeStudio$Piece" 105 ⟨"TapeStudio$Score","cell","(II)I"⟩ ∈ m_big := m_big_mem (i := 1152) (by decide +kernel) (by decide +kernel)
theorem lm_X2_105 : m_MV RX2 105 yX6_cell cX6_cell 4 (some .int) 2 := ⟨⟨Or.inl w_1152, w_130, w_1043, by decide +kernel, by decide⟩, w_1041, w_1042⟩
theorem lf_X2_31 : m_FL RX2 31 2 4 := ⟨RX2, TX2, 8, rfl, rfl, by decide, by decide, uw_2, Or.inl w_335⟩
theorem w_1142 : Cond.methodLinkNest "TapeStudio$Piece" 48 ⟨"TapeStudio","entry","([III)I"⟩ "TapeStudio" ∈ m_nest := m_nest_mem (i := 1142) (by decide +kernel) (by decide +kernel)
theorem lm_X2_48 : m_MS RX2 48 yX10_entry cX10_entry 3 (some .int) 3 := ⟨⟨Or.inr ⟨_, w_1142⟩, w_126, w_807, by decide +kernel, by decide⟩, w_806⟩
theorem w_1166 : Cond.methodLink "TapeStudio$Row" 47 ⟨"java/util/Arrays","fill","([II)V"⟩ ∈ m_big := m_big_mem (i := 1166) (by decide +kernel) (by decide +kernel)
theorem lm_X5_47 : m_MS RX5 47 yJ7_fill_53178 cJ7_fill_53178 4 none 2 := ⟨⟨Or.inl w_1166, w_144, w_1168, by decide +kernel, by decide⟩, w_1167⟩
theorem w_1148 : Cond.methodLink "TapeStudio$Piece" 72 ⟨"TapeStudio$Piece","times","(I)I"⟩ ∈ m_big := m_big_mem (i := 1148) (by decide +kernel) (by decide +kernel)
theorem w_1151 : Cond.code ⟨"TapeStudio$Piece","times","(I)I"⟩ prog_4_method_5_code 2 (Option.some .int) ∈ m_big := m_big_mem (i := 1151) (by decide +kernel) (by decide +kernel)
theorem w_132 : Cond.initialized "TapeStudio$Piece" ∈ m_big := m_big_mem (i := 132) (by decide +kernel) (by decide +kernel)
theorem w_1150 : Cond.instanceMethod ⟨"TapeStudio$Piece","times","(I)I"⟩ ∈ m_big := m_big_mem (i := 1150) (by decide +kernel) (by decide +kernel)
theorem w_35 : Cond.selects "TapeStudio$Piece" ⟨"TapeStudio$Piece","times","(I)I"⟩ ⟨"TapeStudio$Piece","times","(I)I"⟩ ∈ m_big := m_big_mem (i := 35) (by decide +kernel) (by decide +kernel)
theorem lm_X2_72 : m_MV RX2 72 yX2_times cX2_times 2 (some .int) 1 := ⟨⟨Or.inl w_1148, w_132, w_1151, by decide +kernel, by decide⟩, w_1150, w_35⟩
theorem w_1153 : Cond.methodLink "TapeStudio$Piece" 75 ⟨"TapeStudio$Piece","beginOf","(II)I"⟩ ∈ m_big := m_big_mem (i := 1153) (by decide +kernel) (by decide +kernel)
theorem w_1156 : Cond.code ⟨"TapeStudio$Piece","beginOf","(II)I"⟩ prog_4_method_6_code 3 (Option.some .int) ∈ m_big := m_big_mem (i := 1156) (by decide +kernel) (by decide +kernel)
theorem w_1155 : Cond.instanceMethod ⟨"TapeStudio$Piece","beginOf","(II)I"⟩ ∈ m_big := m_big_mem (i := 1155) (by decide +kernel) (by decide +kernel)
theorem w_36 : Cond.selects "TapeStudio$Piece" ⟨"TapeStudio$Piece","beginOf","(II)I"⟩ ⟨"TapeStudio$Piece","beginOf","(II)I"⟩ ∈ m_big := m_big_mem (i := 36) (by decide +kernel) (by decide +kernel)
theorem lm_X2_75 : m_MV RX2 75 yX2_beginOf cX2_beginOf 3 (some .int) 2 := ⟨⟨Or.inl w_1153, w_132, w_1156, by decide +kernel, by decide⟩, w_1155, w_36⟩
theorem w_1147 : Cond.methodLink "TapeStudio$Piece" 68 ⟨"TapeStudio$Row","size","()I"⟩ ∈ m_big := m_big_mem (i := 1147) (by decide +kernel) (by decide +kernel)
theorem lm_X2_68 : m_MV RX2 68 yX5_size cX5_size 1 (some .int) 0 := ⟨⟨Or.inl w_1147, w_128, w_471, by decide +kernel, by decide⟩, w_469, w_470⟩
theorem lf_X2_12 : m_FL RX2 12 2 1 := ⟨RX2, TX2, 8, rfl, rfl, by decide, by decide, uw_2, Or.inl w_330⟩
theorem w_1173 : Cond.methodLink "TapeStudio$Piece" 98 ⟨"TapeStudio$Row","get","(I)I"⟩ ∈ m_big := m_big_mem (i := 1173) (by decide +kernel) (by decide +kernel)
theorem lm_X2_98 : m_MV RX2 98 yX5_get cX5_get 2 (some .int) 1 := ⟨⟨Or.inl w_1173, w_128, w_595, by decide +kernel, by decide⟩, w_593, w_594⟩
theorem w_1174 : Cond.methodLink "TapeStudio$Piece" 101 ⟨"TapeStudio$Row","raise","(II)V"⟩ ∈ m_big := m_big_mem (i := 1174) (by decide +kernel) (by decide +kernel)
theorem w_1177 : Cond.code ⟨"TapeStudio$Row","raise","(II)V"⟩ prog_7_method_5_code 3 (Option.none : Option Jvm.ClassFile.FieldType) ∈ m_big := m_big_mem (i := 1177) (by decide +kernel) (by decide +kernel)
theorem w_1175 : Cond.instanceMethod ⟨"TapeStudio$Row","raise","(II)V"⟩ ∈ m_big := m_big_mem (i := 1175) (by decide +kernel) (by decide +kernel)
theorem w_1176 : Cond.selects "TapeStudio$Row" ⟨"TapeStudio$Row","raise","(II)V"⟩ ⟨"TapeStudio$Row","raise","(II)V"⟩ ∈ m_big := m_big_mem (i := 1176) (by decide +kernel) (by decide +kernel)
theorem lm_X2_101 : m_MV RX2 101 yX5_raise cX5_raise 3 none 2 := ⟨⟨Or.inl w_1174, w_128, w_1177, by decide +kernel, by decide⟩, w_1175, w_1176⟩
theorem w_238 : Cond.fieldLinkNest "TapeStudio$Piece" 42 "TapeStudio$Score" "count" "I" "TapeStudio" ∈ m_nest := m_nest_mem (i := 238) (by decide +kernel) (by decide +kernel)
theorem lf_X2_42 : m_FL RX2 42 6 1 := ⟨RX6, TX6, 4, rfl, rfl, by decide, by decide, uw_6, Or.inr ⟨_, w_238⟩⟩
theorem w_1145 : Cond.methodLink "TapeStudio$Piece" 60 ⟨"TapeStudio$Score","one","(I)I"⟩ ∈ m_big := m_big_mem (i := 1145) (by decide +kernel) (by decide +kernel)
theorem w_1067 : Cond.code ⟨"TapeStudio$Score","one","(I)I"⟩ prog_8_method_4_code 2 (Option.some .int) ∈ m_big := m_big_mem (i := 1067) (by decide +kernel) (by decide +kernel)
theorem w_1065 : Cond.instanceMethod ⟨"TapeStudio$Score","one","(I)I"⟩ ∈ m_big := m_big_mem (i := 1065) (by decide +kernel) (by decide +kernel)
theorem w_1066 : Cond.selects "TapeStudio$Score" ⟨"TapeStudio$Score","one","(I)I"⟩ ⟨"TapeStudio$Score","one","(I)I"⟩ ∈ m_big := m_big_mem (i := 1066) (by decide +kernel) (by decide +kernel)
theorem lm_X2_60 : m_MV RX2 60 yX6_one cX6_one 2 (some .int) 1 := ⟨⟨Or.inl w_1145, w_130, w_1067, by decide +kernel, by decide⟩, w_1065, w_1066⟩
theorem w_1146 : Cond.methodLink "TapeStudio$Piece" 64 ⟨"TapeStudio$Player","row","(I)LTapeStudio$Row;"⟩ ∈ m_big := m_big_mem (i := 1146) (by decide +kernel) (by decide +kernel)
theorem w_1071 : Cond.code ⟨"TapeStudio$Player","row","(I)LTapeStudio$Row;"⟩ prog_5_method_2_code 2 (Option.some (.object "TapeStudio$Row")) ∈ m_big := m_big_mem (i := 1071) (by decide +kernel) (by decide +kernel)
theorem w_131 : Cond.initialized "TapeStudio$Player" ∈ m_big := m_big_mem (i := 131) (by decide +kernel) (by decide +kernel)
theorem w_1069 : Cond.instanceMethod ⟨"TapeStudio$Player","row","(I)LTapeStudio$Row;"⟩ ∈ m_big := m_big_mem (i := 1069) (by decide +kernel) (by decide +kernel)
theorem w_1070 : Cond.selects "TapeStudio$Player" ⟨"TapeStudio$Player","row","(I)LTapeStudio$Row;"⟩ ⟨"TapeStudio$Player","row","(I)LTapeStudio$Row;"⟩ ∈ m_big := m_big_mem (i := 1070) (by decide +kernel) (by decide +kernel)
theorem lm_X2_64 : m_MV RX2 64 yX3_row cX3_row 2 (some (.object "TapeStudio$Row")) 1 := ⟨⟨Or.inl w_1146, w_131, w_1071, by decide +kernel, by decide⟩, w_1069, w_1070⟩
theorem w_1169 : Cond.methodLink "TapeStudio$Piece" 91 ⟨"TapeStudio$Piece","layPut","(ILTapeStudio$Row;)V"⟩ ∈ m_big := m_big_mem (i := 1169) (by decide +kernel) (by decide +kernel)
theorem w_1172 : Cond.code ⟨"TapeStudio$Piece","layPut","(ILTapeStudio$Row;)V"⟩ prog_4_method_3_code 6 (Option.none : Option Jvm.ClassFile.FieldType) ∈ m_big := m_big_mem (i := 1172) (by decide +kernel) (by decide +kernel)
theorem w_1171 : Cond.instanceMethod ⟨"TapeStudio$Piece","layPut","(ILTapeStudio$Row;)V"⟩ ∈ m_big := m_big_mem (i := 1171) (by decide +kernel) (by decide +kernel)
theorem w_38 : Cond.selects "TapeStudio$Piece" ⟨"TapeStudio$Piece","layPut","(ILTapeStudio$Row;)V"⟩ ⟨"TapeStudio$Piece","layPut","(ILTapeStudio$Row;)V"⟩ ∈ m_big := m_big_mem (i := 38) (by decide +kernel) (by decide +kernel)
theorem lm_X2_91 : m_MV RX2 91 yX2_layPut cX2_layPut 6 none 2 := ⟨⟨Or.inl w_1169, w_132, w_1172, by decide +kernel, by decide⟩, w_1171, w_38⟩
theorem w_1178 : Cond.methodLink "TapeStudio$Piece" 95 ⟨"TapeStudio$Row","limit","()V"⟩ ∈ m_big := m_big_mem (i := 1178) (by decide +kernel) (by decide +kernel)
theorem w_1181 : Cond.code ⟨"TapeStudio$Row","limit","()V"⟩ prog_7_method_6_code 2 (Option.none : Option Jvm.ClassFile.FieldType) ∈ m_big := m_big_mem (i := 1181) (by decide +kernel) (by decide +kernel)
theorem w_1179 : Cond.instanceMethod ⟨"TapeStudio$Row","limit","()V"⟩ ∈ m_big := m_big_mem (i := 1179) (by decide +kernel) (by decide +kernel)
theorem w_1180 : Cond.selects "TapeStudio$Row" ⟨"TapeStudio$Row","limit","()V"⟩ ⟨"TapeStudio$Row","limit","()V"⟩ ∈ m_big := m_big_mem (i := 1180) (by decide +kernel) (by decide +kernel)
theorem lm_X2_95 : m_MV RX2 95 yX5_limit cX5_limit 2 none 0 := ⟨⟨Or.inl w_1178, w_128, w_1181, by decide +kernel, by decide⟩, w_1179, w_1180⟩
theorem lf_X2_35 : m_FL RX2 35 2 5 := ⟨RX2, TX2, 8, rfl, rfl, by decide, by decide, uw_2, Or.inl w_336⟩
theorem w_306 : Cond.fieldLinkNest "TapeStudio$Piece" 45 "TapeStudio$Player" "leads" "[I" "TapeStudio" ∈ m_nest := m_nest_mem (i := 306) (by decide +kernel) (by decide +kernel)
theorem lf_X2_45 : m_FL RX2 45 3 3 := ⟨RX3, TX3, 5, rfl, rfl, by decide, by decide, uw_3, Or.inr ⟨_, w_306⟩⟩
theorem w_1143 : Cond.methodLinkNest "TapeStudio$Piece" 52 ⟨"TapeStudio","setEntry","([III)V"⟩ "TapeStudio" ∈ m_nest := m_nest_mem (i := 1143) (by decide +kernel) (by decide +kernel)
theorem lm_X2_52 : m_MS RX2 52 yX10_setEntry cX10_setEntry 3 none 3 := ⟨⟨Or.inr ⟨_, w_1143⟩, w_126, w_796, by decide +kernel, by decide⟩, w_795⟩
theorem w_1144 : Cond.methodLink "TapeStudio$Piece" 56 ⟨"TapeStudio$Score","isPut","(I)Z"⟩ ∈ m_big := m_big_mem (i := 1144) (by decide +kernel) (by decide +kernel)
theorem w_1058 : Cond.code ⟨"TapeStudio$Score","isPut","(I)Z"⟩ prog_8_method_8_code 2 (Option.some .boolean) ∈ m_big := m_big_mem (i := 1058) (by decide +kernel) (by decide +kernel)
theorem w_1056 : Cond.instanceMethod ⟨"TapeStudio$Score","isPut","(I)Z"⟩ ∈ m_big := m_big_mem (i := 1056) (by decide +kernel) (by decide +kernel)
theorem w_1057 : Cond.selects "TapeStudio$Score" ⟨"TapeStudio$Score","isPut","(I)Z"⟩ ⟨"TapeStudio$Score","isPut","(I)Z"⟩ ∈ m_big := m_big_mem (i := 1057) (by decide +kernel) (by decide +kernel)
theorem lm_X2_56 : m_MV RX2 56 yX6_isPut cX6_isPut 2 (some .boolean) 1 := ⟨⟨Or.inl w_1144, w_130, w_1058, by decide +kernel, by decide⟩, w_1056, w_1057⟩
theorem w_1157 : Cond.methodLink "TapeStudio$Piece" 79 ⟨"TapeStudio$Piece","length","(I)I"⟩ ∈ m_big := m_big_mem (i := 1157) (by decide +kernel) (by decide +kernel)
theorem w_1160 : Cond.code ⟨"TapeStudio$Piece","length","(I)I"⟩ prog_4_method_4_code 2 (Option.some .int) ∈ m_big := m_big_mem (i := 1160) (by decide +kernel) (by decide +kernel)
theorem w_1159 : Cond.instanceMethod ⟨"TapeStudio$Piece","length","(I)I"⟩ ∈ m_big := m_big_mem (i := 1159) (by decide +kernel) (by decide +kernel)
theorem w_37 : Cond.selects "TapeStudio$Piece" ⟨"TapeStudio$Piece","length","(I)I"⟩ ⟨"TapeStudio$Piece","length","(I)I"⟩ ∈ m_big := m_big_mem (i := 37) (by decide +kernel) (by decide +kernel)
theorem lm_X2_79 : m_MV RX2 79 yX2_length cX2_length 2 (some .int) 1 := ⟨⟨Or.inl w_1157, w_132, w_1160, by decide +kernel, by decide⟩, w_1159, w_37⟩
theorem w_1161 : Cond.methodLink "TapeStudio$Piece" 82 ⟨"java/lang/Math","max","(II)I"⟩ ∈ m_big := m_big_mem (i := 1161) (by decide +kernel) (by decide +kernel)
theorem w_1162 : Cond.methodLink "TapeStudio$Piece" 87 ⟨"TapeStudio$Row","silence","(I)V"⟩ ∈ m_big := m_big_mem (i := 1162) (by decide +kernel) (by decide +kernel)
theorem w_1165 : Cond.code ⟨"TapeStudio$Row","silence","(I)V"⟩ prog_7_method_9_code 2 (Option.none : Option Jvm.ClassFile.FieldType) ∈ m_big := m_big_mem (i := 1165) (by decide +kernel) (by decide +kernel)
theorem w_1163 : Cond.instanceMethod ⟨"TapeStudio$Row","silence","(I)V"⟩ ∈ m_big := m_big_mem (i := 1163) (by decide +kernel) (by decide +kernel)
theorem w_1164 : Cond.selects "TapeStudio$Row" ⟨"TapeStudio$Row","silence","(I)V"⟩ ⟨"TapeStudio$Row","silence","(I)V"⟩ ∈ m_big := m_big_mem (i := 1164) (by decide +kernel) (by decide +kernel)
theorem lm_X2_87 : m_MV RX2 87 yX5_silence cX5_silence 2 none 1 := ⟨⟨Or.inl w_1162, w_128, w_1165, by decide +kernel, by decide⟩, w_1163, w_1164⟩
theorem w_1202 : Cond.methodLink "TapeStudio$Piece" 112 ⟨"TapeStudio$Piece","beginWith","(II)I"⟩ ∈ m_big := m_big_mem (i := 1202) (by decide +kernel) (by decide +kernel)
theorem w_1205 : Cond.code ⟨"TapeStudio$Piece","beginWith","(II)I"⟩ prog_4_method_8_code 5 (Option.some .int) ∈ m_big := m_big_mem (i := 1205) (by decide +kernel) (by decide +kernel)
theorem w_1204 : Cond.instanceMethod ⟨"TapeStudio$Piece","beginWith","(II)I"⟩ ∈ m_big := m_big_mem (i := 1204) (by decide +kernel) (by decide +kernel)
theorem w_40 : Cond.selects "TapeStudio$Piece" ⟨"TapeStudio$Piece","beginWith","(II)I"⟩ ⟨"TapeStudio$Piece","beginWith","(II)I"⟩ ∈ m_big := m_big_mem (i := 40) (by decide +kernel) (by decide +kernel)
theorem lm_X2_112 : m_MV RX2 112 yX2_beginWith cX2_beginWith 5 (some .int) 2 := ⟨⟨Or.inl w_1202, w_132, w_1205, by decide +kernel, by decide⟩, w_1204, w_40⟩
theorem w_1206 : Cond.methodLink "TapeStudio$Piece" 115 ⟨"TapeStudio$Piece","bit","(I)J"⟩ ∈ m_big := m_big_mem (i := 1206) (by decide +kernel) (by decide +kernel)
theorem w_1208 : Cond.code ⟨"TapeStudio$Piece","bit","(I)J"⟩ prog_4_method_11_code 1 (Option.some .long) ∈ m_big := m_big_mem (i := 1208) (by decide +kernel) (by decide +kernel)
theorem w_1207 : Cond.static ⟨"TapeStudio$Piece","bit","(I)J"⟩ ∈ m_big := m_big_mem (i := 1207) (by decide +kernel) (by decide +kernel)
theorem lm_X2_115 : m_MS RX2 115 yX2_bit cX2_bit 1 (some .long) 1 := ⟨⟨Or.inl w_1206, w_132, w_1208, by decide +kernel, by decide⟩, w_1207⟩
theorem w_1209 : Cond.methodLink "TapeStudio$Piece" 118 ⟨"TapeStudio$Score","other","(I)I"⟩ ∈ m_big := m_big_mem (i := 1209) (by decide +kernel) (by decide +kernel)
theorem w_1098 : Cond.code ⟨"TapeStudio$Score","other","(I)I"⟩ prog_8_method_5_code 2 (Option.some .int) ∈ m_big := m_big_mem (i := 1098) (by decide +kernel) (by decide +kernel)
theorem w_1096 : Cond.instanceMethod ⟨"TapeStudio$Score","other","(I)I"⟩ ∈ m_big := m_big_mem (i := 1096) (by decide +kernel) (by decide +kernel)
theorem w_1097 : Cond.selects "TapeStudio$Score" ⟨"TapeStudio$Score","other","(I)I"⟩ ⟨"TapeStudio$Score","other","(I)I"⟩ ∈ m_big := m_big_mem (i := 1097) (by decide +kernel) (by decide +kernel)
theorem lm_X2_118 : m_MV RX2 118 yX6_other cX6_other 2 (some .int) 1 := ⟨⟨Or.inl w_1209, w_130, w_1098, by decide +kernel, by decide⟩, w_1096, w_1097⟩
theorem w_1198 : Cond.methodLink "TapeStudio$Piece" 108 ⟨"TapeStudio$Piece","reasons","(I)J"⟩ ∈ m_big := m_big_mem (i := 1198) (by decide +kernel) (by decide +kernel)
theorem w_1201 : Cond.code ⟨"TapeStudio$Piece","reasons","(I)J"⟩ prog_4_method_10_code 5 (Option.some .long) ∈ m_big := m_big_mem (i := 1201) (by decide +kernel) (by decide +kernel)
theorem w_1200 : Cond.instanceMethod ⟨"TapeStudio$Piece","reasons","(I)J"⟩ ∈ m_big := m_big_mem (i := 1200) (by decide +kernel) (by decide +kernel)
theorem w_39 : Cond.selects "TapeStudio$Piece" ⟨"TapeStudio$Piece","reasons","(I)J"⟩ ⟨"TapeStudio$Piece","reasons","(I)J"⟩ ∈ m_big := m_big_mem (i := 39) (by decide +kernel) (by decide +kernel)
theorem lm_X2_108 : m_MV RX2 108 yX2_reasons cX2_reasons 5 (some .long) 1 := ⟨⟨Or.inl w_1198, w_132, w_1201, by decide +kernel, by decide⟩, w_1200, w_39⟩
theorem w_1222 : Cond.methodLink "TapeStudio$Piece" 136 ⟨"TapeStudio$Piece","track","(I)I"⟩ ∈ m_big := m_big_mem (i := 1222) (by decide +kernel) (by decide +kernel)
theorem w_1225 : Cond.code ⟨"TapeStudio$Piece","track","(I)I"⟩ prog_4_method_7_code 2 (Option.some .int) ∈ m_big := m_big_mem (i := 1225) (by decide +kernel) (by decide +kernel)
theorem w_1224 : Cond.instanceMethod ⟨"TapeStudio$Piece","track","(I)I"⟩ ∈ m_big := m_big_mem (i := 1224) (by decide +kernel) (by decide +kernel)
theorem w_42 : Cond.selects "TapeStudio$Piece" ⟨"TapeStudio$Piece","track","(I)I"⟩ ⟨"TapeStudio$Piece","track","(I)I"⟩ ∈ m_big := m_big_mem (i := 42) (by decide +kernel) (by decide +kernel)
theorem lm_X2_136 : m_MV RX2 136 yX2_track cX2_track 2 (some .int) 1 := ⟨⟨Or.inl w_1222, w_132, w_1225, by decide +kernel, by decide⟩, w_1224, w_42⟩
theorem w_175 : Cond.fieldLink "TapeStudio$Shelf" 44 "TapeStudio$Shelf" "machineCount" "I" ∈ m_big := m_big_mem (i := 175) (by decide +kernel) (by decide +kernel)
theorem lf_X7_44 : m_FL RX7 44 7 6 := ⟨RX7, TX7, 12, rfl, rfl, by decide, by decide, uw_7, Or.inl w_175⟩
theorem w_174 : Cond.fieldLink "TapeStudio$Shelf" 19 "TapeStudio$Shelf" "machines" "[LTapeStudio$Machine;" ∈ m_big := m_big_mem (i := 174) (by decide +kernel) (by decide +kernel)
theorem lf_X7_19 : m_FL RX7 19 7 5 := ⟨RX7, TX7, 12, rfl, rfl, by decide, by decide, uw_7, Or.inl w_174⟩
theorem w_337 : Cond.fieldLink "TapeStudio$Piece" 124 "TapeStudio$Piece" "backOrder" "I" ∈ m_big := m_big_mem (i := 337) (by decide +kernel) (by decide +kernel)
theorem lf_X2_124 : m_FL RX2 124 2 6 := ⟨RX2, TX2, 8, rfl, rfl, by decide, by decide, uw_2, Or.inl w_337⟩
theorem w_1234 : Cond.methodLink "TapeStudio$Piece" 139 ⟨"TapeStudio$Score","number","(II)I"⟩ ∈ m_big := m_big_mem (i := 1234) (by decide +kernel) (by decide +kernel)
theorem w_1039 : Cond.code ⟨"TapeStudio$Score","number","(II)I"⟩ prog_8_method_6_code 3 (Option.some .int) ∈ m_big := m_big_mem (i := 1039) (by decide +kernel) (by decide +kernel)
theorem w_1037 : Cond.instanceMethod ⟨"TapeStudio$Score","number","(II)I"⟩ ∈ m_big := m_big_mem (i := 1037) (by decide +kernel) (by decide +kernel)
theorem w_1038 : Cond.selects "TapeStudio$Score" ⟨"TapeStudio$Score","number","(II)I"⟩ ⟨"TapeStudio$Score","number","(II)I"⟩ ∈ m_big := m_big_mem (i := 1038) (by decide +kernel) (by decide +kernel)
theorem lm_X2_139 : m_MV RX2 139 yX6_number cX6_number 3 (some .int) 2 := ⟨⟨Or.inl w_1234, w_130, w_1039, by decide +kernel, by decide⟩, w_1037, w_1038⟩
theorem lp_X2_124 : m_PL RX2 124 2 6 .int false := ⟨RX2, TX2, 8, tyX2, rfl, rfl, by decide, by decide, uw_2, Or.inl w_337, rfl, (fun q => by cases q), by decide +kernel, tyX2_ok, nmX2⟩
theorem w_1235 : Cond.methodLink "TapeStudio$Piece" 141 ⟨"TapeStudio$Score","verb","(I)I"⟩ ∈ m_big := m_big_mem (i := 1235) (by decide +kernel) (by decide +kernel)
theorem w_1047 : Cond.code ⟨"TapeStudio$Score","verb","(I)I"⟩ prog_8_method_3_code 2 (Option.some .int) ∈ m_big := m_big_mem (i := 1047) (by decide +kernel) (by decide +kernel)
theorem w_1045 : Cond.instanceMethod ⟨"TapeStudio$Score","verb","(I)I"⟩ ∈ m_big := m_big_mem (i := 1045) (by decide +kernel) (by decide +kernel)
theorem w_1046 : Cond.selects "TapeStudio$Score" ⟨"TapeStudio$Score","verb","(I)I"⟩ ⟨"TapeStudio$Score","verb","(I)I"⟩ ∈ m_big := m_big_mem (i := 1046) (by decide +kernel) (by decide +kernel)
theorem lm_X2_141 : m_MV RX2 141 yX6_verb cX6_verb 2 (some .int) 1 := ⟨⟨Or.inl w_1235, w_130, w_1047, by decide +kernel, by decide⟩, w_1045, w_1046⟩
theorem w_338 : Cond.fieldLink "TapeStudio$Piece" 127 "TapeStudio$Piece" "backPlace" "I" ∈ m_big := m_big_mem (i := 338) (by decide +kernel) (by decide +kernel)
theorem lf_X2_127 : m_FL RX2 127 2 7 := ⟨RX2, TX2, 8, rfl, rfl, by decide, by decide, uw_2, Or.inl w_338⟩
theorem lp_X2_127 : m_PL RX2 127 2 7 .int false := ⟨RX2, TX2, 8, tyX2, rfl, rfl, by decide, by decide, uw_2, Or.inl w_338, rfl, (fun q => by cases q), by decide +kernel, tyX2_ok, nmX2⟩
theorem w_1236 : Cond.methodLink "TapeStudio$Piece" 144 ⟨"TapeStudio$Piece","quotient","(II)I"⟩ ∈ m_big := m_big_mem (i := 1236) (by decide +kernel) (by decide +kernel)
theorem w_1238 : Cond.code ⟨"TapeStudio$Piece","quotient","(II)I"⟩ prog_4_method_15_code 2 (Option.some .int) ∈ m_big := m_big_mem (i := 1238) (by decide +kernel) (by decide +kernel)
theorem w_1237 : Cond.static ⟨"TapeStudio$Piece","quotient","(II)I"⟩ ∈ m_big := m_big_mem (i := 1237) (by decide +kernel) (by decide +kernel)
theorem lm_X2_144 : m_MS RX2 144 yX2_quotient cX2_quotient 2 (some .int) 2 := ⟨⟨Or.inl w_1236, w_132, w_1238, by decide +kernel, by decide⟩, w_1237⟩
theorem lf_X2_38 : m_FL RX2 38 2 0 := ⟨RX2, TX2, 8, rfl, rfl, by decide, by decide, uw_2, Or.inl w_329⟩
theorem w_1239 : Cond.methodLink "TapeStudio$Piece" 147 ⟨"TapeStudio$Shelf","machineOf","(I)LTapeStudio$Machine;"⟩ ∈ m_big := m_big_mem (i := 1239) (by decide +kernel) (by decide +kernel)
theorem w_730 : Cond.code ⟨"TapeStudio$Shelf","machineOf","(I)LTapeStudio$Machine;"⟩ prog_9_method_4_code 2 (Option.some (.object "TapeStudio$Machine")) ∈ m_big := m_big_mem (i := 730) (by decide +kernel) (by decide +kernel)
theorem w_728 : Cond.instanceMethod ⟨"TapeStudio$Shelf","machineOf","(I)LTapeStudio$Machine;"⟩ ∈ m_big := m_big_mem (i := 728) (by decide +kernel) (by decide +kernel)
theorem w_729 : Cond.selects "TapeStudio$Shelf" ⟨"TapeStudio$Shelf","machineOf","(I)LTapeStudio$Machine;"⟩ ⟨"TapeStudio$Shelf","machineOf","(I)LTapeStudio$Machine;"⟩ ∈ m_big := m_big_mem (i := 729) (by decide +kernel) (by decide +kernel)
theorem lm_X2_147 : m_MV RX2 147 yX7_machineOf cX7_machineOf 2 (some (.object "TapeStudio$Machine")) 1 := ⟨⟨Or.inl w_1239, w_127, w_730, by decide +kernel, by decide⟩, w_728, w_729⟩
theorem w_1240 : Cond.methodLink "TapeStudio$Piece" 153 ⟨"TapeStudio$Machine","copyPace","()I"⟩ ∈ m_big := m_big_mem (i := 1240) (by decide +kernel) (by decide +kernel)
theorem w_734 : Cond.code ⟨"TapeStudio$Machine","copyPace","()I"⟩ prog_2_method_2_code 1 (Option.some .int) ∈ m_big := m_big_mem (i := 734) (by decide +kernel) (by decide +kernel)
theorem w_139 : Cond.initialized "TapeStudio$Machine" ∈ m_big := m_big_mem (i := 139) (by decide +kernel) (by decide +kernel)
theorem w_732 : Cond.instanceMethod ⟨"TapeStudio$Machine","copyPace","()I"⟩ ∈ m_big := m_big_mem (i := 732) (by decide +kernel) (by decide +kernel)
theorem w_733 : Cond.selects "TapeStudio$Machine" ⟨"TapeStudio$Machine","copyPace","()I"⟩ ⟨"TapeStudio$Machine","copyPace","()I"⟩ ∈ m_big := m_big_mem (i := 733) (by decide +kernel) (by decide +kernel)
theorem lm_X2_153 : m_MV RX2 153 yX0_copyPace cX0_copyPace 1 (some .int) 0 := ⟨⟨Or.inl w_1240, w_139, w_734, by decide +kernel, by decide⟩, w_732, w_733⟩
theorem w_1226 : Cond.methodLink "TapeStudio$Piece" 130 ⟨"TapeStudio$Score","isSource","(I)Z"⟩ ∈ m_big := m_big_mem (i := 1226) (by decide +kernel) (by decide +kernel)
theorem w_1229 : Cond.code ⟨"TapeStudio$Score","isSource","(I)Z"⟩ prog_8_method_7_code 3 (Option.some .boolean) ∈ m_big := m_big_mem (i := 1229) (by decide +kernel) (by decide +kernel)
theorem w_1227 : Cond.instanceMethod ⟨"TapeStudio$Score","isSource","(I)Z"⟩ ∈ m_big := m_big_mem (i := 1227) (by decide +kernel) (by decide +kernel)
theorem w_1228 : Cond.selects "TapeStudio$Score" ⟨"TapeStudio$Score","isSource","(I)Z"⟩ ⟨"TapeStudio$Score","isSource","(I)Z"⟩ ∈ m_big := m_big_mem (i := 1228) (by decide +kernel) (by decide +kernel)
theorem lm_X2_130 : m_MV RX2 130 yX6_isSource cX6_isSource 3 (some .boolean) 1 := ⟨⟨Or.inl w_1226, w_130, w_1229, by decide +kernel, by decide⟩, w_1227, w_1228⟩
theorem w_1230 : Cond.methodLink "TapeStudio$Piece" 133 ⟨"TapeStudio$Piece","stepBack","()V"⟩ ∈ m_big := m_big_mem (i := 1230) (by decide +kernel) (by decide +kernel)
theorem w_1233 : Cond.code ⟨"TapeStudio$Piece","stepBack","()V"⟩ prog_4_method_14_code 5 (Option.none : Option Jvm.ClassFile.FieldType) ∈ m_big := m_big_mem (i := 1233) (by decide +kernel) (by decide +kernel)
theorem w_1232 : Cond.instanceMethod ⟨"TapeStudio$Piece","stepBack","()V"⟩ ∈ m_big := m_big_mem (i := 1232) (by decide +kernel) (by decide +kernel)
theorem w_43 : Cond.selects "TapeStudio$Piece" ⟨"TapeStudio$Piece","stepBack","()V"⟩ ⟨"TapeStudio$Piece","stepBack","()V"⟩ ∈ m_big := m_big_mem (i := 43) (by decide +kernel) (by decide +kernel)
theorem lm_X2_133 : m_MV RX2 133 yX2_stepBack cX2_stepBack 5 none 0 := ⟨⟨Or.inl w_1230, w_132, w_1233, by decide +kernel, by decide⟩, w_1232, w_43⟩
theorem w_1218 : Cond.methodLink "TapeStudio$Piece" 121 ⟨"TapeStudio$Piece","firstPut","(II)I"⟩ ∈ m_big := m_big_mem (i := 1218) (by decide +kernel) (by decide +kernel)
theorem w_1221 : Cond.code ⟨"TapeStudio$Piece","firstPut","(II)I"⟩ prog_4_method_13_code 4 (Option.some .int) ∈ m_big := m_big_mem (i := 1221) (by decide +kernel) (by decide +kernel)
theorem w_1220 : Cond.instanceMethod ⟨"TapeStudio$Piece","firstPut","(II)I"⟩ ∈ m_big := m_big_mem (i := 1220) (by decide +kernel) (by decide +kernel)
theorem w_41 : Cond.selects "TapeStudio$Piece" ⟨"TapeStudio$Piece","firstPut","(II)I"⟩ ⟨"TapeStudio$Piece","firstPut","(II)I"⟩ ∈ m_big := m_big_mem (i := 41) (by decide +kernel) (by decide +kernel)
theorem lm_X2_121 : m_MV RX2 121 yX2_firstPut cX2_firstPut 4 (some .int) 2 := ⟨⟨Or.inl w_1218, w_132, w_1221, by decide +kernel, by decide⟩, w_1220, w_41⟩
theorem w_1249 : Cond.methodLink "TapeStudio$Piece" 158 ⟨"TapeStudio$Piece","quarrels","(II)Z"⟩ ∈ m_big := m_big_mem (i := 1249) (by decide +kernel) (by decide +kernel)
theorem w_1252 : Cond.code ⟨"TapeStudio$Piece","quarrels","(II)Z"⟩ prog_4_method_17_code 6 (Option.some .boolean) ∈ m_big := m_big_mem (i := 1252) (by decide +kernel) (by decide +kernel)
theorem w_1251 : Cond.instanceMethod ⟨"TapeStudio$Piece","quarrels","(II)Z"⟩ ∈ m_big := m_big_mem (i := 1251) (by decide +kernel) (by decide +kernel)
theorem w_44 : Cond.selects "TapeStudio$Piece" ⟨"TapeStudio$Piece","quarrels","(II)Z"⟩ ⟨"TapeStudio$Piece","quarrels","(II)Z"⟩ ∈ m_big := m_big_mem (i := 44) (by decide +kernel) (by decide +kernel)
theorem lm_X2_158 : m_MV RX2 158 yX2_quarrels cX2_quarrels 6 (some .boolean) 2 := ⟨⟨Or.inl w_1249, w_132, w_1252, by decide +kernel, by decide⟩, w_1251, w_44⟩
theorem w_299 : Cond.classLink "TapeStudio$Player" 9 "TapeStudio$Row" ∈ m_big := m_big_mem (i := 299) (by decide +kernel) (by decide +kernel)
theorem ln_X3_9 : m_NL RX3 9 5 := ⟨RX5, TX5, 2, tyX5, rfl, rfl, by decide, uw_5, w_299, w_210, w_128, tyX5_ok, by decide +kernel⟩
theorem w_301 : Cond.methodLinkNest "TapeStudio$Player" 17 ⟨"TapeStudio$Row","<init>","()V"⟩ "TapeStudio" ∈ m_nest := m_nest_mem (i := 301) (by decide +kernel) (by decide +kernel)
theorem lm_X3_17 : m_MI RX3 17 yX5_init cX5_init 1 0 := ⟨⟨Or.inr ⟨_, w_301⟩, w_128, w_213, by decide +kernel, by decide⟩, w_212, rfl⟩
theorem w_298 : Cond.methodLink "TapeStudio$Player" 3 ⟨"java/lang/Object","<init>","()V"⟩ ∈ m_big := m_big_mem (i := 298) (by decide +kernel) (by decide +kernel)
theorem lo_X3_3 : Cond.methodLink RX3 3 objectInit ∈ m_big ∧ Cond.instanceMethod objectInit ∈ m_big ∧ Cond.code objectInit ⟨#[0xb1]⟩ 1 none ∈ m_big := ⟨w_298, w_151, w_152⟩
theorem w_300 : Cond.arrayOver (.object "TapeStudio$Row") ∈ m_nest := m_nest_mem (i := 300) (by decide +kernel) (by decide +kernel)
theorem lp_X3_11 : m_PL RX3 11 3 1 (.array (.object "TapeStudio$Row")) true := ⟨RX3, TX3, 5, tyX3, rfl, rfl, by decide, by decide, uw_3, Or.inl w_303, rfl, fun _ => rfl, by decide +kernel, tyX3_ok, nmX3⟩
theorem lp_X3_18 : m_PL RX3 18 3 2 (.object "TapeStudio$Row") true := ⟨RX3, TX3, 5, tyX3, rfl, rfl, by decide, by decide, uw_3, Or.inl w_304, rfl, fun _ => rfl, by decide +kernel, tyX3_ok, nmX3⟩
theorem w_305 : Cond.fieldLink "TapeStudio$Player" 22 "TapeStudio$Player" "leads" "[I" ∈ m_big := m_big_mem (i := 305) (by decide +kernel) (by decide +kernel)
theorem lp_X3_22 : m_PL RX3 22 3 3 (.array .int) true := ⟨RX3, TX3, 5, tyX3, rfl, rfl, by decide, by decide, uw_3, Or.inl w_305, rfl, fun _ => rfl, by decide +kernel, tyX3_ok, nmX3⟩
theorem w_307 : Cond.fieldLink "TapeStudio$Player" 26 "TapeStudio$Player" "depths" "[I" ∈ m_big := m_big_mem (i := 307) (by decide +kernel) (by decide +kernel)
theorem lp_X3_26 : m_PL RX3 26 3 4 (.array .int) true := ⟨RX3, TX3, 5, tyX3, rfl, rfl, by decide, by decide, uw_3, Or.inl w_307, rfl, fun _ => rfl, by decide +kernel, tyX3_ok, nmX3⟩
theorem w_302 : Cond.fieldLink "TapeStudio$Player" 29 "TapeStudio$Player" "shelf" "LTapeStudio$Shelf;" ∈ m_big := m_big_mem (i := 302) (by decide +kernel) (by decide +kernel)
theorem lp_X3_29 : m_PL RX3 29 3 0 (.object "TapeStudio$Shelf") true := ⟨RX3, TX3, 5, tyX3, rfl, rfl, by decide, by decide, uw_3, Or.inl w_302, rfl, fun _ => rfl, by decide +kernel, tyX3_ok, nmX3⟩
theorem w_616 : Cond.methodLink "TapeStudio$Shelf" 37 ⟨"TapeStudio$Shelf","known","(I)LTapeStudio$Strip;"⟩ ∈ m_big := m_big_mem (i := 616) (by decide +kernel) (by decide +kernel)
theorem lm_X7_37 : m_MV RX7 37 yX7_known cX7_known 2 (some (.object "TapeStudio$Strip")) 1 := ⟨⟨Or.inl w_616, w_127, w_619, by decide +kernel, by decide⟩, w_617, w_618⟩
theorem w_544 : Cond.fieldLinkNest "TapeStudio$Shelf" 41 "TapeStudio$Strip" "state" "I" "TapeStudio" ∈ m_nest := m_nest_mem (i := 544) (by decide +kernel) (by decide +kernel)
theorem lf_X7_41 : m_FL RX7 41 8 4 := ⟨RX8, TX8, 12, rfl, rfl, by decide, by decide, uw_8, Or.inr ⟨_, w_544⟩⟩
theorem w_177 : Cond.fieldLink "TapeStudio$Shelf" 23 "TapeStudio$Shelf" "readStrips" "[I" ∈ m_big := m_big_mem (i := 177) (by decide +kernel) (by decide +kernel)
theorem lf_X7_23 : m_FL RX7 23 7 7 := ⟨RX7, TX7, 12, rfl, rfl, by decide, by decide, uw_7, Or.inl w_177⟩
theorem w_805 : Cond.methodLinkNest "TapeStudio$Shelf" 194 ⟨"TapeStudio","entry","([III)I"⟩ "TapeStudio" ∈ m_nest := m_nest_mem (i := 805) (by decide +kernel) (by decide +kernel)
theorem lm_X7_194 : m_MS RX7 194 yX10_entry cX10_entry 3 (some .int) 3 := ⟨⟨Or.inr ⟨_, w_805⟩, w_126, w_807, by decide +kernel, by decide⟩, w_806⟩
theorem w_179 : Cond.fieldLink "TapeStudio$Shelf" 30 "TapeStudio$Shelf" "readDays" "[I" ∈ m_big := m_big_mem (i := 179) (by decide +kernel) (by decide +kernel)
theorem lf_X7_30 : m_FL RX7 30 7 9 := ⟨RX7, TX7, 12, rfl, rfl, by decide, by decide, uw_7, Or.inl w_179⟩
theorem w_178 : Cond.fieldLink "TapeStudio$Shelf" 27 "TapeStudio$Shelf" "readMarks" "[I" ∈ m_big := m_big_mem (i := 178) (by decide +kernel) (by decide +kernel)
theorem lf_X7_27 : m_FL RX7 27 7 8 := ⟨RX7, TX7, 12, rfl, rfl, by decide, by decide, uw_7, Or.inl w_178⟩
theorem w_180 : Cond.fieldLink "TapeStudio$Shelf" 187 "TapeStudio$Shelf" "readings" "I" ∈ m_big := m_big_mem (i := 180) (by decide +kernel) (by decide +kernel)
theorem lf_X7_187 : m_FL RX7 187 7 10 := ⟨RX7, TX7, 12, rfl, rfl, by decide, by decide, uw_7, Or.inl w_180⟩
theorem w_612 : Cond.methodLink "TapeStudio$Shelf" 47 ⟨"TapeStudio$Shelf","there","(I)LTapeStudio$Strip;"⟩ ∈ m_big := m_big_mem (i := 612) (by decide +kernel) (by decide +kernel)
theorem w_615 : Cond.code ⟨"TapeStudio$Shelf","there","(I)LTapeStudio$Strip;"⟩ prog_9_method_3_code 3 (Option.some (.object "TapeStudio$Strip")) ∈ m_big := m_big_mem (i := 615) (by decide +kernel) (by decide +kernel)
theorem w_613 : Cond.instanceMethod ⟨"TapeStudio$Shelf","there","(I)LTapeStudio$Strip;"⟩ ∈ m_big := m_big_mem (i := 613) (by decide +kernel) (by decide +kernel)
theorem w_614 : Cond.selects "TapeStudio$Shelf" ⟨"TapeStudio$Shelf","there","(I)LTapeStudio$Strip;"⟩ ⟨"TapeStudio$Shelf","there","(I)LTapeStudio$Strip;"⟩ ∈ m_big := m_big_mem (i := 614) (by decide +kernel) (by decide +kernel)
theorem lm_X7_47 : m_MV RX7 47 yX7_there cX7_there 3 (some (.object "TapeStudio$Strip")) 1 := ⟨⟨Or.inl w_612, w_127, w_615, by decide +kernel, by decide⟩, w_613, w_614⟩
theorem w_1052 : Cond.methodLink "TapeStudio$Shelf" 198 ⟨"TapeStudio$Shelf","markOf","(II)I"⟩ ∈ m_big := m_big_mem (i := 1052) (by decide +kernel) (by decide +kernel)
theorem w_804 : Cond.code ⟨"TapeStudio$Shelf","markOf","(II)I"⟩ prog_9_method_24_code 4 (Option.some .int) ∈ m_big := m_big_mem (i := 804) (by decide +kernel) (by decide +kernel)
theorem w_802 : Cond.instanceMethod ⟨"TapeStudio$Shelf","markOf","(II)I"⟩ ∈ m_big := m_big_mem (i := 802) (by decide +kernel) (by decide +kernel)
theorem w_803 : Cond.selects "TapeStudio$Shelf" ⟨"TapeStudio$Shelf","markOf","(II)I"⟩ ⟨"TapeStudio$Shelf","markOf","(II)I"⟩ ∈ m_big := m_big_mem (i := 803) (by decide +kernel) (by decide +kernel)
theorem lm_X7_198 : m_MV RX7 198 yX7_markOf cX7_markOf 4 (some .int) 2 := ⟨⟨Or.inl w_1052, w_127, w_804, by decide +kernel, by decide⟩, w_802, w_803⟩
theorem w_1036 : Cond.methodLink "TapeStudio$Player" 58 ⟨"TapeStudio$Score","number","(II)I"⟩ ∈ m_big := m_big_mem (i := 1036) (by decide +kernel) (by decide +kernel)
theorem lm_X3_58 : m_MV RX3 58 yX6_number cX6_number 3 (some .int) 2 := ⟨⟨Or.inl w_1036, w_130, w_1039, by decide +kernel, by decide⟩, w_1037, w_1038⟩
theorem w_1044 : Cond.methodLink "TapeStudio$Player" 62 ⟨"TapeStudio$Score","verb","(I)I"⟩ ∈ m_big := m_big_mem (i := 1044) (by decide +kernel) (by decide +kernel)
theorem lm_X3_62 : m_MV RX3 62 yX6_verb cX6_verb 2 (some .int) 1 := ⟨⟨Or.inl w_1044, w_130, w_1047, by decide +kernel, by decide⟩, w_1045, w_1046⟩
theorem lf_X3_29 : m_FL RX3 29 3 0 := ⟨RX3, TX3, 5, rfl, rfl, by decide, by decide, uw_3, Or.inl w_302⟩
theorem w_1048 : Cond.methodLink "TapeStudio$Player" 66 ⟨"TapeStudio$Shelf","leastMarked","(II)I"⟩ ∈ m_big := m_big_mem (i := 1048) (by decide +kernel) (by decide +kernel)
theorem w_1051 : Cond.code ⟨"TapeStudio$Shelf","leastMarked","(II)I"⟩ prog_9_method_25_code 4 (Option.some .int) ∈ m_big := m_big_mem (i := 1051) (by decide +kernel) (by decide +kernel)
theorem w_1049 : Cond.instanceMethod ⟨"TapeStudio$Shelf","leastMarked","(II)I"⟩ ∈ m_big := m_big_mem (i := 1049) (by decide +kernel) (by decide +kernel)
theorem w_1050 : Cond.selects "TapeStudio$Shelf" ⟨"TapeStudio$Shelf","leastMarked","(II)I"⟩ ⟨"TapeStudio$Shelf","leastMarked","(II)I"⟩ ∈ m_big := m_big_mem (i := 1050) (by decide +kernel) (by decide +kernel)
theorem lm_X3_66 : m_MV RX3 66 yX7_leastMarked cX7_leastMarked 4 (some .int) 2 := ⟨⟨Or.inl w_1048, w_127, w_1051, by decide +kernel, by decide⟩, w_1049, w_1050⟩
theorem w_1053 : Cond.methodLink "TapeStudio$Player" 71 ⟨"TapeStudio$Shelf","there","(I)LTapeStudio$Strip;"⟩ ∈ m_big := m_big_mem (i := 1053) (by decide +kernel) (by decide +kernel)
theorem lm_X3_71 : m_MV RX3 71 yX7_there cX7_there 3 (some (.object "TapeStudio$Strip")) 1 := ⟨⟨Or.inl w_1053, w_127, w_615, by decide +kernel, by decide⟩, w_613, w_614⟩
theorem w_1063 : Cond.methodLink "TapeStudio$Player" 75 ⟨"TapeStudio$Score","cell","(II)I"⟩ ∈ m_big := m_big_mem (i := 1063) (by decide +kernel) (by decide +kernel)
theorem lm_X3_75 : m_MV RX3 75 yX6_cell cX6_cell 4 (some .int) 2 := ⟨⟨Or.inl w_1063, w_130, w_1043, by decide +kernel, by decide⟩, w_1041, w_1042⟩
theorem w_1064 : Cond.methodLink "TapeStudio$Player" 78 ⟨"TapeStudio$Score","one","(I)I"⟩ ∈ m_big := m_big_mem (i := 1064) (by decide +kernel) (by decide +kernel)
theorem lm_X3_78 : m_MV RX3 78 yX6_one cX6_one 2 (some .int) 1 := ⟨⟨Or.inl w_1064, w_130, w_1067, by decide +kernel, by decide⟩, w_1065, w_1066⟩
theorem w_1068 : Cond.methodLink "TapeStudio$Player" 81 ⟨"TapeStudio$Player","row","(I)LTapeStudio$Row;"⟩ ∈ m_big := m_big_mem (i := 1068) (by decide +kernel) (by decide +kernel)
theorem lm_X3_81 : m_MV RX3 81 yX3_row cX3_row 2 (some (.object "TapeStudio$Row")) 1 := ⟨⟨Or.inl w_1068, w_131, w_1071, by decide +kernel, by decide⟩, w_1069, w_1070⟩
theorem w_1072 : Cond.methodLink "TapeStudio$Player" 85 ⟨"TapeStudio$Row","size","()I"⟩ ∈ m_big := m_big_mem (i := 1072) (by decide +kernel) (by decide +kernel)
theorem lm_X3_85 : m_MV RX3 85 yX5_size cX5_size 1 (some .int) 0 := ⟨⟨Or.inl w_1072, w_128, w_471, by decide +kernel, by decide⟩, w_469, w_470⟩
theorem w_541 : Cond.fieldLinkNest "TapeStudio$Player" 149 "TapeStudio$Strip" "row" "LTapeStudio$Row;" "TapeStudio" ∈ m_nest := m_nest_mem (i := 541) (by decide +kernel) (by decide +kernel)
theorem lf_X3_149 : m_FL RX3 149 8 3 := ⟨RX8, TX8, 12, rfl, rfl, by decide, by decide, uw_8, Or.inr ⟨_, w_541⟩⟩
theorem w_1082 : Cond.methodLink "TapeStudio$Player" 122 ⟨"TapeStudio$Row","fillPart","(LTapeStudio$Row;II)V"⟩ ∈ m_big := m_big_mem (i := 1082) (by decide +kernel) (by decide +kernel)
theorem lm_X3_122 : m_MV RX3 122 yX5_fillPart cX5_fillPart 5 none 3 := ⟨⟨Or.inl w_1082, w_128, w_591, by decide +kernel, by decide⟩, w_589, w_590⟩
theorem w_1090 : Cond.methodLink "TapeStudio$Player" 153 ⟨"TapeStudio$Row","playedSize","(II)I"⟩ ∈ m_big := m_big_mem (i := 1090) (by decide +kernel) (by decide +kernel)
theorem lm_X3_153 : m_MV RX3 153 yX5_playedSize cX5_playedSize 3 (some .int) 2 := ⟨⟨Or.inl w_1090, w_128, w_742, by decide +kernel, by decide⟩, w_740, w_741⟩
theorem w_1091 : Cond.methodLink "TapeStudio$Player" 119 ⟨"TapeStudio$Player","isLength","(I)Z"⟩ ∈ m_big := m_big_mem (i := 1091) (by decide +kernel) (by decide +kernel)
theorem w_1093 : Cond.code ⟨"TapeStudio$Player","isLength","(I)Z"⟩ prog_5_method_7_code 1 (Option.some .boolean) ∈ m_big := m_big_mem (i := 1093) (by decide +kernel) (by decide +kernel)
theorem w_1092 : Cond.static ⟨"TapeStudio$Player","isLength","(I)Z"⟩ ∈ m_big := m_big_mem (i := 1092) (by decide +kernel) (by decide +kernel)
theorem lm_X3_119 : m_MS RX3 119 yX3_isLength cX3_isLength 1 (some .boolean) 1 := ⟨⟨Or.inl w_1091, w_131, w_1093, by decide +kernel, by decide⟩, w_1092⟩
theorem w_1094 : Cond.methodLink "TapeStudio$Player" 156 ⟨"TapeStudio$Row","fillPlayed","(LTapeStudio$Row;II)V"⟩ ∈ m_big := m_big_mem (i := 1094) (by decide +kernel) (by decide +kernel)
theorem lm_X3_156 : m_MV RX3 156 yX5_fillPlayed cX5_fillPlayed 6 none 3 := ⟨⟨Or.inl w_1094, w_128, w_750, by decide +kernel, by decide⟩, w_748, w_749⟩
theorem w_688 : Cond.methodLink "TapeStudio$Row" 53 ⟨"TapeStudio$Row","joinedSize","(LTapeStudio$Row;LTapeStudio$Row;I)I"⟩ ∈ m_big := m_big_mem (i := 688) (by decide +kernel) (by decide +kernel)
theorem w_683 : Cond.code ⟨"TapeStudio$Row","joinedSize","(LTapeStudio$Row;LTapeStudio$Row;I)I"⟩ prog_7_method_15_code 3 (Option.some .int) ∈ m_big := m_big_mem (i := 683) (by decide +kernel) (by decide +kernel)
theorem w_682 : Cond.static ⟨"TapeStudio$Row","joinedSize","(LTapeStudio$Row;LTapeStudio$Row;I)I"⟩ ∈ m_big := m_big_mem (i := 682) (by decide +kernel) (by decide +kernel)
theorem lm_X5_53 : m_MS RX5 53 yX5_joinedSize cX5_joinedSize 3 (some .int) 3 := ⟨⟨Or.inl w_688, w_128, w_683, by decide +kernel, by decide⟩, w_682⟩
theorem w_1102 : Cond.methodLink "TapeStudio$Player" 158 ⟨"java/lang/Math","min","(II)I"⟩ ∈ m_big := m_big_mem (i := 1102) (by decide +kernel) (by decide +kernel)
theorem w_1103 : Cond.methodLink "TapeStudio$Player" 163 ⟨"TapeStudio$Row","joinedSize","(LTapeStudio$Row;LTapeStudio$Row;I)I"⟩ ∈ m_big := m_big_mem (i := 1103) (by decide +kernel) (by decide +kernel)
theorem lm_X3_163 : m_MS RX3 163 yX5_joinedSize cX5_joinedSize 3 (some .int) 3 := ⟨⟨Or.inl w_1103, w_128, w_683, by decide +kernel, by decide⟩, w_682⟩
theorem w_1104 : Cond.methodLink "TapeStudio$Player" 167 ⟨"TapeStudio$Row","fillJoined","(LTapeStudio$Row;LTapeStudio$Row;I)V"⟩ ∈ m_big := m_big_mem (i := 1104) (by decide +kernel) (by decide +kernel)
theorem w_687 : Cond.code ⟨"TapeStudio$Row","fillJoined","(LTapeStudio$Row;LTapeStudio$Row;I)V"⟩ prog_7_method_14_code 7 (Option.none : Option Jvm.ClassFile.FieldType) ∈ m_big := m_big_mem (i := 687) (by decide +kernel) (by decide +kernel)
theorem w_685 : Cond.instanceMethod ⟨"TapeStudio$Row","fillJoined","(LTapeStudio$Row;LTapeStudio$Row;I)V"⟩ ∈ m_big := m_big_mem (i := 685) (by decide +kernel) (by decide +kernel)
theorem w_686 : Cond.selects "TapeStudio$Row" ⟨"TapeStudio$Row","fillJoined","(LTapeStudio$Row;LTapeStudio$Row;I)V"⟩ ⟨"TapeStudio$Row","fillJoined","(LTapeStudio$Row;LTapeStudio$Row;I)V"⟩ ∈ m_big := m_big_mem (i := 686) (by decide +kernel) (by decide +kernel)
theorem lm_X3_167 : m_MV RX3 167 yX5_fillJoined cX5_fillJoined 7 none 3 := ⟨⟨Or.inl w_1104, w_128, w_687, by decide +kernel, by decide⟩, w_685, w_686⟩
theorem w_1117 : Cond.methodLink "TapeStudio$Player" 170 ⟨"TapeStudio$Machine","copyPace","()I"⟩ ∈ m_big := m_big_mem (i := 1117) (by decide +kernel) (by decide +kernel)
theorem lm_X3_170 : m_MV RX3 170 yX0_copyPace cX0_copyPace 1 (some .int) 0 := ⟨⟨Or.inl w_1117, w_139, w_734, by decide +kernel, by decide⟩, w_732, w_733⟩
theorem w_704 : Cond.fieldLinkNest "TapeStudio$Player" 175 "TapeStudio$Machine" "level" "I" "TapeStudio" ∈ m_nest := m_nest_mem (i := 704) (by decide +kernel) (by decide +kernel)
theorem lf_X3_175 : m_FL RX3 175 0 1 := ⟨RX0, TX0, 4, rfl, rfl, by decide, by decide, uw_0, Or.inr ⟨_, w_704⟩⟩
theorem w_1118 : Cond.methodLink "TapeStudio$Player" 145 ⟨"TapeStudio$Row","level","(I)V"⟩ ∈ m_big := m_big_mem (i := 1118) (by decide +kernel) (by decide +kernel)
theorem w_759 : Cond.code ⟨"TapeStudio$Row","level","(I)V"⟩ prog_7_method_19_code 3 (Option.none : Option Jvm.ClassFile.FieldType) ∈ m_big := m_big_mem (i := 759) (by decide +kernel) (by decide +kernel)
theorem w_757 : Cond.instanceMethod ⟨"TapeStudio$Row","level","(I)V"⟩ ∈ m_big := m_big_mem (i := 757) (by decide +kernel) (by decide +kernel)
theorem w_758 : Cond.selects "TapeStudio$Row" ⟨"TapeStudio$Row","level","(I)V"⟩ ⟨"TapeStudio$Row","level","(I)V"⟩ ∈ m_big := m_big_mem (i := 758) (by decide +kernel) (by decide +kernel)
theorem lm_X3_145 : m_MV RX3 145 yX5_level cX5_level 3 none 1 := ⟨⟨Or.inl w_1118, w_128, w_759, by decide +kernel, by decide⟩, w_757, w_758⟩
theorem w_1126 : Cond.methodLink "TapeStudio$Player" 177 ⟨"TapeStudio$Row","fadeIn","(I)V"⟩ ∈ m_big := m_big_mem (i := 1126) (by decide +kernel) (by decide +kernel)
theorem w_1129 : Cond.code ⟨"TapeStudio$Row","fadeIn","(I)V"⟩ prog_7_method_22_code 3 (Option.none : Option Jvm.ClassFile.FieldType) ∈ m_big := m_big_mem (i := 1129) (by decide +kernel) (by decide +kernel)
theorem w_1127 : Cond.instanceMethod ⟨"TapeStudio$Row","fadeIn","(I)V"⟩ ∈ m_big := m_big_mem (i := 1127) (by decide +kernel) (by decide +kernel)
theorem w_1128 : Cond.selects "TapeStudio$Row" ⟨"TapeStudio$Row","fadeIn","(I)V"⟩ ⟨"TapeStudio$Row","fadeIn","(I)V"⟩ ∈ m_big := m_big_mem (i := 1128) (by decide +kernel) (by decide +kernel)
theorem lm_X3_177 : m_MV RX3 177 yX5_fadeIn cX5_fadeIn 3 none 1 := ⟨⟨Or.inl w_1126, w_128, w_1129, by decide +kernel, by decide⟩, w_1127, w_1128⟩
theorem w_1130 : Cond.methodLink "TapeStudio$Player" 180 ⟨"TapeStudio$Row","fadeOut","(I)V"⟩ ∈ m_big := m_big_mem (i := 1130) (by decide +kernel) (by decide +kernel)
theorem w_1133 : Cond.code ⟨"TapeStudio$Row","fadeOut","(I)V"⟩ prog_7_method_23_code 4 (Option.none : Option Jvm.ClassFile.FieldType) ∈ m_big := m_big_mem (i := 1133) (by decide +kernel) (by decide +kernel)
theorem w_1131 : Cond.instanceMethod ⟨"TapeStudio$Row","fadeOut","(I)V"⟩ ∈ m_big := m_big_mem (i := 1131) (by decide +kernel) (by decide +kernel)
theorem w_1132 : Cond.selects "TapeStudio$Row" ⟨"TapeStudio$Row","fadeOut","(I)V"⟩ ⟨"TapeStudio$Row","fadeOut","(I)V"⟩ ∈ m_big := m_big_mem (i := 1132) (by decide +kernel) (by decide +kernel)
theorem lm_X3_180 : m_MV RX3 180 yX5_fadeOut cX5_fadeOut 4 none 1 := ⟨⟨Or.inl w_1130, w_128, w_1133, by decide +kernel, by decide⟩, w_1131, w_1132⟩
theorem lf_X3_22 : m_FL RX3 22 3 3 := ⟨RX3, TX3, 5, rfl, rfl, by decide, by decide, uw_3, Or.inl w_305⟩
theorem w_1077 : Cond.methodLinkNest "TapeStudio$Player" 89 ⟨"TapeStudio","entry","([III)I"⟩ "TapeStudio" ∈ m_nest := m_nest_mem (i := 1077) (by decide +kernel) (by decide +kernel)
theorem lm_X3_89 : m_MS RX3 89 yX10_entry cX10_entry 3 (some .int) 3 := ⟨⟨Or.inr ⟨_, w_1077⟩, w_126, w_807, by decide +kernel, by decide⟩, w_806⟩
theorem w_1078 : Cond.methodLink "TapeStudio$Player" 93 ⟨"TapeStudio$Player","fillStrip","(LTapeStudio$Row;I)Z"⟩ ∈ m_big := m_big_mem (i := 1078) (by decide +kernel) (by decide +kernel)
theorem w_1081 : Cond.code ⟨"TapeStudio$Player","fillStrip","(LTapeStudio$Row;I)Z"⟩ prog_5_method_8_code 4 (Option.some .boolean) ∈ m_big := m_big_mem (i := 1081) (by decide +kernel) (by decide +kernel)
theorem w_1080 : Cond.instanceMethod ⟨"TapeStudio$Player","fillStrip","(LTapeStudio$Row;I)Z"⟩ ∈ m_big := m_big_mem (i := 1080) (by decide +kernel) (by decide +kernel)
theorem w_34 : Cond.selects "TapeStudio$Player" ⟨"TapeStudio$Player","fillStrip","(LTapeStudio$Row;I)Z"⟩ ⟨"TapeStudio$Player","fillStrip","(LTapeStudio$Row;I)Z"⟩ ∈ m_big := m_big_mem (i := 34) (by decide +kernel) (by decide +kernel)
theorem lm_X3_93 : m_MV RX3 93 yX3_fillStrip cX3_fillStrip 4 (some .boolean) 2 := ⟨⟨Or.inl w_1078, w_131, w_1081, by decide +kernel, by decide⟩, w_1080, w_34⟩
theorem w_1083 : Cond.methodLink "TapeStudio$Player" 97 ⟨"TapeStudio$Player","fillCut","(LTapeStudio$Row;LTapeStudio$Row;II)Z"⟩ ∈ m_big := m_big_mem (i := 1083) (by decide +kernel) (by decide +kernel)
theorem w_1085 : Cond.code ⟨"TapeStudio$Player","fillCut","(LTapeStudio$Row;LTapeStudio$Row;II)Z"⟩ prog_5_method_9_code 4 (Option.some .boolean) ∈ m_big := m_big_mem (i := 1085) (by decide +kernel) (by decide +kernel)
theorem w_1084 : Cond.static ⟨"TapeStudio$Player","fillCut","(LTapeStudio$Row;LTapeStudio$Row;II)Z"⟩ ∈ m_big := m_big_mem (i := 1084) (by decide +kernel) (by decide +kernel)
theorem lm_X3_97 : m_MS RX3 97 yX3_fillCut cX3_fillCut 4 (some .boolean) 4 := ⟨⟨Or.inl w_1083, w_131, w_1085, by decide +kernel, by decide⟩, w_1084⟩
theorem w_1086 : Cond.methodLink "TapeStudio$Player" 101 ⟨"TapeStudio$Row","fillTurned","(LTapeStudio$Row;)V"⟩ ∈ m_big := m_big_mem (i := 1086) (by decide +kernel) (by decide +kernel)
theorem lm_X3_101 : m_MV RX3 101 yX5_fillTurned cX5_fillTurned 3 none 1 := ⟨⟨Or.inl w_1086, w_128, w_654, by decide +kernel, by decide⟩, w_652, w_653⟩
theorem w_1087 : Cond.methodLink "TapeStudio$Player" 105 ⟨"TapeStudio$Player","fillPlayed","(LTapeStudio$Row;LTapeStudio$Row;II)Z"⟩ ∈ m_big := m_big_mem (i := 1087) (by decide +kernel) (by decide +kernel)
theorem w_1089 : Cond.code ⟨"TapeStudio$Player","fillPlayed","(LTapeStudio$Row;LTapeStudio$Row;II)Z"⟩ prog_5_method_10_code 4 (Option.some .boolean) ∈ m_big := m_big_mem (i := 1089) (by decide +kernel) (by decide +kernel)
theorem w_1088 : Cond.static ⟨"TapeStudio$Player","fillPlayed","(LTapeStudio$Row;LTapeStudio$Row;II)Z"⟩ ∈ m_big := m_big_mem (i := 1088) (by decide +kernel) (by decide +kernel)
theorem lm_X3_105 : m_MS RX3 105 yX3_fillPlayed cX3_fillPlayed 4 (some .boolean) 4 := ⟨⟨Or.inl w_1087, w_131, w_1089, by decide +kernel, by decide⟩, w_1088⟩
theorem w_1095 : Cond.methodLink "TapeStudio$Player" 108 ⟨"TapeStudio$Score","other","(I)I"⟩ ∈ m_big := m_big_mem (i := 1095) (by decide +kernel) (by decide +kernel)
theorem lm_X3_108 : m_MV RX3 108 yX6_other cX6_other 2 (some .int) 1 := ⟨⟨Or.inl w_1095, w_130, w_1098, by decide +kernel, by decide⟩, w_1096, w_1097⟩
theorem w_1099 : Cond.methodLink "TapeStudio$Player" 111 ⟨"TapeStudio$Player","fillJoined","(LTapeStudio$Row;LTapeStudio$Row;LTapeStudio$Row;I)Z"⟩ ∈ m_big := m_big_mem (i := 1099) (by decide +kernel) (by decide +kernel)
theorem w_1101 : Cond.code ⟨"TapeStudio$Player","fillJoined","(LTapeStudio$Row;LTapeStudio$Row;LTapeStudio$Row;I)Z"⟩ prog_5_method_11_code 4 (Option.some .boolean) ∈ m_big := m_big_mem (i := 1101) (by decide +kernel) (by decide +kernel)
theorem w_1100 : Cond.static ⟨"TapeStudio$Player","fillJoined","(LTapeStudio$Row;LTapeStudio$Row;LTapeStudio$Row;I)Z"⟩ ∈ m_big := m_big_mem (i := 1100) (by decide +kernel) (by decide +kernel)
theorem lm_X3_111 : m_MS RX3 111 yX3_fillJoined cX3_fillJoined 4 (some .boolean) 4 := ⟨⟨Or.inl w_1099, w_131, w_1101, by decide +kernel, by decide⟩, w_1100⟩
theorem w_1105 : Cond.methodLink "TapeStudio$Player" 115 ⟨"TapeStudio$Row","fillRound","(LTapeStudio$Row;I)V"⟩ ∈ m_big := m_big_mem (i := 1105) (by decide +kernel) (by decide +kernel)
theorem w_1108 : Cond.code ⟨"TapeStudio$Row","fillRound","(LTapeStudio$Row;I)V"⟩ prog_7_method_13_code 4 (Option.none : Option Jvm.ClassFile.FieldType) ∈ m_big := m_big_mem (i := 1108) (by decide +kernel) (by decide +kernel)
theorem w_1106 : Cond.instanceMethod ⟨"TapeStudio$Row","fillRound","(LTapeStudio$Row;I)V"⟩ ∈ m_big := m_big_mem (i := 1106) (by decide +kernel) (by decide +kernel)
theorem w_1107 : Cond.selects "TapeStudio$Row" ⟨"TapeStudio$Row","fillRound","(LTapeStudio$Row;I)V"⟩ ⟨"TapeStudio$Row","fillRound","(LTapeStudio$Row;I)V"⟩ ∈ m_big := m_big_mem (i := 1107) (by decide +kernel) (by decide +kernel)
theorem lm_X3_115 : m_MV RX3 115 yX5_fillRound cX5_fillRound 4 none 2 := ⟨⟨Or.inl w_1105, w_128, w_1108, by decide +kernel, by decide⟩, w_1106, w_1107⟩
theorem w_1109 : Cond.methodLink "TapeStudio$Player" 126 ⟨"TapeStudio$Row","echo","(II)V"⟩ ∈ m_big := m_big_mem (i := 1109) (by decide +kernel) (by decide +kernel)
theorem w_1112 : Cond.code ⟨"TapeStudio$Row","echo","(II)V"⟩ prog_7_method_20_code 4 (Option.none : Option Jvm.ClassFile.FieldType) ∈ m_big := m_big_mem (i := 1112) (by decide +kernel) (by decide +kernel)
theorem w_1110 : Cond.instanceMethod ⟨"TapeStudio$Row","echo","(II)V"⟩ ∈ m_big := m_big_mem (i := 1110) (by decide +kernel) (by decide +kernel)
theorem w_1111 : Cond.selects "TapeStudio$Row" ⟨"TapeStudio$Row","echo","(II)V"⟩ ⟨"TapeStudio$Row","echo","(II)V"⟩ ∈ m_big := m_big_mem (i := 1111) (by decide +kernel) (by decide +kernel)
theorem lm_X3_126 : m_MV RX3 126 yX5_echo cX5_echo 4 none 2 := ⟨⟨Or.inl w_1109, w_128, w_1112, by decide +kernel, by decide⟩, w_1110, w_1111⟩
theorem w_1113 : Cond.methodLink "TapeStudio$Player" 130 ⟨"TapeStudio$Shelf","machineOf","(I)LTapeStudio$Machine;"⟩ ∈ m_big := m_big_mem (i := 1113) (by decide +kernel) (by decide +kernel)
theorem lm_X3_130 : m_MV RX3 130 yX7_machineOf cX7_machineOf 2 (some (.object "TapeStudio$Machine")) 1 := ⟨⟨Or.inl w_1113, w_127, w_730, by decide +kernel, by decide⟩, w_728, w_729⟩
theorem w_1114 : Cond.methodLink "TapeStudio$Player" 134 ⟨"TapeStudio$Player","fillCopied","(LTapeStudio$Row;LTapeStudio$Row;LTapeStudio$Machine;)Z"⟩ ∈ m_big := m_big_mem (i := 1114) (by decide +kernel) (by decide +kernel)
theorem w_1116 : Cond.code ⟨"TapeStudio$Player","fillCopied","(LTapeStudio$Row;LTapeStudio$Row;LTapeStudio$Machine;)Z"⟩ prog_5_method_12_code 3 (Option.some .boolean) ∈ m_big := m_big_mem (i := 1116) (by decide +kernel) (by decide +kernel)
theorem w_1115 : Cond.static ⟨"TapeStudio$Player","fillCopied","(LTapeStudio$Row;LTapeStudio$Row;LTapeStudio$Machine;)Z"⟩ ∈ m_big := m_big_mem (i := 1115) (by decide +kernel) (by decide +kernel)
theorem lm_X3_134 : m_MS RX3 134 yX3_fillCopied cX3_fillCopied 3 (some .boolean) 3 := ⟨⟨Or.inl w_1114, w_131, w_1116, by decide +kernel, by decide⟩, w_1115⟩
theorem w_1119 : Cond.methodLink "TapeStudio$Player" 138 ⟨"TapeStudio$Row","fillFiltered","(LTapeStudio$Row;III)V"⟩ ∈ m_big := m_big_mem (i := 1119) (by decide +kernel) (by decide +kernel)
theorem w_1122 : Cond.code ⟨"TapeStudio$Row","fillFiltered","(LTapeStudio$Row;III)V"⟩ prog_7_method_21_code 7 (Option.none : Option Jvm.ClassFile.FieldType) ∈ m_big := m_big_mem (i := 1122) (by decide +kernel) (by decide +kernel)
theorem w_1120 : Cond.instanceMethod ⟨"TapeStudio$Row","fillFiltered","(LTapeStudio$Row;III)V"⟩ ∈ m_big := m_big_mem (i := 1120) (by decide +kernel) (by decide +kernel)
theorem w_1121 : Cond.selects "TapeStudio$Row" ⟨"TapeStudio$Row","fillFiltered","(LTapeStudio$Row;III)V"⟩ ⟨"TapeStudio$Row","fillFiltered","(LTapeStudio$Row;III)V"⟩ ∈ m_big := m_big_mem (i := 1121) (by decide +kernel) (by decide +kernel)
theorem lm_X3_138 : m_MV RX3 138 yX5_fillFiltered cX5_fillFiltered 7 none 4 := ⟨⟨Or.inl w_1119, w_128, w_1122, by decide +kernel, by decide⟩, w_1120, w_1121⟩
theorem w_1123 : Cond.methodLink "TapeStudio$Player" 142 ⟨"TapeStudio$Player","fillFaded","(LTapeStudio$Row;LTapeStudio$Row;II)Z"⟩ ∈ m_big := m_big_mem (i := 1123) (by decide +kernel) (by decide +kernel)
theorem w_1125 : Cond.code ⟨"TapeStudio$Player","fillFaded","(LTapeStudio$Row;LTapeStudio$Row;II)Z"⟩ prog_5_method_13_code 4 (Option.some .boolean) ∈ m_big := m_big_mem (i := 1125) (by decide +kernel) (by decide +kernel)
theorem w_1124 : Cond.static ⟨"TapeStudio$Player","fillFaded","(LTapeStudio$Row;LTapeStudio$Row;II)Z"⟩ ∈ m_big := m_big_mem (i := 1124) (by decide +kernel) (by decide +kernel)
theorem lm_X3_142 : m_MS RX3 142 yX3_fillFaded cX3_fillFaded 4 (some .boolean) 4 := ⟨⟨Or.inl w_1123, w_131, w_1125, by decide +kernel, by decide⟩, w_1124⟩
theorem w_239 : Cond.fieldLinkNest "TapeStudio$Player" 33 "TapeStudio$Score" "count" "I" "TapeStudio" ∈ m_nest := m_nest_mem (i := 239) (by decide +kernel) (by decide +kernel)
theorem lf_X3_33 : m_FL RX3 33 6 1 := ⟨RX6, TX6, 4, rfl, rfl, by decide, by decide, uw_6, Or.inr ⟨_, w_239⟩⟩
theorem w_1032 : Cond.methodLink "TapeStudio$Player" 39 ⟨"TapeStudio$Player","stripOf","(LTapeStudio$Score;II)I"⟩ ∈ m_big := m_big_mem (i := 1032) (by decide +kernel) (by decide +kernel)
theorem w_1035 : Cond.code ⟨"TapeStudio$Player","stripOf","(LTapeStudio$Score;II)I"⟩ prog_5_method_4_code 5 (Option.some .int) ∈ m_big := m_big_mem (i := 1035) (by decide +kernel) (by decide +kernel)
theorem w_1034 : Cond.instanceMethod ⟨"TapeStudio$Player","stripOf","(LTapeStudio$Score;II)I"⟩ ∈ m_big := m_big_mem (i := 1034) (by decide +kernel) (by decide +kernel)
theorem w_31 : Cond.selects "TapeStudio$Player" ⟨"TapeStudio$Player","stripOf","(LTapeStudio$Score;II)I"⟩ ⟨"TapeStudio$Player","stripOf","(LTapeStudio$Score;II)I"⟩ ∈ m_big := m_big_mem (i := 31) (by decide +kernel) (by decide +kernel)
theorem lm_X3_39 : m_MV RX3 39 yX3_stripOf cX3_stripOf 5 (some .int) 3 := ⟨⟨Or.inl w_1032, w_131, w_1035, by decide +kernel, by decide⟩, w_1034, w_31⟩
theorem w_1054 : Cond.methodLinkNest "TapeStudio$Player" 43 ⟨"TapeStudio","setEntry","([III)V"⟩ "TapeStudio" ∈ m_nest := m_nest_mem (i := 1054) (by decide +kernel) (by decide +kernel)
theorem lm_X3_43 : m_MS RX3 43 yX10_setEntry cX10_setEntry 3 none 3 := ⟨⟨Or.inr ⟨_, w_1054⟩, w_126, w_796, by decide +kernel, by decide⟩, w_795⟩
theorem w_1055 : Cond.methodLink "TapeStudio$Player" 47 ⟨"TapeStudio$Score","isPut","(I)Z"⟩ ∈ m_big := m_big_mem (i := 1055) (by decide +kernel) (by decide +kernel)
theorem lm_X3_47 : m_MV RX3 47 yX6_isPut cX6_isPut 2 (some .boolean) 1 := ⟨⟨Or.inl w_1055, w_130, w_1058, by decide +kernel, by decide⟩, w_1056, w_1057⟩
theorem w_1059 : Cond.methodLink "TapeStudio$Player" 51 ⟨"TapeStudio$Player","canPut","(LTapeStudio$Score;I)Z"⟩ ∈ m_big := m_big_mem (i := 1059) (by decide +kernel) (by decide +kernel)
theorem w_1062 : Cond.code ⟨"TapeStudio$Player","canPut","(LTapeStudio$Score;I)Z"⟩ prog_5_method_5_code 4 (Option.some .boolean) ∈ m_big := m_big_mem (i := 1062) (by decide +kernel) (by decide +kernel)
theorem w_1061 : Cond.instanceMethod ⟨"TapeStudio$Player","canPut","(LTapeStudio$Score;I)Z"⟩ ∈ m_big := m_big_mem (i := 1061) (by decide +kernel) (by decide +kernel)
theorem w_32 : Cond.selects "TapeStudio$Player" ⟨"TapeStudio$Player","canPut","(LTapeStudio$Score;I)Z"⟩ ⟨"TapeStudio$Player","canPut","(LTapeStudio$Score;I)Z"⟩ ∈ m_big := m_big_mem (i := 32) (by decide +kernel) (by decide +kernel)
theorem lm_X3_51 : m_MV RX3 51 yX3_canPut cX3_canPut 4 (some .boolean) 2 := ⟨⟨Or.inl w_1059, w_131, w_1062, by decide +kernel, by decide⟩, w_1061, w_32⟩
theorem w_1073 : Cond.methodLink "TapeStudio$Player" 55 ⟨"TapeStudio$Player","fillRow","(LTapeStudio$Score;I)Z"⟩ ∈ m_big := m_big_mem (i := 1073) (by decide +kernel) (by decide +kernel)
theorem w_1076 : Cond.code ⟨"TapeStudio$Player","fillRow","(LTapeStudio$Score;I)Z"⟩ prog_5_method_6_code 7 (Option.some .boolean) ∈ m_big := m_big_mem (i := 1076) (by decide +kernel) (by decide +kernel)
theorem w_1075 : Cond.instanceMethod ⟨"TapeStudio$Player","fillRow","(LTapeStudio$Score;I)Z"⟩ ∈ m_big := m_big_mem (i := 1075) (by decide +kernel) (by decide +kernel)
theorem w_33 : Cond.selects "TapeStudio$Player" ⟨"TapeStudio$Player","fillRow","(LTapeStudio$Score;I)Z"⟩ ⟨"TapeStudio$Player","fillRow","(LTapeStudio$Score;I)Z"⟩ ∈ m_big := m_big_mem (i := 33) (by decide +kernel) (by decide +kernel)
theorem lm_X3_55 : m_MV RX3 55 yX3_fillRow cX3_fillRow 7 (some .boolean) 2 := ⟨⟨Or.inl w_1073, w_131, w_1076, by decide +kernel, by decide⟩, w_1075, w_33⟩
theorem w_246 : Cond.fieldLinkNest "TapeStudio$Player" 187 "TapeStudio$Score" "leads" "[I" "TapeStudio" ∈ m_nest := m_nest_mem (i := 246) (by decide +kernel) (by decide +kernel)
theorem lf_X3_187 : m_FL RX3 187 6 3 := ⟨RX6, TX6, 4, rfl, rfl, by decide, by decide, uw_6, Or.inr ⟨_, w_246⟩⟩
theorem w_243 : Cond.fieldLinkNest "TapeStudio$Player" 183 "TapeStudio$Score" "made" "Z" "TapeStudio" ∈ m_nest := m_nest_mem (i := 243) (by decide +kernel) (by decide +kernel)
theorem lp_X3_183 : m_PL RX3 183 6 2 .boolean false := ⟨RX6, TX6, 4, tyX6, rfl, rfl, by decide, by decide, uw_6, Or.inr ⟨rfl, _, w_243⟩, rfl, (fun q => by cases q), by decide +kernel, tyX6_ok, nmX6⟩
theorem lf_X3_26 : m_FL RX3 26 3 4 := ⟨RX3, TX3, 5, rfl, rfl, by decide, by decide, uw_3, Or.inl w_307⟩
theorem w_1332 : Cond.methodLink "TapeStudio$Player" 192 ⟨"java/lang/Math","max","(II)I"⟩ ∈ m_big := m_big_mem (i := 1332) (by decide +kernel) (by decide +kernel)
theorem w_1331 : Cond.methodLink "TapeStudio$Player" 195 ⟨"TapeStudio$Score","isSource","(I)Z"⟩ ∈ m_big := m_big_mem (i := 1331) (by decide +kernel) (by decide +kernel)
theorem lm_X3_195 : m_MV RX3 195 yX6_isSource cX6_isSource 3 (some .boolean) 1 := ⟨⟨Or.inl w_1331, w_130, w_1229, by decide +kernel, by decide⟩, w_1227, w_1228⟩
theorem w_170 : Cond.fieldLinkNest "TapeStudio$Player" 198 "TapeStudio$Shelf" "now" "I" "TapeStudio" ∈ m_nest := m_nest_mem (i := 170) (by decide +kernel) (by decide +kernel)
theorem lf_X3_198 : m_FL RX3 198 7 3 := ⟨RX7, TX7, 12, rfl, rfl, by decide, by decide, uw_7, Or.inr ⟨_, w_170⟩⟩
theorem w_547 : Cond.fieldLinkNest "TapeStudio$Player" 201 "TapeStudio$Strip" "generation" "I" "TapeStudio" ∈ m_nest := m_nest_mem (i := 547) (by decide +kernel) (by decide +kernel)
theorem lf_X3_201 : m_FL RX3 201 8 5 := ⟨RX8, TX8, 12, rfl, rfl, by decide, by decide, uw_8, Or.inr ⟨_, w_547⟩⟩
theorem w_1327 : Cond.methodLink "TapeStudio$Player" 188 ⟨"TapeStudio$Player","depthOf","(LTapeStudio$Score;I)I"⟩ ∈ m_big := m_big_mem (i := 1327) (by decide +kernel) (by decide +kernel)
theorem w_1330 : Cond.code ⟨"TapeStudio$Player","depthOf","(LTapeStudio$Score;I)I"⟩ prog_5_method_17_code 5 (Option.some .int) ∈ m_big := m_big_mem (i := 1330) (by decide +kernel) (by decide +kernel)
theorem w_1329 : Cond.instanceMethod ⟨"TapeStudio$Player","depthOf","(LTapeStudio$Score;I)I"⟩ ∈ m_big := m_big_mem (i := 1329) (by decide +kernel) (by decide +kernel)
theorem w_52 : Cond.selects "TapeStudio$Player" ⟨"TapeStudio$Player","depthOf","(LTapeStudio$Score;I)I"⟩ ⟨"TapeStudio$Player","depthOf","(LTapeStudio$Score;I)I"⟩ ∈ m_big := m_big_mem (i := 52) (by decide +kernel) (by decide +kernel)
theorem lm_X3_188 : m_MV RX3 188 yX3_depthOf cX3_depthOf 5 (some .int) 2 := ⟨⟨Or.inl w_1327, w_131, w_1330, by decide +kernel, by decide⟩, w_1329, w_52⟩
theorem w_228 : Cond.methodLink "TapeStudio$Reader" 3 ⟨"java/lang/Object","<init>","()V"⟩ ∈ m_big := m_big_mem (i := 228) (by decide +kernel) (by decide +kernel)
theorem lo_X4_3 : Cond.methodLink RX4 3 objectInit ∈ m_big ∧ Cond.instanceMethod objectInit ∈ m_big ∧ Cond.code objectInit ⟨#[0xb1]⟩ 1 none ∈ m_big := ⟨w_228, w_151, w_152⟩
theorem uw_4 : ∀ w ∈ u_ws RX4 TX4 11, w ∈ m_big := m_sub [268,270,272,274,276,278,280,282,284,286,288] (by decide +kernel) (by decide +kernel)
theorem vw_4 : vwCl[4]? = some (RX4, TX4, 11) := rfl
theorem w_256 : Cond.fieldLink "TapeStudio$Reader" 9 "TapeStudio$Reader" "bytes" "[I" ∈ m_big := m_big_mem (i := 256) (by decide +kernel) (by decide +kernel)
theorem lp_X4_9 : m_PL RX4 9 4 0 (.array .int) true := ⟨RX4, TX4, 11, tyX4, rfl, rfl, by decide, by decide, uw_4, Or.inl w_256, rfl, fun _ => rfl, by decide +kernel, tyX4_ok, nmX4⟩
theorem w_259 : Cond.fieldLink "TapeStudio$Reader" 15 "TapeStudio$Reader" "starts" "[I" ∈ m_big := m_big_mem (i := 259) (by decide +kernel) (by decide +kernel)
theorem lp_X4_15 : m_PL RX4 15 4 2 (.array .int) true := ⟨RX4, TX4, 11, tyX4, rfl, rfl, by decide, by decide, uw_4, Or.inl w_259, rfl, fun _ => rfl, by decide +kernel, tyX4_ok, nmX4⟩
theorem w_260 : Cond.fieldLink "TapeStudio$Reader" 18 "TapeStudio$Reader" "kinds" "[I" ∈ m_big := m_big_mem (i := 260) (by decide +kernel) (by decide +kernel)
theorem lp_X4_18 : m_PL RX4 18 4 3 (.array .int) true := ⟨RX4, TX4, 11, tyX4, rfl, rfl, by decide, by decide, uw_4, Or.inl w_260, rfl, fun _ => rfl, by decide +kernel, tyX4_ok, nmX4⟩
theorem w_261 : Cond.fieldLink "TapeStudio$Reader" 21 "TapeStudio$Reader" "values" "[I" ∈ m_big := m_big_mem (i := 261) (by decide +kernel) (by decide +kernel)
theorem lp_X4_21 : m_PL RX4 21 4 4 (.array .int) true := ⟨RX4, TX4, 11, tyX4, rfl, rfl, by decide, by decide, uw_4, Or.inl w_261, rfl, fun _ => rfl, by decide +kernel, tyX4_ok, nmX4⟩
theorem w_229 : Cond.classLink "TapeStudio$Reader" 24 "TapeStudio$Score" ∈ m_big := m_big_mem (i := 229) (by decide +kernel) (by decide +kernel)
theorem ln_X4_24 : m_NL RX4 24 6 := ⟨RX6, TX6, 4, tyX6, rfl, rfl, by decide, uw_6, w_229, w_230, w_130, tyX6_ok, by decide +kernel⟩
theorem w_231 : Cond.methodLink "TapeStudio$Reader" 26 ⟨"TapeStudio$Score","<init>","([II)V"⟩ ∈ m_big := m_big_mem (i := 231) (by decide +kernel) (by decide +kernel)
theorem lm_X4_26 : m_MI RX4 26 yX6_init cX6_init 3 2 := ⟨⟨Or.inl w_231, w_130, w_233, by decide +kernel, by decide⟩, w_232, rfl⟩
theorem w_265 : Cond.fieldLink "TapeStudio$Reader" 29 "TapeStudio$Reader" "draft" "LTapeStudio$Score;" ∈ m_big := m_big_mem (i := 265) (by decide +kernel) (by decide +kernel)
theorem lp_X4_29 : m_PL RX4 29 4 8 (.object "TapeStudio$Score") true := ⟨RX4, TX4, 11, tyX4, rfl, rfl, by decide, by decide, uw_4, Or.inl w_265, rfl, fun _ => rfl, by decide +kernel, tyX4_ok, nmX4⟩
theorem w_266 : Cond.fieldLink "TapeStudio$Reader" 33 "TapeStudio$Reader" "names" "[I" ∈ m_big := m_big_mem (i := 266) (by decide +kernel) (by decide +kernel)
theorem lp_X4_33 : m_PL RX4 33 4 9 (.array .int) true := ⟨RX4, TX4, 11, tyX4, rfl, rfl, by decide, by decide, uw_4, Or.inl w_266, rfl, fun _ => rfl, by decide +kernel, tyX4_ok, nmX4⟩
theorem w_257 : Cond.fieldLink "TapeStudio$Reader" 40 "TapeStudio$Reader" "size" "I" ∈ m_big := m_big_mem (i := 257) (by decide +kernel) (by decide +kernel)
theorem lf_X4_40 : m_FL RX4 40 4 1 := ⟨RX4, TX4, 11, rfl, rfl, by decide, by decide, uw_4, Or.inl w_257⟩
theorem lf_X4_9 : m_FL RX4 9 4 0 := ⟨RX4, TX4, 11, rfl, rfl, by decide, by decide, uw_4, Or.inl w_256⟩
theorem lp_X4_40 : m_PL RX4 40 4 1 .int false := ⟨RX4, TX4, 11, tyX4, rfl, rfl, by decide, by decide, uw_4, Or.inl w_257, rfl, (fun q => by cases q), by decide +kernel, tyX4_ok, nmX4⟩
theorem w_837 : Cond.methodLink "TapeStudio$Reader" 36 ⟨"TapeStudio$Reader","addByte","(I)V"⟩ ∈ m_big := m_big_mem (i := 837) (by decide +kernel) (by decide +kernel)
theorem w_840 : Cond.code ⟨"TapeStudio$Reader","addByte","(I)V"⟩ prog_6_method_3_code 2 (Option.none : Option Jvm.ClassFile.FieldType) ∈ m_big := m_big_mem (i := 840) (by decide +kernel) (by decide +kernel)
theorem w_129 : Cond.initialized "TapeStudio$Reader" ∈ m_big := m_big_mem (i := 129) (by decide +kernel) (by decide +kernel)
theorem w_839 : Cond.instanceMethod ⟨"TapeStudio$Reader","addByte","(I)V"⟩ ∈ m_big := m_big_mem (i := 839) (by decide +kernel) (by decide +kernel)
theorem w_8 : Cond.selects "TapeStudio$Reader" ⟨"TapeStudio$Reader","addByte","(I)V"⟩ ⟨"TapeStudio$Reader","addByte","(I)V"⟩ ∈ m_big := m_big_mem (i := 8) (by decide +kernel) (by decide +kernel)
theorem lm_X4_36 : m_MV RX4 36 yX4_addByte cX4_addByte 2 none 1 := ⟨⟨Or.inl w_837, w_129, w_840, by decide +kernel, by decide⟩, w_839, w_8⟩
theorem lf_X4_15 : m_FL RX4 15 4 2 := ⟨RX4, TX4, 11, rfl, rfl, by decide, by decide, uw_4, Or.inl w_259⟩
theorem w_262 : Cond.fieldLink "TapeStudio$Reader" 81 "TapeStudio$Reader" "tokens" "I" ∈ m_big := m_big_mem (i := 262) (by decide +kernel) (by decide +kernel)
theorem lf_X4_81 : m_FL RX4 81 4 5 := ⟨RX4, TX4, 11, rfl, rfl, by decide, by decide, uw_4, Or.inl w_262⟩
theorem w_872 : Cond.methodLinkNest "TapeStudio$Reader" 111 ⟨"TapeStudio","setEntry","([III)V"⟩ "TapeStudio" ∈ m_nest := m_nest_mem (i := 872) (by decide +kernel) (by decide +kernel)
theorem lm_X4_111 : m_MS RX4 111 yX10_setEntry cX10_setEntry 3 none 3 := ⟨⟨Or.inr ⟨_, w_872⟩, w_126, w_796, by decide +kernel, by decide⟩, w_795⟩
theorem lf_X4_18 : m_FL RX4 18 4 3 := ⟨RX4, TX4, 11, rfl, rfl, by decide, by decide, uw_4, Or.inl w_260⟩
theorem lf_X4_21 : m_FL RX4 21 4 4 := ⟨RX4, TX4, 11, rfl, rfl, by decide, by decide, uw_4, Or.inl w_261⟩
theorem lp_X4_81 : m_PL RX4 81 4 5 .int false := ⟨RX4, TX4, 11, tyX4, rfl, rfl, by decide, by decide, uw_4, Or.inl w_262, rfl, (fun q => by cases q), by decide +kernel, tyX4_ok, nmX4⟩
theorem w_878 : Cond.methodLink "TapeStudio$Reader" 120 ⟨"java/lang/String","length","()I"⟩ ∈ m_big := m_big_mem (i := 878) (by decide +kernel) (by decide +kernel)
theorem w_881 : Cond.code ⟨"java/lang/String","length","()I"⟩ prog_16_method_54_code 1 (Option.some .int) ∈ m_big := m_big_mem (i := 881) (by decide +kernel) (by decide +kernel)
theorem w_140 : Cond.initialized "java/lang/String" ∈ m_big := m_big_mem (i := 140) (by decide +kernel) (by decide +kernel)
theorem w_879 : Cond.instanceMethod ⟨"java/lang/String","length","()I"⟩ ∈ m_big := m_big_mem (i := 879) (by decide +kernel) (by decide +kernel)
theorem w_880 : Cond.selects "java/lang/String" ⟨"java/lang/String","length","()I"⟩ ⟨"java/lang/String","length","()I"⟩ ∈ m_big := m_big_mem (i := 880) (by decide +kernel) (by decide +kernel)
theorem lm_X4_120 : m_MV RX4 120 yJ0_length_8abf5 cJ0_length_8abf5 1 (some .int) 0 := ⟨⟨Or.inl w_878, w_140, w_881, by decide +kernel, by decide⟩, w_879, w_880⟩
theorem w_888 : Cond.methodLink "TapeStudio$Reader" 125 ⟨"java/lang/String","charAt","(I)C"⟩ ∈ m_big := m_big_mem (i := 888) (by decide +kernel) (by decide +kernel)
theorem w_891 : Cond.code ⟨"java/lang/String","charAt","(I)C"⟩ prog_16_method_56_code 2 (Option.some .char) ∈ m_big := m_big_mem (i := 891) (by decide +kernel) (by decide +kernel)
theorem w_889 : Cond.instanceMethod ⟨"java/lang/String","charAt","(I)C"⟩ ∈ m_big := m_big_mem (i := 889) (by decide +kernel) (by decide +kernel)
theorem w_890 : Cond.selects "java/lang/String" ⟨"java/lang/String","charAt","(I)C"⟩ ⟨"java/lang/String","charAt","(I)C"⟩ ∈ m_big := m_big_mem (i := 890) (by decide +kernel) (by decide +kernel)
theorem lm_X4_125 : m_MV RX4 125 yJ0_charAt_5068e cJ0_charAt_5068e 2 (some .char) 1 := ⟨⟨Or.inl w_888, w_140, w_891, by decide +kernel, by decide⟩, w_889, w_890⟩
theorem w_263 : Cond.fieldLink "TapeStudio$Reader" 84 "TapeStudio$Reader" "place" "I" ∈ m_big := m_big_mem (i := 263) (by decide +kernel) (by decide +kernel)
theorem lf_X4_84 : m_FL RX4 84 4 6 := ⟨RX4, TX4, 11, rfl, rfl, by decide, by decide, uw_4, Or.inl w_263⟩
theorem w_857 : Cond.methodLink "TapeStudio$Reader" 87 ⟨"TapeStudio$Reader","byteAt","(I)I"⟩ ∈ m_big := m_big_mem (i := 857) (by decide +kernel) (by decide +kernel)
theorem w_860 : Cond.code ⟨"TapeStudio$Reader","byteAt","(I)I"⟩ prog_6_method_6_code 2 (Option.some .int) ∈ m_big := m_big_mem (i := 860) (by decide +kernel) (by decide +kernel)
theorem w_859 : Cond.instanceMethod ⟨"TapeStudio$Reader","byteAt","(I)I"⟩ ∈ m_big := m_big_mem (i := 859) (by decide +kernel) (by decide +kernel)
theorem w_10 : Cond.selects "TapeStudio$Reader" ⟨"TapeStudio$Reader","byteAt","(I)I"⟩ ⟨"TapeStudio$Reader","byteAt","(I)I"⟩ ∈ m_big := m_big_mem (i := 10) (by decide +kernel) (by decide +kernel)
theorem lm_X4_87 : m_MV RX4 87 yX4_byteAt cX4_byteAt 2 (some .int) 1 := ⟨⟨Or.inl w_857, w_129, w_860, by decide +kernel, by decide⟩, w_859, w_10⟩
theorem w_868 : Cond.methodLink "TapeStudio$Reader" 107 ⟨"TapeStudio$Reader","addToken","(III)V"⟩ ∈ m_big := m_big_mem (i := 868) (by decide +kernel) (by decide +kernel)
theorem w_871 : Cond.code ⟨"TapeStudio$Reader","addToken","(III)V"⟩ prog_6_method_11_code 4 (Option.none : Option Jvm.ClassFile.FieldType) ∈ m_big := m_big_mem (i := 871) (by decide +kernel) (by decide +kernel)
theorem w_870 : Cond.instanceMethod ⟨"TapeStudio$Reader","addToken","(III)V"⟩ ∈ m_big := m_big_mem (i := 870) (by decide +kernel) (by decide +kernel)
theorem w_12 : Cond.selects "TapeStudio$Reader" ⟨"TapeStudio$Reader","addToken","(III)V"⟩ ⟨"TapeStudio$Reader","addToken","(III)V"⟩ ∈ m_big := m_big_mem (i := 12) (by decide +kernel) (by decide +kernel)
theorem lm_X4_107 : m_MV RX4 107 yX4_addToken cX4_addToken 4 none 3 := ⟨⟨Or.inl w_868, w_129, w_871, by decide +kernel, by decide⟩, w_870, w_12⟩
theorem w_873 : Cond.methodLink "TapeStudio$Reader" 115 ⟨"TapeStudio$Reader","isKeyword","(II)Z"⟩ ∈ m_big := m_big_mem (i := 873) (by decide +kernel) (by decide +kernel)
theorem w_876 : Cond.code ⟨"TapeStudio$Reader","isKeyword","(II)Z"⟩ prog_6_method_13_code 7 (Option.some .boolean) ∈ m_big := m_big_mem (i := 876) (by decide +kernel) (by decide +kernel)
theorem w_875 : Cond.instanceMethod ⟨"TapeStudio$Reader","isKeyword","(II)Z"⟩ ∈ m_big := m_big_mem (i := 875) (by decide +kernel) (by decide +kernel)
theorem w_13 : Cond.selects "TapeStudio$Reader" ⟨"TapeStudio$Reader","isKeyword","(II)Z"⟩ ⟨"TapeStudio$Reader","isKeyword","(II)Z"⟩ ∈ m_big := m_big_mem (i := 13) (by decide +kernel) (by decide +kernel)
theorem lm_X4_115 : m_MV RX4 115 yX4_isKeyword cX4_isKeyword 7 (some .boolean) 2 := ⟨⟨Or.inl w_873, w_129, w_876, by decide +kernel, by decide⟩, w_875, w_13⟩
theorem w_861 : Cond.methodLink "TapeStudio$Reader" 91 ⟨"TapeStudio$Reader","isLetter","(I)Z"⟩ ∈ m_big := m_big_mem (i := 861) (by decide +kernel) (by decide +kernel)
theorem w_863 : Cond.code ⟨"TapeStudio$Reader","isLetter","(I)Z"⟩ prog_6_method_7_code 1 (Option.some .boolean) ∈ m_big := m_big_mem (i := 863) (by decide +kernel) (by decide +kernel)
theorem w_862 : Cond.static ⟨"TapeStudio$Reader","isLetter","(I)Z"⟩ ∈ m_big := m_big_mem (i := 862) (by decide +kernel) (by decide +kernel)
