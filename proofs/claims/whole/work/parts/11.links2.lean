/-! words and links, by their places in the tables -/
theorem lm_X4_91 : m_MS RX4 91 yX4_isLetter cX4_isLetter 1 (some .boolean) 1 := ⟨⟨Or.inl w_861, w_129, w_863, by decide +kernel, by decide⟩, w_862⟩
theorem lp_X4_84 : m_PL RX4 84 4 6 .int false := ⟨RX4, TX4, 11, tyX4, rfl, rfl, by decide, by decide, uw_4, Or.inl w_263, rfl, (fun q => by cases q), by decide +kernel, tyX4_ok, nmX4⟩
theorem w_926 : Cond.methodLink "TapeStudio$Reader" 98 ⟨"TapeStudio$Reader","isDigit","(I)Z"⟩ ∈ m_big := m_big_mem (i := 926) (by decide +kernel) (by decide +kernel)
theorem w_928 : Cond.code ⟨"TapeStudio$Reader","isDigit","(I)Z"⟩ prog_6_method_8_code 1 (Option.some .boolean) ∈ m_big := m_big_mem (i := 928) (by decide +kernel) (by decide +kernel)
theorem w_927 : Cond.static ⟨"TapeStudio$Reader","isDigit","(I)Z"⟩ ∈ m_big := m_big_mem (i := 927) (by decide +kernel) (by decide +kernel)
theorem lm_X4_98 : m_MS RX4 98 yX4_isDigit cX4_isDigit 1 (some .boolean) 1 := ⟨⟨Or.inl w_926, w_129, w_928, by decide +kernel, by decide⟩, w_927⟩
theorem w_933 : Cond.constant "TapeStudio$Reader" 129 (Int32.ofInt (1000000)) ∈ m_nest := m_nest_mem (i := 933) (by decide +kernel) (by decide +kernel)
theorem w_934 : Cond.methodLink "TapeStudio$Reader" 130 ⟨"java/lang/Math","min","(II)I"⟩ ∈ m_big := m_big_mem (i := 934) (by decide +kernel) (by decide +kernel)
theorem w_864 : Cond.methodLink "TapeStudio$Reader" 95 ⟨"TapeStudio$Reader","readWord","(I)V"⟩ ∈ m_big := m_big_mem (i := 864) (by decide +kernel) (by decide +kernel)
theorem w_867 : Cond.code ⟨"TapeStudio$Reader","readWord","(I)V"⟩ prog_6_method_12_code 5 (Option.none : Option Jvm.ClassFile.FieldType) ∈ m_big := m_big_mem (i := 867) (by decide +kernel) (by decide +kernel)
theorem w_866 : Cond.instanceMethod ⟨"TapeStudio$Reader","readWord","(I)V"⟩ ∈ m_big := m_big_mem (i := 866) (by decide +kernel) (by decide +kernel)
theorem w_11 : Cond.selects "TapeStudio$Reader" ⟨"TapeStudio$Reader","readWord","(I)V"⟩ ⟨"TapeStudio$Reader","readWord","(I)V"⟩ ∈ m_big := m_big_mem (i := 11) (by decide +kernel) (by decide +kernel)
theorem lm_X4_95 : m_MV RX4 95 yX4_readWord cX4_readWord 5 none 1 := ⟨⟨Or.inl w_864, w_129, w_867, by decide +kernel, by decide⟩, w_866, w_11⟩
theorem w_929 : Cond.methodLink "TapeStudio$Reader" 101 ⟨"TapeStudio$Reader","readNumber","(I)V"⟩ ∈ m_big := m_big_mem (i := 929) (by decide +kernel) (by decide +kernel)
theorem w_932 : Cond.code ⟨"TapeStudio$Reader","readNumber","(I)V"⟩ prog_6_method_14_code 3 (Option.none : Option Jvm.ClassFile.FieldType) ∈ m_big := m_big_mem (i := 932) (by decide +kernel) (by decide +kernel)
theorem w_931 : Cond.instanceMethod ⟨"TapeStudio$Reader","readNumber","(I)V"⟩ ∈ m_big := m_big_mem (i := 931) (by decide +kernel) (by decide +kernel)
theorem w_14 : Cond.selects "TapeStudio$Reader" ⟨"TapeStudio$Reader","readNumber","(I)V"⟩ ⟨"TapeStudio$Reader","readNumber","(I)V"⟩ ∈ m_big := m_big_mem (i := 14) (by decide +kernel) (by decide +kernel)
theorem lm_X4_101 : m_MV RX4 101 yX4_readNumber cX4_readNumber 3 none 1 := ⟨⟨Or.inl w_929, w_129, w_932, by decide +kernel, by decide⟩, w_931, w_14⟩
theorem w_935 : Cond.methodLink "TapeStudio$Reader" 104 ⟨"TapeStudio$Reader","isSign","(I)Z"⟩ ∈ m_big := m_big_mem (i := 935) (by decide +kernel) (by decide +kernel)
theorem w_937 : Cond.code ⟨"TapeStudio$Reader","isSign","(I)Z"⟩ prog_6_method_9_code 1 (Option.some .boolean) ∈ m_big := m_big_mem (i := 937) (by decide +kernel) (by decide +kernel)
theorem w_936 : Cond.static ⟨"TapeStudio$Reader","isSign","(I)Z"⟩ ∈ m_big := m_big_mem (i := 936) (by decide +kernel) (by decide +kernel)
theorem lm_X4_104 : m_MS RX4 104 yX4_isSign cX4_isSign 1 (some .boolean) 1 := ⟨⟨Or.inl w_935, w_129, w_937, by decide +kernel, by decide⟩, w_936⟩
theorem w_264 : Cond.fieldLink "TapeStudio$Reader" 47 "TapeStudio$Reader" "next" "I" ∈ m_big := m_big_mem (i := 264) (by decide +kernel) (by decide +kernel)
theorem lf_X4_47 : m_FL RX4 47 4 7 := ⟨RX4, TX4, 11, rfl, rfl, by decide, by decide, uw_4, Or.inl w_264⟩
theorem w_938 : Cond.methodLink "TapeStudio$Reader" 53 ⟨"TapeStudio$Reader","kind","()I"⟩ ∈ m_big := m_big_mem (i := 938) (by decide +kernel) (by decide +kernel)
theorem w_941 : Cond.code ⟨"TapeStudio$Reader","kind","()I"⟩ prog_6_method_15_code 1 (Option.some .int) ∈ m_big := m_big_mem (i := 941) (by decide +kernel) (by decide +kernel)
theorem w_940 : Cond.instanceMethod ⟨"TapeStudio$Reader","kind","()I"⟩ ∈ m_big := m_big_mem (i := 940) (by decide +kernel) (by decide +kernel)
theorem w_15 : Cond.selects "TapeStudio$Reader" ⟨"TapeStudio$Reader","kind","()I"⟩ ⟨"TapeStudio$Reader","kind","()I"⟩ ∈ m_big := m_big_mem (i := 15) (by decide +kernel) (by decide +kernel)
theorem lm_X4_53 : m_MV RX4 53 yX4_kind cX4_kind 1 (some .int) 0 := ⟨⟨Or.inl w_938, w_129, w_941, by decide +kernel, by decide⟩, w_940, w_15⟩
theorem w_946 : Cond.methodLink "TapeStudio$Reader" 136 ⟨"TapeStudio$Reader","value","()I"⟩ ∈ m_big := m_big_mem (i := 946) (by decide +kernel) (by decide +kernel)
theorem w_949 : Cond.code ⟨"TapeStudio$Reader","value","()I"⟩ prog_6_method_16_code 1 (Option.some .int) ∈ m_big := m_big_mem (i := 949) (by decide +kernel) (by decide +kernel)
theorem w_948 : Cond.instanceMethod ⟨"TapeStudio$Reader","value","()I"⟩ ∈ m_big := m_big_mem (i := 948) (by decide +kernel) (by decide +kernel)
theorem w_17 : Cond.selects "TapeStudio$Reader" ⟨"TapeStudio$Reader","value","()I"⟩ ⟨"TapeStudio$Reader","value","()I"⟩ ∈ m_big := m_big_mem (i := 17) (by decide +kernel) (by decide +kernel)
theorem lm_X4_136 : m_MV RX4 136 yX4_value cX4_value 1 (some .int) 0 := ⟨⟨Or.inl w_946, w_129, w_949, by decide +kernel, by decide⟩, w_948, w_17⟩
theorem lp_X4_47 : m_PL RX4 47 4 7 .int false := ⟨RX4, TX4, 11, tyX4, rfl, rfl, by decide, by decide, uw_4, Or.inl w_264, rfl, (fun q => by cases q), by decide +kernel, tyX4_ok, nmX4⟩
theorem lf_X4_29 : m_FL RX4 29 4 8 := ⟨RX4, TX4, 11, rfl, rfl, by decide, by decide, uw_4, Or.inl w_265⟩
theorem w_236 : Cond.fieldLinkNest "TapeStudio$Reader" 72 "TapeStudio$Score" "cells" "[I" "TapeStudio" ∈ m_nest := m_nest_mem (i := 236) (by decide +kernel) (by decide +kernel)
theorem lf_X4_72 : m_FL RX4 72 6 0 := ⟨RX6, TX6, 4, rfl, rfl, by decide, by decide, uw_6, Or.inr ⟨_, w_236⟩⟩
theorem w_241 : Cond.fieldLinkNest "TapeStudio$Reader" 50 "TapeStudio$Score" "count" "I" "TapeStudio" ∈ m_nest := m_nest_mem (i := 241) (by decide +kernel) (by decide +kernel)
theorem lf_X4_50 : m_FL RX4 50 6 1 := ⟨RX6, TX6, 4, rfl, rfl, by decide, by decide, uw_6, Or.inr ⟨_, w_241⟩⟩
theorem w_966 : Cond.methodLink "TapeStudio$Reader" 145 ⟨"TapeStudio$Reader","setCell","(II)V"⟩ ∈ m_big := m_big_mem (i := 966) (by decide +kernel) (by decide +kernel)
theorem w_969 : Cond.code ⟨"TapeStudio$Reader","setCell","(II)V"⟩ prog_6_method_22_code 3 (Option.none : Option Jvm.ClassFile.FieldType) ∈ m_big := m_big_mem (i := 969) (by decide +kernel) (by decide +kernel)
theorem w_968 : Cond.instanceMethod ⟨"TapeStudio$Reader","setCell","(II)V"⟩ ∈ m_big := m_big_mem (i := 968) (by decide +kernel) (by decide +kernel)
theorem w_22 : Cond.selects "TapeStudio$Reader" ⟨"TapeStudio$Reader","setCell","(II)V"⟩ ⟨"TapeStudio$Reader","setCell","(II)V"⟩ ∈ m_big := m_big_mem (i := 22) (by decide +kernel) (by decide +kernel)
theorem lm_X4_145 : m_MV RX4 145 yX4_setCell cX4_setCell 3 none 2 := ⟨⟨Or.inl w_966, w_129, w_969, by decide +kernel, by decide⟩, w_968, w_22⟩
theorem lf_X4_33 : m_FL RX4 33 4 9 := ⟨RX4, TX4, 11, rfl, rfl, by decide, by decide, uw_4, Or.inl w_266⟩
theorem w_267 : Cond.fieldLink "TapeStudio$Reader" 142 "TapeStudio$Reader" "numbers" "I" ∈ m_big := m_big_mem (i := 267) (by decide +kernel) (by decide +kernel)
theorem lp_X4_142 : m_PL RX4 142 4 10 .int false := ⟨RX4, TX4, 11, tyX4, rfl, rfl, by decide, by decide, uw_4, Or.inl w_267, rfl, (fun q => by cases q), by decide +kernel, tyX4_ok, nmX4⟩
theorem w_978 : Cond.methodLinkNest "TapeStudio$Reader" 68 ⟨"TapeStudio","entry","([III)I"⟩ "TapeStudio" ∈ m_nest := m_nest_mem (i := 978) (by decide +kernel) (by decide +kernel)
theorem lm_X4_68 : m_MS RX4 68 yX10_entry cX10_entry 3 (some .int) 3 := ⟨⟨Or.inr ⟨_, w_978⟩, w_126, w_807, by decide +kernel, by decide⟩, w_806⟩
theorem w_974 : Cond.methodLink "TapeStudio$Reader" 149 ⟨"TapeStudio$Reader","namedOrder","()I"⟩ ∈ m_big := m_big_mem (i := 974) (by decide +kernel) (by decide +kernel)
theorem w_977 : Cond.code ⟨"TapeStudio$Reader","namedOrder","()I"⟩ prog_6_method_21_code 2 (Option.some .int) ∈ m_big := m_big_mem (i := 977) (by decide +kernel) (by decide +kernel)
theorem w_976 : Cond.instanceMethod ⟨"TapeStudio$Reader","namedOrder","()I"⟩ ∈ m_big := m_big_mem (i := 976) (by decide +kernel) (by decide +kernel)
theorem w_24 : Cond.selects "TapeStudio$Reader" ⟨"TapeStudio$Reader","namedOrder","()I"⟩ ⟨"TapeStudio$Reader","namedOrder","()I"⟩ ∈ m_big := m_big_mem (i := 24) (by decide +kernel) (by decide +kernel)
theorem lm_X4_149 : m_MV RX4 149 yX4_namedOrder cX4_namedOrder 2 (some .int) 0 := ⟨⟨Or.inl w_974, w_129, w_977, by decide +kernel, by decide⟩, w_976, w_24⟩
theorem w_950 : Cond.methodLink "TapeStudio$Reader" 139 ⟨"TapeStudio$Reader","isNumber","(II)Z"⟩ ∈ m_big := m_big_mem (i := 950) (by decide +kernel) (by decide +kernel)
theorem w_953 : Cond.code ⟨"TapeStudio$Reader","isNumber","(II)Z"⟩ prog_6_method_18_code 3 (Option.some .boolean) ∈ m_big := m_big_mem (i := 953) (by decide +kernel) (by decide +kernel)
theorem w_952 : Cond.instanceMethod ⟨"TapeStudio$Reader","isNumber","(II)Z"⟩ ∈ m_big := m_big_mem (i := 952) (by decide +kernel) (by decide +kernel)
theorem w_18 : Cond.selects "TapeStudio$Reader" ⟨"TapeStudio$Reader","isNumber","(II)Z"⟩ ⟨"TapeStudio$Reader","isNumber","(II)Z"⟩ ∈ m_big := m_big_mem (i := 18) (by decide +kernel) (by decide +kernel)
theorem lm_X4_139 : m_MV RX4 139 yX4_isNumber cX4_isNumber 3 (some .boolean) 2 := ⟨⟨Or.inl w_950, w_129, w_953, by decide +kernel, by decide⟩, w_952, w_18⟩
theorem lf_X4_142 : m_FL RX4 142 4 10 := ⟨RX4, TX4, 11, rfl, rfl, by decide, by decide, uw_4, Or.inl w_267⟩
theorem w_954 : Cond.methodLink "TapeStudio$Reader" 152 ⟨"TapeStudio$Reader","pass","(I)Z"⟩ ∈ m_big := m_big_mem (i := 954) (by decide +kernel) (by decide +kernel)
theorem w_957 : Cond.code ⟨"TapeStudio$Reader","pass","(I)Z"⟩ prog_6_method_17_code 2 (Option.some .boolean) ∈ m_big := m_big_mem (i := 957) (by decide +kernel) (by decide +kernel)
theorem w_956 : Cond.instanceMethod ⟨"TapeStudio$Reader","pass","(I)Z"⟩ ∈ m_big := m_big_mem (i := 956) (by decide +kernel) (by decide +kernel)
theorem w_19 : Cond.selects "TapeStudio$Reader" ⟨"TapeStudio$Reader","pass","(I)Z"⟩ ⟨"TapeStudio$Reader","pass","(I)Z"⟩ ∈ m_big := m_big_mem (i := 19) (by decide +kernel) (by decide +kernel)
theorem lm_X4_152 : m_MV RX4 152 yX4_pass cX4_pass 2 (some .boolean) 1 := ⟨⟨Or.inl w_954, w_129, w_957, by decide +kernel, by decide⟩, w_956, w_19⟩
theorem lp_X4_50 : m_PL RX4 50 6 1 .int false := ⟨RX6, TX6, 4, tyX6, rfl, rfl, by decide, by decide, uw_6, Or.inr ⟨rfl, _, w_241⟩, rfl, (fun q => by cases q), by decide +kernel, tyX6_ok, nmX6⟩
theorem w_962 : Cond.methodLink "TapeStudio$Reader" 155 ⟨"TapeStudio$Reader","beginOrder","(II)V"⟩ ∈ m_big := m_big_mem (i := 962) (by decide +kernel) (by decide +kernel)
theorem w_965 : Cond.code ⟨"TapeStudio$Reader","beginOrder","(II)V"⟩ prog_6_method_23_code 3 (Option.none : Option Jvm.ClassFile.FieldType) ∈ m_big := m_big_mem (i := 965) (by decide +kernel) (by decide +kernel)
theorem w_964 : Cond.instanceMethod ⟨"TapeStudio$Reader","beginOrder","(II)V"⟩ ∈ m_big := m_big_mem (i := 964) (by decide +kernel) (by decide +kernel)
theorem w_21 : Cond.selects "TapeStudio$Reader" ⟨"TapeStudio$Reader","beginOrder","(II)V"⟩ ⟨"TapeStudio$Reader","beginOrder","(II)V"⟩ ∈ m_big := m_big_mem (i := 21) (by decide +kernel) (by decide +kernel)
theorem lm_X4_155 : m_MV RX4 155 yX4_beginOrder cX4_beginOrder 3 none 2 := ⟨⟨Or.inl w_962, w_129, w_965, by decide +kernel, by decide⟩, w_964, w_21⟩
theorem w_970 : Cond.methodLink "TapeStudio$Reader" 158 ⟨"TapeStudio$Reader","passRow","(I)Z"⟩ ∈ m_big := m_big_mem (i := 970) (by decide +kernel) (by decide +kernel)
theorem w_973 : Cond.code ⟨"TapeStudio$Reader","passRow","(I)Z"⟩ prog_6_method_20_code 3 (Option.some .boolean) ∈ m_big := m_big_mem (i := 973) (by decide +kernel) (by decide +kernel)
theorem w_972 : Cond.instanceMethod ⟨"TapeStudio$Reader","passRow","(I)Z"⟩ ∈ m_big := m_big_mem (i := 972) (by decide +kernel) (by decide +kernel)
theorem w_23 : Cond.selects "TapeStudio$Reader" ⟨"TapeStudio$Reader","passRow","(I)Z"⟩ ⟨"TapeStudio$Reader","passRow","(I)Z"⟩ ∈ m_big := m_big_mem (i := 23) (by decide +kernel) (by decide +kernel)
theorem lm_X4_158 : m_MV RX4 158 yX4_passRow cX4_passRow 3 (some .boolean) 1 := ⟨⟨Or.inl w_970, w_129, w_973, by decide +kernel, by decide⟩, w_972, w_23⟩
theorem w_979 : Cond.methodLink "TapeStudio$Reader" 161 ⟨"TapeStudio$Reader","passNumber","(II)Z"⟩ ∈ m_big := m_big_mem (i := 979) (by decide +kernel) (by decide +kernel)
theorem w_982 : Cond.code ⟨"TapeStudio$Reader","passNumber","(II)Z"⟩ prog_6_method_19_code 3 (Option.some .boolean) ∈ m_big := m_big_mem (i := 982) (by decide +kernel) (by decide +kernel)
theorem w_981 : Cond.instanceMethod ⟨"TapeStudio$Reader","passNumber","(II)Z"⟩ ∈ m_big := m_big_mem (i := 981) (by decide +kernel) (by decide +kernel)
theorem w_25 : Cond.selects "TapeStudio$Reader" ⟨"TapeStudio$Reader","passNumber","(II)Z"⟩ ⟨"TapeStudio$Reader","passNumber","(II)Z"⟩ ∈ m_big := m_big_mem (i := 25) (by decide +kernel) (by decide +kernel)
theorem lm_X4_161 : m_MV RX4 161 yX4_passNumber cX4_passNumber 3 (some .boolean) 2 := ⟨⟨Or.inl w_979, w_129, w_982, by decide +kernel, by decide⟩, w_981, w_25⟩
theorem w_983 : Cond.methodLink "TapeStudio$Reader" 164 ⟨"TapeStudio$Reader","endOrder","()Z"⟩ ∈ m_big := m_big_mem (i := 983) (by decide +kernel) (by decide +kernel)
theorem w_986 : Cond.code ⟨"TapeStudio$Reader","endOrder","()Z"⟩ prog_6_method_24_code 1 (Option.some .boolean) ∈ m_big := m_big_mem (i := 986) (by decide +kernel) (by decide +kernel)
theorem w_985 : Cond.instanceMethod ⟨"TapeStudio$Reader","endOrder","()Z"⟩ ∈ m_big := m_big_mem (i := 985) (by decide +kernel) (by decide +kernel)
theorem w_26 : Cond.selects "TapeStudio$Reader" ⟨"TapeStudio$Reader","endOrder","()Z"⟩ ⟨"TapeStudio$Reader","endOrder","()Z"⟩ ∈ m_big := m_big_mem (i := 26) (by decide +kernel) (by decide +kernel)
theorem lm_X4_164 : m_MV RX4 164 yX4_endOrder cX4_endOrder 1 (some .boolean) 0 := ⟨⟨Or.inl w_983, w_129, w_986, by decide +kernel, by decide⟩, w_985, w_26⟩
theorem w_958 : Cond.methodLink "TapeStudio$Reader" 61 ⟨"TapeStudio$Reader","readPut","(II)Z"⟩ ∈ m_big := m_big_mem (i := 958) (by decide +kernel) (by decide +kernel)
theorem w_961 : Cond.code ⟨"TapeStudio$Reader","readPut","(II)Z"⟩ prog_6_method_26_code 3 (Option.some .boolean) ∈ m_big := m_big_mem (i := 961) (by decide +kernel) (by decide +kernel)
theorem w_960 : Cond.instanceMethod ⟨"TapeStudio$Reader","readPut","(II)Z"⟩ ∈ m_big := m_big_mem (i := 960) (by decide +kernel) (by decide +kernel)
theorem w_20 : Cond.selects "TapeStudio$Reader" ⟨"TapeStudio$Reader","readPut","(II)Z"⟩ ⟨"TapeStudio$Reader","readPut","(II)Z"⟩ ∈ m_big := m_big_mem (i := 20) (by decide +kernel) (by decide +kernel)
theorem lm_X4_61 : m_MV RX4 61 yX4_readPut cX4_readPut 3 (some .boolean) 2 := ⟨⟨Or.inl w_958, w_129, w_961, by decide +kernel, by decide⟩, w_960, w_20⟩
theorem w_991 : Cond.methodLink "TapeStudio$Reader" 167 ⟨"TapeStudio$Reader","readParts","(I)Z"⟩ ∈ m_big := m_big_mem (i := 991) (by decide +kernel) (by decide +kernel)
theorem w_994 : Cond.code ⟨"TapeStudio$Reader","readParts","(I)Z"⟩ prog_6_method_28_code 2 (Option.some .boolean) ∈ m_big := m_big_mem (i := 994) (by decide +kernel) (by decide +kernel)
theorem w_993 : Cond.instanceMethod ⟨"TapeStudio$Reader","readParts","(I)Z"⟩ ∈ m_big := m_big_mem (i := 993) (by decide +kernel) (by decide +kernel)
theorem w_28 : Cond.selects "TapeStudio$Reader" ⟨"TapeStudio$Reader","readParts","(I)Z"⟩ ⟨"TapeStudio$Reader","readParts","(I)Z"⟩ ∈ m_big := m_big_mem (i := 28) (by decide +kernel) (by decide +kernel)
theorem lm_X4_167 : m_MV RX4 167 yX4_readParts cX4_readParts 2 (some .boolean) 1 := ⟨⟨Or.inl w_991, w_129, w_994, by decide +kernel, by decide⟩, w_993, w_28⟩
theorem w_942 : Cond.methodLink "TapeStudio$Reader" 57 ⟨"TapeStudio$Reader","readAgain","()Z"⟩ ∈ m_big := m_big_mem (i := 942) (by decide +kernel) (by decide +kernel)
theorem w_945 : Cond.code ⟨"TapeStudio$Reader","readAgain","()Z"⟩ prog_6_method_25_code 4 (Option.some .boolean) ∈ m_big := m_big_mem (i := 945) (by decide +kernel) (by decide +kernel)
theorem w_944 : Cond.instanceMethod ⟨"TapeStudio$Reader","readAgain","()Z"⟩ ∈ m_big := m_big_mem (i := 944) (by decide +kernel) (by decide +kernel)
theorem w_16 : Cond.selects "TapeStudio$Reader" ⟨"TapeStudio$Reader","readAgain","()Z"⟩ ⟨"TapeStudio$Reader","readAgain","()Z"⟩ ∈ m_big := m_big_mem (i := 16) (by decide +kernel) (by decide +kernel)
theorem lm_X4_57 : m_MV RX4 57 yX4_readAgain cX4_readAgain 4 (some .boolean) 0 := ⟨⟨Or.inl w_942, w_129, w_945, by decide +kernel, by decide⟩, w_944, w_16⟩
theorem w_987 : Cond.methodLink "TapeStudio$Reader" 65 ⟨"TapeStudio$Reader","readMaking","()Z"⟩ ∈ m_big := m_big_mem (i := 987) (by decide +kernel) (by decide +kernel)
theorem w_990 : Cond.code ⟨"TapeStudio$Reader","readMaking","()Z"⟩ prog_6_method_27_code 3 (Option.some .boolean) ∈ m_big := m_big_mem (i := 990) (by decide +kernel) (by decide +kernel)
theorem w_989 : Cond.instanceMethod ⟨"TapeStudio$Reader","readMaking","()Z"⟩ ∈ m_big := m_big_mem (i := 989) (by decide +kernel) (by decide +kernel)
theorem w_27 : Cond.selects "TapeStudio$Reader" ⟨"TapeStudio$Reader","readMaking","()Z"⟩ ⟨"TapeStudio$Reader","readMaking","()Z"⟩ ∈ m_big := m_big_mem (i := 27) (by decide +kernel) (by decide +kernel)
theorem lm_X4_65 : m_MV RX4 65 yX4_readMaking cX4_readMaking 3 (some .boolean) 0 := ⟨⟨Or.inl w_987, w_129, w_990, by decide +kernel, by decide⟩, w_989, w_27⟩
theorem w_853 : Cond.methodLink "TapeStudio$Reader" 44 ⟨"TapeStudio$Reader","readTokens","()V"⟩ ∈ m_big := m_big_mem (i := 853) (by decide +kernel) (by decide +kernel)
theorem w_856 : Cond.code ⟨"TapeStudio$Reader","readTokens","()V"⟩ prog_6_method_10_code 3 (Option.none : Option Jvm.ClassFile.FieldType) ∈ m_big := m_big_mem (i := 856) (by decide +kernel) (by decide +kernel)
theorem w_855 : Cond.instanceMethod ⟨"TapeStudio$Reader","readTokens","()V"⟩ ∈ m_big := m_big_mem (i := 855) (by decide +kernel) (by decide +kernel)
theorem w_9 : Cond.selects "TapeStudio$Reader" ⟨"TapeStudio$Reader","readTokens","()V"⟩ ⟨"TapeStudio$Reader","readTokens","()V"⟩ ∈ m_big := m_big_mem (i := 9) (by decide +kernel) (by decide +kernel)
theorem lm_X4_44 : m_MV RX4 44 yX4_readTokens cX4_readTokens 3 none 0 := ⟨⟨Or.inl w_853, w_129, w_856, by decide +kernel, by decide⟩, w_855, w_9⟩
theorem w_1014 : Cond.methodLink "java/util/Arrays" 304 ⟨"java/lang/Math","min","(II)I"⟩ ∈ m_big := m_big_mem (i := 1014) (by decide +kernel) (by decide +kernel)
theorem w_1015 : Cond.methodLink "java/util/Arrays" 150 ⟨"java/lang/System","arraycopy","(Ljava/lang/Object;ILjava/lang/Object;II)V"⟩ ∈ m_big := m_big_mem (i := 1015) (by decide +kernel) (by decide +kernel)
theorem w_1004 : Cond.methodLink "TapeStudio$Reader" 75 ⟨"java/util/Arrays","copyOf","([II)[I"⟩ ∈ m_big := m_big_mem (i := 1004) (by decide +kernel) (by decide +kernel)
theorem w_1006 : Cond.code ⟨"java/util/Arrays","copyOf","([II)[I"⟩ prog_20_method_123_code 3 (Option.some (.array .int)) ∈ m_big := m_big_mem (i := 1006) (by decide +kernel) (by decide +kernel)
theorem w_1005 : Cond.static ⟨"java/util/Arrays","copyOf","([II)[I"⟩ ∈ m_big := m_big_mem (i := 1005) (by decide +kernel) (by decide +kernel)
theorem lm_X4_75 : m_MS RX4 75 yJ7_copyOf_59c91 cJ7_copyOf_59c91 3 (some (.array .int)) 2 := ⟨⟨Or.inl w_1004, w_144, w_1006, by decide +kernel, by decide⟩, w_1005⟩
theorem w_158 : Cond.methodLink "TapeStudio$Shelf" 3 ⟨"java/lang/Object","<init>","()V"⟩ ∈ m_big := m_big_mem (i := 158) (by decide +kernel) (by decide +kernel)
theorem lo_X7_3 : Cond.methodLink RX7 3 objectInit ∈ m_big ∧ Cond.instanceMethod objectInit ∈ m_big ∧ Cond.code objectInit ⟨#[0xb1]⟩ 1 none ∈ m_big := ⟨w_158, w_151, w_152⟩
theorem w_159 : Cond.classLink "TapeStudio$Shelf" 9 "TapeStudio$Strip" ∈ m_big := m_big_mem (i := 159) (by decide +kernel) (by decide +kernel)
theorem w_160 : Cond.arrayOver (.object "TapeStudio$Strip") ∈ m_nest := m_nest_mem (i := 160) (by decide +kernel) (by decide +kernel)
theorem lp_X7_11 : m_PL RX7 11 7 0 (.array (.object "TapeStudio$Strip")) true := ⟨RX7, TX7, 12, tyX7, rfl, rfl, by decide, by decide, uw_7, Or.inl w_163, rfl, fun _ => rfl, by decide +kernel, tyX7_ok, nmX7⟩
theorem w_161 : Cond.classLink "TapeStudio$Shelf" 17 "TapeStudio$Machine" ∈ m_big := m_big_mem (i := 161) (by decide +kernel) (by decide +kernel)
theorem w_162 : Cond.arrayOver (.object "TapeStudio$Machine") ∈ m_nest := m_nest_mem (i := 162) (by decide +kernel) (by decide +kernel)
theorem lp_X7_19 : m_PL RX7 19 7 5 (.array (.object "TapeStudio$Machine")) true := ⟨RX7, TX7, 12, tyX7, rfl, rfl, by decide, by decide, uw_7, Or.inl w_174, rfl, fun _ => rfl, by decide +kernel, tyX7_ok, nmX7⟩
theorem lp_X7_23 : m_PL RX7 23 7 7 (.array .int) true := ⟨RX7, TX7, 12, tyX7, rfl, rfl, by decide, by decide, uw_7, Or.inl w_177, rfl, fun _ => rfl, by decide +kernel, tyX7_ok, nmX7⟩
theorem lp_X7_27 : m_PL RX7 27 7 8 (.array .int) true := ⟨RX7, TX7, 12, tyX7, rfl, rfl, by decide, by decide, uw_7, Or.inl w_178, rfl, fun _ => rfl, by decide +kernel, tyX7_ok, nmX7⟩
theorem lp_X7_30 : m_PL RX7 30 7 9 (.array .int) true := ⟨RX7, TX7, 12, tyX7, rfl, rfl, by decide, by decide, uw_7, Or.inl w_179, rfl, fun _ => rfl, by decide +kernel, tyX7_ok, nmX7⟩
theorem w_167 : Cond.fieldLink "TapeStudio$Shelf" 50 "TapeStudio$Shelf" "samples" "I" ∈ m_big := m_big_mem (i := 167) (by decide +kernel) (by decide +kernel)
theorem lf_X7_50 : m_FL RX7 50 7 2 := ⟨RX7, TX7, 12, rfl, rfl, by decide, by decide, uw_7, Or.inl w_167⟩
theorem w_529 : Cond.methodLink "TapeStudio$Strip" 3 ⟨"java/lang/Object","<init>","()V"⟩ ∈ m_big := m_big_mem (i := 529) (by decide +kernel) (by decide +kernel)
theorem lo_X8_3 : Cond.methodLink RX8 3 objectInit ∈ m_big ∧ Cond.instanceMethod objectInit ∈ m_big ∧ Cond.code objectInit ⟨#[0xb1]⟩ 1 none ∈ m_big := ⟨w_529, w_151, w_152⟩
theorem w_530 : Cond.classLink "TapeStudio$Strip" 9 "TapeStudio$Row" ∈ m_big := m_big_mem (i := 530) (by decide +kernel) (by decide +kernel)
theorem ln_X8_9 : m_NL RX8 9 5 := ⟨RX5, TX5, 2, tyX5, rfl, rfl, by decide, uw_5, w_530, w_210, w_128, tyX5_ok, by decide +kernel⟩
theorem w_531 : Cond.methodLinkNest "TapeStudio$Strip" 11 ⟨"TapeStudio$Row","<init>","()V"⟩ "TapeStudio" ∈ m_nest := m_nest_mem (i := 531) (by decide +kernel) (by decide +kernel)
theorem lm_X8_11 : m_MI RX8 11 yX5_init cX5_init 1 0 := ⟨⟨Or.inr ⟨_, w_531⟩, w_128, w_213, by decide +kernel, by decide⟩, w_212, rfl⟩
theorem w_538 : Cond.fieldLink "TapeStudio$Strip" 12 "TapeStudio$Strip" "row" "LTapeStudio$Row;" ∈ m_big := m_big_mem (i := 538) (by decide +kernel) (by decide +kernel)
theorem lp_X8_12 : m_PL RX8 12 8 3 (.object "TapeStudio$Row") true := ⟨RX8, TX8, 12, tyX8, rfl, rfl, by decide, by decide, uw_8, Or.inl w_538, rfl, fun _ => rfl, by decide +kernel, tyX8_ok, nmX8⟩
theorem w_543 : Cond.fieldLink "TapeStudio$Strip" 18 "TapeStudio$Strip" "state" "I" ∈ m_big := m_big_mem (i := 543) (by decide +kernel) (by decide +kernel)
theorem lp_X8_18 : m_PL RX8 18 8 4 .int false := ⟨RX8, TX8, 12, tyX8, rfl, rfl, by decide, by decide, uw_8, Or.inl w_543, rfl, (fun q => by cases q), by decide +kernel, tyX8_ok, nmX8⟩
theorem w_553 : Cond.fieldLink "TapeStudio$Strip" 22 "TapeStudio$Strip" "nail" "I" ∈ m_big := m_big_mem (i := 553) (by decide +kernel) (by decide +kernel)
theorem lp_X8_22 : m_PL RX8 22 8 8 .int false := ⟨RX8, TX8, 12, tyX8, rfl, rfl, by decide, by decide, uw_8, Or.inl w_553, rfl, (fun q => by cases q), by decide +kernel, tyX8_ok, nmX8⟩
theorem w_556 : Cond.fieldLink "TapeStudio$Strip" 25 "TapeStudio$Strip" "one" "I" ∈ m_big := m_big_mem (i := 556) (by decide +kernel) (by decide +kernel)
theorem lp_X8_25 : m_PL RX8 25 8 9 .int false := ⟨RX8, TX8, 12, tyX8, rfl, rfl, by decide, by decide, uw_8, Or.inl w_556, rfl, (fun q => by cases q), by decide +kernel, tyX8_ok, nmX8⟩
theorem w_558 : Cond.fieldLink "TapeStudio$Strip" 28 "TapeStudio$Strip" "other" "I" ∈ m_big := m_big_mem (i := 558) (by decide +kernel) (by decide +kernel)
theorem lp_X8_28 : m_PL RX8 28 8 10 .int false := ⟨RX8, TX8, 12, tyX8, rfl, rfl, by decide, by decide, uw_8, Or.inl w_558, rfl, (fun q => by cases q), by decide +kernel, tyX8_ok, nmX8⟩
theorem w_532 : Cond.fieldLink "TapeStudio$Strip" 31 "TapeStudio$Strip" "number" "I" ∈ m_big := m_big_mem (i := 532) (by decide +kernel) (by decide +kernel)
theorem lp_X8_31 : m_PL RX8 31 8 0 .int true := ⟨RX8, TX8, 12, tyX8, rfl, rfl, by decide, by decide, uw_8, Or.inl w_532, rfl, fun _ => rfl, by decide +kernel, tyX8_ok, nmX8⟩
theorem w_534 : Cond.fieldLink "TapeStudio$Strip" 34 "TapeStudio$Strip" "kind" "I" ∈ m_big := m_big_mem (i := 534) (by decide +kernel) (by decide +kernel)
theorem lp_X8_34 : m_PL RX8 34 8 1 .int true := ⟨RX8, TX8, 12, tyX8, rfl, rfl, by decide, by decide, uw_8, Or.inl w_534, rfl, fun _ => rfl, by decide +kernel, tyX8_ok, nmX8⟩
theorem w_537 : Cond.fieldLink "TapeStudio$Strip" 37 "TapeStudio$Strip" "day" "I" ∈ m_big := m_big_mem (i := 537) (by decide +kernel) (by decide +kernel)
theorem lp_X8_37 : m_PL RX8 37 8 2 .int true := ⟨RX8, TX8, 12, tyX8, rfl, rfl, by decide, by decide, uw_8, Or.inl w_537, rfl, fun _ => rfl, by decide +kernel, tyX8_ok, nmX8⟩
theorem lp_X7_50 : m_PL RX7 50 7 2 .int false := ⟨RX7, TX7, 12, tyX7, rfl, rfl, by decide, by decide, uw_7, Or.inl w_167, rfl, (fun q => by cases q), by decide +kernel, tyX7_ok, nmX7⟩
theorem w_181 : Cond.fieldLink "TapeStudio$Shelf" 69 "TapeStudio$Shelf" "changes" "I" ∈ m_big := m_big_mem (i := 181) (by decide +kernel) (by decide +kernel)
theorem lf_X7_69 : m_FL RX7 69 7 11 := ⟨RX7, TX7, 12, rfl, rfl, by decide, by decide, uw_7, Or.inl w_181⟩
theorem lp_X7_69 : m_PL RX7 69 7 11 .int false := ⟨RX7, TX7, 12, tyX7, rfl, rfl, by decide, by decide, uw_7, Or.inl w_181, rfl, (fun q => by cases q), by decide +kernel, tyX7_ok, nmX7⟩
theorem w_525 : Cond.instantiable "TapeStudio$Strip" 12 ∈ m_big := m_big_mem (i := 525) (by decide +kernel) (by decide +kernel)
theorem w_138 : Cond.initialized "TapeStudio$Strip" ∈ m_big := m_big_mem (i := 138) (by decide +kernel) (by decide +kernel)
theorem ln_X7_9 : m_NL RX7 9 8 := ⟨RX8, TX8, 12, tyX8, rfl, rfl, by decide, uw_8, w_159, w_525, w_138, tyX8_ok, by decide +kernel⟩
theorem w_169 : Cond.fieldLink "TapeStudio$Shelf" 53 "TapeStudio$Shelf" "now" "I" ∈ m_big := m_big_mem (i := 169) (by decide +kernel) (by decide +kernel)
theorem lf_X7_53 : m_FL RX7 53 7 3 := ⟨RX7, TX7, 12, rfl, rfl, by decide, by decide, uw_7, Or.inl w_169⟩
theorem w_526 : Cond.methodLink "TapeStudio$Shelf" 56 ⟨"TapeStudio$Strip","<init>","(III)V"⟩ ∈ m_big := m_big_mem (i := 526) (by decide +kernel) (by decide +kernel)
theorem w_528 : Cond.code ⟨"TapeStudio$Strip","<init>","(III)V"⟩ prog_10_method_1_code 4 (Option.none : Option Jvm.ClassFile.FieldType) ∈ m_big := m_big_mem (i := 528) (by decide +kernel) (by decide +kernel)
theorem w_527 : Cond.instanceMethod ⟨"TapeStudio$Strip","<init>","(III)V"⟩ ∈ m_big := m_big_mem (i := 527) (by decide +kernel) (by decide +kernel)
theorem lm_X7_56 : m_MI RX7 56 yX8_init cX8_init 4 3 := ⟨⟨Or.inl w_526, w_138, w_528, by decide +kernel, by decide⟩, w_527, rfl⟩
theorem w_540 : Cond.fieldLinkNest "TapeStudio$Shelf" 59 "TapeStudio$Strip" "row" "LTapeStudio$Row;" "TapeStudio" ∈ m_nest := m_nest_mem (i := 540) (by decide +kernel) (by decide +kernel)
theorem lf_X7_59 : m_FL RX7 59 8 3 := ⟨RX8, TX8, 12, rfl, rfl, by decide, by decide, uw_8, Or.inr ⟨_, w_540⟩⟩
theorem w_587 : Cond.methodLink "TapeStudio$Shelf" 63 ⟨"TapeStudio$Row","resize","(I)V"⟩ ∈ m_big := m_big_mem (i := 587) (by decide +kernel) (by decide +kernel)
theorem lm_X7_63 : m_MV RX7 63 yX5_resize cX5_resize 4 none 1 := ⟨⟨Or.inl w_587, w_128, w_483, by decide +kernel, by decide⟩, w_481, w_482⟩
theorem lp_X7_33 : m_PL RX7 33 7 1 .int false := ⟨RX7, TX7, 12, tyX7, rfl, rfl, by decide, by decide, uw_7, Or.inl w_164, rfl, (fun q => by cases q), by decide +kernel, tyX7_ok, nmX7⟩
theorem w_546 : Cond.fieldLink "TapeStudio$Strip" 44 "TapeStudio$Strip" "generation" "I" ∈ m_big := m_big_mem (i := 546) (by decide +kernel) (by decide +kernel)
theorem lf_X8_44 : m_FL RX8 44 8 5 := ⟨RX8, TX8, 12, rfl, rfl, by decide, by decide, uw_8, Or.inl w_546⟩
theorem w_634 : Cond.methodLink "TapeStudio$Strip" 56 ⟨"java/lang/Math","max","(II)I"⟩ ∈ m_big := m_big_mem (i := 634) (by decide +kernel) (by decide +kernel)
theorem lp_X8_44 : m_PL RX8 44 8 5 .int false := ⟨RX8, TX8, 12, tyX8, rfl, rfl, by decide, by decide, uw_8, Or.inl w_546, rfl, (fun q => by cases q), by decide +kernel, tyX8_ok, nmX8⟩
theorem w_549 : Cond.fieldLink "TapeStudio$Strip" 47 "TapeStudio$Strip" "hiss" "I" ∈ m_big := m_big_mem (i := 549) (by decide +kernel) (by decide +kernel)
theorem lf_X8_47 : m_FL RX8 47 8 6 := ⟨RX8, TX8, 12, rfl, rfl, by decide, by decide, uw_8, Or.inl w_549⟩
theorem lp_X8_47 : m_PL RX8 47 8 6 .int false := ⟨RX8, TX8, 12, tyX8, rfl, rfl, by decide, by decide, uw_8, Or.inl w_549, rfl, (fun q => by cases q), by decide +kernel, tyX8_ok, nmX8⟩
theorem w_551 : Cond.fieldLink "TapeStudio$Strip" 50 "TapeStudio$Strip" "wear" "I" ∈ m_big := m_big_mem (i := 551) (by decide +kernel) (by decide +kernel)
theorem lf_X8_50 : m_FL RX8 50 8 7 := ⟨RX8, TX8, 12, rfl, rfl, by decide, by decide, uw_8, Or.inl w_551⟩
theorem lp_X8_50 : m_PL RX8 50 8 7 .int false := ⟨RX8, TX8, 12, tyX8, rfl, rfl, by decide, by decide, uw_8, Or.inl w_551, rfl, (fun q => by cases q), by decide +kernel, tyX8_ok, nmX8⟩
theorem w_521 : Cond.methodLink "TapeStudio$Shelf" 72 ⟨"TapeStudio$Shelf","begin","(II)LTapeStudio$Strip;"⟩ ∈ m_big := m_big_mem (i := 521) (by decide +kernel) (by decide +kernel)
theorem w_524 : Cond.code ⟨"TapeStudio$Shelf","begin","(II)LTapeStudio$Strip;"⟩ prog_9_method_7_code 4 (Option.some (.object "TapeStudio$Strip")) ∈ m_big := m_big_mem (i := 524) (by decide +kernel) (by decide +kernel)
theorem w_523 : Cond.instanceMethod ⟨"TapeStudio$Shelf","begin","(II)LTapeStudio$Strip;"⟩ ∈ m_big := m_big_mem (i := 523) (by decide +kernel) (by decide +kernel)
theorem w_1 : Cond.selects "TapeStudio$Shelf" ⟨"TapeStudio$Shelf","begin","(II)LTapeStudio$Strip;"⟩ ⟨"TapeStudio$Shelf","begin","(II)LTapeStudio$Strip;"⟩ ∈ m_big := m_big_mem (i := 1) (by decide +kernel) (by decide +kernel)
theorem lm_X7_72 : m_MV RX7 72 yX7_begin cX7_begin 4 (some (.object "TapeStudio$Strip")) 2 := ⟨⟨Or.inl w_521, w_127, w_524, by decide +kernel, by decide⟩, w_523, w_1⟩
theorem w_533 : Cond.fieldLinkNest "TapeStudio$Shelf" 76 "TapeStudio$Strip" "number" "I" "TapeStudio" ∈ m_nest := m_nest_mem (i := 533) (by decide +kernel) (by decide +kernel)
theorem lf_X7_76 : m_FL RX7 76 8 0 := ⟨RX8, TX8, 12, rfl, rfl, by decide, by decide, uw_8, Or.inr ⟨_, w_533⟩⟩
theorem w_557 : Cond.fieldLinkNest "TapeStudio$Shelf" 79 "TapeStudio$Strip" "one" "I" "TapeStudio" ∈ m_nest := m_nest_mem (i := 557) (by decide +kernel) (by decide +kernel)
theorem lp_X7_79 : m_PL RX7 79 8 9 .int false := ⟨RX8, TX8, 12, tyX8, rfl, rfl, by decide, by decide, uw_8, Or.inr ⟨rfl, _, w_557⟩, rfl, (fun q => by cases q), by decide +kernel, tyX8_ok, nmX8⟩
theorem w_630 : Cond.methodLink "TapeStudio$Shelf" 82 ⟨"TapeStudio$Strip","ageAs","(LTapeStudio$Strip;)V"⟩ ∈ m_big := m_big_mem (i := 630) (by decide +kernel) (by decide +kernel)
theorem w_633 : Cond.code ⟨"TapeStudio$Strip","ageAs","(LTapeStudio$Strip;)V"⟩ prog_10_method_3_code 2 (Option.none : Option Jvm.ClassFile.FieldType) ∈ m_big := m_big_mem (i := 633) (by decide +kernel) (by decide +kernel)
theorem w_631 : Cond.instanceMethod ⟨"TapeStudio$Strip","ageAs","(LTapeStudio$Strip;)V"⟩ ∈ m_big := m_big_mem (i := 631) (by decide +kernel) (by decide +kernel)
theorem w_632 : Cond.selects "TapeStudio$Strip" ⟨"TapeStudio$Strip","ageAs","(LTapeStudio$Strip;)V"⟩ ⟨"TapeStudio$Strip","ageAs","(LTapeStudio$Strip;)V"⟩ ∈ m_big := m_big_mem (i := 632) (by decide +kernel) (by decide +kernel)
theorem lm_X7_82 : m_MV RX7 82 yX8_ageAs cX8_ageAs 2 none 1 := ⟨⟨Or.inl w_630, w_138, w_633, by decide +kernel, by decide⟩, w_631, w_632⟩
theorem lp_X7_41 : m_PL RX7 41 8 4 .int false := ⟨RX8, TX8, 12, tyX8, rfl, rfl, by decide, by decide, uw_8, Or.inr ⟨rfl, _, w_544⟩, rfl, (fun q => by cases q), by decide +kernel, tyX8_ok, nmX8⟩
theorem w_554 : Cond.fieldLinkNest "TapeStudio$Shelf" 86 "TapeStudio$Strip" "nail" "I" "TapeStudio" ∈ m_nest := m_nest_mem (i := 554) (by decide +kernel) (by decide +kernel)
theorem lp_X7_86 : m_PL RX7 86 8 8 .int false := ⟨RX8, TX8, 12, tyX8, rfl, rfl, by decide, by decide, uw_8, Or.inr ⟨rfl, _, w_554⟩, rfl, (fun q => by cases q), by decide +kernel, tyX8_ok, nmX8⟩
theorem w_588 : Cond.methodLink "TapeStudio$Shelf" 89 ⟨"TapeStudio$Row","fillPart","(LTapeStudio$Row;II)V"⟩ ∈ m_big := m_big_mem (i := 588) (by decide +kernel) (by decide +kernel)
theorem lm_X7_89 : m_MV RX7 89 yX5_fillPart cX5_fillPart 5 none 3 := ⟨⟨Or.inl w_588, w_128, w_591, by decide +kernel, by decide⟩, w_589, w_590⟩
theorem w_626 : Cond.methodLink "TapeStudio$Shelf" 112 ⟨"TapeStudio$Shelf","beginOf","(IILTapeStudio$Strip;)LTapeStudio$Strip;"⟩ ∈ m_big := m_big_mem (i := 626) (by decide +kernel) (by decide +kernel)
theorem w_629 : Cond.code ⟨"TapeStudio$Shelf","beginOf","(IILTapeStudio$Strip;)LTapeStudio$Strip;"⟩ prog_9_method_8_code 5 (Option.some (.object "TapeStudio$Strip")) ∈ m_big := m_big_mem (i := 629) (by decide +kernel) (by decide +kernel)
theorem w_628 : Cond.instanceMethod ⟨"TapeStudio$Shelf","beginOf","(IILTapeStudio$Strip;)LTapeStudio$Strip;"⟩ ∈ m_big := m_big_mem (i := 628) (by decide +kernel) (by decide +kernel)
theorem w_3 : Cond.selects "TapeStudio$Shelf" ⟨"TapeStudio$Shelf","beginOf","(IILTapeStudio$Strip;)LTapeStudio$Strip;"⟩ ⟨"TapeStudio$Shelf","beginOf","(IILTapeStudio$Strip;)LTapeStudio$Strip;"⟩ ∈ m_big := m_big_mem (i := 3) (by decide +kernel) (by decide +kernel)
theorem lm_X7_112 : m_MV RX7 112 yX7_beginOf cX7_beginOf 5 (some (.object "TapeStudio$Strip")) 3 := ⟨⟨Or.inl w_626, w_127, w_629, by decide +kernel, by decide⟩, w_628, w_3⟩
theorem w_561 : Cond.fieldLinkNest "TapeStudio$Shelf" 116 "TapeStudio$Strip" "begin" "I" "TapeStudio" ∈ m_nest := m_nest_mem (i := 561) (by decide +kernel) (by decide +kernel)
theorem lp_X7_116 : m_PL RX7 116 8 11 .int false := ⟨RX8, TX8, 12, tyX8, rfl, rfl, by decide, by decide, uw_8, Or.inr ⟨rfl, _, w_561⟩, rfl, (fun q => by cases q), by decide +kernel, tyX8_ok, nmX8⟩
theorem w_620 : Cond.methodLink "TapeStudio$Shelf" 93 ⟨"TapeStudio$Row","size","()I"⟩ ∈ m_big := m_big_mem (i := 620) (by decide +kernel) (by decide +kernel)
theorem lm_X7_93 : m_MV RX7 93 yX5_size cX5_size 1 (some .int) 0 := ⟨⟨Or.inl w_620, w_128, w_471, by decide +kernel, by decide⟩, w_469, w_470⟩
theorem w_173 : Cond.fieldLink "TapeStudio$Shelf" 97 "TapeStudio$Shelf" "sliver" "I" ∈ m_big := m_big_mem (i := 173) (by decide +kernel) (by decide +kernel)
theorem lf_X7_97 : m_FL RX7 97 7 4 := ⟨RX7, TX7, 12, rfl, rfl, by decide, by decide, uw_7, Or.inl w_173⟩
theorem w_621 : Cond.methodLink "TapeStudio$Shelf" 100 ⟨"TapeStudio$Shelf","hasRoom","(II)Z"⟩ ∈ m_big := m_big_mem (i := 621) (by decide +kernel) (by decide +kernel)
theorem w_516 : Cond.code ⟨"TapeStudio$Shelf","hasRoom","(II)Z"⟩ prog_9_method_6_code 3 (Option.some .boolean) ∈ m_big := m_big_mem (i := 516) (by decide +kernel) (by decide +kernel)
theorem w_514 : Cond.instanceMethod ⟨"TapeStudio$Shelf","hasRoom","(II)Z"⟩ ∈ m_big := m_big_mem (i := 514) (by decide +kernel) (by decide +kernel)
theorem w_515 : Cond.selects "TapeStudio$Shelf" ⟨"TapeStudio$Shelf","hasRoom","(II)Z"⟩ ⟨"TapeStudio$Shelf","hasRoom","(II)Z"⟩ ∈ m_big := m_big_mem (i := 515) (by decide +kernel) (by decide +kernel)
theorem lm_X7_100 : m_MV RX7 100 yX7_hasRoom cX7_hasRoom 3 (some .boolean) 2 := ⟨⟨Or.inl w_621, w_127, w_516, by decide +kernel, by decide⟩, w_514, w_515⟩
theorem w_622 : Cond.methodLink "TapeStudio$Shelf" 104 ⟨"TapeStudio$Shelf","addPart","(LTapeStudio$Strip;II)I"⟩ ∈ m_big := m_big_mem (i := 622) (by decide +kernel) (by decide +kernel)
theorem w_625 : Cond.code ⟨"TapeStudio$Shelf","addPart","(LTapeStudio$Strip;II)I"⟩ prog_9_method_12_code 5 (Option.some .int) ∈ m_big := m_big_mem (i := 625) (by decide +kernel) (by decide +kernel)
theorem w_624 : Cond.instanceMethod ⟨"TapeStudio$Shelf","addPart","(LTapeStudio$Strip;II)I"⟩ ∈ m_big := m_big_mem (i := 624) (by decide +kernel) (by decide +kernel)
theorem w_2 : Cond.selects "TapeStudio$Shelf" ⟨"TapeStudio$Shelf","addPart","(LTapeStudio$Strip;II)I"⟩ ⟨"TapeStudio$Shelf","addPart","(LTapeStudio$Strip;II)I"⟩ ∈ m_big := m_big_mem (i := 2) (by decide +kernel) (by decide +kernel)
theorem lm_X7_104 : m_MV RX7 104 yX7_addPart cX7_addPart 5 (some .int) 3 := ⟨⟨Or.inl w_622, w_127, w_625, by decide +kernel, by decide⟩, w_624, w_2⟩
theorem w_635 : Cond.methodLink "TapeStudio$Shelf" 108 ⟨"TapeStudio$Shelf","takeAway","(LTapeStudio$Strip;I)V"⟩ ∈ m_big := m_big_mem (i := 635) (by decide +kernel) (by decide +kernel)
theorem w_638 : Cond.code ⟨"TapeStudio$Shelf","takeAway","(LTapeStudio$Strip;I)V"⟩ prog_9_method_9_code 3 (Option.none : Option Jvm.ClassFile.FieldType) ∈ m_big := m_big_mem (i := 638) (by decide +kernel) (by decide +kernel)
theorem w_636 : Cond.instanceMethod ⟨"TapeStudio$Shelf","takeAway","(LTapeStudio$Strip;I)V"⟩ ∈ m_big := m_big_mem (i := 636) (by decide +kernel) (by decide +kernel)
theorem w_637 : Cond.selects "TapeStudio$Shelf" ⟨"TapeStudio$Shelf","takeAway","(LTapeStudio$Strip;I)V"⟩ ⟨"TapeStudio$Shelf","takeAway","(LTapeStudio$Strip;I)V"⟩ ∈ m_big := m_big_mem (i := 637) (by decide +kernel) (by decide +kernel)
theorem lm_X7_108 : m_MV RX7 108 yX7_takeAway cX7_takeAway 3 none 2 := ⟨⟨Or.inl w_635, w_127, w_638, by decide +kernel, by decide⟩, w_636, w_637⟩
theorem w_536 : Cond.fieldLinkNest "TapeStudio$Shelf" 118 "TapeStudio$Strip" "kind" "I" "TapeStudio" ∈ m_nest := m_nest_mem (i := 536) (by decide +kernel) (by decide +kernel)
theorem lf_X7_118 : m_FL RX7 118 8 1 := ⟨RX8, TX8, 12, rfl, rfl, by decide, by decide, uw_8, Or.inr ⟨_, w_536⟩⟩
theorem w_647 : Cond.methodLink "TapeStudio$Shelf" 121 ⟨"TapeStudio$Shelf","freeStrip","(I)LTapeStudio$Strip;"⟩ ∈ m_big := m_big_mem (i := 647) (by decide +kernel) (by decide +kernel)
theorem w_650 : Cond.code ⟨"TapeStudio$Shelf","freeStrip","(I)LTapeStudio$Strip;"⟩ prog_9_method_13_code 3 (Option.some (.object "TapeStudio$Strip")) ∈ m_big := m_big_mem (i := 650) (by decide +kernel) (by decide +kernel)
theorem w_649 : Cond.instanceMethod ⟨"TapeStudio$Shelf","freeStrip","(I)LTapeStudio$Strip;"⟩ ∈ m_big := m_big_mem (i := 649) (by decide +kernel) (by decide +kernel)
theorem w_4 : Cond.selects "TapeStudio$Shelf" ⟨"TapeStudio$Shelf","freeStrip","(I)LTapeStudio$Strip;"⟩ ⟨"TapeStudio$Shelf","freeStrip","(I)LTapeStudio$Strip;"⟩ ∈ m_big := m_big_mem (i := 4) (by decide +kernel) (by decide +kernel)
theorem lm_X7_121 : m_MV RX7 121 yX7_freeStrip cX7_freeStrip 3 (some (.object "TapeStudio$Strip")) 1 := ⟨⟨Or.inl w_647, w_127, w_650, by decide +kernel, by decide⟩, w_649, w_4⟩
theorem w_651 : Cond.methodLink "TapeStudio$Shelf" 124 ⟨"TapeStudio$Row","fillTurned","(LTapeStudio$Row;)V"⟩ ∈ m_big := m_big_mem (i := 651) (by decide +kernel) (by decide +kernel)
theorem lm_X7_124 : m_MV RX7 124 yX5_fillTurned cX5_fillTurned 3 none 1 := ⟨⟨Or.inl w_651, w_128, w_654, by decide +kernel, by decide⟩, w_652, w_653⟩
theorem w_680 : Cond.methodLink "TapeStudio$Shelf" 128 ⟨"java/lang/Math","min","(II)I"⟩ ∈ m_big := m_big_mem (i := 680) (by decide +kernel) (by decide +kernel)
theorem w_681 : Cond.methodLink "TapeStudio$Shelf" 134 ⟨"TapeStudio$Row","joinedSize","(LTapeStudio$Row;LTapeStudio$Row;I)I"⟩ ∈ m_big := m_big_mem (i := 681) (by decide +kernel) (by decide +kernel)
theorem lm_X7_134 : m_MS RX7 134 yX5_joinedSize cX5_joinedSize 3 (some .int) 3 := ⟨⟨Or.inl w_681, w_128, w_683, by decide +kernel, by decide⟩, w_682⟩
theorem w_559 : Cond.fieldLinkNest "TapeStudio$Shelf" 138 "TapeStudio$Strip" "other" "I" "TapeStudio" ∈ m_nest := m_nest_mem (i := 559) (by decide +kernel) (by decide +kernel)
theorem lp_X7_138 : m_PL RX7 138 8 10 .int false := ⟨RX8, TX8, 12, tyX8, rfl, rfl, by decide, by decide, uw_8, Or.inr ⟨rfl, _, w_559⟩, rfl, (fun q => by cases q), by decide +kernel, tyX8_ok, nmX8⟩
theorem w_684 : Cond.methodLink "TapeStudio$Shelf" 141 ⟨"TapeStudio$Row","fillJoined","(LTapeStudio$Row;LTapeStudio$Row;I)V"⟩ ∈ m_big := m_big_mem (i := 684) (by decide +kernel) (by decide +kernel)
theorem lm_X7_141 : m_MV RX7 141 yX5_fillJoined cX5_fillJoined 7 none 3 := ⟨⟨Or.inl w_684, w_128, w_687, by decide +kernel, by decide⟩, w_685, w_686⟩
theorem w_697 : Cond.instantiable "TapeStudio$Machine" 4 ∈ m_big := m_big_mem (i := 697) (by decide +kernel) (by decide +kernel)
theorem ln_X7_17 : m_NL RX7 17 0 := ⟨RX0, TX0, 4, tyX0, rfl, rfl, by decide, uw_0, w_161, w_697, w_139, tyX0_ok, by decide +kernel⟩
theorem w_698 : Cond.methodLink "TapeStudio$Shelf" 145 ⟨"TapeStudio$Machine","<init>","(IIII)V"⟩ ∈ m_big := m_big_mem (i := 698) (by decide +kernel) (by decide +kernel)
theorem w_700 : Cond.code ⟨"TapeStudio$Machine","<init>","(IIII)V"⟩ prog_2_method_1_code 5 (Option.none : Option Jvm.ClassFile.FieldType) ∈ m_big := m_big_mem (i := 700) (by decide +kernel) (by decide +kernel)
theorem w_699 : Cond.instanceMethod ⟨"TapeStudio$Machine","<init>","(IIII)V"⟩ ∈ m_big := m_big_mem (i := 699) (by decide +kernel) (by decide +kernel)
theorem lm_X7_145 : m_MI RX7 145 yX0_init cX0_init 5 4 := ⟨⟨Or.inl w_698, w_139, w_700, by decide +kernel, by decide⟩, w_699, rfl⟩
theorem lp_X7_44 : m_PL RX7 44 7 6 .int false := ⟨RX7, TX7, 12, tyX7, rfl, rfl, by decide, by decide, uw_7, Or.inl w_175, rfl, (fun q => by cases q), by decide +kernel, tyX7_ok, nmX7⟩
theorem w_552 : Cond.fieldLinkNest "TapeStudio$Shelf" 148 "TapeStudio$Strip" "wear" "I" "TapeStudio" ∈ m_nest := m_nest_mem (i := 552) (by decide +kernel) (by decide +kernel)
theorem lf_X7_148 : m_FL RX7 148 8 7 := ⟨RX8, TX8, 12, rfl, rfl, by decide, by decide, uw_8, Or.inr ⟨_, w_552⟩⟩
theorem w_739 : Cond.methodLink "TapeStudio$Shelf" 151 ⟨"TapeStudio$Row","playedSize","(II)I"⟩ ∈ m_big := m_big_mem (i := 739) (by decide +kernel) (by decide +kernel)
theorem lm_X7_151 : m_MV RX7 151 yX5_playedSize cX5_playedSize 3 (some .int) 2 := ⟨⟨Or.inl w_739, w_128, w_742, by decide +kernel, by decide⟩, w_740, w_741⟩
theorem w_548 : Cond.fieldLinkNest "TapeStudio$Shelf" 154 "TapeStudio$Strip" "generation" "I" "TapeStudio" ∈ m_nest := m_nest_mem (i := 548) (by decide +kernel) (by decide +kernel)
theorem lf_X7_154 : m_FL RX7 154 8 5 := ⟨RX8, TX8, 12, rfl, rfl, by decide, by decide, uw_8, Or.inr ⟨_, w_548⟩⟩
theorem lp_X7_154 : m_PL RX7 154 8 5 .int false := ⟨RX8, TX8, 12, tyX8, rfl, rfl, by decide, by decide, uw_8, Or.inr ⟨rfl, _, w_548⟩, rfl, (fun q => by cases q), by decide +kernel, tyX8_ok, nmX8⟩
theorem w_550 : Cond.fieldLinkNest "TapeStudio$Shelf" 157 "TapeStudio$Strip" "hiss" "I" "TapeStudio" ∈ m_nest := m_nest_mem (i := 550) (by decide +kernel) (by decide +kernel)
theorem lf_X7_157 : m_FL RX7 157 8 6 := ⟨RX8, TX8, 12, rfl, rfl, by decide, by decide, uw_8, Or.inr ⟨_, w_550⟩⟩
theorem w_707 : Cond.fieldLinkNest "TapeStudio$Shelf" 160 "TapeStudio$Machine" "hiss" "I" "TapeStudio" ∈ m_nest := m_nest_mem (i := 707) (by decide +kernel) (by decide +kernel)
theorem lf_X7_160 : m_FL RX7 160 0 2 := ⟨RX0, TX0, 4, rfl, rfl, by decide, by decide, uw_0, Or.inr ⟨_, w_707⟩⟩
theorem lp_X7_157 : m_PL RX7 157 8 6 .int false := ⟨RX8, TX8, 12, tyX8, rfl, rfl, by decide, by decide, uw_8, Or.inr ⟨rfl, _, w_550⟩, rfl, (fun q => by cases q), by decide +kernel, tyX8_ok, nmX8⟩
theorem w_747 : Cond.methodLink "TapeStudio$Shelf" 161 ⟨"TapeStudio$Row","fillPlayed","(LTapeStudio$Row;II)V"⟩ ∈ m_big := m_big_mem (i := 747) (by decide +kernel) (by decide +kernel)
theorem lm_X7_161 : m_MV RX7 161 yX5_fillPlayed cX5_fillPlayed 6 none 3 := ⟨⟨Or.inl w_747, w_128, w_750, by decide +kernel, by decide⟩, w_748, w_749⟩
theorem w_709 : Cond.fieldLinkNest "TapeStudio$Shelf" 164 "TapeStudio$Machine" "rough" "I" "TapeStudio" ∈ m_nest := m_nest_mem (i := 709) (by decide +kernel) (by decide +kernel)
theorem lf_X7_164 : m_FL RX7 164 0 3 := ⟨RX0, TX0, 4, rfl, rfl, by decide, by decide, uw_0, Or.inr ⟨_, w_709⟩⟩
theorem lp_X7_148 : m_PL RX7 148 8 7 .int false := ⟨RX8, TX8, 12, tyX8, rfl, rfl, by decide, by decide, uw_8, Or.inr ⟨rfl, _, w_552⟩, rfl, (fun q => by cases q), by decide +kernel, tyX8_ok, nmX8⟩
theorem w_727 : Cond.methodLink "TapeStudio$Shelf" 167 ⟨"TapeStudio$Shelf","machineOf","(I)LTapeStudio$Machine;"⟩ ∈ m_big := m_big_mem (i := 727) (by decide +kernel) (by decide +kernel)
theorem lm_X7_167 : m_MV RX7 167 yX7_machineOf cX7_machineOf 2 (some (.object "TapeStudio$Machine")) 1 := ⟨⟨Or.inl w_727, w_127, w_730, by decide +kernel, by decide⟩, w_728, w_729⟩
theorem w_731 : Cond.methodLink "TapeStudio$Shelf" 171 ⟨"TapeStudio$Machine","copyPace","()I"⟩ ∈ m_big := m_big_mem (i := 731) (by decide +kernel) (by decide +kernel)
theorem lm_X7_171 : m_MV RX7 171 yX0_copyPace cX0_copyPace 1 (some .int) 0 := ⟨⟨Or.inl w_731, w_139, w_734, by decide +kernel, by decide⟩, w_732, w_733⟩
theorem w_735 : Cond.methodLink "TapeStudio$Shelf" 174 ⟨"TapeStudio$Shelf","canPlay","(LTapeStudio$Strip;LTapeStudio$Machine;II)Z"⟩ ∈ m_big := m_big_mem (i := 735) (by decide +kernel) (by decide +kernel)
theorem w_738 : Cond.code ⟨"TapeStudio$Shelf","canPlay","(LTapeStudio$Strip;LTapeStudio$Machine;II)Z"⟩ prog_9_method_18_code 6 (Option.some .boolean) ∈ m_big := m_big_mem (i := 738) (by decide +kernel) (by decide +kernel)
theorem w_737 : Cond.instanceMethod ⟨"TapeStudio$Shelf","canPlay","(LTapeStudio$Strip;LTapeStudio$Machine;II)Z"⟩ ∈ m_big := m_big_mem (i := 737) (by decide +kernel) (by decide +kernel)
theorem w_5 : Cond.selects "TapeStudio$Shelf" ⟨"TapeStudio$Shelf","canPlay","(LTapeStudio$Strip;LTapeStudio$Machine;II)Z"⟩ ⟨"TapeStudio$Shelf","canPlay","(LTapeStudio$Strip;LTapeStudio$Machine;II)Z"⟩ ∈ m_big := m_big_mem (i := 5) (by decide +kernel) (by decide +kernel)
theorem lm_X7_174 : m_MV RX7 174 yX7_canPlay cX7_canPlay 6 (some .boolean) 4 := ⟨⟨Or.inl w_735, w_127, w_738, by decide +kernel, by decide⟩, w_737, w_5⟩
theorem w_743 : Cond.methodLink "TapeStudio$Shelf" 178 ⟨"TapeStudio$Shelf","played","(ILTapeStudio$Strip;LTapeStudio$Machine;II)LTapeStudio$Strip;"⟩ ∈ m_big := m_big_mem (i := 743) (by decide +kernel) (by decide +kernel)
theorem w_746 : Cond.code ⟨"TapeStudio$Shelf","played","(ILTapeStudio$Strip;LTapeStudio$Machine;II)LTapeStudio$Strip;"⟩ prog_9_method_19_code 7 (Option.some (.object "TapeStudio$Strip")) ∈ m_big := m_big_mem (i := 746) (by decide +kernel) (by decide +kernel)
theorem w_745 : Cond.instanceMethod ⟨"TapeStudio$Shelf","played","(ILTapeStudio$Strip;LTapeStudio$Machine;II)LTapeStudio$Strip;"⟩ ∈ m_big := m_big_mem (i := 745) (by decide +kernel) (by decide +kernel)
theorem w_6 : Cond.selects "TapeStudio$Shelf" ⟨"TapeStudio$Shelf","played","(ILTapeStudio$Strip;LTapeStudio$Machine;II)LTapeStudio$Strip;"⟩ ⟨"TapeStudio$Shelf","played","(ILTapeStudio$Strip;LTapeStudio$Machine;II)LTapeStudio$Strip;"⟩ ∈ m_big := m_big_mem (i := 6) (by decide +kernel) (by decide +kernel)
theorem lm_X7_178 : m_MV RX7 178 yX7_played cX7_played 7 (some (.object "TapeStudio$Strip")) 5 := ⟨⟨Or.inl w_743, w_127, w_746, by decide +kernel, by decide⟩, w_745, w_6⟩
theorem w_705 : Cond.fieldLinkNest "TapeStudio$Shelf" 182 "TapeStudio$Machine" "level" "I" "TapeStudio" ∈ m_nest := m_nest_mem (i := 705) (by decide +kernel) (by decide +kernel)
theorem lf_X7_182 : m_FL RX7 182 0 1 := ⟨RX0, TX0, 4, rfl, rfl, by decide, by decide, uw_0, Or.inr ⟨_, w_705⟩⟩
theorem w_756 : Cond.methodLink "TapeStudio$Shelf" 185 ⟨"TapeStudio$Row","level","(I)V"⟩ ∈ m_big := m_big_mem (i := 756) (by decide +kernel) (by decide +kernel)
theorem lm_X7_185 : m_MV RX7 185 yX5_level cX5_level 3 none 1 := ⟨⟨Or.inl w_756, w_128, w_759, by decide +kernel, by decide⟩, w_757, w_758⟩
theorem lf_X7_86 : m_FL RX7 86 8 8 := ⟨RX8, TX8, 12, rfl, rfl, by decide, by decide, uw_8, Or.inr ⟨_, w_554⟩⟩
theorem w_794 : Cond.methodLinkNest "TapeStudio$Shelf" 190 ⟨"TapeStudio","setEntry","([III)V"⟩ "TapeStudio" ∈ m_nest := m_nest_mem (i := 794) (by decide +kernel) (by decide +kernel)
theorem lm_X7_190 : m_MS RX7 190 yX10_setEntry cX10_setEntry 3 none 3 := ⟨⟨Or.inr ⟨_, w_794⟩, w_126, w_796, by decide +kernel, by decide⟩, w_795⟩
theorem lp_X7_187 : m_PL RX7 187 7 10 .int false := ⟨RX7, TX7, 12, tyX7, rfl, rfl, by decide, by decide, uw_7, Or.inl w_180, rfl, (fun q => by cases q), by decide +kernel, tyX7_ok, nmX7⟩
theorem lf_X8_34 : m_FL RX8 34 8 1 := ⟨RX8, TX8, 12, rfl, rfl, by decide, by decide, uw_8, Or.inl w_534⟩
theorem lf_X8_18 : m_FL RX8 18 8 4 := ⟨RX8, TX8, 12, rfl, rfl, by decide, by decide, uw_8, Or.inl w_543⟩
theorem lf_X8_12 : m_FL RX8 12 8 3 := ⟨RX8, TX8, 12, rfl, rfl, by decide, by decide, uw_8, Or.inl w_538⟩
theorem w_828 : Cond.methodLink "TapeStudio$Strip" 40 ⟨"TapeStudio$Row","size","()I"⟩ ∈ m_big := m_big_mem (i := 828) (by decide +kernel) (by decide +kernel)
theorem lm_X8_40 : m_MV RX8 40 yX5_size cX5_size 1 (some .int) 0 := ⟨⟨Or.inl w_828, w_128, w_471, by decide +kernel, by decide⟩, w_469, w_470⟩
theorem lf_X8_22 : m_FL RX8 22 8 8 := ⟨RX8, TX8, 12, rfl, rfl, by decide, by decide, uw_8, Or.inl w_553⟩
theorem lf_X8_37 : m_FL RX8 37 8 2 := ⟨RX8, TX8, 12, rfl, rfl, by decide, by decide, uw_8, Or.inl w_537⟩
theorem lf_X8_25 : m_FL RX8 25 8 9 := ⟨RX8, TX8, 12, rfl, rfl, by decide, by decide, uw_8, Or.inl w_556⟩
theorem lf_X8_28 : m_FL RX8 28 8 10 := ⟨RX8, TX8, 12, rfl, rfl, by decide, by decide, uw_8, Or.inl w_558⟩
theorem w_560 : Cond.fieldLink "TapeStudio$Strip" 53 "TapeStudio$Strip" "begin" "I" ∈ m_big := m_big_mem (i := 560) (by decide +kernel) (by decide +kernel)
theorem lf_X8_53 : m_FL RX8 53 8 11 := ⟨RX8, TX8, 12, rfl, rfl, by decide, by decide, uw_8, Or.inl w_560⟩
theorem w_361 : Cond.methodLink "TapeStudio$Work" 3 ⟨"java/lang/Object","<init>","()V"⟩ ∈ m_big := m_big_mem (i := 361) (by decide +kernel) (by decide +kernel)
theorem lo_X9_3 : Cond.methodLink RX9 3 objectInit ∈ m_big ∧ Cond.instanceMethod objectInit ∈ m_big ∧ Cond.code objectInit ⟨#[0xb1]⟩ 1 none ∈ m_big := ⟨w_361, w_151, w_152⟩
theorem uw_9 : ∀ w ∈ u_ws RX9 TX9 7, w ∈ m_big := m_sub [369,371,373,375,377,379,381] (by decide +kernel) (by decide +kernel)
theorem vw_9 : vwCl[9]? = some (RX9, TX9, 7) := rfl
theorem w_362 : Cond.fieldLink "TapeStudio$Work" 9 "TapeStudio$Work" "steps" "[I" ∈ m_big := m_big_mem (i := 362) (by decide +kernel) (by decide +kernel)
theorem lp_X9_9 : m_PL RX9 9 9 0 (.array .int) true := ⟨RX9, TX9, 7, tyX9, rfl, rfl, by decide, by decide, uw_9, Or.inl w_362, rfl, fun _ => rfl, by decide +kernel, tyX9_ok, nmX9⟩
theorem w_363 : Cond.fieldLink "TapeStudio$Work" 15 "TapeStudio$Work" "needs" "[I" ∈ m_big := m_big_mem (i := 363) (by decide +kernel) (by decide +kernel)
theorem lp_X9_15 : m_PL RX9 15 9 1 (.array .int) true := ⟨RX9, TX9, 7, tyX9, rfl, rfl, by decide, by decide, uw_9, Or.inl w_363, rfl, fun _ => rfl, by decide +kernel, tyX9_ok, nmX9⟩
theorem w_364 : Cond.fieldLink "TapeStudio$Work" 18 "TapeStudio$Work" "stepOf" "[I" ∈ m_big := m_big_mem (i := 364) (by decide +kernel) (by decide +kernel)
theorem lp_X9_18 : m_PL RX9 18 9 2 (.array .int) true := ⟨RX9, TX9, 7, tyX9, rfl, rfl, by decide, by decide, uw_9, Or.inl w_364, rfl, fun _ => rfl, by decide +kernel, tyX9_ok, nmX9⟩
theorem w_365 : Cond.fieldLink "TapeStudio$Work" 21 "TapeStudio$Work" "least" "[I" ∈ m_big := m_big_mem (i := 365) (by decide +kernel) (by decide +kernel)
theorem lp_X9_21 : m_PL RX9 21 9 3 (.array .int) true := ⟨RX9, TX9, 7, tyX9, rfl, rfl, by decide, by decide, uw_9, Or.inl w_365, rfl, fun _ => rfl, by decide +kernel, tyX9_ok, nmX9⟩
theorem lf_X9_18 : m_FL RX9 18 9 2 := ⟨RX9, TX9, 7, rfl, rfl, by decide, by decide, uw_9, Or.inl w_364⟩
theorem w_1281 : Cond.methodLinkNest "TapeStudio$Work" 53 ⟨"TapeStudio","entry","([III)I"⟩ "TapeStudio" ∈ m_nest := m_nest_mem (i := 1281) (by decide +kernel) (by decide +kernel)
theorem lm_X9_53 : m_MS RX9 53 yX10_entry cX10_entry 3 (some .int) 3 := ⟨⟨Or.inr ⟨_, w_1281⟩, w_126, w_807, by decide +kernel, by decide⟩, w_806⟩
theorem w_366 : Cond.fieldLink "TapeStudio$Work" 24 "TapeStudio$Work" "score" "LTapeStudio$Score;" ∈ m_big := m_big_mem (i := 366) (by decide +kernel) (by decide +kernel)
theorem lf_X9_24 : m_FL RX9 24 9 4 := ⟨RX9, TX9, 7, rfl, rfl, by decide, by decide, uw_9, Or.inl w_366⟩
theorem w_240 : Cond.fieldLinkNest "TapeStudio$Work" 48 "TapeStudio$Score" "count" "I" "TapeStudio" ∈ m_nest := m_nest_mem (i := 240) (by decide +kernel) (by decide +kernel)
theorem lf_X9_48 : m_FL RX9 48 6 1 := ⟨RX6, TX6, 4, rfl, rfl, by decide, by decide, uw_6, Or.inr ⟨_, w_240⟩⟩
theorem w_1273 : Cond.methodLinkNest "TapeStudio$Work" 61 ⟨"TapeStudio","setEntry","([III)V"⟩ "TapeStudio" ∈ m_nest := m_nest_mem (i := 1273) (by decide +kernel) (by decide +kernel)
theorem lm_X9_61 : m_MS RX9 61 yX10_setEntry cX10_setEntry 3 none 3 := ⟨⟨Or.inr ⟨_, w_1273⟩, w_126, w_796, by decide +kernel, by decide⟩, w_795⟩
theorem w_1274 : Cond.methodLink "TapeStudio$Work" 65 ⟨"TapeStudio$Score","isSource","(I)Z"⟩ ∈ m_big := m_big_mem (i := 1274) (by decide +kernel) (by decide +kernel)
theorem lm_X9_65 : m_MV RX9 65 yX6_isSource cX6_isSource 3 (some .boolean) 1 := ⟨⟨Or.inl w_1274, w_130, w_1229, by decide +kernel, by decide⟩, w_1227, w_1228⟩
theorem w_1275 : Cond.methodLink "TapeStudio$Work" 69 ⟨"TapeStudio$Score","isPut","(I)Z"⟩ ∈ m_big := m_big_mem (i := 1275) (by decide +kernel) (by decide +kernel)
theorem lm_X9_69 : m_MV RX9 69 yX6_isPut cX6_isPut 2 (some .boolean) 1 := ⟨⟨Or.inl w_1275, w_130, w_1058, by decide +kernel, by decide⟩, w_1056, w_1057⟩
theorem w_367 : Cond.fieldLink "TapeStudio$Work" 60 "TapeStudio$Work" "count" "I" ∈ m_big := m_big_mem (i := 367) (by decide +kernel) (by decide +kernel)
theorem lf_X9_60 : m_FL RX9 60 9 5 := ⟨RX9, TX9, 7, rfl, rfl, by decide, by decide, uw_9, Or.inl w_367⟩
theorem lf_X9_9 : m_FL RX9 9 9 0 := ⟨RX9, TX9, 7, rfl, rfl, by decide, by decide, uw_9, Or.inl w_362⟩
theorem lf_X9_15 : m_FL RX9 15 9 1 := ⟨RX9, TX9, 7, rfl, rfl, by decide, by decide, uw_9, Or.inl w_363⟩
theorem w_1276 : Cond.methodLink "TapeStudio$Work" 72 ⟨"TapeStudio$Score","one","(I)I"⟩ ∈ m_big := m_big_mem (i := 1276) (by decide +kernel) (by decide +kernel)
theorem lm_X9_72 : m_MV RX9 72 yX6_one cX6_one 2 (some .int) 1 := ⟨⟨Or.inl w_1276, w_130, w_1067, by decide +kernel, by decide⟩, w_1065, w_1066⟩
theorem w_1277 : Cond.methodLink "TapeStudio$Work" 75 ⟨"TapeStudio$Work","stepBit","(I)I"⟩ ∈ m_big := m_big_mem (i := 1277) (by decide +kernel) (by decide +kernel)
theorem w_1280 : Cond.code ⟨"TapeStudio$Work","stepBit","(I)I"⟩ prog_11_method_5_code 3 (Option.some .int) ∈ m_big := m_big_mem (i := 1280) (by decide +kernel) (by decide +kernel)
theorem w_133 : Cond.initialized "TapeStudio$Work" ∈ m_big := m_big_mem (i := 133) (by decide +kernel) (by decide +kernel)
theorem w_1279 : Cond.instanceMethod ⟨"TapeStudio$Work","stepBit","(I)I"⟩ ∈ m_big := m_big_mem (i := 1279) (by decide +kernel) (by decide +kernel)
theorem w_46 : Cond.selects "TapeStudio$Work" ⟨"TapeStudio$Work","stepBit","(I)I"⟩ ⟨"TapeStudio$Work","stepBit","(I)I"⟩ ∈ m_big := m_big_mem (i := 46) (by decide +kernel) (by decide +kernel)
theorem lm_X9_75 : m_MV RX9 75 yX9_stepBit cX9_stepBit 3 (some .int) 1 := ⟨⟨Or.inl w_1277, w_133, w_1280, by decide +kernel, by decide⟩, w_1279, w_46⟩
theorem w_1282 : Cond.methodLink "TapeStudio$Work" 78 ⟨"TapeStudio$Score","other","(I)I"⟩ ∈ m_big := m_big_mem (i := 1282) (by decide +kernel) (by decide +kernel)
theorem lm_X9_78 : m_MV RX9 78 yX6_other cX6_other 2 (some .int) 1 := ⟨⟨Or.inl w_1282, w_130, w_1098, by decide +kernel, by decide⟩, w_1096, w_1097⟩
theorem lp_X9_60 : m_PL RX9 60 9 5 .int false := ⟨RX9, TX9, 7, tyX9, rfl, rfl, by decide, by decide, uw_9, Or.inl w_367, rfl, (fun q => by cases q), by decide +kernel, tyX9_ok, nmX9⟩
theorem lf_X9_21 : m_FL RX9 21 9 3 := ⟨RX9, TX9, 7, rfl, rfl, by decide, by decide, uw_9, Or.inl w_365⟩
theorem w_1291 : Cond.constant "TapeStudio$Work" 43 (Int32.ofInt (1000000)) ∈ m_nest := m_nest_mem (i := 1291) (by decide +kernel) (by decide +kernel)
theorem w_1300 : Cond.methodLink "TapeStudio$Work" 87 ⟨"TapeStudio$Score","isBench","(I)Z"⟩ ∈ m_big := m_big_mem (i := 1300) (by decide +kernel) (by decide +kernel)
theorem w_1303 : Cond.code ⟨"TapeStudio$Score","isBench","(I)Z"⟩ prog_8_method_9_code 3 (Option.some .boolean) ∈ m_big := m_big_mem (i := 1303) (by decide +kernel) (by decide +kernel)
theorem w_1301 : Cond.instanceMethod ⟨"TapeStudio$Score","isBench","(I)Z"⟩ ∈ m_big := m_big_mem (i := 1301) (by decide +kernel) (by decide +kernel)
theorem w_1302 : Cond.selects "TapeStudio$Score" ⟨"TapeStudio$Score","isBench","(I)Z"⟩ ⟨"TapeStudio$Score","isBench","(I)Z"⟩ ∈ m_big := m_big_mem (i := 1302) (by decide +kernel) (by decide +kernel)
theorem lm_X9_87 : m_MV RX9 87 yX6_isBench cX6_isBench 3 (some .boolean) 1 := ⟨⟨Or.inl w_1300, w_130, w_1303, by decide +kernel, by decide⟩, w_1301, w_1302⟩
theorem w_1304 : Cond.methodLink "TapeStudio$Work" 90 ⟨"TapeStudio$Score","verb","(I)I"⟩ ∈ m_big := m_big_mem (i := 1304) (by decide +kernel) (by decide +kernel)
theorem lm_X9_90 : m_MV RX9 90 yX6_verb cX6_verb 2 (some .int) 1 := ⟨⟨Or.inl w_1304, w_130, w_1047, by decide +kernel, by decide⟩, w_1045, w_1046⟩
theorem w_1305 : Cond.methodLink "TapeStudio$Work" 93 ⟨"TapeStudio$Score","number","(II)I"⟩ ∈ m_big := m_big_mem (i := 1305) (by decide +kernel) (by decide +kernel)
theorem lm_X9_93 : m_MV RX9 93 yX6_number cX6_number 3 (some .int) 2 := ⟨⟨Or.inl w_1305, w_130, w_1039, by decide +kernel, by decide⟩, w_1037, w_1038⟩
theorem w_368 : Cond.fieldLink "TapeStudio$Work" 28 "TapeStudio$Work" "machines" "I" ∈ m_big := m_big_mem (i := 368) (by decide +kernel) (by decide +kernel)
theorem lf_X9_28 : m_FL RX9 28 9 6 := ⟨RX9, TX9, 7, rfl, rfl, by decide, by decide, uw_9, Or.inl w_368⟩
theorem w_1287 : Cond.methodLink "TapeStudio$Work" 81 ⟨"TapeStudio$Work","readyAfter","(I)I"⟩ ∈ m_big := m_big_mem (i := 1287) (by decide +kernel) (by decide +kernel)
theorem w_1290 : Cond.code ⟨"TapeStudio$Work","readyAfter","(I)I"⟩ prog_11_method_8_code 4 (Option.some .int) ∈ m_big := m_big_mem (i := 1290) (by decide +kernel) (by decide +kernel)
theorem w_1289 : Cond.instanceMethod ⟨"TapeStudio$Work","readyAfter","(I)I"⟩ ∈ m_big := m_big_mem (i := 1289) (by decide +kernel) (by decide +kernel)
theorem w_48 : Cond.selects "TapeStudio$Work" ⟨"TapeStudio$Work","readyAfter","(I)I"⟩ ⟨"TapeStudio$Work","readyAfter","(I)I"⟩ ∈ m_big := m_big_mem (i := 48) (by decide +kernel) (by decide +kernel)
theorem lm_X9_81 : m_MV RX9 81 yX9_readyAfter cX9_readyAfter 4 (some .int) 1 := ⟨⟨Or.inl w_1287, w_133, w_1290, by decide +kernel, by decide⟩, w_1289, w_48⟩
theorem w_1292 : Cond.methodLink "TapeStudio$Work" 39 ⟨"TapeStudio$Work","leftFrom","(I)I"⟩ ∈ m_big := m_big_mem (i := 1292) (by decide +kernel) (by decide +kernel)
theorem w_1295 : Cond.code ⟨"TapeStudio$Work","leftFrom","(I)I"⟩ prog_11_method_6_code 2 (Option.some .int) ∈ m_big := m_big_mem (i := 1295) (by decide +kernel) (by decide +kernel)
theorem w_1294 : Cond.instanceMethod ⟨"TapeStudio$Work","leftFrom","(I)I"⟩ ∈ m_big := m_big_mem (i := 1294) (by decide +kernel) (by decide +kernel)
theorem w_49 : Cond.selects "TapeStudio$Work" ⟨"TapeStudio$Work","leftFrom","(I)I"⟩ ⟨"TapeStudio$Work","leftFrom","(I)I"⟩ ∈ m_big := m_big_mem (i := 49) (by decide +kernel) (by decide +kernel)
theorem lm_X9_39 : m_MV RX9 39 yX9_leftFrom cX9_leftFrom 2 (some .int) 1 := ⟨⟨Or.inl w_1292, w_133, w_1295, by decide +kernel, by decide⟩, w_1294, w_49⟩
theorem w_1296 : Cond.methodLink "TapeStudio$Work" 84 ⟨"TapeStudio$Work","fitsRoom","(I)Z"⟩ ∈ m_big := m_big_mem (i := 1296) (by decide +kernel) (by decide +kernel)
theorem w_1299 : Cond.code ⟨"TapeStudio$Work","fitsRoom","(I)Z"⟩ prog_11_method_9_code 8 (Option.some .boolean) ∈ m_big := m_big_mem (i := 1299) (by decide +kernel) (by decide +kernel)
theorem w_1298 : Cond.instanceMethod ⟨"TapeStudio$Work","fitsRoom","(I)Z"⟩ ∈ m_big := m_big_mem (i := 1298) (by decide +kernel) (by decide +kernel)
theorem w_50 : Cond.selects "TapeStudio$Work" ⟨"TapeStudio$Work","fitsRoom","(I)Z"⟩ ⟨"TapeStudio$Work","fitsRoom","(I)Z"⟩ ∈ m_big := m_big_mem (i := 50) (by decide +kernel) (by decide +kernel)
theorem lm_X9_84 : m_MV RX9 84 yX9_fitsRoom cX9_fitsRoom 8 (some .boolean) 1 := ⟨⟨Or.inl w_1296, w_133, w_1299, by decide +kernel, by decide⟩, w_1298, w_50⟩
theorem lp_X9_24 : m_PL RX9 24 9 4 (.object "TapeStudio$Score") false := ⟨RX9, TX9, 7, tyX9, rfl, rfl, by decide, by decide, uw_9, Or.inl w_366, rfl, (fun q => by cases q), by decide +kernel, tyX9_ok, nmX9⟩
theorem lp_X9_28 : m_PL RX9 28 9 6 .int false := ⟨RX9, TX9, 7, tyX9, rfl, rfl, by decide, by decide, uw_9, Or.inl w_368, rfl, (fun q => by cases q), by decide +kernel, tyX9_ok, nmX9⟩
theorem w_1269 : Cond.methodLink "TapeStudio$Work" 32 ⟨"TapeStudio$Work","gather","()Z"⟩ ∈ m_big := m_big_mem (i := 1269) (by decide +kernel) (by decide +kernel)
theorem w_1272 : Cond.code ⟨"TapeStudio$Work","gather","()Z"⟩ prog_11_method_4_code 2 (Option.some .boolean) ∈ m_big := m_big_mem (i := 1272) (by decide +kernel) (by decide +kernel)
theorem w_1271 : Cond.instanceMethod ⟨"TapeStudio$Work","gather","()Z"⟩ ∈ m_big := m_big_mem (i := 1271) (by decide +kernel) (by decide +kernel)
theorem w_45 : Cond.selects "TapeStudio$Work" ⟨"TapeStudio$Work","gather","()Z"⟩ ⟨"TapeStudio$Work","gather","()Z"⟩ ∈ m_big := m_big_mem (i := 45) (by decide +kernel) (by decide +kernel)
theorem lm_X9_32 : m_MV RX9 32 yX9_gather cX9_gather 2 (some .boolean) 0 := ⟨⟨Or.inl w_1269, w_133, w_1272, by decide +kernel, by decide⟩, w_1271, w_45⟩
theorem w_1283 : Cond.methodLink "TapeStudio$Work" 36 ⟨"TapeStudio$Work","weigh","()V"⟩ ∈ m_big := m_big_mem (i := 1283) (by decide +kernel) (by decide +kernel)
theorem w_1286 : Cond.code ⟨"TapeStudio$Work","weigh","()V"⟩ prog_11_method_7_code 6 (Option.none : Option Jvm.ClassFile.FieldType) ∈ m_big := m_big_mem (i := 1286) (by decide +kernel) (by decide +kernel)
theorem w_1285 : Cond.instanceMethod ⟨"TapeStudio$Work","weigh","()V"⟩ ∈ m_big := m_big_mem (i := 1285) (by decide +kernel) (by decide +kernel)
theorem w_47 : Cond.selects "TapeStudio$Work" ⟨"TapeStudio$Work","weigh","()V"⟩ ⟨"TapeStudio$Work","weigh","()V"⟩ ∈ m_big := m_big_mem (i := 47) (by decide +kernel) (by decide +kernel)
theorem lm_X9_36 : m_MV RX9 36 yX9_weigh cX9_weigh 6 none 0 := ⟨⟨Or.inl w_1283, w_133, w_1286, by decide +kernel, by decide⟩, w_1285, w_47⟩
theorem w_1315 : Cond.methodLink "TapeStudio$Work" 57 ⟨"TapeStudio$Work","firstHeap","(I)I"⟩ ∈ m_big := m_big_mem (i := 1315) (by decide +kernel) (by decide +kernel)
theorem w_1318 : Cond.code ⟨"TapeStudio$Work","firstHeap","(I)I"⟩ prog_11_method_10_code 4 (Option.some .int) ∈ m_big := m_big_mem (i := 1318) (by decide +kernel) (by decide +kernel)
theorem w_1317 : Cond.instanceMethod ⟨"TapeStudio$Work","firstHeap","(I)I"⟩ ∈ m_big := m_big_mem (i := 1317) (by decide +kernel) (by decide +kernel)
theorem w_51 : Cond.selects "TapeStudio$Work" ⟨"TapeStudio$Work","firstHeap","(I)I"⟩ ⟨"TapeStudio$Work","firstHeap","(I)I"⟩ ∈ m_big := m_big_mem (i := 51) (by decide +kernel) (by decide +kernel)
theorem lm_X9_57 : m_MV RX9 57 yX9_firstHeap cX9_firstHeap 4 (some .int) 1 := ⟨⟨Or.inl w_1315, w_133, w_1318, by decide +kernel, by decide⟩, w_1317, w_51⟩
theorem w_1314 : Cond.methodLink "TapeStudio$Work" 44 ⟨"TapeStudio$Work","leastTurns","(LTapeStudio$Score;I)I"⟩ ∈ m_big := m_big_mem (i := 1314) (by decide +kernel) (by decide +kernel)
theorem w_1268 : Cond.code ⟨"TapeStudio$Work","leastTurns","(LTapeStudio$Score;I)I"⟩ prog_11_method_2_code 3 (Option.some .int) ∈ m_big := m_big_mem (i := 1268) (by decide +kernel) (by decide +kernel)
theorem w_1266 : Cond.instanceMethod ⟨"TapeStudio$Work","leastTurns","(LTapeStudio$Score;I)I"⟩ ∈ m_big := m_big_mem (i := 1266) (by decide +kernel) (by decide +kernel)
theorem w_1267 : Cond.selects "TapeStudio$Work" ⟨"TapeStudio$Work","leastTurns","(LTapeStudio$Score;I)I"⟩ ⟨"TapeStudio$Work","leastTurns","(LTapeStudio$Score;I)I"⟩ ∈ m_big := m_big_mem (i := 1267) (by decide +kernel) (by decide +kernel)
theorem lm_X9_44 : m_MV RX9 44 yX9_leastTurns cX9_leastTurns 3 (some .int) 2 := ⟨⟨Or.inl w_1314, w_133, w_1268, by decide +kernel, by decide⟩, w_1266, w_1267⟩
theorem w_150 : Cond.methodLink "TapeStudio" 1 ⟨"java/lang/Object","<init>","()V"⟩ ∈ m_big := m_big_mem (i := 150) (by decide +kernel) (by decide +kernel)
theorem lo_X10_1 : Cond.methodLink RX10 1 objectInit ∈ m_big ∧ Cond.instanceMethod objectInit ∈ m_big ∧ Cond.code objectInit ⟨#[0xb1]⟩ 1 none ∈ m_big := ⟨w_150, w_151, w_152⟩
theorem w_153 : Cond.classLink "TapeStudio" 7 "TapeStudio$Shelf" ∈ m_big := m_big_mem (i := 153) (by decide +kernel) (by decide +kernel)
theorem w_154 : Cond.instantiable "TapeStudio$Shelf" 12 ∈ m_big := m_big_mem (i := 154) (by decide +kernel) (by decide +kernel)
theorem ln_X10_7 : m_NL RX10 7 7 := ⟨RX7, TX7, 12, tyX7, rfl, rfl, by decide, uw_7, w_153, w_154, w_127, tyX7_ok, by decide +kernel⟩
theorem w_155 : Cond.methodLinkNest "TapeStudio" 9 ⟨"TapeStudio$Shelf","<init>","()V"⟩ "TapeStudio" ∈ m_nest := m_nest_mem (i := 155) (by decide +kernel) (by decide +kernel)
theorem w_157 : Cond.code ⟨"TapeStudio$Shelf","<init>","()V"⟩ prog_9_method_1_code 1 (Option.none : Option Jvm.ClassFile.FieldType) ∈ m_big := m_big_mem (i := 157) (by decide +kernel) (by decide +kernel)
theorem w_156 : Cond.instanceMethod ⟨"TapeStudio$Shelf","<init>","()V"⟩ ∈ m_big := m_big_mem (i := 156) (by decide +kernel) (by decide +kernel)
theorem lm_X10_9 : m_MI RX10 9 yX7_init cX7_init 1 0 := ⟨⟨Or.inr ⟨_, w_155⟩, w_127, w_157, by decide +kernel, by decide⟩, w_156, rfl⟩
theorem uw_10 : ∀ w ∈ u_ws RX10 TX10 10, w ∈ m_big := m_sub [443,445,447,449,451,453,455,457,459,461] (by decide +kernel) (by decide +kernel)
theorem vw_10 : vwCl[10]? = some (RX10, TX10, 10) := rfl
theorem w_433 : Cond.fieldLink "TapeStudio" 10 "TapeStudio" "shelf" "LTapeStudio$Shelf;" ∈ m_big := m_big_mem (i := 433) (by decide +kernel) (by decide +kernel)
theorem lp_X10_10 : m_PL RX10 10 10 0 (.object "TapeStudio$Shelf") true := ⟨RX10, TX10, 10, tyX10, rfl, rfl, by decide, by decide, uw_10, Or.inl w_433, rfl, fun _ => rfl, by decide +kernel, tyX10_ok, nmX10⟩
theorem w_209 : Cond.classLink "TapeStudio" 16 "TapeStudio$Row" ∈ m_big := m_big_mem (i := 209) (by decide +kernel) (by decide +kernel)
theorem ln_X10_16 : m_NL RX10 16 5 := ⟨RX5, TX5, 2, tyX5, rfl, rfl, by decide, uw_5, w_209, w_210, w_128, tyX5_ok, by decide +kernel⟩
theorem w_211 : Cond.methodLinkNest "TapeStudio" 18 ⟨"TapeStudio$Row","<init>","()V"⟩ "TapeStudio" ∈ m_nest := m_nest_mem (i := 211) (by decide +kernel) (by decide +kernel)
theorem lm_X10_18 : m_MI RX10 18 yX5_init cX5_init 1 0 := ⟨⟨Or.inr ⟨_, w_211⟩, w_128, w_213, by decide +kernel, by decide⟩, w_212, rfl⟩
theorem w_434 : Cond.fieldLink "TapeStudio" 19 "TapeStudio" "hand" "LTapeStudio$Row;" ∈ m_big := m_big_mem (i := 434) (by decide +kernel) (by decide +kernel)
theorem lp_X10_19 : m_PL RX10 19 10 1 (.object "TapeStudio$Row") true := ⟨RX10, TX10, 10, tyX10, rfl, rfl, by decide, by decide, uw_10, Or.inl w_434, rfl, fun _ => rfl, by decide +kernel, tyX10_ok, nmX10⟩
theorem w_223 : Cond.classLink "TapeStudio" 23 "TapeStudio$Reader" ∈ m_big := m_big_mem (i := 223) (by decide +kernel) (by decide +kernel)
theorem w_224 : Cond.instantiable "TapeStudio$Reader" 11 ∈ m_big := m_big_mem (i := 224) (by decide +kernel) (by decide +kernel)
theorem ln_X10_23 : m_NL RX10 23 4 := ⟨RX4, TX4, 11, tyX4, rfl, rfl, by decide, uw_4, w_223, w_224, w_129, tyX4_ok, by decide +kernel⟩
theorem w_225 : Cond.methodLinkNest "TapeStudio" 25 ⟨"TapeStudio$Reader","<init>","()V"⟩ "TapeStudio" ∈ m_nest := m_nest_mem (i := 225) (by decide +kernel) (by decide +kernel)
theorem w_227 : Cond.code ⟨"TapeStudio$Reader","<init>","()V"⟩ prog_6_method_1_code 1 (Option.none : Option Jvm.ClassFile.FieldType) ∈ m_big := m_big_mem (i := 227) (by decide +kernel) (by decide +kernel)
theorem w_226 : Cond.instanceMethod ⟨"TapeStudio$Reader","<init>","()V"⟩ ∈ m_big := m_big_mem (i := 226) (by decide +kernel) (by decide +kernel)
theorem lm_X10_25 : m_MI RX10 25 yX4_init cX4_init 1 0 := ⟨⟨Or.inr ⟨_, w_225⟩, w_129, w_227, by decide +kernel, by decide⟩, w_226, rfl⟩
theorem w_435 : Cond.fieldLink "TapeStudio" 26 "TapeStudio" "reader" "LTapeStudio$Reader;" ∈ m_big := m_big_mem (i := 435) (by decide +kernel) (by decide +kernel)
theorem lp_X10_26 : m_PL RX10 26 10 2 (.object "TapeStudio$Reader") true := ⟨RX10, TX10, 10, tyX10, rfl, rfl, by decide, by decide, uw_10, Or.inl w_435, rfl, fun _ => rfl, by decide +kernel, tyX10_ok, nmX10⟩
theorem w_291 : Cond.classLink "TapeStudio" 30 "TapeStudio$Score" ∈ m_big := m_big_mem (i := 291) (by decide +kernel) (by decide +kernel)
theorem w_292 : Cond.arrayOver (.object "TapeStudio$Score") ∈ m_nest := m_nest_mem (i := 292) (by decide +kernel) (by decide +kernel)
theorem w_436 : Cond.fieldLink "TapeStudio" 32 "TapeStudio" "scores" "[LTapeStudio$Score;" ∈ m_big := m_big_mem (i := 436) (by decide +kernel) (by decide +kernel)
theorem lp_X10_32 : m_PL RX10 32 10 3 (.array (.object "TapeStudio$Score")) true := ⟨RX10, TX10, 10, tyX10, rfl, rfl, by decide, by decide, uw_10, Or.inl w_436, rfl, fun _ => rfl, by decide +kernel, tyX10_ok, nmX10⟩
theorem w_293 : Cond.classLink "TapeStudio" 36 "TapeStudio$Player" ∈ m_big := m_big_mem (i := 293) (by decide +kernel) (by decide +kernel)
theorem w_294 : Cond.instantiable "TapeStudio$Player" 5 ∈ m_big := m_big_mem (i := 294) (by decide +kernel) (by decide +kernel)
theorem ln_X10_36 : m_NL RX10 36 3 := ⟨RX3, TX3, 5, tyX3, rfl, rfl, by decide, uw_3, w_293, w_294, w_131, tyX3_ok, by decide +kernel⟩
theorem lf_X10_10 : m_FL RX10 10 10 0 := ⟨RX10, TX10, 10, rfl, rfl, by decide, by decide, uw_10, Or.inl w_433⟩
theorem w_295 : Cond.methodLink "TapeStudio" 38 ⟨"TapeStudio$Player","<init>","(LTapeStudio$Shelf;)V"⟩ ∈ m_big := m_big_mem (i := 295) (by decide +kernel) (by decide +kernel)
theorem w_297 : Cond.code ⟨"TapeStudio$Player","<init>","(LTapeStudio$Shelf;)V"⟩ prog_5_method_1_code 3 (Option.none : Option Jvm.ClassFile.FieldType) ∈ m_big := m_big_mem (i := 297) (by decide +kernel) (by decide +kernel)
theorem w_296 : Cond.instanceMethod ⟨"TapeStudio$Player","<init>","(LTapeStudio$Shelf;)V"⟩ ∈ m_big := m_big_mem (i := 296) (by decide +kernel) (by decide +kernel)
theorem lm_X10_38 : m_MI RX10 38 yX3_init cX3_init 3 1 := ⟨⟨Or.inl w_295, w_131, w_297, by decide +kernel, by decide⟩, w_296, rfl⟩
theorem w_438 : Cond.fieldLink "TapeStudio" 41 "TapeStudio" "player" "LTapeStudio$Player;" ∈ m_big := m_big_mem (i := 438) (by decide +kernel) (by decide +kernel)
theorem lp_X10_41 : m_PL RX10 41 10 5 (.object "TapeStudio$Player") true := ⟨RX10, TX10, 10, tyX10, rfl, rfl, by decide, by decide, uw_10, Or.inl w_438, rfl, fun _ => rfl, by decide +kernel, tyX10_ok, nmX10⟩
theorem w_319 : Cond.classLink "TapeStudio" 45 "TapeStudio$Piece" ∈ m_big := m_big_mem (i := 319) (by decide +kernel) (by decide +kernel)
theorem w_320 : Cond.instantiable "TapeStudio$Piece" 8 ∈ m_big := m_big_mem (i := 320) (by decide +kernel) (by decide +kernel)
theorem ln_X10_45 : m_NL RX10 45 2 := ⟨RX2, TX2, 8, tyX2, rfl, rfl, by decide, uw_2, w_319, w_320, w_132, tyX2_ok, by decide +kernel⟩
theorem w_321 : Cond.methodLink "TapeStudio" 47 ⟨"TapeStudio$Piece","<init>","(LTapeStudio$Shelf;)V"⟩ ∈ m_big := m_big_mem (i := 321) (by decide +kernel) (by decide +kernel)
theorem w_323 : Cond.code ⟨"TapeStudio$Piece","<init>","(LTapeStudio$Shelf;)V"⟩ prog_4_method_1_code 2 (Option.none : Option Jvm.ClassFile.FieldType) ∈ m_big := m_big_mem (i := 323) (by decide +kernel) (by decide +kernel)
theorem w_322 : Cond.instanceMethod ⟨"TapeStudio$Piece","<init>","(LTapeStudio$Shelf;)V"⟩ ∈ m_big := m_big_mem (i := 322) (by decide +kernel) (by decide +kernel)
theorem lm_X10_47 : m_MI RX10 47 yX2_init cX2_init 2 1 := ⟨⟨Or.inl w_321, w_132, w_323, by decide +kernel, by decide⟩, w_322, rfl⟩
theorem w_439 : Cond.fieldLink "TapeStudio" 48 "TapeStudio" "piece" "LTapeStudio$Piece;" ∈ m_big := m_big_mem (i := 439) (by decide +kernel) (by decide +kernel)
theorem lp_X10_48 : m_PL RX10 48 10 6 (.object "TapeStudio$Piece") true := ⟨RX10, TX10, 10, tyX10, rfl, rfl, by decide, by decide, uw_10, Or.inl w_439, rfl, fun _ => rfl, by decide +kernel, tyX10_ok, nmX10⟩
theorem w_356 : Cond.classLink "TapeStudio" 52 "TapeStudio$Work" ∈ m_big := m_big_mem (i := 356) (by decide +kernel) (by decide +kernel)
theorem w_357 : Cond.instantiable "TapeStudio$Work" 7 ∈ m_big := m_big_mem (i := 357) (by decide +kernel) (by decide +kernel)
theorem ln_X10_52 : m_NL RX10 52 9 := ⟨RX9, TX9, 7, tyX9, rfl, rfl, by decide, uw_9, w_356, w_357, w_133, tyX9_ok, by decide +kernel⟩
theorem w_358 : Cond.methodLinkNest "TapeStudio" 54 ⟨"TapeStudio$Work","<init>","()V"⟩ "TapeStudio" ∈ m_nest := m_nest_mem (i := 358) (by decide +kernel) (by decide +kernel)
theorem w_360 : Cond.code ⟨"TapeStudio$Work","<init>","()V"⟩ prog_11_method_1_code 1 (Option.none : Option Jvm.ClassFile.FieldType) ∈ m_big := m_big_mem (i := 360) (by decide +kernel) (by decide +kernel)
theorem w_359 : Cond.instanceMethod ⟨"TapeStudio$Work","<init>","()V"⟩ ∈ m_big := m_big_mem (i := 359) (by decide +kernel) (by decide +kernel)
theorem lm_X10_54 : m_MI RX10 54 yX9_init cX9_init 1 0 := ⟨⟨Or.inr ⟨_, w_358⟩, w_133, w_360, by decide +kernel, by decide⟩, w_359, rfl⟩
theorem w_440 : Cond.fieldLink "TapeStudio" 55 "TapeStudio" "work" "LTapeStudio$Work;" ∈ m_big := m_big_mem (i := 440) (by decide +kernel) (by decide +kernel)
theorem lp_X10_55 : m_PL RX10 55 10 7 (.object "TapeStudio$Work") true := ⟨RX10, TX10, 10, tyX10, rfl, rfl, by decide, by decide, uw_10, Or.inl w_440, rfl, fun _ => rfl, by decide +kernel, tyX10_ok, nmX10⟩
theorem w_441 : Cond.fieldLink "TapeStudio" 59 "TapeStudio" "tape" "LTapeStudio$Row;" ∈ m_big := m_big_mem (i := 441) (by decide +kernel) (by decide +kernel)
theorem lp_X10_59 : m_PL RX10 59 10 8 (.object "TapeStudio$Row") true := ⟨RX10, TX10, 10, tyX10, rfl, rfl, by decide, by decide, uw_10, Or.inl w_441, rfl, fun _ => rfl, by decide +kernel, tyX10_ok, nmX10⟩
theorem w_384 : Cond.classLink "TapeStudio" 62 "TapeStudio$Match" ∈ m_big := m_big_mem (i := 384) (by decide +kernel) (by decide +kernel)
theorem w_385 : Cond.instantiable "TapeStudio$Match" 13 ∈ m_big := m_big_mem (i := 385) (by decide +kernel) (by decide +kernel)
theorem ln_X10_62 : m_NL RX10 62 1 := ⟨RX1, TX1, 13, tyX1, rfl, rfl, by decide, uw_1, w_384, w_385, w_134, tyX1_ok, by decide +kernel⟩
theorem lf_X10_59 : m_FL RX10 59 10 8 := ⟨RX10, TX10, 10, rfl, rfl, by decide, by decide, uw_10, Or.inl w_441⟩
theorem w_386 : Cond.methodLink "TapeStudio" 64 ⟨"TapeStudio$Match","<init>","(LTapeStudio$Shelf;LTapeStudio$Row;)V"⟩ ∈ m_big := m_big_mem (i := 386) (by decide +kernel) (by decide +kernel)
theorem w_388 : Cond.code ⟨"TapeStudio$Match","<init>","(LTapeStudio$Shelf;LTapeStudio$Row;)V"⟩ prog_3_method_1_code 3 (Option.none : Option Jvm.ClassFile.FieldType) ∈ m_big := m_big_mem (i := 388) (by decide +kernel) (by decide +kernel)
theorem w_387 : Cond.instanceMethod ⟨"TapeStudio$Match","<init>","(LTapeStudio$Shelf;LTapeStudio$Row;)V"⟩ ∈ m_big := m_big_mem (i := 387) (by decide +kernel) (by decide +kernel)
theorem lm_X10_64 : m_MI RX10 64 yX1_init cX1_init 3 2 := ⟨⟨Or.inl w_386, w_134, w_388, by decide +kernel, by decide⟩, w_387, rfl⟩
theorem w_442 : Cond.fieldLink "TapeStudio" 67 "TapeStudio" "match" "LTapeStudio$Match;" ∈ m_big := m_big_mem (i := 442) (by decide +kernel) (by decide +kernel)
theorem lp_X10_67 : m_PL RX10 67 10 9 (.object "TapeStudio$Match") true := ⟨RX10, TX10, 10, tyX10, rfl, rfl, by decide, by decide, uw_10, Or.inl w_442, rfl, fun _ => rfl, by decide +kernel, tyX10_ok, nmX10⟩
theorem lf_X10_19 : m_FL RX10 19 10 1 := ⟨RX10, TX10, 10, rfl, rfl, by decide, by decide, uw_10, Or.inl w_434⟩
theorem w_476 : Cond.methodLink "TapeStudio" 79 ⟨"TapeStudio$Row","add","(I)V"⟩ ∈ m_big := m_big_mem (i := 476) (by decide +kernel) (by decide +kernel)
theorem w_479 : Cond.code ⟨"TapeStudio$Row","add","(I)V"⟩ prog_7_method_7_code 2 (Option.none : Option Jvm.ClassFile.FieldType) ∈ m_big := m_big_mem (i := 479) (by decide +kernel) (by decide +kernel)
theorem w_477 : Cond.instanceMethod ⟨"TapeStudio$Row","add","(I)V"⟩ ∈ m_big := m_big_mem (i := 477) (by decide +kernel) (by decide +kernel)
theorem w_478 : Cond.selects "TapeStudio$Row" ⟨"TapeStudio$Row","add","(I)V"⟩ ⟨"TapeStudio$Row","add","(I)V"⟩ ∈ m_big := m_big_mem (i := 478) (by decide +kernel) (by decide +kernel)
theorem lm_X10_79 : m_MV RX10 79 yX5_add cX5_add 2 none 1 := ⟨⟨Or.inl w_476, w_128, w_479, by decide +kernel, by decide⟩, w_477, w_478⟩
theorem w_468 : Cond.methodLink "TapeStudio" 71 ⟨"TapeStudio$Row","size","()I"⟩ ∈ m_big := m_big_mem (i := 468) (by decide +kernel) (by decide +kernel)
theorem lm_X10_71 : m_MV RX10 71 yX5_size cX5_size 1 (some .int) 0 := ⟨⟨Or.inl w_468, w_128, w_471, by decide +kernel, by decide⟩, w_469, w_470⟩
theorem w_472 : Cond.methodLink "TapeStudio" 75 ⟨"TapeStudio","feedPair","(I)V"⟩ ∈ m_big := m_big_mem (i := 472) (by decide +kernel) (by decide +kernel)
theorem w_475 : Cond.code ⟨"TapeStudio","feedPair","(I)V"⟩ prog_1_method_3_code 2 (Option.none : Option Jvm.ClassFile.FieldType) ∈ m_big := m_big_mem (i := 475) (by decide +kernel) (by decide +kernel)
theorem w_474 : Cond.instanceMethod ⟨"TapeStudio","feedPair","(I)V"⟩ ∈ m_big := m_big_mem (i := 474) (by decide +kernel) (by decide +kernel)
theorem w_0 : Cond.selects "TapeStudio" ⟨"TapeStudio","feedPair","(I)V"⟩ ⟨"TapeStudio","feedPair","(I)V"⟩ ∈ m_big := m_big_mem (i := 0) (by decide +kernel) (by decide +kernel)
theorem lm_X10_75 : m_MV RX10 75 yX10_feedPair cX10_feedPair 2 none 1 := ⟨⟨Or.inl w_472, w_126, w_475, by decide +kernel, by decide⟩, w_474, w_0⟩
theorem w_508 : Cond.methodLink "TapeStudio" 285 ⟨"TapeStudio$Row","resize","(I)V"⟩ ∈ m_big := m_big_mem (i := 508) (by decide +kernel) (by decide +kernel)
theorem lm_X10_285 : m_MV RX10 285 yX5_resize cX5_resize 4 none 1 := ⟨⟨Or.inl w_508, w_128, w_483, by decide +kernel, by decide⟩, w_481, w_482⟩
theorem w_505 : Cond.methodLink "TapeStudio" 82 ⟨"TapeStudio","emptied","(LTapeStudio$Row;)I"⟩ ∈ m_big := m_big_mem (i := 505) (by decide +kernel) (by decide +kernel)
theorem w_507 : Cond.code ⟨"TapeStudio","emptied","(LTapeStudio$Row;)I"⟩ prog_1_method_47_code 2 (Option.some .int) ∈ m_big := m_big_mem (i := 507) (by decide +kernel) (by decide +kernel)
theorem w_506 : Cond.static ⟨"TapeStudio","emptied","(LTapeStudio$Row;)I"⟩ ∈ m_big := m_big_mem (i := 506) (by decide +kernel) (by decide +kernel)
theorem lm_X10_82 : m_MS RX10 82 yX10_emptied cX10_emptied 2 (some .int) 1 := ⟨⟨Or.inl w_505, w_126, w_507, by decide +kernel, by decide⟩, w_506⟩
theorem w_513 : Cond.methodLink "TapeStudio" 86 ⟨"TapeStudio$Shelf","hasRoom","(II)Z"⟩ ∈ m_big := m_big_mem (i := 513) (by decide +kernel) (by decide +kernel)
theorem lm_X10_86 : m_MV RX10 86 yX7_hasRoom cX7_hasRoom 3 (some .boolean) 2 := ⟨⟨Or.inl w_513, w_127, w_516, by decide +kernel, by decide⟩, w_514, w_515⟩
theorem w_517 : Cond.methodLink "TapeStudio" 90 ⟨"TapeStudio$Shelf","layStrip","(LTapeStudio$Row;I)I"⟩ ∈ m_big := m_big_mem (i := 517) (by decide +kernel) (by decide +kernel)
theorem w_520 : Cond.code ⟨"TapeStudio$Shelf","layStrip","(LTapeStudio$Row;I)I"⟩ prog_9_method_10_code 4 (Option.some .int) ∈ m_big := m_big_mem (i := 520) (by decide +kernel) (by decide +kernel)
theorem w_518 : Cond.instanceMethod ⟨"TapeStudio$Shelf","layStrip","(LTapeStudio$Row;I)I"⟩ ∈ m_big := m_big_mem (i := 518) (by decide +kernel) (by decide +kernel)
theorem w_519 : Cond.selects "TapeStudio$Shelf" ⟨"TapeStudio$Shelf","layStrip","(LTapeStudio$Row;I)I"⟩ ⟨"TapeStudio$Shelf","layStrip","(LTapeStudio$Row;I)I"⟩ ∈ m_big := m_big_mem (i := 519) (by decide +kernel) (by decide +kernel)
theorem lm_X10_90 : m_MV RX10 90 yX7_layStrip cX7_layStrip 4 (some .int) 2 := ⟨⟨Or.inl w_517, w_127, w_520, by decide +kernel, by decide⟩, w_518, w_519⟩
theorem w_596 : Cond.methodLink "TapeStudio" 94 ⟨"TapeStudio$Row","dropFirst","(I)V"⟩ ∈ m_big := m_big_mem (i := 596) (by decide +kernel) (by decide +kernel)
theorem w_599 : Cond.code ⟨"TapeStudio$Row","dropFirst","(I)V"⟩ prog_7_method_10_code 3 (Option.none : Option Jvm.ClassFile.FieldType) ∈ m_big := m_big_mem (i := 599) (by decide +kernel) (by decide +kernel)
theorem w_597 : Cond.instanceMethod ⟨"TapeStudio$Row","dropFirst","(I)V"⟩ ∈ m_big := m_big_mem (i := 597) (by decide +kernel) (by decide +kernel)
theorem w_598 : Cond.selects "TapeStudio$Row" ⟨"TapeStudio$Row","dropFirst","(I)V"⟩ ⟨"TapeStudio$Row","dropFirst","(I)V"⟩ ∈ m_big := m_big_mem (i := 598) (by decide +kernel) (by decide +kernel)
theorem lm_X10_94 : m_MV RX10 94 yX5_dropFirst cX5_dropFirst 3 none 1 := ⟨⟨Or.inl w_596, w_128, w_599, by decide +kernel, by decide⟩, w_597, w_598⟩
theorem w_172 : Cond.fieldLinkNest "TapeStudio" 97 "TapeStudio$Shelf" "sliver" "I" "TapeStudio" ∈ m_nest := m_nest_mem (i := 172) (by decide +kernel) (by decide +kernel)
theorem lp_X10_97 : m_PL RX10 97 7 4 .int false := ⟨RX7, TX7, 12, tyX7, rfl, rfl, by decide, by decide, uw_7, Or.inr ⟨rfl, _, w_172⟩, rfl, (fun q => by cases q), by decide +kernel, tyX7_ok, nmX7⟩
theorem w_608 : Cond.methodLink "TapeStudio" 101 ⟨"TapeStudio$Shelf","cutAt","(II)I"⟩ ∈ m_big := m_big_mem (i := 608) (by decide +kernel) (by decide +kernel)
theorem w_611 : Cond.code ⟨"TapeStudio$Shelf","cutAt","(II)I"⟩ prog_9_method_11_code 7 (Option.some .int) ∈ m_big := m_big_mem (i := 611) (by decide +kernel) (by decide +kernel)
theorem w_609 : Cond.instanceMethod ⟨"TapeStudio$Shelf","cutAt","(II)I"⟩ ∈ m_big := m_big_mem (i := 609) (by decide +kernel) (by decide +kernel)
theorem w_610 : Cond.selects "TapeStudio$Shelf" ⟨"TapeStudio$Shelf","cutAt","(II)I"⟩ ⟨"TapeStudio$Shelf","cutAt","(II)I"⟩ ∈ m_big := m_big_mem (i := 610) (by decide +kernel) (by decide +kernel)
theorem lm_X10_101 : m_MV RX10 101 yX7_cutAt cX7_cutAt 7 (some .int) 2 := ⟨⟨Or.inl w_608, w_127, w_611, by decide +kernel, by decide⟩, w_609, w_610⟩
theorem w_643 : Cond.methodLink "TapeStudio" 105 ⟨"TapeStudio$Shelf","turnedOf","(I)I"⟩ ∈ m_big := m_big_mem (i := 643) (by decide +kernel) (by decide +kernel)
theorem w_646 : Cond.code ⟨"TapeStudio$Shelf","turnedOf","(I)I"⟩ prog_9_method_14_code 4 (Option.some .int) ∈ m_big := m_big_mem (i := 646) (by decide +kernel) (by decide +kernel)
theorem w_644 : Cond.instanceMethod ⟨"TapeStudio$Shelf","turnedOf","(I)I"⟩ ∈ m_big := m_big_mem (i := 644) (by decide +kernel) (by decide +kernel)
theorem w_645 : Cond.selects "TapeStudio$Shelf" ⟨"TapeStudio$Shelf","turnedOf","(I)I"⟩ ⟨"TapeStudio$Shelf","turnedOf","(I)I"⟩ ∈ m_big := m_big_mem (i := 645) (by decide +kernel) (by decide +kernel)
theorem lm_X10_105 : m_MV RX10 105 yX7_turnedOf cX7_turnedOf 4 (some .int) 1 := ⟨⟨Or.inl w_643, w_127, w_646, by decide +kernel, by decide⟩, w_644, w_645⟩
theorem w_659 : Cond.methodLink "TapeStudio" 109 ⟨"TapeStudio$Shelf","loopOf","(I)I"⟩ ∈ m_big := m_big_mem (i := 659) (by decide +kernel) (by decide +kernel)
theorem w_662 : Cond.code ⟨"TapeStudio$Shelf","loopOf","(I)I"⟩ prog_9_method_15_code 4 (Option.some .int) ∈ m_big := m_big_mem (i := 662) (by decide +kernel) (by decide +kernel)
theorem w_660 : Cond.instanceMethod ⟨"TapeStudio$Shelf","loopOf","(I)I"⟩ ∈ m_big := m_big_mem (i := 660) (by decide +kernel) (by decide +kernel)
theorem w_661 : Cond.selects "TapeStudio$Shelf" ⟨"TapeStudio$Shelf","loopOf","(I)I"⟩ ⟨"TapeStudio$Shelf","loopOf","(I)I"⟩ ∈ m_big := m_big_mem (i := 661) (by decide +kernel) (by decide +kernel)
theorem lm_X10_109 : m_MV RX10 109 yX7_loopOf cX7_loopOf 4 (some .int) 1 := ⟨⟨Or.inl w_659, w_127, w_662, by decide +kernel, by decide⟩, w_660, w_661⟩
theorem w_667 : Cond.methodLink "TapeStudio" 112 ⟨"TapeStudio$Shelf","known","(I)LTapeStudio$Strip;"⟩ ∈ m_big := m_big_mem (i := 667) (by decide +kernel) (by decide +kernel)
theorem lm_X10_112 : m_MV RX10 112 yX7_known cX7_known 2 (some (.object "TapeStudio$Strip")) 1 := ⟨⟨Or.inl w_667, w_127, w_619, by decide +kernel, by decide⟩, w_617, w_618⟩
theorem w_535 : Cond.fieldLinkNest "TapeStudio" 116 "TapeStudio$Strip" "kind" "I" "TapeStudio" ∈ m_nest := m_nest_mem (i := 535) (by decide +kernel) (by decide +kernel)
theorem lf_X10_116 : m_FL RX10 116 8 1 := ⟨RX8, TX8, 12, rfl, rfl, by decide, by decide, uw_8, Or.inr ⟨_, w_535⟩⟩
theorem w_542 : Cond.fieldLinkNest "TapeStudio" 121 "TapeStudio$Strip" "row" "LTapeStudio$Row;" "TapeStudio" ∈ m_nest := m_nest_mem (i := 542) (by decide +kernel) (by decide +kernel)
theorem lf_X10_121 : m_FL RX10 121 8 3 := ⟨RX8, TX8, 12, rfl, rfl, by decide, by decide, uw_8, Or.inr ⟨_, w_542⟩⟩
theorem w_668 : Cond.methodLink "TapeStudio" 124 ⟨"TapeStudio$Row","get","(I)I"⟩ ∈ m_big := m_big_mem (i := 668) (by decide +kernel) (by decide +kernel)
theorem lm_X10_124 : m_MV RX10 124 yX5_get cX5_get 2 (some .int) 1 := ⟨⟨Or.inl w_668, w_128, w_595, by decide +kernel, by decide⟩, w_593, w_594⟩
theorem w_669 : Cond.methodLink "TapeStudio" 127 ⟨"java/lang/Math","abs","(I)I"⟩ ∈ m_big := m_big_mem (i := 669) (by decide +kernel) (by decide +kernel)
theorem w_676 : Cond.methodLink "TapeStudio" 132 ⟨"TapeStudio$Shelf","joinedOf","(III)I"⟩ ∈ m_big := m_big_mem (i := 676) (by decide +kernel) (by decide +kernel)
theorem w_679 : Cond.code ⟨"TapeStudio$Shelf","joinedOf","(III)I"⟩ prog_9_method_16_code 8 (Option.some .int) ∈ m_big := m_big_mem (i := 679) (by decide +kernel) (by decide +kernel)
theorem w_677 : Cond.instanceMethod ⟨"TapeStudio$Shelf","joinedOf","(III)I"⟩ ∈ m_big := m_big_mem (i := 677) (by decide +kernel) (by decide +kernel)
theorem w_678 : Cond.selects "TapeStudio$Shelf" ⟨"TapeStudio$Shelf","joinedOf","(III)I"⟩ ⟨"TapeStudio$Shelf","joinedOf","(III)I"⟩ ∈ m_big := m_big_mem (i := 678) (by decide +kernel) (by decide +kernel)
theorem lm_X10_132 : m_MV RX10 132 yX7_joinedOf cX7_joinedOf 8 (some .int) 3 := ⟨⟨Or.inl w_676, w_127, w_679, by decide +kernel, by decide⟩, w_677, w_678⟩
theorem w_693 : Cond.methodLink "TapeStudio" 136 ⟨"TapeStudio$Shelf","addMachine","(III)I"⟩ ∈ m_big := m_big_mem (i := 693) (by decide +kernel) (by decide +kernel)
theorem w_696 : Cond.code ⟨"TapeStudio$Shelf","addMachine","(III)I"⟩ prog_9_method_17_code 6 (Option.some .int) ∈ m_big := m_big_mem (i := 696) (by decide +kernel) (by decide +kernel)
theorem w_694 : Cond.instanceMethod ⟨"TapeStudio$Shelf","addMachine","(III)I"⟩ ∈ m_big := m_big_mem (i := 694) (by decide +kernel) (by decide +kernel)
theorem w_695 : Cond.selects "TapeStudio$Shelf" ⟨"TapeStudio$Shelf","addMachine","(III)I"⟩ ⟨"TapeStudio$Shelf","addMachine","(III)I"⟩ ∈ m_big := m_big_mem (i := 695) (by decide +kernel) (by decide +kernel)
theorem lm_X10_136 : m_MV RX10 136 yX7_addMachine cX7_addMachine 6 (some .int) 3 := ⟨⟨Or.inl w_693, w_127, w_696, by decide +kernel, by decide⟩, w_694, w_695⟩
theorem w_723 : Cond.methodLink "TapeStudio" 139 ⟨"TapeStudio$Shelf","copiedOf","(II)I"⟩ ∈ m_big := m_big_mem (i := 723) (by decide +kernel) (by decide +kernel)
theorem w_726 : Cond.code ⟨"TapeStudio$Shelf","copiedOf","(II)I"⟩ prog_9_method_20_code 6 (Option.some .int) ∈ m_big := m_big_mem (i := 726) (by decide +kernel) (by decide +kernel)
theorem w_724 : Cond.instanceMethod ⟨"TapeStudio$Shelf","copiedOf","(II)I"⟩ ∈ m_big := m_big_mem (i := 724) (by decide +kernel) (by decide +kernel)
theorem w_725 : Cond.selects "TapeStudio$Shelf" ⟨"TapeStudio$Shelf","copiedOf","(II)I"⟩ ⟨"TapeStudio$Shelf","copiedOf","(II)I"⟩ ∈ m_big := m_big_mem (i := 725) (by decide +kernel) (by decide +kernel)
theorem lm_X10_139 : m_MV RX10 139 yX7_copiedOf cX7_copiedOf 6 (some .int) 2 := ⟨⟨Or.inl w_723, w_127, w_726, by decide +kernel, by decide⟩, w_724, w_725⟩
theorem w_764 : Cond.methodLink "TapeStudio" 142 ⟨"TapeStudio$Shelf","speededOf","(IIII)I"⟩ ∈ m_big := m_big_mem (i := 764) (by decide +kernel) (by decide +kernel)
theorem w_767 : Cond.code ⟨"TapeStudio$Shelf","speededOf","(IIII)I"⟩ prog_9_method_21_code 7 (Option.some .int) ∈ m_big := m_big_mem (i := 767) (by decide +kernel) (by decide +kernel)
theorem w_765 : Cond.instanceMethod ⟨"TapeStudio$Shelf","speededOf","(IIII)I"⟩ ∈ m_big := m_big_mem (i := 765) (by decide +kernel) (by decide +kernel)
theorem w_766 : Cond.selects "TapeStudio$Shelf" ⟨"TapeStudio$Shelf","speededOf","(IIII)I"⟩ ⟨"TapeStudio$Shelf","speededOf","(IIII)I"⟩ ∈ m_big := m_big_mem (i := 766) (by decide +kernel) (by decide +kernel)
theorem lm_X10_142 : m_MV RX10 142 yX7_speededOf cX7_speededOf 7 (some .int) 4 := ⟨⟨Or.inl w_764, w_127, w_767, by decide +kernel, by decide⟩, w_765, w_766⟩
theorem w_772 : Cond.methodLink "TapeStudio" 146 ⟨"TapeStudio$Shelf","there","(I)LTapeStudio$Strip;"⟩ ∈ m_big := m_big_mem (i := 772) (by decide +kernel) (by decide +kernel)
theorem lm_X10_146 : m_MV RX10 146 yX7_there cX7_there 3 (some (.object "TapeStudio$Strip")) 1 := ⟨⟨Or.inl w_772, w_127, w_615, by decide +kernel, by decide⟩, w_613, w_614⟩
theorem w_773 : Cond.methodLink "TapeStudio" 149 ⟨"TapeStudio$Shelf","takeAway","(LTapeStudio$Strip;I)V"⟩ ∈ m_big := m_big_mem (i := 773) (by decide +kernel) (by decide +kernel)
theorem lm_X10_149 : m_MV RX10 149 yX7_takeAway cX7_takeAway 3 none 2 := ⟨⟨Or.inl w_773, w_127, w_638, by decide +kernel, by decide⟩, w_636, w_637⟩
theorem w_778 : Cond.methodLink "TapeStudio" 153 ⟨"TapeStudio$Shelf","hangingOn","(I)I"⟩ ∈ m_big := m_big_mem (i := 778) (by decide +kernel) (by decide +kernel)
theorem w_781 : Cond.code ⟨"TapeStudio$Shelf","hangingOn","(I)I"⟩ prog_9_method_22_code 4 (Option.some .int) ∈ m_big := m_big_mem (i := 781) (by decide +kernel) (by decide +kernel)
theorem w_779 : Cond.instanceMethod ⟨"TapeStudio$Shelf","hangingOn","(I)I"⟩ ∈ m_big := m_big_mem (i := 779) (by decide +kernel) (by decide +kernel)
theorem w_780 : Cond.selects "TapeStudio$Shelf" ⟨"TapeStudio$Shelf","hangingOn","(I)I"⟩ ⟨"TapeStudio$Shelf","hangingOn","(I)I"⟩ ∈ m_big := m_big_mem (i := 780) (by decide +kernel) (by decide +kernel)
theorem lm_X10_153 : m_MV RX10 153 yX7_hangingOn cX7_hangingOn 4 (some .int) 1 := ⟨⟨Or.inl w_778, w_127, w_781, by decide +kernel, by decide⟩, w_779, w_780⟩
theorem w_555 : Cond.fieldLinkNest "TapeStudio" 156 "TapeStudio$Strip" "nail" "I" "TapeStudio" ∈ m_nest := m_nest_mem (i := 555) (by decide +kernel) (by decide +kernel)
theorem lp_X10_156 : m_PL RX10 156 8 8 .int false := ⟨RX8, TX8, 12, tyX8, rfl, rfl, by decide, by decide, uw_8, Or.inr ⟨rfl, _, w_555⟩, rfl, (fun q => by cases q), by decide +kernel, tyX8_ok, nmX8⟩
theorem w_790 : Cond.methodLink "TapeStudio" 159 ⟨"TapeStudio$Shelf","readMark","(II)Z"⟩ ∈ m_big := m_big_mem (i := 790) (by decide +kernel) (by decide +kernel)
theorem w_793 : Cond.code ⟨"TapeStudio$Shelf","readMark","(II)Z"⟩ prog_9_method_23_code 3 (Option.some .boolean) ∈ m_big := m_big_mem (i := 793) (by decide +kernel) (by decide +kernel)
theorem w_791 : Cond.instanceMethod ⟨"TapeStudio$Shelf","readMark","(II)Z"⟩ ∈ m_big := m_big_mem (i := 791) (by decide +kernel) (by decide +kernel)
theorem w_792 : Cond.selects "TapeStudio$Shelf" ⟨"TapeStudio$Shelf","readMark","(II)Z"⟩ ⟨"TapeStudio$Shelf","readMark","(II)Z"⟩ ∈ m_big := m_big_mem (i := 792) (by decide +kernel) (by decide +kernel)
theorem lm_X10_159 : m_MV RX10 159 yX7_readMark cX7_readMark 3 (some .boolean) 2 := ⟨⟨Or.inl w_790, w_127, w_793, by decide +kernel, by decide⟩, w_791, w_792⟩
theorem w_801 : Cond.methodLink "TapeStudio" 162 ⟨"TapeStudio$Shelf","markOf","(II)I"⟩ ∈ m_big := m_big_mem (i := 801) (by decide +kernel) (by decide +kernel)
theorem lm_X10_162 : m_MV RX10 162 yX7_markOf cX7_markOf 4 (some .int) 2 := ⟨⟨Or.inl w_801, w_127, w_804, by decide +kernel, by decide⟩, w_802, w_803⟩
theorem w_171 : Cond.fieldLinkNest "TapeStudio" 165 "TapeStudio$Shelf" "now" "I" "TapeStudio" ∈ m_nest := m_nest_mem (i := 171) (by decide +kernel) (by decide +kernel)
theorem lf_X10_165 : m_FL RX10 165 7 3 := ⟨RX7, TX7, 12, rfl, rfl, by decide, by decide, uw_7, Or.inr ⟨_, w_171⟩⟩
theorem lp_X10_165 : m_PL RX10 165 7 3 .int false := ⟨RX7, TX7, 12, tyX7, rfl, rfl, by decide, by decide, uw_7, Or.inr ⟨rfl, _, w_171⟩, rfl, (fun q => by cases q), by decide +kernel, tyX7_ok, nmX7⟩
theorem w_816 : Cond.constant "TapeStudio" 171 (Int32.ofInt (-2147483648)) ∈ m_nest := m_nest_mem (i := 816) (by decide +kernel) (by decide +kernel)
theorem w_817 : Cond.methodLink "TapeStudio" 172 ⟨"TapeStudio","sampleOf","(LTapeStudio$Row;I)I"⟩ ∈ m_big := m_big_mem (i := 817) (by decide +kernel) (by decide +kernel)
theorem w_819 : Cond.code ⟨"TapeStudio","sampleOf","(LTapeStudio$Row;I)I"⟩ prog_1_method_48_code 2 (Option.some .int) ∈ m_big := m_big_mem (i := 819) (by decide +kernel) (by decide +kernel)
theorem w_818 : Cond.static ⟨"TapeStudio","sampleOf","(LTapeStudio$Row;I)I"⟩ ∈ m_big := m_big_mem (i := 818) (by decide +kernel) (by decide +kernel)
theorem lm_X10_172 : m_MS RX10 172 yX10_sampleOf cX10_sampleOf 2 (some .int) 2 := ⟨⟨Or.inl w_817, w_126, w_819, by decide +kernel, by decide⟩, w_818⟩
theorem w_824 : Cond.methodLink "TapeStudio" 175 ⟨"TapeStudio$Strip","fact","(I)I"⟩ ∈ m_big := m_big_mem (i := 824) (by decide +kernel) (by decide +kernel)
theorem w_827 : Cond.code ⟨"TapeStudio$Strip","fact","(I)I"⟩ prog_10_method_2_code 2 (Option.some .int) ∈ m_big := m_big_mem (i := 827) (by decide +kernel) (by decide +kernel)
theorem w_825 : Cond.instanceMethod ⟨"TapeStudio$Strip","fact","(I)I"⟩ ∈ m_big := m_big_mem (i := 825) (by decide +kernel) (by decide +kernel)
theorem w_826 : Cond.selects "TapeStudio$Strip" ⟨"TapeStudio$Strip","fact","(I)I"⟩ ⟨"TapeStudio$Strip","fact","(I)I"⟩ ∈ m_big := m_big_mem (i := 826) (by decide +kernel) (by decide +kernel)
theorem lm_X10_175 : m_MV RX10 175 yX8_fact cX8_fact 2 (some .int) 1 := ⟨⟨Or.inl w_824, w_138, w_827, by decide +kernel, by decide⟩, w_825, w_826⟩
theorem lf_X10_26 : m_FL RX10 26 10 2 := ⟨RX10, TX10, 10, rfl, rfl, by decide, by decide, uw_10, Or.inl w_435⟩
theorem w_258 : Cond.fieldLinkNest "TapeStudio" 178 "TapeStudio$Reader" "size" "I" "TapeStudio" ∈ m_nest := m_nest_mem (i := 258) (by decide +kernel) (by decide +kernel)
theorem lf_X10_178 : m_FL RX10 178 4 1 := ⟨RX4, TX4, 11, rfl, rfl, by decide, by decide, uw_4, Or.inr ⟨_, w_258⟩⟩
theorem w_833 : Cond.methodLink "TapeStudio" 180 ⟨"TapeStudio$Reader","addFour","(I)V"⟩ ∈ m_big := m_big_mem (i := 833) (by decide +kernel) (by decide +kernel)
theorem w_836 : Cond.code ⟨"TapeStudio$Reader","addFour","(I)V"⟩ prog_6_method_2_code 2 (Option.none : Option Jvm.ClassFile.FieldType) ∈ m_big := m_big_mem (i := 836) (by decide +kernel) (by decide +kernel)
theorem w_834 : Cond.instanceMethod ⟨"TapeStudio$Reader","addFour","(I)V"⟩ ∈ m_big := m_big_mem (i := 834) (by decide +kernel) (by decide +kernel)
theorem w_835 : Cond.selects "TapeStudio$Reader" ⟨"TapeStudio$Reader","addFour","(I)V"⟩ ⟨"TapeStudio$Reader","addFour","(I)V"⟩ ∈ m_big := m_big_mem (i := 835) (by decide +kernel) (by decide +kernel)
theorem lm_X10_180 : m_MV RX10 180 yX4_addFour cX4_addFour 2 none 1 := ⟨⟨Or.inl w_833, w_129, w_836, by decide +kernel, by decide⟩, w_834, w_835⟩
theorem lp_X10_178 : m_PL RX10 178 4 1 .int false := ⟨RX4, TX4, 11, tyX4, rfl, rfl, by decide, by decide, uw_4, Or.inr ⟨rfl, _, w_258⟩, rfl, (fun q => by cases q), by decide +kernel, tyX4_ok, nmX4⟩
theorem w_849 : Cond.methodLink "TapeStudio" 183 ⟨"TapeStudio$Reader","firstFault","()I"⟩ ∈ m_big := m_big_mem (i := 849) (by decide +kernel) (by decide +kernel)
theorem w_852 : Cond.code ⟨"TapeStudio$Reader","firstFault","()I"⟩ prog_6_method_4_code 3 (Option.some .int) ∈ m_big := m_big_mem (i := 852) (by decide +kernel) (by decide +kernel)
theorem w_850 : Cond.instanceMethod ⟨"TapeStudio$Reader","firstFault","()I"⟩ ∈ m_big := m_big_mem (i := 850) (by decide +kernel) (by decide +kernel)
theorem w_851 : Cond.selects "TapeStudio$Reader" ⟨"TapeStudio$Reader","firstFault","()I"⟩ ⟨"TapeStudio$Reader","firstFault","()I"⟩ ∈ m_big := m_big_mem (i := 851) (by decide +kernel) (by decide +kernel)
theorem lm_X10_183 : m_MV RX10 183 yX4_firstFault cX4_firstFault 3 (some .int) 0 := ⟨⟨Or.inl w_849, w_129, w_852, by decide +kernel, by decide⟩, w_850, w_851⟩
theorem w_437 : Cond.fieldLink "TapeStudio" 186 "TapeStudio" "scoreCount" "I" ∈ m_big := m_big_mem (i := 437) (by decide +kernel) (by decide +kernel)
theorem lf_X10_186 : m_FL RX10 186 10 4 := ⟨RX10, TX10, 10, rfl, rfl, by decide, by decide, uw_10, Or.inl w_437⟩
theorem lf_X10_32 : m_FL RX10 32 10 3 := ⟨RX10, TX10, 10, rfl, rfl, by decide, by decide, uw_10, Or.inl w_436⟩
theorem w_1000 : Cond.methodLink "TapeStudio" 189 ⟨"TapeStudio$Reader","written","()LTapeStudio$Score;"⟩ ∈ m_big := m_big_mem (i := 1000) (by decide +kernel) (by decide +kernel)
theorem w_1003 : Cond.code ⟨"TapeStudio$Reader","written","()LTapeStudio$Score;"⟩ prog_6_method_5_code 1 (Option.some (.object "TapeStudio$Score")) ∈ m_big := m_big_mem (i := 1003) (by decide +kernel) (by decide +kernel)
theorem w_1001 : Cond.instanceMethod ⟨"TapeStudio$Reader","written","()LTapeStudio$Score;"⟩ ∈ m_big := m_big_mem (i := 1001) (by decide +kernel) (by decide +kernel)
theorem w_1002 : Cond.selects "TapeStudio$Reader" ⟨"TapeStudio$Reader","written","()LTapeStudio$Score;"⟩ ⟨"TapeStudio$Reader","written","()LTapeStudio$Score;"⟩ ∈ m_big := m_big_mem (i := 1002) (by decide +kernel) (by decide +kernel)
theorem lm_X10_189 : m_MV RX10 189 yX4_written cX4_written 1 (some (.object "TapeStudio$Score")) 0 := ⟨⟨Or.inl w_1000, w_129, w_1003, by decide +kernel, by decide⟩, w_1001, w_1002⟩
theorem lp_X10_186 : m_PL RX10 186 10 4 .int false := ⟨RX10, TX10, 10, tyX10, rfl, rfl, by decide, by decide, uw_10, Or.inl w_437, rfl, (fun q => by cases q), by decide +kernel, tyX10_ok, nmX10⟩
theorem w_1020 : Cond.methodLink "TapeStudio" 193 ⟨"TapeStudio","scoreOf","(I)LTapeStudio$Score;"⟩ ∈ m_big := m_big_mem (i := 1020) (by decide +kernel) (by decide +kernel)
theorem w_1023 : Cond.code ⟨"TapeStudio","scoreOf","(I)LTapeStudio$Score;"⟩ prog_1_method_45_code 2 (Option.some (.object "TapeStudio$Score")) ∈ m_big := m_big_mem (i := 1023) (by decide +kernel) (by decide +kernel)
theorem w_1022 : Cond.instanceMethod ⟨"TapeStudio","scoreOf","(I)LTapeStudio$Score;"⟩ ∈ m_big := m_big_mem (i := 1022) (by decide +kernel) (by decide +kernel)
theorem w_29 : Cond.selects "TapeStudio" ⟨"TapeStudio","scoreOf","(I)LTapeStudio$Score;"⟩ ⟨"TapeStudio","scoreOf","(I)LTapeStudio$Score;"⟩ ∈ m_big := m_big_mem (i := 29) (by decide +kernel) (by decide +kernel)
theorem lm_X10_193 : m_MV RX10 193 yX10_scoreOf cX10_scoreOf 2 (some (.object "TapeStudio$Score")) 1 := ⟨⟨Or.inl w_1020, w_126, w_1023, by decide +kernel, by decide⟩, w_1022, w_29⟩
theorem w_1024 : Cond.methodLink "TapeStudio" 197 ⟨"TapeStudio","isPast","(I)Z"⟩ ∈ m_big := m_big_mem (i := 1024) (by decide +kernel) (by decide +kernel)
theorem w_1027 : Cond.code ⟨"TapeStudio","isPast","(I)Z"⟩ prog_1_method_46_code 2 (Option.some .boolean) ∈ m_big := m_big_mem (i := 1027) (by decide +kernel) (by decide +kernel)
theorem w_1026 : Cond.instanceMethod ⟨"TapeStudio","isPast","(I)Z"⟩ ∈ m_big := m_big_mem (i := 1026) (by decide +kernel) (by decide +kernel)
theorem w_30 : Cond.selects "TapeStudio" ⟨"TapeStudio","isPast","(I)Z"⟩ ⟨"TapeStudio","isPast","(I)Z"⟩ ∈ m_big := m_big_mem (i := 30) (by decide +kernel) (by decide +kernel)
theorem lm_X10_197 : m_MV RX10 197 yX10_isPast cX10_isPast 2 (some .boolean) 1 := ⟨⟨Or.inl w_1024, w_126, w_1027, by decide +kernel, by decide⟩, w_1026, w_30⟩
theorem lf_X10_41 : m_FL RX10 41 10 5 := ⟨RX10, TX10, 10, rfl, rfl, by decide, by decide, uw_10, Or.inl w_438⟩
theorem w_1028 : Cond.methodLink "TapeStudio" 201 ⟨"TapeStudio$Player","firstFailing","(LTapeStudio$Score;I)I"⟩ ∈ m_big := m_big_mem (i := 1028) (by decide +kernel) (by decide +kernel)
theorem w_1031 : Cond.code ⟨"TapeStudio$Player","firstFailing","(LTapeStudio$Score;I)I"⟩ prog_5_method_3_code 5 (Option.some .int) ∈ m_big := m_big_mem (i := 1031) (by decide +kernel) (by decide +kernel)
theorem w_1029 : Cond.instanceMethod ⟨"TapeStudio$Player","firstFailing","(LTapeStudio$Score;I)I"⟩ ∈ m_big := m_big_mem (i := 1029) (by decide +kernel) (by decide +kernel)
theorem w_1030 : Cond.selects "TapeStudio$Player" ⟨"TapeStudio$Player","firstFailing","(LTapeStudio$Score;I)I"⟩ ⟨"TapeStudio$Player","firstFailing","(LTapeStudio$Score;I)I"⟩ ∈ m_big := m_big_mem (i := 1030) (by decide +kernel) (by decide +kernel)
theorem lm_X10_201 : m_MV RX10 201 yX3_firstFailing cX3_firstFailing 5 (some .int) 2 := ⟨⟨Or.inl w_1028, w_131, w_1031, by decide +kernel, by decide⟩, w_1029, w_1030⟩
theorem w_1134 : Cond.methodLink "TapeStudio" 205 ⟨"TapeStudio$Player","noteLeads","(LTapeStudio$Score;)V"⟩ ∈ m_big := m_big_mem (i := 1134) (by decide +kernel) (by decide +kernel)
theorem w_1137 : Cond.code ⟨"TapeStudio$Player","noteLeads","(LTapeStudio$Score;)V"⟩ prog_5_method_14_code 3 (Option.none : Option Jvm.ClassFile.FieldType) ∈ m_big := m_big_mem (i := 1137) (by decide +kernel) (by decide +kernel)
theorem w_1135 : Cond.instanceMethod ⟨"TapeStudio$Player","noteLeads","(LTapeStudio$Score;)V"⟩ ∈ m_big := m_big_mem (i := 1135) (by decide +kernel) (by decide +kernel)
theorem w_1136 : Cond.selects "TapeStudio$Player" ⟨"TapeStudio$Player","noteLeads","(LTapeStudio$Score;)V"⟩ ⟨"TapeStudio$Player","noteLeads","(LTapeStudio$Score;)V"⟩ ∈ m_big := m_big_mem (i := 1136) (by decide +kernel) (by decide +kernel)
theorem lm_X10_205 : m_MV RX10 205 yX3_noteLeads cX3_noteLeads 3 none 1 := ⟨⟨Or.inl w_1134, w_131, w_1137, by decide +kernel, by decide⟩, w_1135, w_1136⟩
theorem lf_X10_48 : m_FL RX10 48 10 6 := ⟨RX10, TX10, 10, rfl, rfl, by decide, by decide, uw_10, Or.inl w_439⟩
theorem w_1138 : Cond.methodLink "TapeStudio" 209 ⟨"TapeStudio$Piece","layAll","(LTapeStudio$Score;ILTapeStudio$Player;)V"⟩ ∈ m_big := m_big_mem (i := 1138) (by decide +kernel) (by decide +kernel)
theorem w_1141 : Cond.code ⟨"TapeStudio$Piece","layAll","(LTapeStudio$Score;ILTapeStudio$Player;)V"⟩ prog_4_method_2_code 6 (Option.none : Option Jvm.ClassFile.FieldType) ∈ m_big := m_big_mem (i := 1141) (by decide +kernel) (by decide +kernel)
theorem w_1139 : Cond.instanceMethod ⟨"TapeStudio$Piece","layAll","(LTapeStudio$Score;ILTapeStudio$Player;)V"⟩ ∈ m_big := m_big_mem (i := 1139) (by decide +kernel) (by decide +kernel)
theorem w_1140 : Cond.selects "TapeStudio$Piece" ⟨"TapeStudio$Piece","layAll","(LTapeStudio$Score;ILTapeStudio$Player;)V"⟩ ⟨"TapeStudio$Piece","layAll","(LTapeStudio$Score;ILTapeStudio$Player;)V"⟩ ∈ m_big := m_big_mem (i := 1140) (by decide +kernel) (by decide +kernel)
theorem lm_X10_209 : m_MV RX10 209 yX2_layAll cX2_layAll 6 none 3 := ⟨⟨Or.inl w_1138, w_132, w_1141, by decide +kernel, by decide⟩, w_1139, w_1140⟩
theorem w_331 : Cond.fieldLinkNest "TapeStudio" 213 "TapeStudio$Piece" "sound" "LTapeStudio$Row;" "TapeStudio" ∈ m_nest := m_nest_mem (i := 331) (by decide +kernel) (by decide +kernel)
theorem lf_X10_213 : m_FL RX10 213 2 1 := ⟨RX2, TX2, 8, rfl, rfl, by decide, by decide, uw_2, Or.inr ⟨_, w_331⟩⟩
theorem w_1194 : Cond.methodLink "TapeStudio" 216 ⟨"TapeStudio$Piece","reason","(II)I"⟩ ∈ m_big := m_big_mem (i := 1194) (by decide +kernel) (by decide +kernel)
theorem w_1197 : Cond.code ⟨"TapeStudio$Piece","reason","(II)I"⟩ prog_4_method_9_code 7 (Option.some .int) ∈ m_big := m_big_mem (i := 1197) (by decide +kernel) (by decide +kernel)
theorem w_1195 : Cond.instanceMethod ⟨"TapeStudio$Piece","reason","(II)I"⟩ ∈ m_big := m_big_mem (i := 1195) (by decide +kernel) (by decide +kernel)
theorem w_1196 : Cond.selects "TapeStudio$Piece" ⟨"TapeStudio$Piece","reason","(II)I"⟩ ⟨"TapeStudio$Piece","reason","(II)I"⟩ ∈ m_big := m_big_mem (i := 1196) (by decide +kernel) (by decide +kernel)
theorem lm_X10_216 : m_MV RX10 216 yX2_reason cX2_reason 7 (some .int) 2 := ⟨⟨Or.inl w_1194, w_132, w_1197, by decide +kernel, by decide⟩, w_1195, w_1196⟩
theorem w_1214 : Cond.methodLink "TapeStudio" 219 ⟨"TapeStudio$Piece","leadTo","(III)I"⟩ ∈ m_big := m_big_mem (i := 1214) (by decide +kernel) (by decide +kernel)
theorem w_1217 : Cond.code ⟨"TapeStudio$Piece","leadTo","(III)I"⟩ prog_4_method_12_code 6 (Option.some .int) ∈ m_big := m_big_mem (i := 1217) (by decide +kernel) (by decide +kernel)
theorem w_1215 : Cond.instanceMethod ⟨"TapeStudio$Piece","leadTo","(III)I"⟩ ∈ m_big := m_big_mem (i := 1215) (by decide +kernel) (by decide +kernel)
theorem w_1216 : Cond.selects "TapeStudio$Piece" ⟨"TapeStudio$Piece","leadTo","(III)I"⟩ ⟨"TapeStudio$Piece","leadTo","(III)I"⟩ ∈ m_big := m_big_mem (i := 1216) (by decide +kernel) (by decide +kernel)
theorem lm_X10_219 : m_MV RX10 219 yX2_leadTo cX2_leadTo 6 (some .int) 3 := ⟨⟨Or.inl w_1214, w_132, w_1217, by decide +kernel, by decide⟩, w_1215, w_1216⟩
theorem w_1245 : Cond.methodLink "TapeStudio" 222 ⟨"TapeStudio$Piece","quarrelAt","(I)I"⟩ ∈ m_big := m_big_mem (i := 1245) (by decide +kernel) (by decide +kernel)
theorem w_1248 : Cond.code ⟨"TapeStudio$Piece","quarrelAt","(I)I"⟩ prog_4_method_16_code 5 (Option.some .int) ∈ m_big := m_big_mem (i := 1248) (by decide +kernel) (by decide +kernel)
theorem w_1246 : Cond.instanceMethod ⟨"TapeStudio$Piece","quarrelAt","(I)I"⟩ ∈ m_big := m_big_mem (i := 1246) (by decide +kernel) (by decide +kernel)
theorem w_1247 : Cond.selects "TapeStudio$Piece" ⟨"TapeStudio$Piece","quarrelAt","(I)I"⟩ ⟨"TapeStudio$Piece","quarrelAt","(I)I"⟩ ∈ m_big := m_big_mem (i := 1247) (by decide +kernel) (by decide +kernel)
theorem lm_X10_222 : m_MV RX10 222 yX2_quarrelAt cX2_quarrelAt 5 (some .int) 1 := ⟨⟨Or.inl w_1245, w_132, w_1248, by decide +kernel, by decide⟩, w_1246, w_1247⟩
theorem w_1257 : Cond.methodLink "TapeStudio" 229 ⟨"TapeStudio$Player","leadsOtherwise","(LTapeStudio$Score;)Z"⟩ ∈ m_big := m_big_mem (i := 1257) (by decide +kernel) (by decide +kernel)
theorem w_1260 : Cond.code ⟨"TapeStudio$Player","leadsOtherwise","(LTapeStudio$Score;)Z"⟩ prog_5_method_15_code 3 (Option.some .boolean) ∈ m_big := m_big_mem (i := 1260) (by decide +kernel) (by decide +kernel)
theorem w_1258 : Cond.instanceMethod ⟨"TapeStudio$Player","leadsOtherwise","(LTapeStudio$Score;)Z"⟩ ∈ m_big := m_big_mem (i := 1258) (by decide +kernel) (by decide +kernel)
theorem w_1259 : Cond.selects "TapeStudio$Player" ⟨"TapeStudio$Player","leadsOtherwise","(LTapeStudio$Score;)Z"⟩ ⟨"TapeStudio$Player","leadsOtherwise","(LTapeStudio$Score;)Z"⟩ ∈ m_big := m_big_mem (i := 1259) (by decide +kernel) (by decide +kernel)
theorem lm_X10_229 : m_MV RX10 229 yX3_leadsOtherwise cX3_leadsOtherwise 3 (some .boolean) 1 := ⟨⟨Or.inl w_1257, w_131, w_1260, by decide +kernel, by decide⟩, w_1258, w_1259⟩
theorem w_244 : Cond.fieldLinkNest "TapeStudio" 225 "TapeStudio$Score" "made" "Z" "TapeStudio" ∈ m_nest := m_nest_mem (i := 244) (by decide +kernel) (by decide +kernel)
theorem lf_X10_225 : m_FL RX10 225 6 2 := ⟨RX6, TX6, 4, rfl, rfl, by decide, by decide, uw_6, Or.inr ⟨_, w_244⟩⟩
theorem lf_X10_55 : m_FL RX10 55 10 7 := ⟨RX10, TX10, 10, rfl, rfl, by decide, by decide, uw_10, Or.inl w_440⟩
theorem w_176 : Cond.fieldLinkNest "TapeStudio" 233 "TapeStudio$Shelf" "machineCount" "I" "TapeStudio" ∈ m_nest := m_nest_mem (i := 176) (by decide +kernel) (by decide +kernel)
theorem lf_X10_233 : m_FL RX10 233 7 6 := ⟨RX7, TX7, 12, rfl, rfl, by decide, by decide, uw_7, Or.inr ⟨_, w_176⟩⟩
theorem w_1265 : Cond.methodLink "TapeStudio" 236 ⟨"TapeStudio$Work","leastTurns","(LTapeStudio$Score;I)I"⟩ ∈ m_big := m_big_mem (i := 1265) (by decide +kernel) (by decide +kernel)
theorem lm_X10_236 : m_MV RX10 236 yX9_leastTurns cX9_leastTurns 3 (some .int) 2 := ⟨⟨Or.inl w_1265, w_133, w_1268, by decide +kernel, by decide⟩, w_1266, w_1267⟩
theorem w_1310 : Cond.methodLink "TapeStudio" 239 ⟨"TapeStudio$Work","plannedTurn","(LTapeStudio$Score;II)I"⟩ ∈ m_big := m_big_mem (i := 1310) (by decide +kernel) (by decide +kernel)
theorem w_1313 : Cond.code ⟨"TapeStudio$Work","plannedTurn","(LTapeStudio$Score;II)I"⟩ prog_11_method_3_code 9 (Option.some .int) ∈ m_big := m_big_mem (i := 1313) (by decide +kernel) (by decide +kernel)
theorem w_1311 : Cond.instanceMethod ⟨"TapeStudio$Work","plannedTurn","(LTapeStudio$Score;II)I"⟩ ∈ m_big := m_big_mem (i := 1311) (by decide +kernel) (by decide +kernel)
theorem w_1312 : Cond.selects "TapeStudio$Work" ⟨"TapeStudio$Work","plannedTurn","(LTapeStudio$Score;II)I"⟩ ⟨"TapeStudio$Work","plannedTurn","(LTapeStudio$Score;II)I"⟩ ∈ m_big := m_big_mem (i := 1312) (by decide +kernel) (by decide +kernel)
theorem lm_X10_239 : m_MV RX10 239 yX9_plannedTurn cX9_plannedTurn 9 (some .int) 3 := ⟨⟨Or.inl w_1310, w_133, w_1313, by decide +kernel, by decide⟩, w_1311, w_1312⟩
theorem w_1323 : Cond.methodLink "TapeStudio" 243 ⟨"TapeStudio$Player","depth","(LTapeStudio$Score;)I"⟩ ∈ m_big := m_big_mem (i := 1323) (by decide +kernel) (by decide +kernel)
theorem w_1326 : Cond.code ⟨"TapeStudio$Player","depth","(LTapeStudio$Score;)I"⟩ prog_5_method_16_code 5 (Option.some .int) ∈ m_big := m_big_mem (i := 1326) (by decide +kernel) (by decide +kernel)
theorem w_1324 : Cond.instanceMethod ⟨"TapeStudio$Player","depth","(LTapeStudio$Score;)I"⟩ ∈ m_big := m_big_mem (i := 1324) (by decide +kernel) (by decide +kernel)
theorem w_1325 : Cond.selects "TapeStudio$Player" ⟨"TapeStudio$Player","depth","(LTapeStudio$Score;)I"⟩ ⟨"TapeStudio$Player","depth","(LTapeStudio$Score;)I"⟩ ∈ m_big := m_big_mem (i := 1325) (by decide +kernel) (by decide +kernel)
theorem lm_X10_243 : m_MV RX10 243 yX3_depth cX3_depth 5 (some .int) 1 := ⟨⟨Or.inl w_1323, w_131, w_1326, by decide +kernel, by decide⟩, w_1324, w_1325⟩
theorem lf_X10_67 : m_FL RX10 67 10 9 := ⟨RX10, TX10, 10, rfl, rfl, by decide, by decide, uw_10, Or.inl w_442⟩
theorem w_1337 : Cond.methodLink "TapeStudio" 247 ⟨"TapeStudio$Match","forget","()V"⟩ ∈ m_big := m_big_mem (i := 1337) (by decide +kernel) (by decide +kernel)
theorem w_1340 : Cond.code ⟨"TapeStudio$Match","forget","()V"⟩ prog_3_method_2_code 1 (Option.none : Option Jvm.ClassFile.FieldType) ∈ m_big := m_big_mem (i := 1340) (by decide +kernel) (by decide +kernel)
theorem w_1338 : Cond.instanceMethod ⟨"TapeStudio$Match","forget","()V"⟩ ∈ m_big := m_big_mem (i := 1338) (by decide +kernel) (by decide +kernel)
theorem w_1339 : Cond.selects "TapeStudio$Match" ⟨"TapeStudio$Match","forget","()V"⟩ ⟨"TapeStudio$Match","forget","()V"⟩ ∈ m_big := m_big_mem (i := 1339) (by decide +kernel) (by decide +kernel)
theorem lm_X10_247 : m_MV RX10 247 yX1_forget cX1_forget 1 none 0 := ⟨⟨Or.inl w_1337, w_134, w_1340, by decide +kernel, by decide⟩, w_1338, w_1339⟩
theorem w_1349 : Cond.methodLink "TapeStudio" 250 ⟨"TapeStudio$Match","search","(III)Z"⟩ ∈ m_big := m_big_mem (i := 1349) (by decide +kernel) (by decide +kernel)
theorem w_1352 : Cond.code ⟨"TapeStudio$Match","search","(III)Z"⟩ prog_3_method_6_code 7 (Option.some .boolean) ∈ m_big := m_big_mem (i := 1352) (by decide +kernel) (by decide +kernel)
theorem w_1350 : Cond.instanceMethod ⟨"TapeStudio$Match","search","(III)Z"⟩ ∈ m_big := m_big_mem (i := 1350) (by decide +kernel) (by decide +kernel)
theorem w_1351 : Cond.selects "TapeStudio$Match" ⟨"TapeStudio$Match","search","(III)Z"⟩ ⟨"TapeStudio$Match","search","(III)Z"⟩ ∈ m_big := m_big_mem (i := 1351) (by decide +kernel) (by decide +kernel)
theorem lm_X10_250 : m_MV RX10 250 yX1_search cX1_search 7 (some .boolean) 3 := ⟨⟨Or.inl w_1349, w_134, w_1352, by decide +kernel, by decide⟩, w_1350, w_1351⟩
theorem w_1380 : Cond.methodLink "TapeStudio" 254 ⟨"TapeStudio$Match","best","(I)I"⟩ ∈ m_big := m_big_mem (i := 1380) (by decide +kernel) (by decide +kernel)
theorem w_1383 : Cond.code ⟨"TapeStudio$Match","best","(I)I"⟩ prog_3_method_9_code 2 (Option.some .int) ∈ m_big := m_big_mem (i := 1383) (by decide +kernel) (by decide +kernel)
theorem w_1381 : Cond.instanceMethod ⟨"TapeStudio$Match","best","(I)I"⟩ ∈ m_big := m_big_mem (i := 1381) (by decide +kernel) (by decide +kernel)
theorem w_1382 : Cond.selects "TapeStudio$Match" ⟨"TapeStudio$Match","best","(I)I"⟩ ⟨"TapeStudio$Match","best","(I)I"⟩ ∈ m_big := m_big_mem (i := 1382) (by decide +kernel) (by decide +kernel)
theorem lm_X10_254 : m_MV RX10 254 yX1_best cX1_best 2 (some .int) 1 := ⟨⟨Or.inl w_1380, w_134, w_1383, by decide +kernel, by decide⟩, w_1381, w_1382⟩
theorem w_400 : Cond.fieldLinkNest "TapeStudio" 257 "TapeStudio$Match" "fitting" "I" "TapeStudio" ∈ m_nest := m_nest_mem (i := 400) (by decide +kernel) (by decide +kernel)
theorem lf_X10_257 : m_FL RX10 257 1 7 := ⟨RX1, TX1, 13, rfl, rfl, by decide, by decide, uw_1, Or.inr ⟨_, w_400⟩⟩
theorem w_1392 : Cond.methodLink "TapeStudio" 260 ⟨"TapeStudio$Match","coveredBy","(II)Z"⟩ ∈ m_big := m_big_mem (i := 1392) (by decide +kernel) (by decide +kernel)
theorem w_1395 : Cond.code ⟨"TapeStudio$Match","coveredBy","(II)Z"⟩ prog_3_method_13_code 6 (Option.some .boolean) ∈ m_big := m_big_mem (i := 1395) (by decide +kernel) (by decide +kernel)
theorem w_1393 : Cond.instanceMethod ⟨"TapeStudio$Match","coveredBy","(II)Z"⟩ ∈ m_big := m_big_mem (i := 1393) (by decide +kernel) (by decide +kernel)
theorem w_1394 : Cond.selects "TapeStudio$Match" ⟨"TapeStudio$Match","coveredBy","(II)Z"⟩ ⟨"TapeStudio$Match","coveredBy","(II)Z"⟩ ∈ m_big := m_big_mem (i := 1394) (by decide +kernel) (by decide +kernel)
theorem lm_X10_260 : m_MV RX10 260 yX1_coveredBy cX1_coveredBy 6 (some .boolean) 2 := ⟨⟨Or.inl w_1392, w_134, w_1395, by decide +kernel, by decide⟩, w_1393, w_1394⟩
theorem w_1417 : Cond.methodLink "TapeStudio" 263 ⟨"TapeStudio$Match","stretches","()I"⟩ ∈ m_big := m_big_mem (i := 1417) (by decide +kernel) (by decide +kernel)
theorem lm_X10_263 : m_MV RX10 263 yX1_stretches cX1_stretches 1 (some .int) 0 := ⟨⟨Or.inl w_1417, w_134, w_1420, by decide +kernel, by decide⟩, w_1418, w_1419⟩
theorem w_1425 : Cond.methodLink "TapeStudio" 266 ⟨"TapeStudio$Match","stretchBegin","(II)I"⟩ ∈ m_big := m_big_mem (i := 1425) (by decide +kernel) (by decide +kernel)
theorem w_1428 : Cond.code ⟨"TapeStudio$Match","stretchBegin","(II)I"⟩ prog_3_method_16_code 5 (Option.some .int) ∈ m_big := m_big_mem (i := 1428) (by decide +kernel) (by decide +kernel)
theorem w_1426 : Cond.instanceMethod ⟨"TapeStudio$Match","stretchBegin","(II)I"⟩ ∈ m_big := m_big_mem (i := 1426) (by decide +kernel) (by decide +kernel)
theorem w_1427 : Cond.selects "TapeStudio$Match" ⟨"TapeStudio$Match","stretchBegin","(II)I"⟩ ⟨"TapeStudio$Match","stretchBegin","(II)I"⟩ ∈ m_big := m_big_mem (i := 1427) (by decide +kernel) (by decide +kernel)
theorem lm_X10_266 : m_MV RX10 266 yX1_stretchBegin cX1_stretchBegin 5 (some .int) 2 := ⟨⟨Or.inl w_1425, w_134, w_1428, by decide +kernel, by decide⟩, w_1426, w_1427⟩
theorem w_1438 : Cond.methodLink "TapeStudio" 269 ⟨"TapeStudio$Match","firstUnfound","(II)I"⟩ ∈ m_big := m_big_mem (i := 1438) (by decide +kernel) (by decide +kernel)
theorem w_1441 : Cond.code ⟨"TapeStudio$Match","firstUnfound","(II)I"⟩ prog_3_method_18_code 5 (Option.some .int) ∈ m_big := m_big_mem (i := 1441) (by decide +kernel) (by decide +kernel)
theorem w_1439 : Cond.instanceMethod ⟨"TapeStudio$Match","firstUnfound","(II)I"⟩ ∈ m_big := m_big_mem (i := 1439) (by decide +kernel) (by decide +kernel)
theorem w_1440 : Cond.selects "TapeStudio$Match" ⟨"TapeStudio$Match","firstUnfound","(II)I"⟩ ⟨"TapeStudio$Match","firstUnfound","(II)I"⟩ ∈ m_big := m_big_mem (i := 1440) (by decide +kernel) (by decide +kernel)
theorem lm_X10_269 : m_MV RX10 269 yX1_firstUnfound cX1_firstUnfound 5 (some .int) 2 := ⟨⟨Or.inl w_1438, w_134, w_1441, by decide +kernel, by decide⟩, w_1439, w_1440⟩
theorem w_166 : Cond.fieldLinkNest "TapeStudio" 272 "TapeStudio$Shelf" "count" "I" "TapeStudio" ∈ m_nest := m_nest_mem (i := 166) (by decide +kernel) (by decide +kernel)
theorem lf_X10_272 : m_FL RX10 272 7 1 := ⟨RX7, TX7, 12, rfl, rfl, by decide, by decide, uw_7, Or.inr ⟨_, w_166⟩⟩
theorem w_1446 : Cond.methodLink "TapeStudio" 275 ⟨"TapeStudio$Shelf","countThere","()I"⟩ ∈ m_big := m_big_mem (i := 1446) (by decide +kernel) (by decide +kernel)
theorem w_1449 : Cond.code ⟨"TapeStudio$Shelf","countThere","()I"⟩ prog_9_method_5_code 3 (Option.some .int) ∈ m_big := m_big_mem (i := 1449) (by decide +kernel) (by decide +kernel)
theorem w_1447 : Cond.instanceMethod ⟨"TapeStudio$Shelf","countThere","()I"⟩ ∈ m_big := m_big_mem (i := 1447) (by decide +kernel) (by decide +kernel)
theorem w_1448 : Cond.selects "TapeStudio$Shelf" ⟨"TapeStudio$Shelf","countThere","()I"⟩ ⟨"TapeStudio$Shelf","countThere","()I"⟩ ∈ m_big := m_big_mem (i := 1448) (by decide +kernel) (by decide +kernel)
theorem lm_X10_275 : m_MV RX10 275 yX7_countThere cX7_countThere 3 (some .int) 0 := ⟨⟨Or.inl w_1446, w_127, w_1449, by decide +kernel, by decide⟩, w_1447, w_1448⟩
theorem w_168 : Cond.fieldLinkNest "TapeStudio" 278 "TapeStudio$Shelf" "samples" "I" "TapeStudio" ∈ m_nest := m_nest_mem (i := 168) (by decide +kernel) (by decide +kernel)
