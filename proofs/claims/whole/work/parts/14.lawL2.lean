/-! the law: links, 2 -/
theorem w_786 : Cond.methodLink "TapeStudioLaw" 81 ⟨"TapeStudio","read","(II)Z"⟩ ∈ m_big := m_big_mem (i := 786) (by decide +kernel) (by decide +kernel)
theorem w_789 : Cond.code ⟨"TapeStudio","read","(II)Z"⟩ prog_1_method_18_code 3 (Option.some .boolean) ∈ m_big := m_big_mem (i := 789) (by decide +kernel) (by decide +kernel)
theorem w_787 : Cond.instanceMethod ⟨"TapeStudio","read","(II)Z"⟩ ∈ m_big := m_big_mem (i := 787) (by decide +kernel) (by decide +kernel)
theorem w_788 : Cond.selects "TapeStudio" ⟨"TapeStudio","read","(II)Z"⟩ ⟨"TapeStudio","read","(II)Z"⟩ ∈ m_big := m_big_mem (i := 788) (by decide +kernel) (by decide +kernel)
theorem lm_L_81 : m_MV RL 81 yX10_read cX10_read 3 (some .boolean) 2 := ⟨⟨Or.inl w_786, w_126, w_789, by decide +kernel, by decide⟩, w_787, w_788⟩
theorem w_1897 : Cond.methodLink "TapeStudioLaw" 84 ⟨"TapeStudioModel","read","(II)Z"⟩ ∈ m_big := m_big_mem (i := 1897) (by decide +kernel) (by decide +kernel)
theorem w_1900 : Cond.code ⟨"TapeStudioModel","read","(II)Z"⟩ prog_13_method_34_code 3 (Option.some .boolean) ∈ m_big := m_big_mem (i := 1900) (by decide +kernel) (by decide +kernel)
theorem w_1898 : Cond.instanceMethod ⟨"TapeStudioModel","read","(II)Z"⟩ ∈ m_big := m_big_mem (i := 1898) (by decide +kernel) (by decide +kernel)
theorem w_1899 : Cond.selects "TapeStudioModel" ⟨"TapeStudioModel","read","(II)Z"⟩ ⟨"TapeStudioModel","read","(II)Z"⟩ ∈ m_big := m_big_mem (i := 1899) (by decide +kernel) (by decide +kernel)
theorem lm_L_84 : m_MV RL 84 yX11_read cX11_read 3 (some .boolean) 2 := ⟨⟨Or.inl w_1897, w_135, w_1900, by decide +kernel, by decide⟩, w_1898, w_1899⟩
theorem w_797 : Cond.methodLink "TapeStudioLaw" 85 ⟨"TapeStudio","marked","(II)I"⟩ ∈ m_big := m_big_mem (i := 797) (by decide +kernel) (by decide +kernel)
theorem w_800 : Cond.code ⟨"TapeStudio","marked","(II)I"⟩ prog_1_method_19_code 3 (Option.some .int) ∈ m_big := m_big_mem (i := 800) (by decide +kernel) (by decide +kernel)
theorem w_798 : Cond.instanceMethod ⟨"TapeStudio","marked","(II)I"⟩ ∈ m_big := m_big_mem (i := 798) (by decide +kernel) (by decide +kernel)
theorem w_799 : Cond.selects "TapeStudio" ⟨"TapeStudio","marked","(II)I"⟩ ⟨"TapeStudio","marked","(II)I"⟩ ∈ m_big := m_big_mem (i := 799) (by decide +kernel) (by decide +kernel)
theorem lm_L_85 : m_MV RL 85 yX10_marked cX10_marked 3 (some .int) 2 := ⟨⟨Or.inl w_797, w_126, w_800, by decide +kernel, by decide⟩, w_798, w_799⟩
theorem w_1902 : Cond.methodLink "TapeStudioLaw" 88 ⟨"TapeStudioModel","marked","(II)I"⟩ ∈ m_big := m_big_mem (i := 1902) (by decide +kernel) (by decide +kernel)
theorem w_1905 : Cond.code ⟨"TapeStudioModel","marked","(II)I"⟩ prog_13_method_36_code 3 (Option.some .int) ∈ m_big := m_big_mem (i := 1905) (by decide +kernel) (by decide +kernel)
theorem w_1903 : Cond.instanceMethod ⟨"TapeStudioModel","marked","(II)I"⟩ ∈ m_big := m_big_mem (i := 1903) (by decide +kernel) (by decide +kernel)
theorem w_1904 : Cond.selects "TapeStudioModel" ⟨"TapeStudioModel","marked","(II)I"⟩ ⟨"TapeStudioModel","marked","(II)I"⟩ ∈ m_big := m_big_mem (i := 1904) (by decide +kernel) (by decide +kernel)
theorem lm_L_88 : m_MV RL 88 yX11_marked cX11_marked 3 (some .int) 2 := ⟨⟨Or.inl w_1902, w_135, w_1905, by decide +kernel, by decide⟩, w_1903, w_1904⟩
theorem w_808 : Cond.methodLink "TapeStudioLaw" 89 ⟨"TapeStudio","go","(I)I"⟩ ∈ m_big := m_big_mem (i := 808) (by decide +kernel) (by decide +kernel)
theorem w_811 : Cond.code ⟨"TapeStudio","go","(I)I"⟩ prog_1_method_20_code 2 (Option.some .int) ∈ m_big := m_big_mem (i := 811) (by decide +kernel) (by decide +kernel)
theorem w_809 : Cond.instanceMethod ⟨"TapeStudio","go","(I)I"⟩ ∈ m_big := m_big_mem (i := 809) (by decide +kernel) (by decide +kernel)
theorem w_810 : Cond.selects "TapeStudio" ⟨"TapeStudio","go","(I)I"⟩ ⟨"TapeStudio","go","(I)I"⟩ ∈ m_big := m_big_mem (i := 810) (by decide +kernel) (by decide +kernel)
theorem lm_L_89 : m_MV RL 89 yX10_go cX10_go 2 (some .int) 1 := ⟨⟨Or.inl w_808, w_126, w_811, by decide +kernel, by decide⟩, w_809, w_810⟩
theorem w_1911 : Cond.methodLink "TapeStudioLaw" 92 ⟨"TapeStudioModel","go","(I)I"⟩ ∈ m_big := m_big_mem (i := 1911) (by decide +kernel) (by decide +kernel)
theorem w_1914 : Cond.code ⟨"TapeStudioModel","go","(I)I"⟩ prog_13_method_37_code 2 (Option.some .int) ∈ m_big := m_big_mem (i := 1914) (by decide +kernel) (by decide +kernel)
theorem w_1912 : Cond.instanceMethod ⟨"TapeStudioModel","go","(I)I"⟩ ∈ m_big := m_big_mem (i := 1912) (by decide +kernel) (by decide +kernel)
theorem w_1913 : Cond.selects "TapeStudioModel" ⟨"TapeStudioModel","go","(I)I"⟩ ⟨"TapeStudioModel","go","(I)I"⟩ ∈ m_big := m_big_mem (i := 1913) (by decide +kernel) (by decide +kernel)
theorem lm_L_92 : m_MV RL 92 yX11_go cX11_go 2 (some .int) 1 := ⟨⟨Or.inl w_1911, w_135, w_1914, by decide +kernel, by decide⟩, w_1912, w_1913⟩
theorem w_812 : Cond.methodLink "TapeStudioLaw" 93 ⟨"TapeStudio","sample","(II)I"⟩ ∈ m_big := m_big_mem (i := 812) (by decide +kernel) (by decide +kernel)
theorem w_815 : Cond.code ⟨"TapeStudio","sample","(II)I"⟩ prog_1_method_21_code 4 (Option.some .int) ∈ m_big := m_big_mem (i := 815) (by decide +kernel) (by decide +kernel)
theorem w_813 : Cond.instanceMethod ⟨"TapeStudio","sample","(II)I"⟩ ∈ m_big := m_big_mem (i := 813) (by decide +kernel) (by decide +kernel)
theorem w_814 : Cond.selects "TapeStudio" ⟨"TapeStudio","sample","(II)I"⟩ ⟨"TapeStudio","sample","(II)I"⟩ ∈ m_big := m_big_mem (i := 814) (by decide +kernel) (by decide +kernel)
theorem lm_L_93 : m_MV RL 93 yX10_sample cX10_sample 4 (some .int) 2 := ⟨⟨Or.inl w_812, w_126, w_815, by decide +kernel, by decide⟩, w_813, w_814⟩
theorem w_1915 : Cond.methodLink "TapeStudioLaw" 96 ⟨"TapeStudioModel","sample","(II)I"⟩ ∈ m_big := m_big_mem (i := 1915) (by decide +kernel) (by decide +kernel)
theorem w_1918 : Cond.code ⟨"TapeStudioModel","sample","(II)I"⟩ prog_13_method_38_code 3 (Option.some .int) ∈ m_big := m_big_mem (i := 1918) (by decide +kernel) (by decide +kernel)
theorem w_1916 : Cond.instanceMethod ⟨"TapeStudioModel","sample","(II)I"⟩ ∈ m_big := m_big_mem (i := 1916) (by decide +kernel) (by decide +kernel)
theorem w_1917 : Cond.selects "TapeStudioModel" ⟨"TapeStudioModel","sample","(II)I"⟩ ⟨"TapeStudioModel","sample","(II)I"⟩ ∈ m_big := m_big_mem (i := 1917) (by decide +kernel) (by decide +kernel)
theorem lm_L_96 : m_MV RL 96 yX11_sample cX11_sample 3 (some .int) 2 := ⟨⟨Or.inl w_1915, w_135, w_1918, by decide +kernel, by decide⟩, w_1916, w_1917⟩
theorem w_820 : Cond.methodLink "TapeStudioLaw" 97 ⟨"TapeStudio","told","(II)I"⟩ ∈ m_big := m_big_mem (i := 820) (by decide +kernel) (by decide +kernel)
theorem w_823 : Cond.code ⟨"TapeStudio","told","(II)I"⟩ prog_1_method_22_code 4 (Option.some .int) ∈ m_big := m_big_mem (i := 823) (by decide +kernel) (by decide +kernel)
theorem w_821 : Cond.instanceMethod ⟨"TapeStudio","told","(II)I"⟩ ∈ m_big := m_big_mem (i := 821) (by decide +kernel) (by decide +kernel)
theorem w_822 : Cond.selects "TapeStudio" ⟨"TapeStudio","told","(II)I"⟩ ⟨"TapeStudio","told","(II)I"⟩ ∈ m_big := m_big_mem (i := 822) (by decide +kernel) (by decide +kernel)
theorem lm_L_97 : m_MV RL 97 yX10_told cX10_told 4 (some .int) 2 := ⟨⟨Or.inl w_820, w_126, w_823, by decide +kernel, by decide⟩, w_821, w_822⟩
theorem w_1920 : Cond.methodLink "TapeStudioLaw" 100 ⟨"TapeStudioModel","told","(II)I"⟩ ∈ m_big := m_big_mem (i := 1920) (by decide +kernel) (by decide +kernel)
theorem w_1923 : Cond.code ⟨"TapeStudioModel","told","(II)I"⟩ prog_13_method_39_code 3 (Option.some .int) ∈ m_big := m_big_mem (i := 1923) (by decide +kernel) (by decide +kernel)
theorem w_1921 : Cond.instanceMethod ⟨"TapeStudioModel","told","(II)I"⟩ ∈ m_big := m_big_mem (i := 1921) (by decide +kernel) (by decide +kernel)
theorem w_1922 : Cond.selects "TapeStudioModel" ⟨"TapeStudioModel","told","(II)I"⟩ ⟨"TapeStudioModel","told","(II)I"⟩ ∈ m_big := m_big_mem (i := 1922) (by decide +kernel) (by decide +kernel)
theorem lm_L_100 : m_MV RL 100 yX11_told cX11_told 3 (some .int) 2 := ⟨⟨Or.inl w_1920, w_135, w_1923, by decide +kernel, by decide⟩, w_1921, w_1922⟩
theorem w_829 : Cond.methodLink "TapeStudioLaw" 101 ⟨"TapeStudio","feed","(IIIII)I"⟩ ∈ m_big := m_big_mem (i := 829) (by decide +kernel) (by decide +kernel)
theorem w_832 : Cond.code ⟨"TapeStudio","feed","(IIIII)I"⟩ prog_1_method_23_code 6 (Option.some .int) ∈ m_big := m_big_mem (i := 832) (by decide +kernel) (by decide +kernel)
theorem w_830 : Cond.instanceMethod ⟨"TapeStudio","feed","(IIIII)I"⟩ ∈ m_big := m_big_mem (i := 830) (by decide +kernel) (by decide +kernel)
theorem w_831 : Cond.selects "TapeStudio" ⟨"TapeStudio","feed","(IIIII)I"⟩ ⟨"TapeStudio","feed","(IIIII)I"⟩ ∈ m_big := m_big_mem (i := 831) (by decide +kernel) (by decide +kernel)
theorem lm_L_101 : m_MV RL 101 yX10_feed cX10_feed 6 (some .int) 5 := ⟨⟨Or.inl w_829, w_126, w_832, by decide +kernel, by decide⟩, w_830, w_831⟩
theorem w_1924 : Cond.methodLink "TapeStudioLaw" 104 ⟨"TapeStudioModel","feed","(IIIII)I"⟩ ∈ m_big := m_big_mem (i := 1924) (by decide +kernel) (by decide +kernel)
theorem w_1927 : Cond.code ⟨"TapeStudioModel","feed","(IIIII)I"⟩ prog_13_method_41_code 6 (Option.some .int) ∈ m_big := m_big_mem (i := 1927) (by decide +kernel) (by decide +kernel)
theorem w_1925 : Cond.instanceMethod ⟨"TapeStudioModel","feed","(IIIII)I"⟩ ∈ m_big := m_big_mem (i := 1925) (by decide +kernel) (by decide +kernel)
theorem w_1926 : Cond.selects "TapeStudioModel" ⟨"TapeStudioModel","feed","(IIIII)I"⟩ ⟨"TapeStudioModel","feed","(IIIII)I"⟩ ∈ m_big := m_big_mem (i := 1926) (by decide +kernel) (by decide +kernel)
theorem lm_L_104 : m_MV RL 104 yX11_feed cX11_feed 6 (some .int) 5 := ⟨⟨Or.inl w_1924, w_135, w_1927, by decide +kernel, by decide⟩, w_1925, w_1926⟩
theorem w_841 : Cond.methodLink "TapeStudioLaw" 105 ⟨"TapeStudio","end","(I)Z"⟩ ∈ m_big := m_big_mem (i := 841) (by decide +kernel) (by decide +kernel)
theorem w_844 : Cond.code ⟨"TapeStudio","end","(I)Z"⟩ prog_1_method_24_code 2 (Option.some .boolean) ∈ m_big := m_big_mem (i := 844) (by decide +kernel) (by decide +kernel)
theorem w_842 : Cond.instanceMethod ⟨"TapeStudio","end","(I)Z"⟩ ∈ m_big := m_big_mem (i := 842) (by decide +kernel) (by decide +kernel)
theorem w_843 : Cond.selects "TapeStudio" ⟨"TapeStudio","end","(I)Z"⟩ ⟨"TapeStudio","end","(I)Z"⟩ ∈ m_big := m_big_mem (i := 843) (by decide +kernel) (by decide +kernel)
theorem lm_L_105 : m_MV RL 105 yX10_end cX10_end 2 (some .boolean) 1 := ⟨⟨Or.inl w_841, w_126, w_844, by decide +kernel, by decide⟩, w_842, w_843⟩
theorem w_1932 : Cond.methodLink "TapeStudioLaw" 108 ⟨"TapeStudioModel","end","(I)Z"⟩ ∈ m_big := m_big_mem (i := 1932) (by decide +kernel) (by decide +kernel)
theorem w_1935 : Cond.code ⟨"TapeStudioModel","end","(I)Z"⟩ prog_13_method_42_code 2 (Option.some .boolean) ∈ m_big := m_big_mem (i := 1935) (by decide +kernel) (by decide +kernel)
theorem w_1933 : Cond.instanceMethod ⟨"TapeStudioModel","end","(I)Z"⟩ ∈ m_big := m_big_mem (i := 1933) (by decide +kernel) (by decide +kernel)
theorem w_1934 : Cond.selects "TapeStudioModel" ⟨"TapeStudioModel","end","(I)Z"⟩ ⟨"TapeStudioModel","end","(I)Z"⟩ ∈ m_big := m_big_mem (i := 1934) (by decide +kernel) (by decide +kernel)
theorem lm_L_108 : m_MV RL 108 yX11_end cX11_end 2 (some .boolean) 1 := ⟨⟨Or.inl w_1932, w_135, w_1935, by decide +kernel, by decide⟩, w_1933, w_1934⟩
theorem w_845 : Cond.methodLink "TapeStudioLaw" 109 ⟨"TapeStudio","fault","()I"⟩ ∈ m_big := m_big_mem (i := 845) (by decide +kernel) (by decide +kernel)
theorem w_848 : Cond.code ⟨"TapeStudio","fault","()I"⟩ prog_1_method_25_code 1 (Option.some .int) ∈ m_big := m_big_mem (i := 848) (by decide +kernel) (by decide +kernel)
theorem w_846 : Cond.instanceMethod ⟨"TapeStudio","fault","()I"⟩ ∈ m_big := m_big_mem (i := 846) (by decide +kernel) (by decide +kernel)
theorem w_847 : Cond.selects "TapeStudio" ⟨"TapeStudio","fault","()I"⟩ ⟨"TapeStudio","fault","()I"⟩ ∈ m_big := m_big_mem (i := 847) (by decide +kernel) (by decide +kernel)
theorem lm_L_109 : m_MV RL 109 yX10_fault cX10_fault 1 (some .int) 0 := ⟨⟨Or.inl w_845, w_126, w_848, by decide +kernel, by decide⟩, w_846, w_847⟩
theorem w_1936 : Cond.methodLink "TapeStudioLaw" 112 ⟨"TapeStudioModel","fault","()I"⟩ ∈ m_big := m_big_mem (i := 1936) (by decide +kernel) (by decide +kernel)
theorem w_1939 : Cond.code ⟨"TapeStudioModel","fault","()I"⟩ prog_13_method_62_code 1 (Option.some .int) ∈ m_big := m_big_mem (i := 1939) (by decide +kernel) (by decide +kernel)
theorem w_1937 : Cond.instanceMethod ⟨"TapeStudioModel","fault","()I"⟩ ∈ m_big := m_big_mem (i := 1937) (by decide +kernel) (by decide +kernel)
theorem w_1938 : Cond.selects "TapeStudioModel" ⟨"TapeStudioModel","fault","()I"⟩ ⟨"TapeStudioModel","fault","()I"⟩ ∈ m_big := m_big_mem (i := 1938) (by decide +kernel) (by decide +kernel)
theorem lm_L_112 : m_MV RL 112 yX11_fault cX11_fault 1 (some .int) 0 := ⟨⟨Or.inl w_1936, w_135, w_1939, by decide +kernel, by decide⟩, w_1937, w_1938⟩
theorem w_996 : Cond.methodLink "TapeStudioLaw" 113 ⟨"TapeStudio","score","()I"⟩ ∈ m_big := m_big_mem (i := 996) (by decide +kernel) (by decide +kernel)
theorem w_999 : Cond.code ⟨"TapeStudio","score","()I"⟩ prog_1_method_26_code 1 (Option.some .int) ∈ m_big := m_big_mem (i := 999) (by decide +kernel) (by decide +kernel)
theorem w_997 : Cond.instanceMethod ⟨"TapeStudio","score","()I"⟩ ∈ m_big := m_big_mem (i := 997) (by decide +kernel) (by decide +kernel)
theorem w_998 : Cond.selects "TapeStudio" ⟨"TapeStudio","score","()I"⟩ ⟨"TapeStudio","score","()I"⟩ ∈ m_big := m_big_mem (i := 998) (by decide +kernel) (by decide +kernel)
theorem lm_L_113 : m_MV RL 113 yX10_score cX10_score 1 (some .int) 0 := ⟨⟨Or.inl w_996, w_126, w_999, by decide +kernel, by decide⟩, w_997, w_998⟩
theorem w_2019 : Cond.methodLink "TapeStudioLaw" 116 ⟨"TapeStudioModel","score","()I"⟩ ∈ m_big := m_big_mem (i := 2019) (by decide +kernel) (by decide +kernel)
theorem w_2022 : Cond.code ⟨"TapeStudioModel","score","()I"⟩ prog_13_method_63_code 2 (Option.some .int) ∈ m_big := m_big_mem (i := 2022) (by decide +kernel) (by decide +kernel)
theorem w_2020 : Cond.instanceMethod ⟨"TapeStudioModel","score","()I"⟩ ∈ m_big := m_big_mem (i := 2020) (by decide +kernel) (by decide +kernel)
theorem w_2021 : Cond.selects "TapeStudioModel" ⟨"TapeStudioModel","score","()I"⟩ ⟨"TapeStudioModel","score","()I"⟩ ∈ m_big := m_big_mem (i := 2021) (by decide +kernel) (by decide +kernel)
theorem lm_L_116 : m_MV RL 116 yX11_score cX11_score 2 (some .int) 0 := ⟨⟨Or.inl w_2019, w_135, w_2022, by decide +kernel, by decide⟩, w_2020, w_2021⟩
theorem w_1016 : Cond.methodLink "TapeStudioLaw" 117 ⟨"TapeStudio","make","(II)I"⟩ ∈ m_big := m_big_mem (i := 1016) (by decide +kernel) (by decide +kernel)
theorem w_1019 : Cond.code ⟨"TapeStudio","make","(II)I"⟩ prog_1_method_27_code 4 (Option.some .int) ∈ m_big := m_big_mem (i := 1019) (by decide +kernel) (by decide +kernel)
theorem w_1017 : Cond.instanceMethod ⟨"TapeStudio","make","(II)I"⟩ ∈ m_big := m_big_mem (i := 1017) (by decide +kernel) (by decide +kernel)
theorem w_1018 : Cond.selects "TapeStudio" ⟨"TapeStudio","make","(II)I"⟩ ⟨"TapeStudio","make","(II)I"⟩ ∈ m_big := m_big_mem (i := 1018) (by decide +kernel) (by decide +kernel)
theorem lm_L_117 : m_MV RL 117 yX10_make cX10_make 4 (some .int) 2 := ⟨⟨Or.inl w_1016, w_126, w_1019, by decide +kernel, by decide⟩, w_1017, w_1018⟩
theorem w_2023 : Cond.methodLink "TapeStudioLaw" 120 ⟨"TapeStudioModel","make","(II)I"⟩ ∈ m_big := m_big_mem (i := 2023) (by decide +kernel) (by decide +kernel)
theorem w_2026 : Cond.code ⟨"TapeStudioModel","make","(II)I"⟩ prog_13_method_79_code 4 (Option.some .int) ∈ m_big := m_big_mem (i := 2026) (by decide +kernel) (by decide +kernel)
theorem w_2024 : Cond.instanceMethod ⟨"TapeStudioModel","make","(II)I"⟩ ∈ m_big := m_big_mem (i := 2024) (by decide +kernel) (by decide +kernel)
theorem w_2025 : Cond.selects "TapeStudioModel" ⟨"TapeStudioModel","make","(II)I"⟩ ⟨"TapeStudioModel","make","(II)I"⟩ ∈ m_big := m_big_mem (i := 2025) (by decide +kernel) (by decide +kernel)
theorem lm_L_120 : m_MV RL 120 yX11_make cX11_make 4 (some .int) 2 := ⟨⟨Or.inl w_2023, w_135, w_2026, by decide +kernel, by decide⟩, w_2024, w_2025⟩
theorem w_1182 : Cond.methodLink "TapeStudioLaw" 121 ⟨"TapeStudio","fails","(II)I"⟩ ∈ m_big := m_big_mem (i := 1182) (by decide +kernel) (by decide +kernel)
theorem w_1185 : Cond.code ⟨"TapeStudio","fails","(II)I"⟩ prog_1_method_28_code 4 (Option.some .int) ∈ m_big := m_big_mem (i := 1185) (by decide +kernel) (by decide +kernel)
theorem w_1183 : Cond.instanceMethod ⟨"TapeStudio","fails","(II)I"⟩ ∈ m_big := m_big_mem (i := 1183) (by decide +kernel) (by decide +kernel)
theorem w_1184 : Cond.selects "TapeStudio" ⟨"TapeStudio","fails","(II)I"⟩ ⟨"TapeStudio","fails","(II)I"⟩ ∈ m_big := m_big_mem (i := 1184) (by decide +kernel) (by decide +kernel)
theorem lm_L_121 : m_MV RL 121 yX10_fails cX10_fails 4 (some .int) 2 := ⟨⟨Or.inl w_1182, w_126, w_1185, by decide +kernel, by decide⟩, w_1183, w_1184⟩
theorem w_2089 : Cond.methodLink "TapeStudioLaw" 124 ⟨"TapeStudioModel","fails","(II)I"⟩ ∈ m_big := m_big_mem (i := 2089) (by decide +kernel) (by decide +kernel)
theorem w_2092 : Cond.code ⟨"TapeStudioModel","fails","(II)I"⟩ prog_13_method_80_code 3 (Option.some .int) ∈ m_big := m_big_mem (i := 2092) (by decide +kernel) (by decide +kernel)
theorem w_2090 : Cond.instanceMethod ⟨"TapeStudioModel","fails","(II)I"⟩ ∈ m_big := m_big_mem (i := 2090) (by decide +kernel) (by decide +kernel)
theorem w_2091 : Cond.selects "TapeStudioModel" ⟨"TapeStudioModel","fails","(II)I"⟩ ⟨"TapeStudioModel","fails","(II)I"⟩ ∈ m_big := m_big_mem (i := 2091) (by decide +kernel) (by decide +kernel)
theorem lm_L_124 : m_MV RL 124 yX11_fails_ cX11_fails_ 3 (some .int) 2 := ⟨⟨Or.inl w_2089, w_135, w_2092, by decide +kernel, by decide⟩, w_2090, w_2091⟩
theorem w_1186 : Cond.methodLink "TapeStudioLaw" 125 ⟨"TapeStudio","out","(I)I"⟩ ∈ m_big := m_big_mem (i := 1186) (by decide +kernel) (by decide +kernel)
theorem w_1189 : Cond.code ⟨"TapeStudio","out","(I)I"⟩ prog_1_method_29_code 2 (Option.some .int) ∈ m_big := m_big_mem (i := 1189) (by decide +kernel) (by decide +kernel)
theorem w_1187 : Cond.instanceMethod ⟨"TapeStudio","out","(I)I"⟩ ∈ m_big := m_big_mem (i := 1187) (by decide +kernel) (by decide +kernel)
theorem w_1188 : Cond.selects "TapeStudio" ⟨"TapeStudio","out","(I)I"⟩ ⟨"TapeStudio","out","(I)I"⟩ ∈ m_big := m_big_mem (i := 1188) (by decide +kernel) (by decide +kernel)
theorem lm_L_125 : m_MV RL 125 yX10_out cX10_out 2 (some .int) 1 := ⟨⟨Or.inl w_1186, w_126, w_1189, by decide +kernel, by decide⟩, w_1187, w_1188⟩
theorem w_2093 : Cond.methodLink "TapeStudioLaw" 128 ⟨"TapeStudioModel","out","(I)I"⟩ ∈ m_big := m_big_mem (i := 2093) (by decide +kernel) (by decide +kernel)
theorem w_2096 : Cond.code ⟨"TapeStudioModel","out","(I)I"⟩ prog_13_method_81_code 2 (Option.some .int) ∈ m_big := m_big_mem (i := 2096) (by decide +kernel) (by decide +kernel)
theorem w_2094 : Cond.instanceMethod ⟨"TapeStudioModel","out","(I)I"⟩ ∈ m_big := m_big_mem (i := 2094) (by decide +kernel) (by decide +kernel)
theorem w_2095 : Cond.selects "TapeStudioModel" ⟨"TapeStudioModel","out","(I)I"⟩ ⟨"TapeStudioModel","out","(I)I"⟩ ∈ m_big := m_big_mem (i := 2095) (by decide +kernel) (by decide +kernel)
theorem lm_L_128 : m_MV RL 128 yX11_out cX11_out 2 (some .int) 1 := ⟨⟨Or.inl w_2093, w_135, w_2096, by decide +kernel, by decide⟩, w_2094, w_2095⟩
theorem w_1190 : Cond.methodLink "TapeStudioLaw" 129 ⟨"TapeStudio","why","(II)I"⟩ ∈ m_big := m_big_mem (i := 1190) (by decide +kernel) (by decide +kernel)
theorem w_1193 : Cond.code ⟨"TapeStudio","why","(II)I"⟩ prog_1_method_30_code 3 (Option.some .int) ∈ m_big := m_big_mem (i := 1193) (by decide +kernel) (by decide +kernel)
theorem w_1191 : Cond.instanceMethod ⟨"TapeStudio","why","(II)I"⟩ ∈ m_big := m_big_mem (i := 1191) (by decide +kernel) (by decide +kernel)
theorem w_1192 : Cond.selects "TapeStudio" ⟨"TapeStudio","why","(II)I"⟩ ⟨"TapeStudio","why","(II)I"⟩ ∈ m_big := m_big_mem (i := 1192) (by decide +kernel) (by decide +kernel)
theorem lm_L_129 : m_MV RL 129 yX10_why cX10_why 3 (some .int) 2 := ⟨⟨Or.inl w_1190, w_126, w_1193, by decide +kernel, by decide⟩, w_1191, w_1192⟩
theorem w_2097 : Cond.methodLink "TapeStudioLaw" 132 ⟨"TapeStudioModel","why","(II)I"⟩ ∈ m_big := m_big_mem (i := 2097) (by decide +kernel) (by decide +kernel)
theorem w_2100 : Cond.code ⟨"TapeStudioModel","why","(II)I"⟩ prog_13_method_83_code 5 (Option.some .int) ∈ m_big := m_big_mem (i := 2100) (by decide +kernel) (by decide +kernel)
theorem w_2098 : Cond.instanceMethod ⟨"TapeStudioModel","why","(II)I"⟩ ∈ m_big := m_big_mem (i := 2098) (by decide +kernel) (by decide +kernel)
theorem w_2099 : Cond.selects "TapeStudioModel" ⟨"TapeStudioModel","why","(II)I"⟩ ⟨"TapeStudioModel","why","(II)I"⟩ ∈ m_big := m_big_mem (i := 2099) (by decide +kernel) (by decide +kernel)
theorem lm_L_132 : m_MV RL 132 yX11_why cX11_why 5 (some .int) 2 := ⟨⟨Or.inl w_2097, w_135, w_2100, by decide +kernel, by decide⟩, w_2098, w_2099⟩
theorem w_1210 : Cond.methodLink "TapeStudioLaw" 133 ⟨"TapeStudio","lead","(III)I"⟩ ∈ m_big := m_big_mem (i := 1210) (by decide +kernel) (by decide +kernel)
theorem w_1213 : Cond.code ⟨"TapeStudio","lead","(III)I"⟩ prog_1_method_31_code 4 (Option.some .int) ∈ m_big := m_big_mem (i := 1213) (by decide +kernel) (by decide +kernel)
theorem w_1211 : Cond.instanceMethod ⟨"TapeStudio","lead","(III)I"⟩ ∈ m_big := m_big_mem (i := 1211) (by decide +kernel) (by decide +kernel)
theorem w_1212 : Cond.selects "TapeStudio" ⟨"TapeStudio","lead","(III)I"⟩ ⟨"TapeStudio","lead","(III)I"⟩ ∈ m_big := m_big_mem (i := 1212) (by decide +kernel) (by decide +kernel)
theorem lm_L_133 : m_MV RL 133 yX10_lead cX10_lead 4 (some .int) 3 := ⟨⟨Or.inl w_1210, w_126, w_1213, by decide +kernel, by decide⟩, w_1211, w_1212⟩
theorem w_2105 : Cond.methodLink "TapeStudioLaw" 136 ⟨"TapeStudioModel","lead","(III)I"⟩ ∈ m_big := m_big_mem (i := 2105) (by decide +kernel) (by decide +kernel)
theorem w_2108 : Cond.code ⟨"TapeStudioModel","lead","(III)I"⟩ prog_13_method_85_code 5 (Option.some .int) ∈ m_big := m_big_mem (i := 2108) (by decide +kernel) (by decide +kernel)
theorem w_2106 : Cond.instanceMethod ⟨"TapeStudioModel","lead","(III)I"⟩ ∈ m_big := m_big_mem (i := 2106) (by decide +kernel) (by decide +kernel)
theorem w_2107 : Cond.selects "TapeStudioModel" ⟨"TapeStudioModel","lead","(III)I"⟩ ⟨"TapeStudioModel","lead","(III)I"⟩ ∈ m_big := m_big_mem (i := 2107) (by decide +kernel) (by decide +kernel)
theorem lm_L_136 : m_MV RL 136 yX11_lead cX11_lead 5 (some .int) 3 := ⟨⟨Or.inl w_2105, w_135, w_2108, by decide +kernel, by decide⟩, w_2106, w_2107⟩
theorem w_1241 : Cond.methodLink "TapeStudioLaw" 137 ⟨"TapeStudio","quarrel","(I)I"⟩ ∈ m_big := m_big_mem (i := 1241) (by decide +kernel) (by decide +kernel)
theorem w_1244 : Cond.code ⟨"TapeStudio","quarrel","(I)I"⟩ prog_1_method_32_code 2 (Option.some .int) ∈ m_big := m_big_mem (i := 1244) (by decide +kernel) (by decide +kernel)
theorem w_1242 : Cond.instanceMethod ⟨"TapeStudio","quarrel","(I)I"⟩ ∈ m_big := m_big_mem (i := 1242) (by decide +kernel) (by decide +kernel)
theorem w_1243 : Cond.selects "TapeStudio" ⟨"TapeStudio","quarrel","(I)I"⟩ ⟨"TapeStudio","quarrel","(I)I"⟩ ∈ m_big := m_big_mem (i := 1243) (by decide +kernel) (by decide +kernel)
theorem lm_L_137 : m_MV RL 137 yX10_quarrel cX10_quarrel 2 (some .int) 1 := ⟨⟨Or.inl w_1241, w_126, w_1244, by decide +kernel, by decide⟩, w_1242, w_1243⟩
theorem w_2115 : Cond.methodLink "TapeStudioLaw" 140 ⟨"TapeStudioModel","quarrel","(I)I"⟩ ∈ m_big := m_big_mem (i := 2115) (by decide +kernel) (by decide +kernel)
theorem w_2118 : Cond.code ⟨"TapeStudioModel","quarrel","(I)I"⟩ prog_13_method_87_code 5 (Option.some .int) ∈ m_big := m_big_mem (i := 2118) (by decide +kernel) (by decide +kernel)
theorem w_2116 : Cond.instanceMethod ⟨"TapeStudioModel","quarrel","(I)I"⟩ ∈ m_big := m_big_mem (i := 2116) (by decide +kernel) (by decide +kernel)
theorem w_2117 : Cond.selects "TapeStudioModel" ⟨"TapeStudioModel","quarrel","(I)I"⟩ ⟨"TapeStudioModel","quarrel","(I)I"⟩ ∈ m_big := m_big_mem (i := 2117) (by decide +kernel) (by decide +kernel)
theorem lm_L_140 : m_MV RL 140 yX11_quarrel cX11_quarrel 5 (some .int) 1 := ⟨⟨Or.inl w_2115, w_135, w_2118, by decide +kernel, by decide⟩, w_2116, w_2117⟩
