/-! the law: links, 1 -/
theorem w_464 : Cond.methodLink "TapeStudioLaw" 13 ⟨"TapeStudio","hand","(IIIII)I"⟩ ∈ m_big := m_big_mem (i := 464) (by decide +kernel) (by decide +kernel)
theorem w_467 : Cond.code ⟨"TapeStudio","hand","(IIIII)I"⟩ prog_1_method_2_code 6 (Option.some .int) ∈ m_big := m_big_mem (i := 467) (by decide +kernel) (by decide +kernel)
theorem w_465 : Cond.instanceMethod ⟨"TapeStudio","hand","(IIIII)I"⟩ ∈ m_big := m_big_mem (i := 465) (by decide +kernel) (by decide +kernel)
theorem w_466 : Cond.selects "TapeStudio" ⟨"TapeStudio","hand","(IIIII)I"⟩ ⟨"TapeStudio","hand","(IIIII)I"⟩ ∈ m_big := m_big_mem (i := 466) (by decide +kernel) (by decide +kernel)
theorem lm_L_13 : m_MV RL 13 yX10_hand cX10_hand 6 (some .int) 5 := ⟨⟨Or.inl w_464, w_126, w_467, by decide +kernel, by decide⟩, w_465, w_466⟩
theorem w_1763 : Cond.methodLink "TapeStudioLaw" 17 ⟨"TapeStudioModel","hand","(IIIII)I"⟩ ∈ m_big := m_big_mem (i := 1763) (by decide +kernel) (by decide +kernel)
theorem w_1766 : Cond.code ⟨"TapeStudioModel","hand","(IIIII)I"⟩ prog_13_method_7_code 6 (Option.some .int) ∈ m_big := m_big_mem (i := 1766) (by decide +kernel) (by decide +kernel)
theorem w_1764 : Cond.instanceMethod ⟨"TapeStudioModel","hand","(IIIII)I"⟩ ∈ m_big := m_big_mem (i := 1764) (by decide +kernel) (by decide +kernel)
theorem w_1765 : Cond.selects "TapeStudioModel" ⟨"TapeStudioModel","hand","(IIIII)I"⟩ ⟨"TapeStudioModel","hand","(IIIII)I"⟩ ∈ m_big := m_big_mem (i := 1765) (by decide +kernel) (by decide +kernel)
theorem lm_L_17 : m_MV RL 17 yX11_hand cX11_hand 6 (some .int) 5 := ⟨⟨Or.inl w_1763, w_135, w_1766, by decide +kernel, by decide⟩, w_1764, w_1765⟩
theorem w_501 : Cond.methodLink "TapeStudioLaw" 18 ⟨"TapeStudio","drop","()I"⟩ ∈ m_big := m_big_mem (i := 501) (by decide +kernel) (by decide +kernel)
theorem w_504 : Cond.code ⟨"TapeStudio","drop","()I"⟩ prog_1_method_4_code 1 (Option.some .int) ∈ m_big := m_big_mem (i := 504) (by decide +kernel) (by decide +kernel)
theorem w_502 : Cond.instanceMethod ⟨"TapeStudio","drop","()I"⟩ ∈ m_big := m_big_mem (i := 502) (by decide +kernel) (by decide +kernel)
theorem w_503 : Cond.selects "TapeStudio" ⟨"TapeStudio","drop","()I"⟩ ⟨"TapeStudio","drop","()I"⟩ ∈ m_big := m_big_mem (i := 503) (by decide +kernel) (by decide +kernel)
theorem lm_L_18 : m_MV RL 18 yX10_drop cX10_drop 1 (some .int) 0 := ⟨⟨Or.inl w_501, w_126, w_504, by decide +kernel, by decide⟩, w_502, w_503⟩
theorem w_1771 : Cond.methodLink "TapeStudioLaw" 22 ⟨"TapeStudioModel","drop","()I"⟩ ∈ m_big := m_big_mem (i := 1771) (by decide +kernel) (by decide +kernel)
theorem w_1774 : Cond.code ⟨"TapeStudioModel","drop","()I"⟩ prog_13_method_8_code 2 (Option.some .int) ∈ m_big := m_big_mem (i := 1774) (by decide +kernel) (by decide +kernel)
theorem w_1772 : Cond.instanceMethod ⟨"TapeStudioModel","drop","()I"⟩ ∈ m_big := m_big_mem (i := 1772) (by decide +kernel) (by decide +kernel)
theorem w_1773 : Cond.selects "TapeStudioModel" ⟨"TapeStudioModel","drop","()I"⟩ ⟨"TapeStudioModel","drop","()I"⟩ ∈ m_big := m_big_mem (i := 1773) (by decide +kernel) (by decide +kernel)
theorem lm_L_22 : m_MV RL 22 yX11_drop cX11_drop 2 (some .int) 0 := ⟨⟨Or.inl w_1771, w_135, w_1774, by decide +kernel, by decide⟩, w_1772, w_1773⟩
theorem w_509 : Cond.methodLink "TapeStudioLaw" 23 ⟨"TapeStudio","strip","(I)I"⟩ ∈ m_big := m_big_mem (i := 509) (by decide +kernel) (by decide +kernel)
theorem w_512 : Cond.code ⟨"TapeStudio","strip","(I)I"⟩ prog_1_method_5_code 3 (Option.some .int) ∈ m_big := m_big_mem (i := 512) (by decide +kernel) (by decide +kernel)
theorem w_510 : Cond.instanceMethod ⟨"TapeStudio","strip","(I)I"⟩ ∈ m_big := m_big_mem (i := 510) (by decide +kernel) (by decide +kernel)
theorem w_511 : Cond.selects "TapeStudio" ⟨"TapeStudio","strip","(I)I"⟩ ⟨"TapeStudio","strip","(I)I"⟩ ∈ m_big := m_big_mem (i := 511) (by decide +kernel) (by decide +kernel)
theorem lm_L_23 : m_MV RL 23 yX10_strip cX10_strip 3 (some .int) 1 := ⟨⟨Or.inl w_509, w_126, w_512, by decide +kernel, by decide⟩, w_510, w_511⟩
theorem w_1775 : Cond.methodLink "TapeStudioLaw" 27 ⟨"TapeStudioModel","strip","(I)I"⟩ ∈ m_big := m_big_mem (i := 1775) (by decide +kernel) (by decide +kernel)
theorem w_1778 : Cond.code ⟨"TapeStudioModel","strip","(I)I"⟩ prog_13_method_15_code 4 (Option.some .int) ∈ m_big := m_big_mem (i := 1778) (by decide +kernel) (by decide +kernel)
theorem w_1776 : Cond.instanceMethod ⟨"TapeStudioModel","strip","(I)I"⟩ ∈ m_big := m_big_mem (i := 1776) (by decide +kernel) (by decide +kernel)
theorem w_1777 : Cond.selects "TapeStudioModel" ⟨"TapeStudioModel","strip","(I)I"⟩ ⟨"TapeStudioModel","strip","(I)I"⟩ ∈ m_big := m_big_mem (i := 1777) (by decide +kernel) (by decide +kernel)
theorem lm_L_27 : m_MV RL 27 yX11_strip cX11_strip 4 (some .int) 1 := ⟨⟨Or.inl w_1775, w_135, w_1778, by decide +kernel, by decide⟩, w_1776, w_1777⟩
theorem w_600 : Cond.methodLink "TapeStudioLaw" 28 ⟨"TapeStudio","sliver","(I)Z"⟩ ∈ m_big := m_big_mem (i := 600) (by decide +kernel) (by decide +kernel)
theorem w_603 : Cond.code ⟨"TapeStudio","sliver","(I)Z"⟩ prog_1_method_6_code 2 (Option.some .boolean) ∈ m_big := m_big_mem (i := 603) (by decide +kernel) (by decide +kernel)
theorem w_601 : Cond.instanceMethod ⟨"TapeStudio","sliver","(I)Z"⟩ ∈ m_big := m_big_mem (i := 601) (by decide +kernel) (by decide +kernel)
theorem w_602 : Cond.selects "TapeStudio" ⟨"TapeStudio","sliver","(I)Z"⟩ ⟨"TapeStudio","sliver","(I)Z"⟩ ∈ m_big := m_big_mem (i := 602) (by decide +kernel) (by decide +kernel)
theorem lm_L_28 : m_MV RL 28 yX10_sliver cX10_sliver 2 (some .boolean) 1 := ⟨⟨Or.inl w_600, w_126, w_603, by decide +kernel, by decide⟩, w_601, w_602⟩
theorem w_1798 : Cond.methodLink "TapeStudioLaw" 32 ⟨"TapeStudioModel","sliver","(I)Z"⟩ ∈ m_big := m_big_mem (i := 1798) (by decide +kernel) (by decide +kernel)
theorem w_1801 : Cond.code ⟨"TapeStudioModel","sliver","(I)Z"⟩ prog_13_method_16_code 2 (Option.some .boolean) ∈ m_big := m_big_mem (i := 1801) (by decide +kernel) (by decide +kernel)
theorem w_1799 : Cond.instanceMethod ⟨"TapeStudioModel","sliver","(I)Z"⟩ ∈ m_big := m_big_mem (i := 1799) (by decide +kernel) (by decide +kernel)
theorem w_1800 : Cond.selects "TapeStudioModel" ⟨"TapeStudioModel","sliver","(I)Z"⟩ ⟨"TapeStudioModel","sliver","(I)Z"⟩ ∈ m_big := m_big_mem (i := 1800) (by decide +kernel) (by decide +kernel)
theorem lm_L_32 : m_MV RL 32 yX11_sliver cX11_sliver 2 (some .boolean) 1 := ⟨⟨Or.inl w_1798, w_135, w_1801, by decide +kernel, by decide⟩, w_1799, w_1800⟩
theorem w_604 : Cond.methodLink "TapeStudioLaw" 33 ⟨"TapeStudio","cut","(II)I"⟩ ∈ m_big := m_big_mem (i := 604) (by decide +kernel) (by decide +kernel)
theorem w_607 : Cond.code ⟨"TapeStudio","cut","(II)I"⟩ prog_1_method_7_code 3 (Option.some .int) ∈ m_big := m_big_mem (i := 607) (by decide +kernel) (by decide +kernel)
theorem w_605 : Cond.instanceMethod ⟨"TapeStudio","cut","(II)I"⟩ ∈ m_big := m_big_mem (i := 605) (by decide +kernel) (by decide +kernel)
theorem w_606 : Cond.selects "TapeStudio" ⟨"TapeStudio","cut","(II)I"⟩ ⟨"TapeStudio","cut","(II)I"⟩ ∈ m_big := m_big_mem (i := 606) (by decide +kernel) (by decide +kernel)
theorem lm_L_33 : m_MV RL 33 yX10_cut cX10_cut 3 (some .int) 2 := ⟨⟨Or.inl w_604, w_126, w_607, by decide +kernel, by decide⟩, w_605, w_606⟩
theorem w_1803 : Cond.methodLink "TapeStudioLaw" 37 ⟨"TapeStudioModel","cut","(II)I"⟩ ∈ m_big := m_big_mem (i := 1803) (by decide +kernel) (by decide +kernel)
theorem w_1806 : Cond.code ⟨"TapeStudioModel","cut","(II)I"⟩ prog_13_method_17_code 6 (Option.some .int) ∈ m_big := m_big_mem (i := 1806) (by decide +kernel) (by decide +kernel)
theorem w_1804 : Cond.instanceMethod ⟨"TapeStudioModel","cut","(II)I"⟩ ∈ m_big := m_big_mem (i := 1804) (by decide +kernel) (by decide +kernel)
theorem w_1805 : Cond.selects "TapeStudioModel" ⟨"TapeStudioModel","cut","(II)I"⟩ ⟨"TapeStudioModel","cut","(II)I"⟩ ∈ m_big := m_big_mem (i := 1805) (by decide +kernel) (by decide +kernel)
theorem lm_L_37 : m_MV RL 37 yX11_cut cX11_cut 6 (some .int) 2 := ⟨⟨Or.inl w_1803, w_135, w_1806, by decide +kernel, by decide⟩, w_1804, w_1805⟩
theorem w_639 : Cond.methodLink "TapeStudioLaw" 38 ⟨"TapeStudio","turn","(I)I"⟩ ∈ m_big := m_big_mem (i := 639) (by decide +kernel) (by decide +kernel)
theorem w_642 : Cond.code ⟨"TapeStudio","turn","(I)I"⟩ prog_1_method_8_code 2 (Option.some .int) ∈ m_big := m_big_mem (i := 642) (by decide +kernel) (by decide +kernel)
theorem w_640 : Cond.instanceMethod ⟨"TapeStudio","turn","(I)I"⟩ ∈ m_big := m_big_mem (i := 640) (by decide +kernel) (by decide +kernel)
theorem w_641 : Cond.selects "TapeStudio" ⟨"TapeStudio","turn","(I)I"⟩ ⟨"TapeStudio","turn","(I)I"⟩ ∈ m_big := m_big_mem (i := 641) (by decide +kernel) (by decide +kernel)
theorem lm_L_38 : m_MV RL 38 yX10_turn cX10_turn 2 (some .int) 1 := ⟨⟨Or.inl w_639, w_126, w_642, by decide +kernel, by decide⟩, w_640, w_641⟩
theorem w_1823 : Cond.methodLink "TapeStudioLaw" 41 ⟨"TapeStudioModel","turn","(I)I"⟩ ∈ m_big := m_big_mem (i := 1823) (by decide +kernel) (by decide +kernel)
theorem w_1826 : Cond.code ⟨"TapeStudioModel","turn","(I)I"⟩ prog_13_method_19_code 4 (Option.some .int) ∈ m_big := m_big_mem (i := 1826) (by decide +kernel) (by decide +kernel)
theorem w_1824 : Cond.instanceMethod ⟨"TapeStudioModel","turn","(I)I"⟩ ∈ m_big := m_big_mem (i := 1824) (by decide +kernel) (by decide +kernel)
theorem w_1825 : Cond.selects "TapeStudioModel" ⟨"TapeStudioModel","turn","(I)I"⟩ ⟨"TapeStudioModel","turn","(I)I"⟩ ∈ m_big := m_big_mem (i := 1825) (by decide +kernel) (by decide +kernel)
theorem lm_L_41 : m_MV RL 41 yX11_turn cX11_turn 4 (some .int) 1 := ⟨⟨Or.inl w_1823, w_135, w_1826, by decide +kernel, by decide⟩, w_1824, w_1825⟩
theorem w_655 : Cond.methodLink "TapeStudioLaw" 42 ⟨"TapeStudio","loop","(I)I"⟩ ∈ m_big := m_big_mem (i := 655) (by decide +kernel) (by decide +kernel)
theorem w_658 : Cond.code ⟨"TapeStudio","loop","(I)I"⟩ prog_1_method_9_code 2 (Option.some .int) ∈ m_big := m_big_mem (i := 658) (by decide +kernel) (by decide +kernel)
theorem w_656 : Cond.instanceMethod ⟨"TapeStudio","loop","(I)I"⟩ ∈ m_big := m_big_mem (i := 656) (by decide +kernel) (by decide +kernel)
theorem w_657 : Cond.selects "TapeStudio" ⟨"TapeStudio","loop","(I)I"⟩ ⟨"TapeStudio","loop","(I)I"⟩ ∈ m_big := m_big_mem (i := 657) (by decide +kernel) (by decide +kernel)
theorem lm_L_42 : m_MV RL 42 yX10_loop cX10_loop 2 (some .int) 1 := ⟨⟨Or.inl w_655, w_126, w_658, by decide +kernel, by decide⟩, w_656, w_657⟩
theorem w_1831 : Cond.methodLink "TapeStudioLaw" 45 ⟨"TapeStudioModel","loop","(I)I"⟩ ∈ m_big := m_big_mem (i := 1831) (by decide +kernel) (by decide +kernel)
theorem w_1834 : Cond.code ⟨"TapeStudioModel","loop","(I)I"⟩ prog_13_method_20_code 4 (Option.some .int) ∈ m_big := m_big_mem (i := 1834) (by decide +kernel) (by decide +kernel)
theorem w_1832 : Cond.instanceMethod ⟨"TapeStudioModel","loop","(I)I"⟩ ∈ m_big := m_big_mem (i := 1832) (by decide +kernel) (by decide +kernel)
theorem w_1833 : Cond.selects "TapeStudioModel" ⟨"TapeStudioModel","loop","(I)I"⟩ ⟨"TapeStudioModel","loop","(I)I"⟩ ∈ m_big := m_big_mem (i := 1833) (by decide +kernel) (by decide +kernel)
theorem lm_L_45 : m_MV RL 45 yX11_loop cX11_loop 4 (some .int) 1 := ⟨⟨Or.inl w_1831, w_135, w_1834, by decide +kernel, by decide⟩, w_1832, w_1833⟩
theorem w_663 : Cond.methodLink "TapeStudioLaw" 46 ⟨"TapeStudio","seam","(I)I"⟩ ∈ m_big := m_big_mem (i := 663) (by decide +kernel) (by decide +kernel)
theorem w_666 : Cond.code ⟨"TapeStudio","seam","(I)I"⟩ prog_1_method_10_code 3 (Option.some .int) ∈ m_big := m_big_mem (i := 666) (by decide +kernel) (by decide +kernel)
theorem w_664 : Cond.instanceMethod ⟨"TapeStudio","seam","(I)I"⟩ ∈ m_big := m_big_mem (i := 664) (by decide +kernel) (by decide +kernel)
theorem w_665 : Cond.selects "TapeStudio" ⟨"TapeStudio","seam","(I)I"⟩ ⟨"TapeStudio","seam","(I)I"⟩ ∈ m_big := m_big_mem (i := 665) (by decide +kernel) (by decide +kernel)
theorem lm_L_46 : m_MV RL 46 yX10_seam cX10_seam 3 (some .int) 1 := ⟨⟨Or.inl w_663, w_126, w_666, by decide +kernel, by decide⟩, w_664, w_665⟩
theorem w_1835 : Cond.methodLink "TapeStudioLaw" 49 ⟨"TapeStudioModel","seam","(I)I"⟩ ∈ m_big := m_big_mem (i := 1835) (by decide +kernel) (by decide +kernel)
theorem w_1838 : Cond.code ⟨"TapeStudioModel","seam","(I)I"⟩ prog_13_method_21_code 3 (Option.some .int) ∈ m_big := m_big_mem (i := 1838) (by decide +kernel) (by decide +kernel)
theorem w_1836 : Cond.instanceMethod ⟨"TapeStudioModel","seam","(I)I"⟩ ∈ m_big := m_big_mem (i := 1836) (by decide +kernel) (by decide +kernel)
theorem w_1837 : Cond.selects "TapeStudioModel" ⟨"TapeStudioModel","seam","(I)I"⟩ ⟨"TapeStudioModel","seam","(I)I"⟩ ∈ m_big := m_big_mem (i := 1837) (by decide +kernel) (by decide +kernel)
theorem lm_L_49 : m_MV RL 49 yX11_seam cX11_seam 3 (some .int) 1 := ⟨⟨Or.inl w_1835, w_135, w_1838, by decide +kernel, by decide⟩, w_1836, w_1837⟩
theorem w_672 : Cond.methodLink "TapeStudioLaw" 50 ⟨"TapeStudio","splice","(III)I"⟩ ∈ m_big := m_big_mem (i := 672) (by decide +kernel) (by decide +kernel)
theorem w_675 : Cond.code ⟨"TapeStudio","splice","(III)I"⟩ prog_1_method_11_code 4 (Option.some .int) ∈ m_big := m_big_mem (i := 675) (by decide +kernel) (by decide +kernel)
theorem w_673 : Cond.instanceMethod ⟨"TapeStudio","splice","(III)I"⟩ ∈ m_big := m_big_mem (i := 673) (by decide +kernel) (by decide +kernel)
theorem w_674 : Cond.selects "TapeStudio" ⟨"TapeStudio","splice","(III)I"⟩ ⟨"TapeStudio","splice","(III)I"⟩ ∈ m_big := m_big_mem (i := 674) (by decide +kernel) (by decide +kernel)
theorem lm_L_50 : m_MV RL 50 yX10_splice cX10_splice 4 (some .int) 3 := ⟨⟨Or.inl w_672, w_126, w_675, by decide +kernel, by decide⟩, w_673, w_674⟩
theorem w_1839 : Cond.methodLink "TapeStudioLaw" 54 ⟨"TapeStudioModel","splice","(III)I"⟩ ∈ m_big := m_big_mem (i := 1839) (by decide +kernel) (by decide +kernel)
theorem w_1842 : Cond.code ⟨"TapeStudioModel","splice","(III)I"⟩ prog_13_method_23_code 7 (Option.some .int) ∈ m_big := m_big_mem (i := 1842) (by decide +kernel) (by decide +kernel)
theorem w_1840 : Cond.instanceMethod ⟨"TapeStudioModel","splice","(III)I"⟩ ∈ m_big := m_big_mem (i := 1840) (by decide +kernel) (by decide +kernel)
theorem w_1841 : Cond.selects "TapeStudioModel" ⟨"TapeStudioModel","splice","(III)I"⟩ ⟨"TapeStudioModel","splice","(III)I"⟩ ∈ m_big := m_big_mem (i := 1841) (by decide +kernel) (by decide +kernel)
theorem lm_L_54 : m_MV RL 54 yX11_splice cX11_splice 7 (some .int) 3 := ⟨⟨Or.inl w_1839, w_135, w_1842, by decide +kernel, by decide⟩, w_1840, w_1841⟩
theorem w_689 : Cond.methodLink "TapeStudioLaw" 55 ⟨"TapeStudio","machine","(III)I"⟩ ∈ m_big := m_big_mem (i := 689) (by decide +kernel) (by decide +kernel)
theorem w_692 : Cond.code ⟨"TapeStudio","machine","(III)I"⟩ prog_1_method_12_code 4 (Option.some .int) ∈ m_big := m_big_mem (i := 692) (by decide +kernel) (by decide +kernel)
theorem w_690 : Cond.instanceMethod ⟨"TapeStudio","machine","(III)I"⟩ ∈ m_big := m_big_mem (i := 690) (by decide +kernel) (by decide +kernel)
theorem w_691 : Cond.selects "TapeStudio" ⟨"TapeStudio","machine","(III)I"⟩ ⟨"TapeStudio","machine","(III)I"⟩ ∈ m_big := m_big_mem (i := 691) (by decide +kernel) (by decide +kernel)
theorem lm_L_55 : m_MV RL 55 yX10_machine cX10_machine 4 (some .int) 3 := ⟨⟨Or.inl w_689, w_126, w_692, by decide +kernel, by decide⟩, w_690, w_691⟩
theorem w_1852 : Cond.methodLink "TapeStudioLaw" 58 ⟨"TapeStudioModel","machine","(III)I"⟩ ∈ m_big := m_big_mem (i := 1852) (by decide +kernel) (by decide +kernel)
theorem w_1855 : Cond.code ⟨"TapeStudioModel","machine","(III)I"⟩ prog_13_method_24_code 4 (Option.some .int) ∈ m_big := m_big_mem (i := 1855) (by decide +kernel) (by decide +kernel)
theorem w_1853 : Cond.instanceMethod ⟨"TapeStudioModel","machine","(III)I"⟩ ∈ m_big := m_big_mem (i := 1853) (by decide +kernel) (by decide +kernel)
theorem w_1854 : Cond.selects "TapeStudioModel" ⟨"TapeStudioModel","machine","(III)I"⟩ ⟨"TapeStudioModel","machine","(III)I"⟩ ∈ m_big := m_big_mem (i := 1854) (by decide +kernel) (by decide +kernel)
theorem lm_L_58 : m_MV RL 58 yX11_machine cX11_machine 4 (some .int) 3 := ⟨⟨Or.inl w_1852, w_135, w_1855, by decide +kernel, by decide⟩, w_1853, w_1854⟩
theorem w_719 : Cond.methodLink "TapeStudioLaw" 59 ⟨"TapeStudio","copy","(II)I"⟩ ∈ m_big := m_big_mem (i := 719) (by decide +kernel) (by decide +kernel)
theorem w_722 : Cond.code ⟨"TapeStudio","copy","(II)I"⟩ prog_1_method_13_code 3 (Option.some .int) ∈ m_big := m_big_mem (i := 722) (by decide +kernel) (by decide +kernel)
theorem w_720 : Cond.instanceMethod ⟨"TapeStudio","copy","(II)I"⟩ ∈ m_big := m_big_mem (i := 720) (by decide +kernel) (by decide +kernel)
theorem w_721 : Cond.selects "TapeStudio" ⟨"TapeStudio","copy","(II)I"⟩ ⟨"TapeStudio","copy","(II)I"⟩ ∈ m_big := m_big_mem (i := 721) (by decide +kernel) (by decide +kernel)
theorem lm_L_59 : m_MV RL 59 yX10_copy cX10_copy 3 (some .int) 2 := ⟨⟨Or.inl w_719, w_126, w_722, by decide +kernel, by decide⟩, w_720, w_721⟩
theorem w_1858 : Cond.methodLink "TapeStudioLaw" 62 ⟨"TapeStudioModel","copy","(II)I"⟩ ∈ m_big := m_big_mem (i := 1858) (by decide +kernel) (by decide +kernel)
theorem w_1861 : Cond.code ⟨"TapeStudioModel","copy","(II)I"⟩ prog_13_method_29_code 3 (Option.some .int) ∈ m_big := m_big_mem (i := 1861) (by decide +kernel) (by decide +kernel)
theorem w_1859 : Cond.instanceMethod ⟨"TapeStudioModel","copy","(II)I"⟩ ∈ m_big := m_big_mem (i := 1859) (by decide +kernel) (by decide +kernel)
theorem w_1860 : Cond.selects "TapeStudioModel" ⟨"TapeStudioModel","copy","(II)I"⟩ ⟨"TapeStudioModel","copy","(II)I"⟩ ∈ m_big := m_big_mem (i := 1860) (by decide +kernel) (by decide +kernel)
theorem lm_L_62 : m_MV RL 62 yX11_copy cX11_copy 3 (some .int) 2 := ⟨⟨Or.inl w_1858, w_135, w_1861, by decide +kernel, by decide⟩, w_1859, w_1860⟩
theorem w_760 : Cond.methodLink "TapeStudioLaw" 63 ⟨"TapeStudio","speed","(IIII)I"⟩ ∈ m_big := m_big_mem (i := 760) (by decide +kernel) (by decide +kernel)
theorem w_763 : Cond.code ⟨"TapeStudio","speed","(IIII)I"⟩ prog_1_method_14_code 5 (Option.some .int) ∈ m_big := m_big_mem (i := 763) (by decide +kernel) (by decide +kernel)
theorem w_761 : Cond.instanceMethod ⟨"TapeStudio","speed","(IIII)I"⟩ ∈ m_big := m_big_mem (i := 761) (by decide +kernel) (by decide +kernel)
theorem w_762 : Cond.selects "TapeStudio" ⟨"TapeStudio","speed","(IIII)I"⟩ ⟨"TapeStudio","speed","(IIII)I"⟩ ∈ m_big := m_big_mem (i := 762) (by decide +kernel) (by decide +kernel)
theorem lm_L_63 : m_MV RL 63 yX10_speed cX10_speed 5 (some .int) 4 := ⟨⟨Or.inl w_760, w_126, w_763, by decide +kernel, by decide⟩, w_761, w_762⟩
theorem w_1878 : Cond.methodLink "TapeStudioLaw" 67 ⟨"TapeStudioModel","speed","(IIII)I"⟩ ∈ m_big := m_big_mem (i := 1878) (by decide +kernel) (by decide +kernel)
theorem w_1881 : Cond.code ⟨"TapeStudioModel","speed","(IIII)I"⟩ prog_13_method_30_code 5 (Option.some .int) ∈ m_big := m_big_mem (i := 1881) (by decide +kernel) (by decide +kernel)
theorem w_1879 : Cond.instanceMethod ⟨"TapeStudioModel","speed","(IIII)I"⟩ ∈ m_big := m_big_mem (i := 1879) (by decide +kernel) (by decide +kernel)
theorem w_1880 : Cond.selects "TapeStudioModel" ⟨"TapeStudioModel","speed","(IIII)I"⟩ ⟨"TapeStudioModel","speed","(IIII)I"⟩ ∈ m_big := m_big_mem (i := 1880) (by decide +kernel) (by decide +kernel)
theorem lm_L_67 : m_MV RL 67 yX11_speed cX11_speed 5 (some .int) 4 := ⟨⟨Or.inl w_1878, w_135, w_1881, by decide +kernel, by decide⟩, w_1879, w_1880⟩
theorem w_768 : Cond.methodLink "TapeStudioLaw" 68 ⟨"TapeStudio","lose","(I)Z"⟩ ∈ m_big := m_big_mem (i := 768) (by decide +kernel) (by decide +kernel)
theorem w_771 : Cond.code ⟨"TapeStudio","lose","(I)Z"⟩ prog_1_method_15_code 3 (Option.some .boolean) ∈ m_big := m_big_mem (i := 771) (by decide +kernel) (by decide +kernel)
theorem w_769 : Cond.instanceMethod ⟨"TapeStudio","lose","(I)Z"⟩ ∈ m_big := m_big_mem (i := 769) (by decide +kernel) (by decide +kernel)
theorem w_770 : Cond.selects "TapeStudio" ⟨"TapeStudio","lose","(I)Z"⟩ ⟨"TapeStudio","lose","(I)Z"⟩ ∈ m_big := m_big_mem (i := 770) (by decide +kernel) (by decide +kernel)
theorem lm_L_68 : m_MV RL 68 yX10_lose cX10_lose 3 (some .boolean) 1 := ⟨⟨Or.inl w_768, w_126, w_771, by decide +kernel, by decide⟩, w_769, w_770⟩
theorem w_1883 : Cond.methodLink "TapeStudioLaw" 71 ⟨"TapeStudioModel","lose","(I)Z"⟩ ∈ m_big := m_big_mem (i := 1883) (by decide +kernel) (by decide +kernel)
theorem w_1886 : Cond.code ⟨"TapeStudioModel","lose","(I)Z"⟩ prog_13_method_31_code 2 (Option.some .boolean) ∈ m_big := m_big_mem (i := 1886) (by decide +kernel) (by decide +kernel)
theorem w_1884 : Cond.instanceMethod ⟨"TapeStudioModel","lose","(I)Z"⟩ ∈ m_big := m_big_mem (i := 1884) (by decide +kernel) (by decide +kernel)
theorem w_1885 : Cond.selects "TapeStudioModel" ⟨"TapeStudioModel","lose","(I)Z"⟩ ⟨"TapeStudioModel","lose","(I)Z"⟩ ∈ m_big := m_big_mem (i := 1885) (by decide +kernel) (by decide +kernel)
theorem lm_L_71 : m_MV RL 71 yX11_lose cX11_lose 2 (some .boolean) 1 := ⟨⟨Or.inl w_1883, w_135, w_1886, by decide +kernel, by decide⟩, w_1884, w_1885⟩
theorem w_774 : Cond.methodLink "TapeStudioLaw" 72 ⟨"TapeStudio","hang","(II)Z"⟩ ∈ m_big := m_big_mem (i := 774) (by decide +kernel) (by decide +kernel)
theorem w_777 : Cond.code ⟨"TapeStudio","hang","(II)Z"⟩ prog_1_method_16_code 5 (Option.some .boolean) ∈ m_big := m_big_mem (i := 777) (by decide +kernel) (by decide +kernel)
theorem w_775 : Cond.instanceMethod ⟨"TapeStudio","hang","(II)Z"⟩ ∈ m_big := m_big_mem (i := 775) (by decide +kernel) (by decide +kernel)
theorem w_776 : Cond.selects "TapeStudio" ⟨"TapeStudio","hang","(II)Z"⟩ ⟨"TapeStudio","hang","(II)Z"⟩ ∈ m_big := m_big_mem (i := 776) (by decide +kernel) (by decide +kernel)
theorem lm_L_72 : m_MV RL 72 yX10_hang cX10_hang 5 (some .boolean) 2 := ⟨⟨Or.inl w_774, w_126, w_777, by decide +kernel, by decide⟩, w_775, w_776⟩
theorem w_1887 : Cond.methodLink "TapeStudioLaw" 76 ⟨"TapeStudioModel","hang","(II)Z"⟩ ∈ m_big := m_big_mem (i := 1887) (by decide +kernel) (by decide +kernel)
theorem w_1890 : Cond.code ⟨"TapeStudioModel","hang","(II)Z"⟩ prog_13_method_32_code 4 (Option.some .boolean) ∈ m_big := m_big_mem (i := 1890) (by decide +kernel) (by decide +kernel)
theorem w_1888 : Cond.instanceMethod ⟨"TapeStudioModel","hang","(II)Z"⟩ ∈ m_big := m_big_mem (i := 1888) (by decide +kernel) (by decide +kernel)
theorem w_1889 : Cond.selects "TapeStudioModel" ⟨"TapeStudioModel","hang","(II)Z"⟩ ⟨"TapeStudioModel","hang","(II)Z"⟩ ∈ m_big := m_big_mem (i := 1889) (by decide +kernel) (by decide +kernel)
theorem lm_L_76 : m_MV RL 76 yX11_hang cX11_hang 4 (some .boolean) 2 := ⟨⟨Or.inl w_1887, w_135, w_1890, by decide +kernel, by decide⟩, w_1888, w_1889⟩
theorem w_782 : Cond.methodLink "TapeStudioLaw" 77 ⟨"TapeStudio","nail","(I)I"⟩ ∈ m_big := m_big_mem (i := 782) (by decide +kernel) (by decide +kernel)
theorem w_785 : Cond.code ⟨"TapeStudio","nail","(I)I"⟩ prog_1_method_17_code 2 (Option.some .int) ∈ m_big := m_big_mem (i := 785) (by decide +kernel) (by decide +kernel)
theorem w_783 : Cond.instanceMethod ⟨"TapeStudio","nail","(I)I"⟩ ∈ m_big := m_big_mem (i := 783) (by decide +kernel) (by decide +kernel)
theorem w_784 : Cond.selects "TapeStudio" ⟨"TapeStudio","nail","(I)I"⟩ ⟨"TapeStudio","nail","(I)I"⟩ ∈ m_big := m_big_mem (i := 784) (by decide +kernel) (by decide +kernel)
theorem lm_L_77 : m_MV RL 77 yX10_nail cX10_nail 2 (some .int) 1 := ⟨⟨Or.inl w_782, w_126, w_785, by decide +kernel, by decide⟩, w_783, w_784⟩
theorem w_1893 : Cond.methodLink "TapeStudioLaw" 80 ⟨"TapeStudioModel","nail","(I)I"⟩ ∈ m_big := m_big_mem (i := 1893) (by decide +kernel) (by decide +kernel)
theorem w_1896 : Cond.code ⟨"TapeStudioModel","nail","(I)I"⟩ prog_13_method_33_code 3 (Option.some .int) ∈ m_big := m_big_mem (i := 1896) (by decide +kernel) (by decide +kernel)
theorem w_1894 : Cond.instanceMethod ⟨"TapeStudioModel","nail","(I)I"⟩ ∈ m_big := m_big_mem (i := 1894) (by decide +kernel) (by decide +kernel)
theorem w_1895 : Cond.selects "TapeStudioModel" ⟨"TapeStudioModel","nail","(I)I"⟩ ⟨"TapeStudioModel","nail","(I)I"⟩ ∈ m_big := m_big_mem (i := 1895) (by decide +kernel) (by decide +kernel)
theorem lm_L_80 : m_MV RL 80 yX11_nail cX11_nail 3 (some .int) 1 := ⟨⟨Or.inl w_1893, w_135, w_1896, by decide +kernel, by decide⟩, w_1894, w_1895⟩
