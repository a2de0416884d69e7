/-! the law: links, small function -/
theorem w_464 : Cond.methodLink "TapeStudioLaw" 13 ⟨"TapeStudio","hand","(IIIII)I"⟩ ∈ m_big := m_big_mem (i := 464) (by decide +kernel) (by decide +kernel)
theorem w_467 : Cond.code ⟨"TapeStudio","hand","(IIIII)I"⟩ prog_1_method_2_code 6 (Option.some .int) ∈ m_big := m_big_mem (i := 467) (by decide +kernel) (by decide +kernel)
theorem w_465 : Cond.instanceMethod ⟨"TapeStudio","hand","(IIIII)I"⟩ ∈ m_big := m_big_mem (i := 465) (by decide +kernel) (by decide +kernel)
theorem w_466 : Cond.selects "TapeStudio" ⟨"TapeStudio","hand","(IIIII)I"⟩ ⟨"TapeStudio","hand","(IIIII)I"⟩ ∈ m_big := m_big_mem (i := 466) (by decide +kernel) (by decide +kernel)
theorem lm_L_13 : m_MV RL 13 yX10_hand cX10_hand 6 (some .int) 5 := ⟨⟨Or.inl w_464, w_126, w_467, by decide +kernel, by decide⟩, w_465, w_466⟩
theorem w_1763 : Cond.methodLink "TapeStudioLaw" 17 ⟨"TapeStudioModel","hand","(IIIII)I"⟩ ∈ m_big := m_big_mem (i := 1763) (by decide +kernel) (by decide +kernel)
theorem w_1766 : Cond.code ⟨"TapeStudioModel","hand","(IIIII)I"⟩ prog_13_method_7_code 6 (Option.some .int) ∈ m_big := m_big_mem (i := 1766) (by decide +kernel) (by decide +kernel)
theorem w_1764 : Cond.instanceMethod ⟨"TapeStudioModel","hand","(IIIII)I"⟩ ∈ m_big := m_big_mem (i := 1764) (by decide +kernel) (by decide +kernel)
theorem w_1765 : Cond.selects "TapeStudioModel" ⟨"TapeStudioModel","hand","(IIIII)I"⟩ ⟨"TapeStudioModel","hand","(IIIII)I"⟩ ∈ m_big := m_big_mem (i := 1765) (by decide +kernel) (by decide +kernel)
theorem lm_L_17 : m_MV RL 17 yX11_hand cX11_hand 6 (some .int) 5 := ⟨⟨Or.inl w_1763, w_135, w_1766, by decide +kernel, by decide⟩, w_1764, w_1765⟩
theorem w_501 : Cond.methodLink "TapeStudioLaw" 18 ⟨"TapeStudio","drop","()I"⟩ ∈ m_big := m_big_mem (i := 501) (by decide +kernel) (by decide +kernel)
theorem w_504 : Cond.code ⟨"TapeStudio","drop","()I"⟩ prog_1_method_4_code 1 (Option.some .int) ∈ m_big := m_big_mem (i := 504) (by decide +kernel) (by decide +kernel)
theorem w_502 : Cond.instanceMethod ⟨"TapeStudio","drop","()I"⟩ ∈ m_big := m_big_mem (i := 502) (by decide +kernel) (by decide +kernel)
theorem w_503 : Cond.selects "TapeStudio" ⟨"TapeStudio","drop","()I"⟩ ⟨"TapeStudio","drop","()I"⟩ ∈ m_big := m_big_mem (i := 503) (by decide +kernel) (by decide +kernel)
theorem lm_L_18 : m_MV RL 18 yX10_drop cX10_drop 1 (some .int) 0 := ⟨⟨Or.inl w_501, w_126, w_504, by decide +kernel, by decide⟩, w_502, w_503⟩
theorem w_1771 : Cond.methodLink "TapeStudioLaw" 22 ⟨"TapeStudioModel","drop","()I"⟩ ∈ m_big := m_big_mem (i := 1771) (by decide +kernel) (by decide +kernel)
theorem w_1774 : Cond.code ⟨"TapeStudioModel","drop","()I"⟩ prog_13_method_8_code 2 (Option.some .int) ∈ m_big := m_big_mem (i := 1774) (by decide +kernel) (by decide +kernel)
theorem w_1772 : Cond.instanceMethod ⟨"TapeStudioModel","drop","()I"⟩ ∈ m_big := m_big_mem (i := 1772) (by decide +kernel) (by decide +kernel)
theorem w_1773 : Cond.selects "TapeStudioModel" ⟨"TapeStudioModel","drop","()I"⟩ ⟨"TapeStudioModel","drop","()I"⟩ ∈ m_big := m_big_mem (i := 1773) (by decide +kernel) (by decide +kernel)
theorem lm_L_22 : m_MV RL 22 yX11_drop cX11_drop 2 (some .int) 0 := ⟨⟨Or.inl w_1771, w_135, w_1774, by decide +kernel, by decide⟩, w_1772, w_1773⟩
theorem w_509 : Cond.methodLink "TapeStudioLaw" 23 ⟨"TapeStudio","strip","(I)I"⟩ ∈ m_big := m_big_mem (i := 509) (by decide +kernel) (by decide +kernel)
theorem w_512 : Cond.code ⟨"TapeStudio","strip","(I)I"⟩ prog_1_method_5_code 3 (Option.some .int) ∈ m_big := m_big_mem (i := 512) (by decide +kernel) (by decide +kernel)
theorem w_510 : Cond.instanceMethod ⟨"TapeStudio","strip","(I)I"⟩ ∈ m_big := m_big_mem (i := 510) (by decide +kernel) (by decide +kernel)
theorem w_511 : Cond.selects "TapeStudio" ⟨"TapeStudio","strip","(I)I"⟩ ⟨"TapeStudio","strip","(I)I"⟩ ∈ m_big := m_big_mem (i := 511) (by decide +kernel) (by decide +kernel)
theorem lm_L_23 : m_MV RL 23 yX10_strip cX10_strip 3 (some .int) 1 := ⟨⟨Or.inl w_509, w_126, w_512, by decide +kernel, by decide⟩, w_510, w_511⟩
theorem w_1775 : Cond.methodLink "TapeStudioLaw" 27 ⟨"TapeStudioModel","strip","(I)I"⟩ ∈ m_big := m_big_mem (i := 1775) (by decide +kernel) (by decide +kernel)
theorem w_1778 : Cond.code ⟨"TapeStudioModel","strip","(I)I"⟩ prog_13_method_15_code 4 (Option.some .int) ∈ m_big := m_big_mem (i := 1778) (by decide +kernel) (by decide +kernel)
theorem w_1776 : Cond.instanceMethod ⟨"TapeStudioModel","strip","(I)I"⟩ ∈ m_big := m_big_mem (i := 1776) (by decide +kernel) (by decide +kernel)
theorem w_1777 : Cond.selects "TapeStudioModel" ⟨"TapeStudioModel","strip","(I)I"⟩ ⟨"TapeStudioModel","strip","(I)I"⟩ ∈ m_big := m_big_mem (i := 1777) (by decide +kernel) (by decide +kernel)
theorem lm_L_27 : m_MV RL 27 yX11_strip cX11_strip 4 (some .int) 1 := ⟨⟨Or.inl w_1775, w_135, w_1778, by decide +kernel, by decide⟩, w_1776, w_1777⟩
theorem w_600 : Cond.methodLink "TapeStudioLaw" 28 ⟨"TapeStudio","sliver","(I)Z"⟩ ∈ m_big := m_big_mem (i := 600) (by decide +kernel) (by decide +kernel)
theorem w_603 : Cond.code ⟨"TapeStudio","sliver","(I)Z"⟩ prog_1_method_6_code 2 (Option.some .boolean) ∈ m_big := m_big_mem (i := 603) (by decide +kernel) (by decide +kernel)
theorem w_601 : Cond.instanceMethod ⟨"TapeStudio","sliver","(I)Z"⟩ ∈ m_big := m_big_mem (i := 601) (by decide +kernel) (by decide +kernel)
theorem w_602 : Cond.selects "TapeStudio" ⟨"TapeStudio","sliver","(I)Z"⟩ ⟨"TapeStudio","sliver","(I)Z"⟩ ∈ m_big := m_big_mem (i := 602) (by decide +kernel) (by decide +kernel)
theorem lm_L_28 : m_MV RL 28 yX10_sliver cX10_sliver 2 (some .boolean) 1 := ⟨⟨Or.inl w_600, w_126, w_603, by decide +kernel, by decide⟩, w_601, w_602⟩
theorem w_1798 : Cond.methodLink "TapeStudioLaw" 32 ⟨"TapeStudioModel","sliver","(I)Z"⟩ ∈ m_big := m_big_mem (i := 1798) (by decide +kernel) (by decide +kernel)
theorem w_1801 : Cond.code ⟨"TapeStudioModel","sliver","(I)Z"⟩ prog_13_method_16_code 2 (Option.some .boolean) ∈ m_big := m_big_mem (i := 1801) (by decide +kernel) (by decide +kernel)
theorem w_1799 : Cond.instanceMethod ⟨"TapeStudioModel","sliver","(I)Z"⟩ ∈ m_big := m_big_mem (i := 1799) (by decide +kernel) (by decide +kernel)
theorem w_1800 : Cond.selects "TapeStudioModel" ⟨"TapeStudioModel","sliver","(I)Z"⟩ ⟨"TapeStudioModel","sliver","(I)Z"⟩ ∈ m_big := m_big_mem (i := 1800) (by decide +kernel) (by decide +kernel)
theorem lm_L_32 : m_MV RL 32 yX11_sliver cX11_sliver 2 (some .boolean) 1 := ⟨⟨Or.inl w_1798, w_135, w_1801, by decide +kernel, by decide⟩, w_1799, w_1800⟩
theorem w_604 : Cond.methodLink "TapeStudioLaw" 33 ⟨"TapeStudio","cut","(II)I"⟩ ∈ m_big := m_big_mem (i := 604) (by decide +kernel) (by decide +kernel)
theorem w_607 : Cond.code ⟨"TapeStudio","cut","(II)I"⟩ prog_1_method_7_code 3 (Option.some .int) ∈ m_big := m_big_mem (i := 607) (by decide +kernel) (by decide +kernel)
theorem w_605 : Cond.instanceMethod ⟨"TapeStudio","cut","(II)I"⟩ ∈ m_big := m_big_mem (i := 605) (by decide +kernel) (by decide +kernel)
theorem w_606 : Cond.selects "TapeStudio" ⟨"TapeStudio","cut","(II)I"⟩ ⟨"TapeStudio","cut","(II)I"⟩ ∈ m_big := m_big_mem (i := 606) (by decide +kernel) (by decide +kernel)
theorem lm_L_33 : m_MV RL 33 yX10_cut cX10_cut 3 (some .int) 2 := ⟨⟨Or.inl w_604, w_126, w_607, by decide +kernel, by decide⟩, w_605, w_606⟩
theorem w_1803 : Cond.methodLink "TapeStudioLaw" 37 ⟨"TapeStudioModel","cut","(II)I"⟩ ∈ m_big := m_big_mem (i := 1803) (by decide +kernel) (by decide +kernel)
theorem w_1806 : Cond.code ⟨"TapeStudioModel","cut","(II)I"⟩ prog_13_method_17_code 6 (Option.some .int) ∈ m_big := m_big_mem (i := 1806) (by decide +kernel) (by decide +kernel)
theorem w_1804 : Cond.instanceMethod ⟨"TapeStudioModel","cut","(II)I"⟩ ∈ m_big := m_big_mem (i := 1804) (by decide +kernel) (by decide +kernel)
theorem w_1805 : Cond.selects "TapeStudioModel" ⟨"TapeStudioModel","cut","(II)I"⟩ ⟨"TapeStudioModel","cut","(II)I"⟩ ∈ m_big := m_big_mem (i := 1805) (by decide +kernel) (by decide +kernel)
theorem lm_L_37 : m_MV RL 37 yX11_cut cX11_cut 6 (some .int) 2 := ⟨⟨Or.inl w_1803, w_135, w_1806, by decide +kernel, by decide⟩, w_1804, w_1805⟩
theorem w_639 : Cond.methodLink "TapeStudioLaw" 38 ⟨"TapeStudio","turn","(I)I"⟩ ∈ m_big := m_big_mem (i := 639) (by decide +kernel) (by decide +kernel)
theorem w_642 : Cond.code ⟨"TapeStudio","turn","(I)I"⟩ prog_1_method_8_code 2 (Option.some .int) ∈ m_big := m_big_mem (i := 642) (by decide +kernel) (by decide +kernel)
theorem w_640 : Cond.instanceMethod ⟨"TapeStudio","turn","(I)I"⟩ ∈ m_big := m_big_mem (i := 640) (by decide +kernel) (by decide +kernel)
theorem w_641 : Cond.selects "TapeStudio" ⟨"TapeStudio","turn","(I)I"⟩ ⟨"TapeStudio","turn","(I)I"⟩ ∈ m_big := m_big_mem (i := 641) (by decide +kernel) (by decide +kernel)
theorem lm_L_38 : m_MV RL 38 yX10_turn cX10_turn 2 (some .int) 1 := ⟨⟨Or.inl w_639, w_126, w_642, by decide +kernel, by decide⟩, w_640, w_641⟩
theorem w_1823 : Cond.methodLink "TapeStudioLaw" 41 ⟨"TapeStudioModel","turn","(I)I"⟩ ∈ m_big := m_big_mem (i := 1823) (by decide +kernel) (by decide +kernel)
theorem w_1826 : Cond.code ⟨"TapeStudioModel","turn","(I)I"⟩ prog_13_method_19_code 4 (Option.some .int) ∈ m_big := m_big_mem (i := 1826) (by decide +kernel) (by decide +kernel)
theorem w_1824 : Cond.instanceMethod ⟨"TapeStudioModel","turn","(I)I"⟩ ∈ m_big := m_big_mem (i := 1824) (by decide +kernel) (by decide +kernel)
theorem w_1825 : Cond.selects "TapeStudioModel" ⟨"TapeStudioModel","turn","(I)I"⟩ ⟨"TapeStudioModel","turn","(I)I"⟩ ∈ m_big := m_big_mem (i := 1825) (by decide +kernel) (by decide +kernel)
theorem lm_L_41 : m_MV RL 41 yX11_turn cX11_turn 4 (some .int) 1 := ⟨⟨Or.inl w_1823, w_135, w_1826, by decide +kernel, by decide⟩, w_1824, w_1825⟩
theorem w_655 : Cond.methodLink "TapeStudioLaw" 42 ⟨"TapeStudio","loop","(I)I"⟩ ∈ m_big := m_big_mem (i := 655) (by decide +kernel) (by decide +kernel)
theorem w_658 : Cond.code ⟨"TapeStudio","loop","(I)I"⟩ prog_1_method_9_code 2 (Option.some .int) ∈ m_big := m_big_mem (i := 658) (by decide +kernel) (by decide +kernel)
theorem w_656 : Cond.instanceMethod ⟨"TapeStudio","loop","(I)I"⟩ ∈ m_big := m_big_mem (i := 656) (by decide +kernel) (by decide +kernel)
theorem w_657 : Cond.selects "TapeStudio" ⟨"TapeStudio","loop","(I)I"⟩ ⟨"TapeStudio","loop","(I)I"⟩ ∈ m_big := m_big_mem (i := 657) (by decide +kernel) (by decide +kernel)
theorem lm_L_42 : m_MV RL 42 yX10_loop cX10_loop 2 (some .int) 1 := ⟨⟨Or.inl w_655, w_126, w_658, by decide +kernel, by decide⟩, w_656, w_657⟩
theorem w_1831 : Cond.methodLink "TapeStudioLaw" 45 ⟨"TapeStudioModel","loop","(I)I"⟩ ∈ m_big := m_big_mem (i := 1831) (by decide +kernel) (by decide +kernel)
theorem w_1834 : Cond.code ⟨"TapeStudioModel","loop","(I)I"⟩ prog_13_method_20_code 4 (Option.some .int) ∈ m_big := m_big_mem (i := 1834) (by decide +kernel) (by decide +kernel)
theorem w_1832 : Cond.instanceMethod ⟨"TapeStudioModel","loop","(I)I"⟩ ∈ m_big := m_big_mem (i := 1832) (by decide +kernel) (by decide +kernel)
theorem w_1833 : Cond.selects "TapeStudioModel" ⟨"TapeStudioModel","loop","(I)I"⟩ ⟨"TapeStudioModel","loop","(I)I"⟩ ∈ m_big := m_big_mem (i := 1833) (by decide +kernel) (by decide +kernel)
theorem lm_L_45 : m_MV RL 45 yX11_loop cX11_loop 4 (some .int) 1 := ⟨⟨Or.inl w_1831, w_135, w_1834, by decide +kernel, by decide⟩, w_1832, w_1833⟩
theorem w_663 : Cond.methodLink "TapeStudioLaw" 46 ⟨"TapeStudio","seam","(I)I"⟩ ∈ m_big := m_big_mem (i := 663) (by decide +kernel) (by decide +kernel)
theorem w_666 : Cond.code ⟨"TapeStudio","seam","(I)I"⟩ prog_1_method_10_code 3 (Option.some .int) ∈ m_big := m_big_mem (i := 666) (by decide +kernel) (by decide +kernel)
theorem w_664 : Cond.instanceMethod ⟨"TapeStudio","seam","(I)I"⟩ ∈ m_big := m_big_mem (i := 664) (by decide +kernel) (by decide +kernel)
theorem w_665 : Cond.selects "TapeStudio" ⟨"TapeStudio","seam","(I)I"⟩ ⟨"TapeStudio","seam","(I)I"⟩ ∈ m_big := m_big_mem (i := 665) (by decide +kernel) (by decide +kernel)
theorem lm_L_46 : m_MV RL 46 yX10_seam cX10_seam 3 (some .int) 1 := ⟨⟨Or.inl w_663, w_126, w_666, by decide +kernel, by decide⟩, w_664, w_665⟩
theorem w_1835 : Cond.methodLink "TapeStudioLaw" 49 ⟨"TapeStudioModel","seam","(I)I"⟩ ∈ m_big := m_big_mem (i := 1835) (by decide +kernel) (by decide +kernel)
theorem w_1838 : Cond.code ⟨"TapeStudioModel","seam","(I)I"⟩ prog_13_method_21_code 3 (Option.some .int) ∈ m_big := m_big_mem (i := 1838) (by decide +kernel) (by decide +kernel)
theorem w_1836 : Cond.instanceMethod ⟨"TapeStudioModel","seam","(I)I"⟩ ∈ m_big := m_big_mem (i := 1836) (by decide +kernel) (by decide +kernel)
theorem w_1837 : Cond.selects "TapeStudioModel" ⟨"TapeStudioModel","seam","(I)I"⟩ ⟨"TapeStudioModel","seam","(I)I"⟩ ∈ m_big := m_big_mem (i := 1837) (by decide +kernel) (by decide +kernel)
theorem lm_L_49 : m_MV RL 49 yX11_seam cX11_seam 3 (some .int) 1 := ⟨⟨Or.inl w_1835, w_135, w_1838, by decide +kernel, by decide⟩, w_1836, w_1837⟩
theorem w_672 : Cond.methodLink "TapeStudioLaw" 50 ⟨"TapeStudio","splice","(III)I"⟩ ∈ m_big := m_big_mem (i := 672) (by decide +kernel) (by decide +kernel)
theorem w_675 : Cond.code ⟨"TapeStudio","splice","(III)I"⟩ prog_1_method_11_code 4 (Option.some .int) ∈ m_big := m_big_mem (i := 675) (by decide +kernel) (by decide +kernel)
theorem w_673 : Cond.instanceMethod ⟨"TapeStudio","splice","(III)I"⟩ ∈ m_big := m_big_mem (i := 673) (by decide +kernel) (by decide +kernel)
theorem w_674 : Cond.selects "TapeStudio" ⟨"TapeStudio","splice","(III)I"⟩ ⟨"TapeStudio","splice","(III)I"⟩ ∈ m_big := m_big_mem (i := 674) (by decide +kernel) (by decide +kernel)
theorem lm_L_50 : m_MV RL 50 yX10_splice cX10_splice 4 (some .int) 3 := ⟨⟨Or.inl w_672, w_126, w_675, by decide +kernel, by decide⟩, w_673, w_674⟩
theorem w_1839 : Cond.methodLink "TapeStudioLaw" 54 ⟨"TapeStudioModel","splice","(III)I"⟩ ∈ m_big := m_big_mem (i := 1839) (by decide +kernel) (by decide +kernel)
theorem w_1842 : Cond.code ⟨"TapeStudioModel","splice","(III)I"⟩ prog_13_method_23_code 7 (Option.some .int) ∈ m_big := m_big_mem (i := 1842) (by decide +kernel) (by decide +kernel)
theorem w_1840 : Cond.instanceMethod ⟨"TapeStudioModel","splice","(III)I"⟩ ∈ m_big := m_big_mem (i := 1840) (by decide +kernel) (by decide +kernel)
theorem w_1841 : Cond.selects "TapeStudioModel" ⟨"TapeStudioModel","splice","(III)I"⟩ ⟨"TapeStudioModel","splice","(III)I"⟩ ∈ m_big := m_big_mem (i := 1841) (by decide +kernel) (by decide +kernel)
theorem lm_L_54 : m_MV RL 54 yX11_splice cX11_splice 7 (some .int) 3 := ⟨⟨Or.inl w_1839, w_135, w_1842, by decide +kernel, by decide⟩, w_1840, w_1841⟩
theorem w_689 : Cond.methodLink "TapeStudioLaw" 55 ⟨"TapeStudio","machine","(III)I"⟩ ∈ m_big := m_big_mem (i := 689) (by decide +kernel) (by decide +kernel)
theorem w_692 : Cond.code ⟨"TapeStudio","machine","(III)I"⟩ prog_1_method_12_code 4 (Option.some .int) ∈ m_big := m_big_mem (i := 692) (by decide +kernel) (by decide +kernel)
theorem w_690 : Cond.instanceMethod ⟨"TapeStudio","machine","(III)I"⟩ ∈ m_big := m_big_mem (i := 690) (by decide +kernel) (by decide +kernel)
theorem w_691 : Cond.selects "TapeStudio" ⟨"TapeStudio","machine","(III)I"⟩ ⟨"TapeStudio","machine","(III)I"⟩ ∈ m_big := m_big_mem (i := 691) (by decide +kernel) (by decide +kernel)
theorem lm_L_55 : m_MV RL 55 yX10_machine cX10_machine 4 (some .int) 3 := ⟨⟨Or.inl w_689, w_126, w_692, by decide +kernel, by decide⟩, w_690, w_691⟩
theorem w_1852 : Cond.methodLink "TapeStudioLaw" 58 ⟨"TapeStudioModel","machine","(III)I"⟩ ∈ m_big := m_big_mem (i := 1852) (by decide +kernel) (by decide +kernel)
theorem w_1855 : Cond.code ⟨"TapeStudioModel","machine","(III)I"⟩ prog_13_method_24_code 4 (Option.some .int) ∈ m_big := m_big_mem (i := 1855) (by decide +kernel) (by decide +kernel)
theorem w_1853 : Cond.instanceMethod ⟨"TapeStudioModel","machine","(III)I"⟩ ∈ m_big := m_big_mem (i := 1853) (by decide +kernel) (by decide +kernel)
theorem w_1854 : Cond.selects "TapeStudioModel" ⟨"TapeStudioModel","machine","(III)I"⟩ ⟨"TapeStudioModel","machine","(III)I"⟩ ∈ m_big := m_big_mem (i := 1854) (by decide +kernel) (by decide +kernel)
theorem lm_L_58 : m_MV RL 58 yX11_machine cX11_machine 4 (some .int) 3 := ⟨⟨Or.inl w_1852, w_135, w_1855, by decide +kernel, by decide⟩, w_1853, w_1854⟩
theorem w_719 : Cond.methodLink "TapeStudioLaw" 59 ⟨"TapeStudio","copy","(II)I"⟩ ∈ m_big := m_big_mem (i := 719) (by decide +kernel) (by decide +kernel)
theorem w_722 : Cond.code ⟨"TapeStudio","copy","(II)I"⟩ prog_1_method_13_code 3 (Option.some .int) ∈ m_big := m_big_mem (i := 722) (by decide +kernel) (by decide +kernel)
theorem w_720 : Cond.instanceMethod ⟨"TapeStudio","copy","(II)I"⟩ ∈ m_big := m_big_mem (i := 720) (by decide +kernel) (by decide +kernel)
theorem w_721 : Cond.selects "TapeStudio" ⟨"TapeStudio","copy","(II)I"⟩ ⟨"TapeStudio","copy","(II)I"⟩ ∈ m_big := m_big_mem (i := 721) (by decide +kernel) (by decide +kernel)
theorem lm_L_59 : m_MV RL 59 yX10_copy cX10_copy 3 (some .int) 2 := ⟨⟨Or.inl w_719, w_126, w_722, by decide +kernel, by decide⟩, w_720, w_721⟩
theorem w_1858 : Cond.methodLink "TapeStudioLaw" 62 ⟨"TapeStudioModel","copy","(II)I"⟩ ∈ m_big := m_big_mem (i := 1858) (by decide +kernel) (by decide +kernel)
theorem w_1861 : Cond.code ⟨"TapeStudioModel","copy","(II)I"⟩ prog_13_method_29_code 3 (Option.some .int) ∈ m_big := m_big_mem (i := 1861) (by decide +kernel) (by decide +kernel)
theorem w_1859 : Cond.instanceMethod ⟨"TapeStudioModel","copy","(II)I"⟩ ∈ m_big := m_big_mem (i := 1859) (by decide +kernel) (by decide +kernel)
theorem w_1860 : Cond.selects "TapeStudioModel" ⟨"TapeStudioModel","copy","(II)I"⟩ ⟨"TapeStudioModel","copy","(II)I"⟩ ∈ m_big := m_big_mem (i := 1860) (by decide +kernel) (by decide +kernel)
theorem lm_L_62 : m_MV RL 62 yX11_copy cX11_copy 3 (some .int) 2 := ⟨⟨Or.inl w_1858, w_135, w_1861, by decide +kernel, by decide⟩, w_1859, w_1860⟩
theorem w_760 : Cond.methodLink "TapeStudioLaw" 63 ⟨"TapeStudio","speed","(IIII)I"⟩ ∈ m_big := m_big_mem (i := 760) (by decide +kernel) (by decide +kernel)
theorem w_763 : Cond.code ⟨"TapeStudio","speed","(IIII)I"⟩ prog_1_method_14_code 5 (Option.some .int) ∈ m_big := m_big_mem (i := 763) (by decide +kernel) (by decide +kernel)
theorem w_761 : Cond.instanceMethod ⟨"TapeStudio","speed","(IIII)I"⟩ ∈ m_big := m_big_mem (i := 761) (by decide +kernel) (by decide +kernel)
theorem w_762 : Cond.selects "TapeStudio" ⟨"TapeStudio","speed","(IIII)I"⟩ ⟨"TapeStudio","speed","(IIII)I"⟩ ∈ m_big := m_big_mem (i := 762) (by decide +kernel) (by decide +kernel)
theorem lm_L_63 : m_MV RL 63 yX10_speed cX10_speed 5 (some .int) 4 := ⟨⟨Or.inl w_760, w_126, w_763, by decide +kernel, by decide⟩, w_761, w_762⟩
theorem w_1878 : Cond.methodLink "TapeStudioLaw" 67 ⟨"TapeStudioModel","speed","(IIII)I"⟩ ∈ m_big := m_big_mem (i := 1878) (by decide +kernel) (by decide +kernel)
theorem w_1881 : Cond.code ⟨"TapeStudioModel","speed","(IIII)I"⟩ prog_13_method_30_code 5 (Option.some .int) ∈ m_big := m_big_mem (i := 1881) (by decide +kernel) (by decide +kernel)
theorem w_1879 : Cond.instanceMethod ⟨"TapeStudioModel","speed","(IIII)I"⟩ ∈ m_big := m_big_mem (i := 1879) (by decide +kernel) (by decide +kernel)
theorem w_1880 : Cond.selects "TapeStudioModel" ⟨"TapeStudioModel","speed","(IIII)I"⟩ ⟨"TapeStudioModel","speed","(IIII)I"⟩ ∈ m_big := m_big_mem (i := 1880) (by decide +kernel) (by decide +kernel)
theorem lm_L_67 : m_MV RL 67 yX11_speed cX11_speed 5 (some .int) 4 := ⟨⟨Or.inl w_1878, w_135, w_1881, by decide +kernel, by decide⟩, w_1879, w_1880⟩
theorem w_768 : Cond.methodLink "TapeStudioLaw" 68 ⟨"TapeStudio","lose","(I)Z"⟩ ∈ m_big := m_big_mem (i := 768) (by decide +kernel) (by decide +kernel)
theorem w_771 : Cond.code ⟨"TapeStudio","lose","(I)Z"⟩ prog_1_method_15_code 3 (Option.some .boolean) ∈ m_big := m_big_mem (i := 771) (by decide +kernel) (by decide +kernel)
theorem w_769 : Cond.instanceMethod ⟨"TapeStudio","lose","(I)Z"⟩ ∈ m_big := m_big_mem (i := 769) (by decide +kernel) (by decide +kernel)
theorem w_770 : Cond.selects "TapeStudio" ⟨"TapeStudio","lose","(I)Z"⟩ ⟨"TapeStudio","lose","(I)Z"⟩ ∈ m_big := m_big_mem (i := 770) (by decide +kernel) (by decide +kernel)
theorem lm_L_68 : m_MV RL 68 yX10_lose cX10_lose 3 (some .boolean) 1 := ⟨⟨Or.inl w_768, w_126, w_771, by decide +kernel, by decide⟩, w_769, w_770⟩
theorem w_1883 : Cond.methodLink "TapeStudioLaw" 71 ⟨"TapeStudioModel","lose","(I)Z"⟩ ∈ m_big := m_big_mem (i := 1883) (by decide +kernel) (by decide +kernel)
theorem w_1886 : Cond.code ⟨"TapeStudioModel","lose","(I)Z"⟩ prog_13_method_31_code 2 (Option.some .boolean) ∈ m_big := m_big_mem (i := 1886) (by decide +kernel) (by decide +kernel)
theorem w_1884 : Cond.instanceMethod ⟨"TapeStudioModel","lose","(I)Z"⟩ ∈ m_big := m_big_mem (i := 1884) (by decide +kernel) (by decide +kernel)
theorem w_1885 : Cond.selects "TapeStudioModel" ⟨"TapeStudioModel","lose","(I)Z"⟩ ⟨"TapeStudioModel","lose","(I)Z"⟩ ∈ m_big := m_big_mem (i := 1885) (by decide +kernel) (by decide +kernel)
theorem lm_L_71 : m_MV RL 71 yX11_lose cX11_lose 2 (some .boolean) 1 := ⟨⟨Or.inl w_1883, w_135, w_1886, by decide +kernel, by decide⟩, w_1884, w_1885⟩
theorem w_774 : Cond.methodLink "TapeStudioLaw" 72 ⟨"TapeStudio","hang","(II)Z"⟩ ∈ m_big := m_big_mem (i := 774) (by decide +kernel) (by decide +kernel)
theorem w_777 : Cond.code ⟨"TapeStudio","hang","(II)Z"⟩ prog_1_method_16_code 5 (Option.some .boolean) ∈ m_big := m_big_mem (i := 777) (by decide +kernel) (by decide +kernel)
theorem w_775 : Cond.instanceMethod ⟨"TapeStudio","hang","(II)Z"⟩ ∈ m_big := m_big_mem (i := 775) (by decide +kernel) (by decide +kernel)
theorem w_776 : Cond.selects "TapeStudio" ⟨"TapeStudio","hang","(II)Z"⟩ ⟨"TapeStudio","hang","(II)Z"⟩ ∈ m_big := m_big_mem (i := 776) (by decide +kernel) (by decide +kernel)
theorem lm_L_72 : m_MV RL 72 yX10_hang cX10_hang 5 (some .boolean) 2 := ⟨⟨Or.inl w_774, w_126, w_777, by decide +kernel, by decide⟩, w_775, w_776⟩
theorem w_1887 : Cond.methodLink "TapeStudioLaw" 76 ⟨"TapeStudioModel","hang","(II)Z"⟩ ∈ m_big := m_big_mem (i := 1887) (by decide +kernel) (by decide +kernel)
theorem w_1890 : Cond.code ⟨"TapeStudioModel","hang","(II)Z"⟩ prog_13_method_32_code 4 (Option.some .boolean) ∈ m_big := m_big_mem (i := 1890) (by decide +kernel) (by decide +kernel)
theorem w_1888 : Cond.instanceMethod ⟨"TapeStudioModel","hang","(II)Z"⟩ ∈ m_big := m_big_mem (i := 1888) (by decide +kernel) (by decide +kernel)
theorem w_1889 : Cond.selects "TapeStudioModel" ⟨"TapeStudioModel","hang","(II)Z"⟩ ⟨"TapeStudioModel","hang","(II)Z"⟩ ∈ m_big := m_big_mem (i := 1889) (by decide +kernel) (by decide +kernel)
theorem lm_L_76 : m_MV RL 76 yX11_hang cX11_hang 4 (some .boolean) 2 := ⟨⟨Or.inl w_1887, w_135, w_1890, by decide +kernel, by decide⟩, w_1888, w_1889⟩
theorem w_782 : Cond.methodLink "TapeStudioLaw" 77 ⟨"TapeStudio","nail","(I)I"⟩ ∈ m_big := m_big_mem (i := 782) (by decide +kernel) (by decide +kernel)
theorem w_785 : Cond.code ⟨"TapeStudio","nail","(I)I"⟩ prog_1_method_17_code 2 (Option.some .int) ∈ m_big := m_big_mem (i := 785) (by decide +kernel) (by decide +kernel)
theorem w_783 : Cond.instanceMethod ⟨"TapeStudio","nail","(I)I"⟩ ∈ m_big := m_big_mem (i := 783) (by decide +kernel) (by decide +kernel)
theorem w_784 : Cond.selects "TapeStudio" ⟨"TapeStudio","nail","(I)I"⟩ ⟨"TapeStudio","nail","(I)I"⟩ ∈ m_big := m_big_mem (i := 784) (by decide +kernel) (by decide +kernel)
theorem lm_L_77 : m_MV RL 77 yX10_nail cX10_nail 2 (some .int) 1 := ⟨⟨Or.inl w_782, w_126, w_785, by decide +kernel, by decide⟩, w_783, w_784⟩
theorem w_1893 : Cond.methodLink "TapeStudioLaw" 80 ⟨"TapeStudioModel","nail","(I)I"⟩ ∈ m_big := m_big_mem (i := 1893) (by decide +kernel) (by decide +kernel)
theorem w_1896 : Cond.code ⟨"TapeStudioModel","nail","(I)I"⟩ prog_13_method_33_code 3 (Option.some .int) ∈ m_big := m_big_mem (i := 1896) (by decide +kernel) (by decide +kernel)
theorem w_1894 : Cond.instanceMethod ⟨"TapeStudioModel","nail","(I)I"⟩ ∈ m_big := m_big_mem (i := 1894) (by decide +kernel) (by decide +kernel)
theorem w_1895 : Cond.selects "TapeStudioModel" ⟨"TapeStudioModel","nail","(I)I"⟩ ⟨"TapeStudioModel","nail","(I)I"⟩ ∈ m_big := m_big_mem (i := 1895) (by decide +kernel) (by decide +kernel)
theorem lm_L_80 : m_MV RL 80 yX11_nail cX11_nail 3 (some .int) 1 := ⟨⟨Or.inl w_1893, w_135, w_1896, by decide +kernel, by decide⟩, w_1894, w_1895⟩
theorem w_786 : Cond.methodLink "TapeStudioLaw" 81 ⟨"TapeStudio","read","(II)Z"⟩ ∈ m_big := m_big_mem (i := 786) (by decide +kernel) (by decide +kernel)
theorem w_789 : Cond.code ⟨"TapeStudio","read","(II)Z"⟩ prog_1_method_18_code 3 (Option.some .boolean) ∈ m_big := m_big_mem (i := 789) (by decide +kernel) (by decide +kernel)
theorem w_787 : Cond.instanceMethod ⟨"TapeStudio","read","(II)Z"⟩ ∈ m_big := m_big_mem (i := 787) (by decide +kernel) (by decide +kernel)
theorem w_788 : Cond.selects "TapeStudio" ⟨"TapeStudio","read","(II)Z"⟩ ⟨"TapeStudio","read","(II)Z"⟩ ∈ m_big := m_big_mem (i := 788) (by decide +kernel) (by decide +kernel)
theorem lm_L_81 : m_MV RL 81 yX10_read cX10_read 3 (some .boolean) 2 := ⟨⟨Or.inl w_786, w_126, w_789, by decide +kernel, by decide⟩, w_787, w_788⟩
theorem w_1897 : Cond.methodLink "TapeStudioLaw" 84 ⟨"TapeStudioModel","read","(II)Z"⟩ ∈ m_big := m_big_mem (i := 1897) (by decide +kernel) (by decide +kernel)
theorem w_1900 : Cond.code ⟨"TapeStudioModel","read","(II)Z"⟩ prog_13_method_34_code 3 (Option.some .boolean) ∈ m_big := m_big_mem (i := 1900) (by decide +kernel) (by decide +kernel)
theorem w_1898 : Cond.instanceMethod ⟨"TapeStudioModel","read","(II)Z"⟩ ∈ m_big := m_big_mem (i := 1898) (by decide +kernel) (by decide +kernel)
theorem w_1899 : Cond.selects "TapeStudioModel" ⟨"TapeStudioModel","read","(II)Z"⟩ ⟨"TapeStudioModel","read","(II)Z"⟩ ∈ m_big := m_big_mem (i := 1899) (by decide +kernel) (by decide +kernel)
theorem lm_L_84 : m_MV RL 84 yX11_read cX11_read 3 (some .boolean) 2 := ⟨⟨Or.inl w_1897, w_135, w_1900, by decide +kernel, by decide⟩, w_1898, w_1899⟩
theorem w_797 : Cond.methodLink "TapeStudioLaw" 85 ⟨"TapeStudio","marked","(II)I"⟩ ∈ m_big := m_big_mem (i := 797) (by decide +kernel) (by decide +kernel)
theorem w_800 : Cond.code ⟨"TapeStudio","marked","(II)I"⟩ prog_1_method_19_code 3 (Option.some .int) ∈ m_big := m_big_mem (i := 800) (by decide +kernel) (by decide +kernel)
theorem w_798 : Cond.instanceMethod ⟨"TapeStudio","marked","(II)I"⟩ ∈ m_big := m_big_mem (i := 798) (by decide +kernel) (by decide +kernel)
theorem w_799 : Cond.selects "TapeStudio" ⟨"TapeStudio","marked","(II)I"⟩ ⟨"TapeStudio","marked","(II)I"⟩ ∈ m_big := m_big_mem (i := 799) (by decide +kernel) (by decide +kernel)
theorem lm_L_85 : m_MV RL 85 yX10_marked cX10_marked 3 (some .int) 2 := ⟨⟨Or.inl w_797, w_126, w_800, by decide +kernel, by decide⟩, w_798, w_799⟩
theorem w_1902 : Cond.methodLink "TapeStudioLaw" 88 ⟨"TapeStudioModel","marked","(II)I"⟩ ∈ m_big := m_big_mem (i := 1902) (by decide +kernel) (by decide +kernel)
theorem w_1905 : Cond.code ⟨"TapeStudioModel","marked","(II)I"⟩ prog_13_method_36_code 3 (Option.some .int) ∈ m_big := m_big_mem (i := 1905) (by decide +kernel) (by decide +kernel)
theorem w_1903 : Cond.instanceMethod ⟨"TapeStudioModel","marked","(II)I"⟩ ∈ m_big := m_big_mem (i := 1903) (by decide +kernel) (by decide +kernel)
theorem w_1904 : Cond.selects "TapeStudioModel" ⟨"TapeStudioModel","marked","(II)I"⟩ ⟨"TapeStudioModel","marked","(II)I"⟩ ∈ m_big := m_big_mem (i := 1904) (by decide +kernel) (by decide +kernel)
theorem lm_L_88 : m_MV RL 88 yX11_marked cX11_marked 3 (some .int) 2 := ⟨⟨Or.inl w_1902, w_135, w_1905, by decide +kernel, by decide⟩, w_1903, w_1904⟩
theorem w_808 : Cond.methodLink "TapeStudioLaw" 89 ⟨"TapeStudio","go","(I)I"⟩ ∈ m_big := m_big_mem (i := 808) (by decide +kernel) (by decide +kernel)
theorem w_811 : Cond.code ⟨"TapeStudio","go","(I)I"⟩ prog_1_method_20_code 2 (Option.some .int) ∈ m_big := m_big_mem (i := 811) (by decide +kernel) (by decide +kernel)
theorem w_809 : Cond.instanceMethod ⟨"TapeStudio","go","(I)I"⟩ ∈ m_big := m_big_mem (i := 809) (by decide +kernel) (by decide +kernel)
theorem w_810 : Cond.selects "TapeStudio" ⟨"TapeStudio","go","(I)I"⟩ ⟨"TapeStudio","go","(I)I"⟩ ∈ m_big := m_big_mem (i := 810) (by decide +kernel) (by decide +kernel)
theorem lm_L_89 : m_MV RL 89 yX10_go cX10_go 2 (some .int) 1 := ⟨⟨Or.inl w_808, w_126, w_811, by decide +kernel, by decide⟩, w_809, w_810⟩
theorem w_1911 : Cond.methodLink "TapeStudioLaw" 92 ⟨"TapeStudioModel","go","(I)I"⟩ ∈ m_big := m_big_mem (i := 1911) (by decide +kernel) (by decide +kernel)
theorem w_1914 : Cond.code ⟨"TapeStudioModel","go","(I)I"⟩ prog_13_method_37_code 2 (Option.some .int) ∈ m_big := m_big_mem (i := 1914) (by decide +kernel) (by decide +kernel)
theorem w_1912 : Cond.instanceMethod ⟨"TapeStudioModel","go","(I)I"⟩ ∈ m_big := m_big_mem (i := 1912) (by decide +kernel) (by decide +kernel)
theorem w_1913 : Cond.selects "TapeStudioModel" ⟨"TapeStudioModel","go","(I)I"⟩ ⟨"TapeStudioModel","go","(I)I"⟩ ∈ m_big := m_big_mem (i := 1913) (by decide +kernel) (by decide +kernel)
theorem lm_L_92 : m_MV RL 92 yX11_go cX11_go 2 (some .int) 1 := ⟨⟨Or.inl w_1911, w_135, w_1914, by decide +kernel, by decide⟩, w_1912, w_1913⟩
theorem w_812 : Cond.methodLink "TapeStudioLaw" 93 ⟨"TapeStudio","sample","(II)I"⟩ ∈ m_big := m_big_mem (i := 812) (by decide +kernel) (by decide +kernel)
theorem w_815 : Cond.code ⟨"TapeStudio","sample","(II)I"⟩ prog_1_method_21_code 4 (Option.some .int) ∈ m_big := m_big_mem (i := 815) (by decide +kernel) (by decide +kernel)
theorem w_813 : Cond.instanceMethod ⟨"TapeStudio","sample","(II)I"⟩ ∈ m_big := m_big_mem (i := 813) (by decide +kernel) (by decide +kernel)
theorem w_814 : Cond.selects "TapeStudio" ⟨"TapeStudio","sample","(II)I"⟩ ⟨"TapeStudio","sample","(II)I"⟩ ∈ m_big := m_big_mem (i := 814) (by decide +kernel) (by decide +kernel)
theorem lm_L_93 : m_MV RL 93 yX10_sample cX10_sample 4 (some .int) 2 := ⟨⟨Or.inl w_812, w_126, w_815, by decide +kernel, by decide⟩, w_813, w_814⟩
theorem w_1915 : Cond.methodLink "TapeStudioLaw" 96 ⟨"TapeStudioModel","sample","(II)I"⟩ ∈ m_big := m_big_mem (i := 1915) (by decide +kernel) (by decide +kernel)
theorem w_1918 : Cond.code ⟨"TapeStudioModel","sample","(II)I"⟩ prog_13_method_38_code 3 (Option.some .int) ∈ m_big := m_big_mem (i := 1918) (by decide +kernel) (by decide +kernel)
theorem w_1916 : Cond.instanceMethod ⟨"TapeStudioModel","sample","(II)I"⟩ ∈ m_big := m_big_mem (i := 1916) (by decide +kernel) (by decide +kernel)
theorem w_1917 : Cond.selects "TapeStudioModel" ⟨"TapeStudioModel","sample","(II)I"⟩ ⟨"TapeStudioModel","sample","(II)I"⟩ ∈ m_big := m_big_mem (i := 1917) (by decide +kernel) (by decide +kernel)
theorem lm_L_96 : m_MV RL 96 yX11_sample cX11_sample 3 (some .int) 2 := ⟨⟨Or.inl w_1915, w_135, w_1918, by decide +kernel, by decide⟩, w_1916, w_1917⟩
theorem w_820 : Cond.methodLink "TapeStudioLaw" 97 ⟨"TapeStudio","told","(II)I"⟩ ∈ m_big := m_big_mem (i := 820) (by decide +kernel) (by decide +kernel)
theorem w_823 : Cond.code ⟨"TapeStudio","told","(II)I"⟩ prog_1_method_22_code 4 (Option.some .int) ∈ m_big := m_big_mem (i := 823) (by decide +kernel) (by decide +kernel)
theorem w_821 : Cond.instanceMethod ⟨"TapeStudio","told","(II)I"⟩ ∈ m_big := m_big_mem (i := 821) (by decide +kernel) (by decide +kernel)
theorem w_822 : Cond.selects "TapeStudio" ⟨"TapeStudio","told","(II)I"⟩ ⟨"TapeStudio","told","(II)I"⟩ ∈ m_big := m_big_mem (i := 822) (by decide +kernel) (by decide +kernel)
theorem lm_L_97 : m_MV RL 97 yX10_told cX10_told 4 (some .int) 2 := ⟨⟨Or.inl w_820, w_126, w_823, by decide +kernel, by decide⟩, w_821, w_822⟩
theorem w_1920 : Cond.methodLink "TapeStudioLaw" 100 ⟨"TapeStudioModel","told","(II)I"⟩ ∈ m_big := m_big_mem (i := 1920) (by decide +kernel) (by decide +kernel)
theorem w_1923 : Cond.code ⟨"TapeStudioModel","told","(II)I"⟩ prog_13_method_39_code 3 (Option.some .int) ∈ m_big := m_big_mem (i := 1923) (by decide +kernel) (by decide +kernel)
theorem w_1921 : Cond.instanceMethod ⟨"TapeStudioModel","told","(II)I"⟩ ∈ m_big := m_big_mem (i := 1921) (by decide +kernel) (by decide +kernel)
theorem w_1922 : Cond.selects "TapeStudioModel" ⟨"TapeStudioModel","told","(II)I"⟩ ⟨"TapeStudioModel","told","(II)I"⟩ ∈ m_big := m_big_mem (i := 1922) (by decide +kernel) (by decide +kernel)
theorem lm_L_100 : m_MV RL 100 yX11_told cX11_told 3 (some .int) 2 := ⟨⟨Or.inl w_1920, w_135, w_1923, by decide +kernel, by decide⟩, w_1921, w_1922⟩
theorem w_829 : Cond.methodLink "TapeStudioLaw" 101 ⟨"TapeStudio","feed","(IIIII)I"⟩ ∈ m_big := m_big_mem (i := 829) (by decide +kernel) (by decide +kernel)
theorem w_832 : Cond.code ⟨"TapeStudio","feed","(IIIII)I"⟩ prog_1_method_23_code 6 (Option.some .int) ∈ m_big := m_big_mem (i := 832) (by decide +kernel) (by decide +kernel)
theorem w_830 : Cond.instanceMethod ⟨"TapeStudio","feed","(IIIII)I"⟩ ∈ m_big := m_big_mem (i := 830) (by decide +kernel) (by decide +kernel)
theorem w_831 : Cond.selects "TapeStudio" ⟨"TapeStudio","feed","(IIIII)I"⟩ ⟨"TapeStudio","feed","(IIIII)I"⟩ ∈ m_big := m_big_mem (i := 831) (by decide +kernel) (by decide +kernel)
theorem lm_L_101 : m_MV RL 101 yX10_feed cX10_feed 6 (some .int) 5 := ⟨⟨Or.inl w_829, w_126, w_832, by decide +kernel, by decide⟩, w_830, w_831⟩
theorem w_1924 : Cond.methodLink "TapeStudioLaw" 104 ⟨"TapeStudioModel","feed","(IIIII)I"⟩ ∈ m_big := m_big_mem (i := 1924) (by decide +kernel) (by decide +kernel)
theorem w_1927 : Cond.code ⟨"TapeStudioModel","feed","(IIIII)I"⟩ prog_13_method_41_code 6 (Option.some .int) ∈ m_big := m_big_mem (i := 1927) (by decide +kernel) (by decide +kernel)
theorem w_1925 : Cond.instanceMethod ⟨"TapeStudioModel","feed","(IIIII)I"⟩ ∈ m_big := m_big_mem (i := 1925) (by decide +kernel) (by decide +kernel)
theorem w_1926 : Cond.selects "TapeStudioModel" ⟨"TapeStudioModel","feed","(IIIII)I"⟩ ⟨"TapeStudioModel","feed","(IIIII)I"⟩ ∈ m_big := m_big_mem (i := 1926) (by decide +kernel) (by decide +kernel)
theorem lm_L_104 : m_MV RL 104 yX11_feed cX11_feed 6 (some .int) 5 := ⟨⟨Or.inl w_1924, w_135, w_1927, by decide +kernel, by decide⟩, w_1925, w_1926⟩
theorem w_841 : Cond.methodLink "TapeStudioLaw" 105 ⟨"TapeStudio","end","(I)Z"⟩ ∈ m_big := m_big_mem (i := 841) (by decide +kernel) (by decide +kernel)
theorem w_844 : Cond.code ⟨"TapeStudio","end","(I)Z"⟩ prog_1_method_24_code 2 (Option.some .boolean) ∈ m_big := m_big_mem (i := 844) (by decide +kernel) (by decide +kernel)
theorem w_842 : Cond.instanceMethod ⟨"TapeStudio","end","(I)Z"⟩ ∈ m_big := m_big_mem (i := 842) (by decide +kernel) (by decide +kernel)
theorem w_843 : Cond.selects "TapeStudio" ⟨"TapeStudio","end","(I)Z"⟩ ⟨"TapeStudio","end","(I)Z"⟩ ∈ m_big := m_big_mem (i := 843) (by decide +kernel) (by decide +kernel)
theorem lm_L_105 : m_MV RL 105 yX10_end cX10_end 2 (some .boolean) 1 := ⟨⟨Or.inl w_841, w_126, w_844, by decide +kernel, by decide⟩, w_842, w_843⟩
theorem w_1932 : Cond.methodLink "TapeStudioLaw" 108 ⟨"TapeStudioModel","end","(I)Z"⟩ ∈ m_big := m_big_mem (i := 1932) (by decide +kernel) (by decide +kernel)
theorem w_1935 : Cond.code ⟨"TapeStudioModel","end","(I)Z"⟩ prog_13_method_42_code 2 (Option.some .boolean) ∈ m_big := m_big_mem (i := 1935) (by decide +kernel) (by decide +kernel)
theorem w_1933 : Cond.instanceMethod ⟨"TapeStudioModel","end","(I)Z"⟩ ∈ m_big := m_big_mem (i := 1933) (by decide +kernel) (by decide +kernel)
theorem w_1934 : Cond.selects "TapeStudioModel" ⟨"TapeStudioModel","end","(I)Z"⟩ ⟨"TapeStudioModel","end","(I)Z"⟩ ∈ m_big := m_big_mem (i := 1934) (by decide +kernel) (by decide +kernel)
theorem lm_L_108 : m_MV RL 108 yX11_end cX11_end 2 (some .boolean) 1 := ⟨⟨Or.inl w_1932, w_135, w_1935, by decide +kernel, by decide⟩, w_1933, w_1934⟩
theorem w_845 : Cond.methodLink "TapeStudioLaw" 109 ⟨"TapeStudio","fault","()I"⟩ ∈ m_big := m_big_mem (i := 845) (by decide +kernel) (by decide +kernel)
theorem w_848 : Cond.code ⟨"TapeStudio","fault","()I"⟩ prog_1_method_25_code 1 (Option.some .int) ∈ m_big := m_big_mem (i := 848) (by decide +kernel) (by decide +kernel)
theorem w_846 : Cond.instanceMethod ⟨"TapeStudio","fault","()I"⟩ ∈ m_big := m_big_mem (i := 846) (by decide +kernel) (by decide +kernel)
theorem w_847 : Cond.selects "TapeStudio" ⟨"TapeStudio","fault","()I"⟩ ⟨"TapeStudio","fault","()I"⟩ ∈ m_big := m_big_mem (i := 847) (by decide +kernel) (by decide +kernel)
theorem lm_L_109 : m_MV RL 109 yX10_fault cX10_fault 1 (some .int) 0 := ⟨⟨Or.inl w_845, w_126, w_848, by decide +kernel, by decide⟩, w_846, w_847⟩
theorem w_1936 : Cond.methodLink "TapeStudioLaw" 112 ⟨"TapeStudioModel","fault","()I"⟩ ∈ m_big := m_big_mem (i := 1936) (by decide +kernel) (by decide +kernel)
theorem w_1939 : Cond.code ⟨"TapeStudioModel","fault","()I"⟩ prog_13_method_62_code 1 (Option.some .int) ∈ m_big := m_big_mem (i := 1939) (by decide +kernel) (by decide +kernel)
theorem w_1937 : Cond.instanceMethod ⟨"TapeStudioModel","fault","()I"⟩ ∈ m_big := m_big_mem (i := 1937) (by decide +kernel) (by decide +kernel)
theorem w_1938 : Cond.selects "TapeStudioModel" ⟨"TapeStudioModel","fault","()I"⟩ ⟨"TapeStudioModel","fault","()I"⟩ ∈ m_big := m_big_mem (i := 1938) (by decide +kernel) (by decide +kernel)
theorem lm_L_112 : m_MV RL 112 yX11_fault cX11_fault 1 (some .int) 0 := ⟨⟨Or.inl w_1936, w_135, w_1939, by decide +kernel, by decide⟩, w_1937, w_1938⟩
theorem w_996 : Cond.methodLink "TapeStudioLaw" 113 ⟨"TapeStudio","score","()I"⟩ ∈ m_big := m_big_mem (i := 996) (by decide +kernel) (by decide +kernel)
theorem w_999 : Cond.code ⟨"TapeStudio","score","()I"⟩ prog_1_method_26_code 1 (Option.some .int) ∈ m_big := m_big_mem (i := 999) (by decide +kernel) (by decide +kernel)
theorem w_997 : Cond.instanceMethod ⟨"TapeStudio","score","()I"⟩ ∈ m_big := m_big_mem (i := 997) (by decide +kernel) (by decide +kernel)
theorem w_998 : Cond.selects "TapeStudio" ⟨"TapeStudio","score","()I"⟩ ⟨"TapeStudio","score","()I"⟩ ∈ m_big := m_big_mem (i := 998) (by decide +kernel) (by decide +kernel)
theorem lm_L_113 : m_MV RL 113 yX10_score cX10_score 1 (some .int) 0 := ⟨⟨Or.inl w_996, w_126, w_999, by decide +kernel, by decide⟩, w_997, w_998⟩
theorem w_2019 : Cond.methodLink "TapeStudioLaw" 116 ⟨"TapeStudioModel","score","()I"⟩ ∈ m_big := m_big_mem (i := 2019) (by decide +kernel) (by decide +kernel)
theorem w_2022 : Cond.code ⟨"TapeStudioModel","score","()I"⟩ prog_13_method_63_code 2 (Option.some .int) ∈ m_big := m_big_mem (i := 2022) (by decide +kernel) (by decide +kernel)
theorem w_2020 : Cond.instanceMethod ⟨"TapeStudioModel","score","()I"⟩ ∈ m_big := m_big_mem (i := 2020) (by decide +kernel) (by decide +kernel)
theorem w_2021 : Cond.selects "TapeStudioModel" ⟨"TapeStudioModel","score","()I"⟩ ⟨"TapeStudioModel","score","()I"⟩ ∈ m_big := m_big_mem (i := 2021) (by decide +kernel) (by decide +kernel)
theorem lm_L_116 : m_MV RL 116 yX11_score cX11_score 2 (some .int) 0 := ⟨⟨Or.inl w_2019, w_135, w_2022, by decide +kernel, by decide⟩, w_2020, w_2021⟩
theorem w_1016 : Cond.methodLink "TapeStudioLaw" 117 ⟨"TapeStudio","make","(II)I"⟩ ∈ m_big := m_big_mem (i := 1016) (by decide +kernel) (by decide +kernel)
theorem w_1019 : Cond.code ⟨"TapeStudio","make","(II)I"⟩ prog_1_method_27_code 4 (Option.some .int) ∈ m_big := m_big_mem (i := 1019) (by decide +kernel) (by decide +kernel)
theorem w_1017 : Cond.instanceMethod ⟨"TapeStudio","make","(II)I"⟩ ∈ m_big := m_big_mem (i := 1017) (by decide +kernel) (by decide +kernel)
theorem w_1018 : Cond.selects "TapeStudio" ⟨"TapeStudio","make","(II)I"⟩ ⟨"TapeStudio","make","(II)I"⟩ ∈ m_big := m_big_mem (i := 1018) (by decide +kernel) (by decide +kernel)
theorem lm_L_117 : m_MV RL 117 yX10_make cX10_make 4 (some .int) 2 := ⟨⟨Or.inl w_1016, w_126, w_1019, by decide +kernel, by decide⟩, w_1017, w_1018⟩
theorem w_2023 : Cond.methodLink "TapeStudioLaw" 120 ⟨"TapeStudioModel","make","(II)I"⟩ ∈ m_big := m_big_mem (i := 2023) (by decide +kernel) (by decide +kernel)
theorem w_2026 : Cond.code ⟨"TapeStudioModel","make","(II)I"⟩ prog_13_method_79_code 4 (Option.some .int) ∈ m_big := m_big_mem (i := 2026) (by decide +kernel) (by decide +kernel)
theorem w_2024 : Cond.instanceMethod ⟨"TapeStudioModel","make","(II)I"⟩ ∈ m_big := m_big_mem (i := 2024) (by decide +kernel) (by decide +kernel)
theorem w_2025 : Cond.selects "TapeStudioModel" ⟨"TapeStudioModel","make","(II)I"⟩ ⟨"TapeStudioModel","make","(II)I"⟩ ∈ m_big := m_big_mem (i := 2025) (by decide +kernel) (by decide +kernel)
theorem lm_L_120 : m_MV RL 120 yX11_make cX11_make 4 (some .int) 2 := ⟨⟨Or.inl w_2023, w_135, w_2026, by decide +kernel, by decide⟩, w_2024, w_2025⟩
theorem w_1182 : Cond.methodLink "TapeStudioLaw" 121 ⟨"TapeStudio","fails","(II)I"⟩ ∈ m_big := m_big_mem (i := 1182) (by decide +kernel) (by decide +kernel)
theorem w_1185 : Cond.code ⟨"TapeStudio","fails","(II)I"⟩ prog_1_method_28_code 4 (Option.some .int) ∈ m_big := m_big_mem (i := 1185) (by decide +kernel) (by decide +kernel)
theorem w_1183 : Cond.instanceMethod ⟨"TapeStudio","fails","(II)I"⟩ ∈ m_big := m_big_mem (i := 1183) (by decide +kernel) (by decide +kernel)
theorem w_1184 : Cond.selects "TapeStudio" ⟨"TapeStudio","fails","(II)I"⟩ ⟨"TapeStudio","fails","(II)I"⟩ ∈ m_big := m_big_mem (i := 1184) (by decide +kernel) (by decide +kernel)
theorem lm_L_121 : m_MV RL 121 yX10_fails cX10_fails 4 (some .int) 2 := ⟨⟨Or.inl w_1182, w_126, w_1185, by decide +kernel, by decide⟩, w_1183, w_1184⟩
theorem w_2089 : Cond.methodLink "TapeStudioLaw" 124 ⟨"TapeStudioModel","fails","(II)I"⟩ ∈ m_big := m_big_mem (i := 2089) (by decide +kernel) (by decide +kernel)
theorem w_2092 : Cond.code ⟨"TapeStudioModel","fails","(II)I"⟩ prog_13_method_80_code 3 (Option.some .int) ∈ m_big := m_big_mem (i := 2092) (by decide +kernel) (by decide +kernel)
theorem w_2090 : Cond.instanceMethod ⟨"TapeStudioModel","fails","(II)I"⟩ ∈ m_big := m_big_mem (i := 2090) (by decide +kernel) (by decide +kernel)
theorem w_2091 : Cond.selects "TapeStudioModel" ⟨"TapeStudioModel","fails","(II)I"⟩ ⟨"TapeStudioModel","fails","(II)I"⟩ ∈ m_big := m_big_mem (i := 2091) (by decide +kernel) (by decide +kernel)
theorem lm_L_124 : m_MV RL 124 yX11_fails_ cX11_fails_ 3 (some .int) 2 := ⟨⟨Or.inl w_2089, w_135, w_2092, by decide +kernel, by decide⟩, w_2090, w_2091⟩
theorem w_1186 : Cond.methodLink "TapeStudioLaw" 125 ⟨"TapeStudio","out","(I)I"⟩ ∈ m_big := m_big_mem (i := 1186) (by decide +kernel) (by decide +kernel)
theorem w_1189 : Cond.code ⟨"TapeStudio","out","(I)I"⟩ prog_1_method_29_code 2 (Option.some .int) ∈ m_big := m_big_mem (i := 1189) (by decide +kernel) (by decide +kernel)
theorem w_1187 : Cond.instanceMethod ⟨"TapeStudio","out","(I)I"⟩ ∈ m_big := m_big_mem (i := 1187) (by decide +kernel) (by decide +kernel)
theorem w_1188 : Cond.selects "TapeStudio" ⟨"TapeStudio","out","(I)I"⟩ ⟨"TapeStudio","out","(I)I"⟩ ∈ m_big := m_big_mem (i := 1188) (by decide +kernel) (by decide +kernel)
theorem lm_L_125 : m_MV RL 125 yX10_out cX10_out 2 (some .int) 1 := ⟨⟨Or.inl w_1186, w_126, w_1189, by decide +kernel, by decide⟩, w_1187, w_1188⟩
theorem w_2093 : Cond.methodLink "TapeStudioLaw" 128 ⟨"TapeStudioModel","out","(I)I"⟩ ∈ m_big := m_big_mem (i := 2093) (by decide +kernel) (by decide +kernel)
theorem w_2096 : Cond.code ⟨"TapeStudioModel","out","(I)I"⟩ prog_13_method_81_code 2 (Option.some .int) ∈ m_big := m_big_mem (i := 2096) (by decide +kernel) (by decide +kernel)
theorem w_2094 : Cond.instanceMethod ⟨"TapeStudioModel","out","(I)I"⟩ ∈ m_big := m_big_mem (i := 2094) (by decide +kernel) (by decide +kernel)
theorem w_2095 : Cond.selects "TapeStudioModel" ⟨"TapeStudioModel","out","(I)I"⟩ ⟨"TapeStudioModel","out","(I)I"⟩ ∈ m_big := m_big_mem (i := 2095) (by decide +kernel) (by decide +kernel)
theorem lm_L_128 : m_MV RL 128 yX11_out cX11_out 2 (some .int) 1 := ⟨⟨Or.inl w_2093, w_135, w_2096, by decide +kernel, by decide⟩, w_2094, w_2095⟩
theorem w_1190 : Cond.methodLink "TapeStudioLaw" 129 ⟨"TapeStudio","why","(II)I"⟩ ∈ m_big := m_big_mem (i := 1190) (by decide +kernel) (by decide +kernel)
theorem w_1193 : Cond.code ⟨"TapeStudio","why","(II)I"⟩ prog_1_method_30_code 3 (Option.some .int) ∈ m_big := m_big_mem (i := 1193) (by decide +kernel) (by decide +kernel)
theorem w_1191 : Cond.instanceMethod ⟨"TapeStudio","why","(II)I"⟩ ∈ m_big := m_big_mem (i := 1191) (by decide +kernel) (by decide +kernel)
theorem w_1192 : Cond.selects "TapeStudio" ⟨"TapeStudio","why","(II)I"⟩ ⟨"TapeStudio","why","(II)I"⟩ ∈ m_big := m_big_mem (i := 1192) (by decide +kernel) (by decide +kernel)
theorem lm_L_129 : m_MV RL 129 yX10_why cX10_why 3 (some .int) 2 := ⟨⟨Or.inl w_1190, w_126, w_1193, by decide +kernel, by decide⟩, w_1191, w_1192⟩
theorem w_2097 : Cond.methodLink "TapeStudioLaw" 132 ⟨"TapeStudioModel","why","(II)I"⟩ ∈ m_big := m_big_mem (i := 2097) (by decide +kernel) (by decide +kernel)
theorem w_2100 : Cond.code ⟨"TapeStudioModel","why","(II)I"⟩ prog_13_method_83_code 5 (Option.some .int) ∈ m_big := m_big_mem (i := 2100) (by decide +kernel) (by decide +kernel)
theorem w_2098 : Cond.instanceMethod ⟨"TapeStudioModel","why","(II)I"⟩ ∈ m_big := m_big_mem (i := 2098) (by decide +kernel) (by decide +kernel)
theorem w_2099 : Cond.selects "TapeStudioModel" ⟨"TapeStudioModel","why","(II)I"⟩ ⟨"TapeStudioModel","why","(II)I"⟩ ∈ m_big := m_big_mem (i := 2099) (by decide +kernel) (by decide +kernel)
theorem lm_L_132 : m_MV RL 132 yX11_why cX11_why 5 (some .int) 2 := ⟨⟨Or.inl w_2097, w_135, w_2100, by decide +kernel, by decide⟩, w_2098, w_2099⟩
theorem w_1210 : Cond.methodLink "TapeStudioLaw" 133 ⟨"TapeStudio","lead","(III)I"⟩ ∈ m_big := m_big_mem (i := 1210) (by decide +kernel) (by decide +kernel)
theorem w_1213 : Cond.code ⟨"TapeStudio","lead","(III)I"⟩ prog_1_method_31_code 4 (Option.some .int) ∈ m_big := m_big_mem (i := 1213) (by decide +kernel) (by decide +kernel)
theorem w_1211 : Cond.instanceMethod ⟨"TapeStudio","lead","(III)I"⟩ ∈ m_big := m_big_mem (i := 1211) (by decide +kernel) (by decide +kernel)
theorem w_1212 : Cond.selects "TapeStudio" ⟨"TapeStudio","lead","(III)I"⟩ ⟨"TapeStudio","lead","(III)I"⟩ ∈ m_big := m_big_mem (i := 1212) (by decide +kernel) (by decide +kernel)
theorem lm_L_133 : m_MV RL 133 yX10_lead cX10_lead 4 (some .int) 3 := ⟨⟨Or.inl w_1210, w_126, w_1213, by decide +kernel, by decide⟩, w_1211, w_1212⟩
theorem w_2105 : Cond.methodLink "TapeStudioLaw" 136 ⟨"TapeStudioModel","lead","(III)I"⟩ ∈ m_big := m_big_mem (i := 2105) (by decide +kernel) (by decide +kernel)
theorem w_2108 : Cond.code ⟨"TapeStudioModel","lead","(III)I"⟩ prog_13_method_85_code 5 (Option.some .int) ∈ m_big := m_big_mem (i := 2108) (by decide +kernel) (by decide +kernel)
theorem w_2106 : Cond.instanceMethod ⟨"TapeStudioModel","lead","(III)I"⟩ ∈ m_big := m_big_mem (i := 2106) (by decide +kernel) (by decide +kernel)
theorem w_2107 : Cond.selects "TapeStudioModel" ⟨"TapeStudioModel","lead","(III)I"⟩ ⟨"TapeStudioModel","lead","(III)I"⟩ ∈ m_big := m_big_mem (i := 2107) (by decide +kernel) (by decide +kernel)
theorem lm_L_136 : m_MV RL 136 yX11_lead cX11_lead 5 (some .int) 3 := ⟨⟨Or.inl w_2105, w_135, w_2108, by decide +kernel, by decide⟩, w_2106, w_2107⟩
theorem w_1241 : Cond.methodLink "TapeStudioLaw" 137 ⟨"TapeStudio","quarrel","(I)I"⟩ ∈ m_big := m_big_mem (i := 1241) (by decide +kernel) (by decide +kernel)
theorem w_1244 : Cond.code ⟨"TapeStudio","quarrel","(I)I"⟩ prog_1_method_32_code 2 (Option.some .int) ∈ m_big := m_big_mem (i := 1244) (by decide +kernel) (by decide +kernel)
theorem w_1242 : Cond.instanceMethod ⟨"TapeStudio","quarrel","(I)I"⟩ ∈ m_big := m_big_mem (i := 1242) (by decide +kernel) (by decide +kernel)
theorem w_1243 : Cond.selects "TapeStudio" ⟨"TapeStudio","quarrel","(I)I"⟩ ⟨"TapeStudio","quarrel","(I)I"⟩ ∈ m_big := m_big_mem (i := 1243) (by decide +kernel) (by decide +kernel)
theorem lm_L_137 : m_MV RL 137 yX10_quarrel cX10_quarrel 2 (some .int) 1 := ⟨⟨Or.inl w_1241, w_126, w_1244, by decide +kernel, by decide⟩, w_1242, w_1243⟩
theorem w_2115 : Cond.methodLink "TapeStudioLaw" 140 ⟨"TapeStudioModel","quarrel","(I)I"⟩ ∈ m_big := m_big_mem (i := 2115) (by decide +kernel) (by decide +kernel)
theorem w_2118 : Cond.code ⟨"TapeStudioModel","quarrel","(I)I"⟩ prog_13_method_87_code 5 (Option.some .int) ∈ m_big := m_big_mem (i := 2118) (by decide +kernel) (by decide +kernel)
theorem w_2116 : Cond.instanceMethod ⟨"TapeStudioModel","quarrel","(I)I"⟩ ∈ m_big := m_big_mem (i := 2116) (by decide +kernel) (by decide +kernel)
theorem w_2117 : Cond.selects "TapeStudioModel" ⟨"TapeStudioModel","quarrel","(I)I"⟩ ⟨"TapeStudioModel","quarrel","(I)I"⟩ ∈ m_big := m_big_mem (i := 2117) (by decide +kernel) (by decide +kernel)
theorem lm_L_140 : m_MV RL 140 yX11_quarrel cX11_quarrel 5 (some .int) 1 := ⟨⟨Or.inl w_2115, w_135, w_2118, by decide +kernel, by decide⟩, w_2116, w_2117⟩
theorem w_1253 : Cond.methodLink "TapeStudioLaw" 141 ⟨"TapeStudio","open","(I)I"⟩ ∈ m_big := m_big_mem (i := 1253) (by decide +kernel) (by decide +kernel)
theorem w_1256 : Cond.code ⟨"TapeStudio","open","(I)I"⟩ prog_1_method_33_code 4 (Option.some .int) ∈ m_big := m_big_mem (i := 1256) (by decide +kernel) (by decide +kernel)
theorem w_1254 : Cond.instanceMethod ⟨"TapeStudio","open","(I)I"⟩ ∈ m_big := m_big_mem (i := 1254) (by decide +kernel) (by decide +kernel)
theorem w_1255 : Cond.selects "TapeStudio" ⟨"TapeStudio","open","(I)I"⟩ ⟨"TapeStudio","open","(I)I"⟩ ∈ m_big := m_big_mem (i := 1255) (by decide +kernel) (by decide +kernel)
theorem lm_L_141 : m_MV RL 141 yX10_open cX10_open 4 (some .int) 1 := ⟨⟨Or.inl w_1253, w_126, w_1256, by decide +kernel, by decide⟩, w_1254, w_1255⟩
theorem w_2123 : Cond.methodLink "TapeStudioLaw" 144 ⟨"TapeStudioModel","open","(I)I"⟩ ∈ m_big := m_big_mem (i := 2123) (by decide +kernel) (by decide +kernel)
theorem w_2126 : Cond.code ⟨"TapeStudioModel","open","(I)I"⟩ prog_13_method_88_code 3 (Option.some .int) ∈ m_big := m_big_mem (i := 2126) (by decide +kernel) (by decide +kernel)
theorem w_2124 : Cond.instanceMethod ⟨"TapeStudioModel","open","(I)I"⟩ ∈ m_big := m_big_mem (i := 2124) (by decide +kernel) (by decide +kernel)
theorem w_2125 : Cond.selects "TapeStudioModel" ⟨"TapeStudioModel","open","(I)I"⟩ ⟨"TapeStudioModel","open","(I)I"⟩ ∈ m_big := m_big_mem (i := 2125) (by decide +kernel) (by decide +kernel)
theorem lm_L_144 : m_MV RL 144 yX11_open cX11_open 3 (some .int) 1 := ⟨⟨Or.inl w_2123, w_135, w_2126, by decide +kernel, by decide⟩, w_2124, w_2125⟩
theorem w_1261 : Cond.methodLink "TapeStudioLaw" 145 ⟨"TapeStudio","turns","(I)I"⟩ ∈ m_big := m_big_mem (i := 1261) (by decide +kernel) (by decide +kernel)
theorem w_1264 : Cond.code ⟨"TapeStudio","turns","(I)I"⟩ prog_1_method_34_code 3 (Option.some .int) ∈ m_big := m_big_mem (i := 1264) (by decide +kernel) (by decide +kernel)
theorem w_1262 : Cond.instanceMethod ⟨"TapeStudio","turns","(I)I"⟩ ∈ m_big := m_big_mem (i := 1262) (by decide +kernel) (by decide +kernel)
theorem w_1263 : Cond.selects "TapeStudio" ⟨"TapeStudio","turns","(I)I"⟩ ⟨"TapeStudio","turns","(I)I"⟩ ∈ m_big := m_big_mem (i := 1263) (by decide +kernel) (by decide +kernel)
theorem lm_L_145 : m_MV RL 145 yX10_turns cX10_turns 3 (some .int) 1 := ⟨⟨Or.inl w_1261, w_126, w_1264, by decide +kernel, by decide⟩, w_1262, w_1263⟩
theorem w_2127 : Cond.methodLink "TapeStudioLaw" 148 ⟨"TapeStudioModel","turns","(I)I"⟩ ∈ m_big := m_big_mem (i := 2127) (by decide +kernel) (by decide +kernel)
theorem w_2130 : Cond.code ⟨"TapeStudioModel","turns","(I)I"⟩ prog_13_method_95_code 2 (Option.some .int) ∈ m_big := m_big_mem (i := 2130) (by decide +kernel) (by decide +kernel)
theorem w_2128 : Cond.instanceMethod ⟨"TapeStudioModel","turns","(I)I"⟩ ∈ m_big := m_big_mem (i := 2128) (by decide +kernel) (by decide +kernel)
theorem w_2129 : Cond.selects "TapeStudioModel" ⟨"TapeStudioModel","turns","(I)I"⟩ ⟨"TapeStudioModel","turns","(I)I"⟩ ∈ m_big := m_big_mem (i := 2129) (by decide +kernel) (by decide +kernel)
theorem lm_L_148 : m_MV RL 148 yX11_turns cX11_turns 2 (some .int) 1 := ⟨⟨Or.inl w_2127, w_135, w_2130, by decide +kernel, by decide⟩, w_2128, w_2129⟩
theorem w_1306 : Cond.methodLink "TapeStudioLaw" 149 ⟨"TapeStudio","turnOf","(II)I"⟩ ∈ m_big := m_big_mem (i := 1306) (by decide +kernel) (by decide +kernel)
theorem w_1309 : Cond.code ⟨"TapeStudio","turnOf","(II)I"⟩ prog_1_method_35_code 4 (Option.some .int) ∈ m_big := m_big_mem (i := 1309) (by decide +kernel) (by decide +kernel)
theorem w_1307 : Cond.instanceMethod ⟨"TapeStudio","turnOf","(II)I"⟩ ∈ m_big := m_big_mem (i := 1307) (by decide +kernel) (by decide +kernel)
theorem w_1308 : Cond.selects "TapeStudio" ⟨"TapeStudio","turnOf","(II)I"⟩ ⟨"TapeStudio","turnOf","(II)I"⟩ ∈ m_big := m_big_mem (i := 1308) (by decide +kernel) (by decide +kernel)
theorem lm_L_149 : m_MV RL 149 yX10_turnOf cX10_turnOf 4 (some .int) 2 := ⟨⟨Or.inl w_1306, w_126, w_1309, by decide +kernel, by decide⟩, w_1307, w_1308⟩
theorem w_2155 : Cond.methodLink "TapeStudioLaw" 152 ⟨"TapeStudioModel","turnOf","(II)I"⟩ ∈ m_big := m_big_mem (i := 2155) (by decide +kernel) (by decide +kernel)
theorem w_2158 : Cond.code ⟨"TapeStudioModel","turnOf","(II)I"⟩ prog_13_method_96_code 3 (Option.some .int) ∈ m_big := m_big_mem (i := 2158) (by decide +kernel) (by decide +kernel)
theorem w_2156 : Cond.instanceMethod ⟨"TapeStudioModel","turnOf","(II)I"⟩ ∈ m_big := m_big_mem (i := 2156) (by decide +kernel) (by decide +kernel)
theorem w_2157 : Cond.selects "TapeStudioModel" ⟨"TapeStudioModel","turnOf","(II)I"⟩ ⟨"TapeStudioModel","turnOf","(II)I"⟩ ∈ m_big := m_big_mem (i := 2157) (by decide +kernel) (by decide +kernel)
theorem lm_L_152 : m_MV RL 152 yX11_turnOf cX11_turnOf 3 (some .int) 2 := ⟨⟨Or.inl w_2155, w_135, w_2158, by decide +kernel, by decide⟩, w_2156, w_2157⟩
theorem w_1319 : Cond.methodLink "TapeStudioLaw" 153 ⟨"TapeStudio","deep","(I)I"⟩ ∈ m_big := m_big_mem (i := 1319) (by decide +kernel) (by decide +kernel)
theorem w_1322 : Cond.code ⟨"TapeStudio","deep","(I)I"⟩ prog_1_method_36_code 3 (Option.some .int) ∈ m_big := m_big_mem (i := 1322) (by decide +kernel) (by decide +kernel)
theorem w_1320 : Cond.instanceMethod ⟨"TapeStudio","deep","(I)I"⟩ ∈ m_big := m_big_mem (i := 1320) (by decide +kernel) (by decide +kernel)
theorem w_1321 : Cond.selects "TapeStudio" ⟨"TapeStudio","deep","(I)I"⟩ ⟨"TapeStudio","deep","(I)I"⟩ ∈ m_big := m_big_mem (i := 1321) (by decide +kernel) (by decide +kernel)
theorem lm_L_153 : m_MV RL 153 yX10_deep cX10_deep 3 (some .int) 1 := ⟨⟨Or.inl w_1319, w_126, w_1322, by decide +kernel, by decide⟩, w_1320, w_1321⟩
theorem w_2159 : Cond.methodLink "TapeStudioLaw" 156 ⟨"TapeStudioModel","deep","(I)I"⟩ ∈ m_big := m_big_mem (i := 2159) (by decide +kernel) (by decide +kernel)
theorem w_2162 : Cond.code ⟨"TapeStudioModel","deep","(I)I"⟩ prog_13_method_97_code 7 (Option.some .int) ∈ m_big := m_big_mem (i := 2162) (by decide +kernel) (by decide +kernel)
theorem w_2160 : Cond.instanceMethod ⟨"TapeStudioModel","deep","(I)I"⟩ ∈ m_big := m_big_mem (i := 2160) (by decide +kernel) (by decide +kernel)
theorem w_2161 : Cond.selects "TapeStudioModel" ⟨"TapeStudioModel","deep","(I)I"⟩ ⟨"TapeStudioModel","deep","(I)I"⟩ ∈ m_big := m_big_mem (i := 2161) (by decide +kernel) (by decide +kernel)
theorem lm_L_156 : m_MV RL 156 yX11_deep cX11_deep 7 (some .int) 1 := ⟨⟨Or.inl w_2159, w_135, w_2162, by decide +kernel, by decide⟩, w_2160, w_2161⟩
theorem w_1333 : Cond.methodLink "TapeStudioLaw" 157 ⟨"TapeStudio","tape","(I)I"⟩ ∈ m_big := m_big_mem (i := 1333) (by decide +kernel) (by decide +kernel)
theorem w_1336 : Cond.code ⟨"TapeStudio","tape","(I)I"⟩ prog_1_method_37_code 3 (Option.some .int) ∈ m_big := m_big_mem (i := 1336) (by decide +kernel) (by decide +kernel)
theorem w_1334 : Cond.instanceMethod ⟨"TapeStudio","tape","(I)I"⟩ ∈ m_big := m_big_mem (i := 1334) (by decide +kernel) (by decide +kernel)
theorem w_1335 : Cond.selects "TapeStudio" ⟨"TapeStudio","tape","(I)I"⟩ ⟨"TapeStudio","tape","(I)I"⟩ ∈ m_big := m_big_mem (i := 1335) (by decide +kernel) (by decide +kernel)
theorem lm_L_157 : m_MV RL 157 yX10_tape cX10_tape 3 (some .int) 1 := ⟨⟨Or.inl w_1333, w_126, w_1336, by decide +kernel, by decide⟩, w_1334, w_1335⟩
theorem w_2163 : Cond.methodLink "TapeStudioLaw" 160 ⟨"TapeStudioModel","tape","(I)I"⟩ ∈ m_big := m_big_mem (i := 2163) (by decide +kernel) (by decide +kernel)
theorem w_2166 : Cond.code ⟨"TapeStudioModel","tape","(I)I"⟩ prog_13_method_98_code 3 (Option.some .int) ∈ m_big := m_big_mem (i := 2166) (by decide +kernel) (by decide +kernel)
theorem w_2164 : Cond.instanceMethod ⟨"TapeStudioModel","tape","(I)I"⟩ ∈ m_big := m_big_mem (i := 2164) (by decide +kernel) (by decide +kernel)
theorem w_2165 : Cond.selects "TapeStudioModel" ⟨"TapeStudioModel","tape","(I)I"⟩ ⟨"TapeStudioModel","tape","(I)I"⟩ ∈ m_big := m_big_mem (i := 2165) (by decide +kernel) (by decide +kernel)
theorem lm_L_160 : m_MV RL 160 yX11_tape cX11_tape 3 (some .int) 1 := ⟨⟨Or.inl w_2163, w_135, w_2166, by decide +kernel, by decide⟩, w_2164, w_2165⟩
theorem w_1341 : Cond.methodLink "TapeStudioLaw" 161 ⟨"TapeStudio","wipe","()I"⟩ ∈ m_big := m_big_mem (i := 1341) (by decide +kernel) (by decide +kernel)
theorem w_1344 : Cond.code ⟨"TapeStudio","wipe","()I"⟩ prog_1_method_38_code 1 (Option.some .int) ∈ m_big := m_big_mem (i := 1344) (by decide +kernel) (by decide +kernel)
theorem w_1342 : Cond.instanceMethod ⟨"TapeStudio","wipe","()I"⟩ ∈ m_big := m_big_mem (i := 1342) (by decide +kernel) (by decide +kernel)
theorem w_1343 : Cond.selects "TapeStudio" ⟨"TapeStudio","wipe","()I"⟩ ⟨"TapeStudio","wipe","()I"⟩ ∈ m_big := m_big_mem (i := 1343) (by decide +kernel) (by decide +kernel)
theorem lm_L_161 : m_MV RL 161 yX10_wipe cX10_wipe 1 (some .int) 0 := ⟨⟨Or.inl w_1341, w_126, w_1344, by decide +kernel, by decide⟩, w_1342, w_1343⟩
theorem w_2167 : Cond.methodLink "TapeStudioLaw" 164 ⟨"TapeStudioModel","wipe","()I"⟩ ∈ m_big := m_big_mem (i := 2167) (by decide +kernel) (by decide +kernel)
theorem w_2170 : Cond.code ⟨"TapeStudioModel","wipe","()I"⟩ prog_13_method_99_code 2 (Option.some .int) ∈ m_big := m_big_mem (i := 2170) (by decide +kernel) (by decide +kernel)
theorem w_2168 : Cond.instanceMethod ⟨"TapeStudioModel","wipe","()I"⟩ ∈ m_big := m_big_mem (i := 2168) (by decide +kernel) (by decide +kernel)
theorem w_2169 : Cond.selects "TapeStudioModel" ⟨"TapeStudioModel","wipe","()I"⟩ ⟨"TapeStudioModel","wipe","()I"⟩ ∈ m_big := m_big_mem (i := 2169) (by decide +kernel) (by decide +kernel)
theorem lm_L_164 : m_MV RL 164 yX11_wipe cX11_wipe 2 (some .int) 0 := ⟨⟨Or.inl w_2167, w_135, w_2170, by decide +kernel, by decide⟩, w_2168, w_2169⟩
theorem w_1345 : Cond.methodLink "TapeStudioLaw" 165 ⟨"TapeStudio","near","(IIII)I"⟩ ∈ m_big := m_big_mem (i := 1345) (by decide +kernel) (by decide +kernel)
theorem w_1348 : Cond.code ⟨"TapeStudio","near","(IIII)I"⟩ prog_1_method_39_code 5 (Option.some .int) ∈ m_big := m_big_mem (i := 1348) (by decide +kernel) (by decide +kernel)
theorem w_1346 : Cond.instanceMethod ⟨"TapeStudio","near","(IIII)I"⟩ ∈ m_big := m_big_mem (i := 1346) (by decide +kernel) (by decide +kernel)
theorem w_1347 : Cond.selects "TapeStudio" ⟨"TapeStudio","near","(IIII)I"⟩ ⟨"TapeStudio","near","(IIII)I"⟩ ∈ m_big := m_big_mem (i := 1347) (by decide +kernel) (by decide +kernel)
theorem lm_L_165 : m_MV RL 165 yX10_near cX10_near 5 (some .int) 4 := ⟨⟨Or.inl w_1345, w_126, w_1348, by decide +kernel, by decide⟩, w_1346, w_1347⟩
theorem w_2171 : Cond.methodLink "TapeStudioLaw" 168 ⟨"TapeStudioModel","near","(IIII)I"⟩ ∈ m_big := m_big_mem (i := 2171) (by decide +kernel) (by decide +kernel)
theorem w_2174 : Cond.code ⟨"TapeStudioModel","near","(IIII)I"⟩ prog_13_method_106_code 5 (Option.some .int) ∈ m_big := m_big_mem (i := 2174) (by decide +kernel) (by decide +kernel)
theorem w_2172 : Cond.instanceMethod ⟨"TapeStudioModel","near","(IIII)I"⟩ ∈ m_big := m_big_mem (i := 2172) (by decide +kernel) (by decide +kernel)
theorem w_2173 : Cond.selects "TapeStudioModel" ⟨"TapeStudioModel","near","(IIII)I"⟩ ⟨"TapeStudioModel","near","(IIII)I"⟩ ∈ m_big := m_big_mem (i := 2173) (by decide +kernel) (by decide +kernel)
theorem lm_L_168 : m_MV RL 168 yX11_near cX11_near 5 (some .int) 4 := ⟨⟨Or.inl w_2171, w_135, w_2174, by decide +kernel, by decide⟩, w_2172, w_2173⟩
theorem w_1384 : Cond.methodLink "TapeStudioLaw" 169 ⟨"TapeStudio","rivals","(III)I"⟩ ∈ m_big := m_big_mem (i := 1384) (by decide +kernel) (by decide +kernel)
theorem w_1387 : Cond.code ⟨"TapeStudio","rivals","(III)I"⟩ prog_1_method_40_code 4 (Option.some .int) ∈ m_big := m_big_mem (i := 1387) (by decide +kernel) (by decide +kernel)
theorem w_1385 : Cond.instanceMethod ⟨"TapeStudio","rivals","(III)I"⟩ ∈ m_big := m_big_mem (i := 1385) (by decide +kernel) (by decide +kernel)
theorem w_1386 : Cond.selects "TapeStudio" ⟨"TapeStudio","rivals","(III)I"⟩ ⟨"TapeStudio","rivals","(III)I"⟩ ∈ m_big := m_big_mem (i := 1386) (by decide +kernel) (by decide +kernel)
theorem lm_L_169 : m_MV RL 169 yX10_rivals cX10_rivals 4 (some .int) 3 := ⟨⟨Or.inl w_1384, w_126, w_1387, by decide +kernel, by decide⟩, w_1385, w_1386⟩
theorem w_2199 : Cond.methodLink "TapeStudioLaw" 172 ⟨"TapeStudioModel","rivals","(III)I"⟩ ∈ m_big := m_big_mem (i := 2199) (by decide +kernel) (by decide +kernel)
theorem w_2202 : Cond.code ⟨"TapeStudioModel","rivals","(III)I"⟩ prog_13_method_107_code 4 (Option.some .int) ∈ m_big := m_big_mem (i := 2202) (by decide +kernel) (by decide +kernel)
theorem w_2200 : Cond.instanceMethod ⟨"TapeStudioModel","rivals","(III)I"⟩ ∈ m_big := m_big_mem (i := 2200) (by decide +kernel) (by decide +kernel)
theorem w_2201 : Cond.selects "TapeStudioModel" ⟨"TapeStudioModel","rivals","(III)I"⟩ ⟨"TapeStudioModel","rivals","(III)I"⟩ ∈ m_big := m_big_mem (i := 2201) (by decide +kernel) (by decide +kernel)
theorem lm_L_172 : m_MV RL 172 yX11_rivals cX11_rivals 4 (some .int) 3 := ⟨⟨Or.inl w_2199, w_135, w_2202, by decide +kernel, by decide⟩, w_2200, w_2201⟩
theorem w_1388 : Cond.methodLink "TapeStudioLaw" 173 ⟨"TapeStudio","remade","(II)I"⟩ ∈ m_big := m_big_mem (i := 1388) (by decide +kernel) (by decide +kernel)
theorem w_1391 : Cond.code ⟨"TapeStudio","remade","(II)I"⟩ prog_1_method_41_code 3 (Option.some .int) ∈ m_big := m_big_mem (i := 1391) (by decide +kernel) (by decide +kernel)
theorem w_1389 : Cond.instanceMethod ⟨"TapeStudio","remade","(II)I"⟩ ∈ m_big := m_big_mem (i := 1389) (by decide +kernel) (by decide +kernel)
theorem w_1390 : Cond.selects "TapeStudio" ⟨"TapeStudio","remade","(II)I"⟩ ⟨"TapeStudio","remade","(II)I"⟩ ∈ m_big := m_big_mem (i := 1390) (by decide +kernel) (by decide +kernel)
theorem lm_L_173 : m_MV RL 173 yX10_remade cX10_remade 3 (some .int) 2 := ⟨⟨Or.inl w_1388, w_126, w_1391, by decide +kernel, by decide⟩, w_1389, w_1390⟩
theorem w_2203 : Cond.methodLink "TapeStudioLaw" 176 ⟨"TapeStudioModel","remade","(II)I"⟩ ∈ m_big := m_big_mem (i := 2203) (by decide +kernel) (by decide +kernel)
theorem w_2206 : Cond.code ⟨"TapeStudioModel","remade","(II)I"⟩ prog_13_method_111_code 3 (Option.some .int) ∈ m_big := m_big_mem (i := 2206) (by decide +kernel) (by decide +kernel)
theorem w_2204 : Cond.instanceMethod ⟨"TapeStudioModel","remade","(II)I"⟩ ∈ m_big := m_big_mem (i := 2204) (by decide +kernel) (by decide +kernel)
theorem w_2205 : Cond.selects "TapeStudioModel" ⟨"TapeStudioModel","remade","(II)I"⟩ ⟨"TapeStudioModel","remade","(II)I"⟩ ∈ m_big := m_big_mem (i := 2205) (by decide +kernel) (by decide +kernel)
theorem lm_L_176 : m_MV RL 176 yX11_remade cX11_remade 3 (some .int) 2 := ⟨⟨Or.inl w_2203, w_135, w_2206, by decide +kernel, by decide⟩, w_2204, w_2205⟩
theorem w_1421 : Cond.methodLink "TapeStudioLaw" 177 ⟨"TapeStudio","stretch","(III)I"⟩ ∈ m_big := m_big_mem (i := 1421) (by decide +kernel) (by decide +kernel)
theorem w_1424 : Cond.code ⟨"TapeStudio","stretch","(III)I"⟩ prog_1_method_42_code 4 (Option.some .int) ∈ m_big := m_big_mem (i := 1424) (by decide +kernel) (by decide +kernel)
theorem w_1422 : Cond.instanceMethod ⟨"TapeStudio","stretch","(III)I"⟩ ∈ m_big := m_big_mem (i := 1422) (by decide +kernel) (by decide +kernel)
theorem w_1423 : Cond.selects "TapeStudio" ⟨"TapeStudio","stretch","(III)I"⟩ ⟨"TapeStudio","stretch","(III)I"⟩ ∈ m_big := m_big_mem (i := 1423) (by decide +kernel) (by decide +kernel)
theorem lm_L_177 : m_MV RL 177 yX10_stretch cX10_stretch 4 (some .int) 3 := ⟨⟨Or.inl w_1421, w_126, w_1424, by decide +kernel, by decide⟩, w_1422, w_1423⟩
theorem w_2219 : Cond.methodLink "TapeStudioLaw" 180 ⟨"TapeStudioModel","stretch","(III)I"⟩ ∈ m_big := m_big_mem (i := 2219) (by decide +kernel) (by decide +kernel)
theorem w_2222 : Cond.code ⟨"TapeStudioModel","stretch","(III)I"⟩ prog_13_method_112_code 7 (Option.some .int) ∈ m_big := m_big_mem (i := 2222) (by decide +kernel) (by decide +kernel)
theorem w_2220 : Cond.instanceMethod ⟨"TapeStudioModel","stretch","(III)I"⟩ ∈ m_big := m_big_mem (i := 2220) (by decide +kernel) (by decide +kernel)
theorem w_2221 : Cond.selects "TapeStudioModel" ⟨"TapeStudioModel","stretch","(III)I"⟩ ⟨"TapeStudioModel","stretch","(III)I"⟩ ∈ m_big := m_big_mem (i := 2221) (by decide +kernel) (by decide +kernel)
theorem lm_L_180 : m_MV RL 180 yX11_stretch cX11_stretch 7 (some .int) 3 := ⟨⟨Or.inl w_2219, w_135, w_2222, by decide +kernel, by decide⟩, w_2220, w_2221⟩
theorem w_1434 : Cond.methodLink "TapeStudioLaw" 181 ⟨"TapeStudio","unfound","(II)I"⟩ ∈ m_big := m_big_mem (i := 1434) (by decide +kernel) (by decide +kernel)
theorem w_1437 : Cond.code ⟨"TapeStudio","unfound","(II)I"⟩ prog_1_method_43_code 3 (Option.some .int) ∈ m_big := m_big_mem (i := 1437) (by decide +kernel) (by decide +kernel)
theorem w_1435 : Cond.instanceMethod ⟨"TapeStudio","unfound","(II)I"⟩ ∈ m_big := m_big_mem (i := 1435) (by decide +kernel) (by decide +kernel)
theorem w_1436 : Cond.selects "TapeStudio" ⟨"TapeStudio","unfound","(II)I"⟩ ⟨"TapeStudio","unfound","(II)I"⟩ ∈ m_big := m_big_mem (i := 1436) (by decide +kernel) (by decide +kernel)
theorem lm_L_181 : m_MV RL 181 yX10_unfound cX10_unfound 3 (some .int) 2 := ⟨⟨Or.inl w_1434, w_126, w_1437, by decide +kernel, by decide⟩, w_1435, w_1436⟩
theorem w_2223 : Cond.methodLink "TapeStudioLaw" 184 ⟨"TapeStudioModel","unfound","(II)I"⟩ ∈ m_big := m_big_mem (i := 2223) (by decide +kernel) (by decide +kernel)
theorem w_2226 : Cond.code ⟨"TapeStudioModel","unfound","(II)I"⟩ prog_13_method_113_code 5 (Option.some .int) ∈ m_big := m_big_mem (i := 2226) (by decide +kernel) (by decide +kernel)
theorem w_2224 : Cond.instanceMethod ⟨"TapeStudioModel","unfound","(II)I"⟩ ∈ m_big := m_big_mem (i := 2224) (by decide +kernel) (by decide +kernel)
theorem w_2225 : Cond.selects "TapeStudioModel" ⟨"TapeStudioModel","unfound","(II)I"⟩ ⟨"TapeStudioModel","unfound","(II)I"⟩ ∈ m_big := m_big_mem (i := 2225) (by decide +kernel) (by decide +kernel)
theorem lm_L_184 : m_MV RL 184 yX11_unfound cX11_unfound 5 (some .int) 2 := ⟨⟨Or.inl w_2223, w_135, w_2226, by decide +kernel, by decide⟩, w_2224, w_2225⟩
theorem w_1442 : Cond.methodLink "TapeStudioLaw" 185 ⟨"TapeStudio","count","(I)I"⟩ ∈ m_big := m_big_mem (i := 1442) (by decide +kernel) (by decide +kernel)
theorem w_1445 : Cond.code ⟨"TapeStudio","count","(I)I"⟩ prog_1_method_44_code 3 (Option.some .int) ∈ m_big := m_big_mem (i := 1445) (by decide +kernel) (by decide +kernel)
theorem w_1443 : Cond.instanceMethod ⟨"TapeStudio","count","(I)I"⟩ ∈ m_big := m_big_mem (i := 1443) (by decide +kernel) (by decide +kernel)
theorem w_1444 : Cond.selects "TapeStudio" ⟨"TapeStudio","count","(I)I"⟩ ⟨"TapeStudio","count","(I)I"⟩ ∈ m_big := m_big_mem (i := 1444) (by decide +kernel) (by decide +kernel)
theorem lm_L_185 : m_MV RL 185 yX10_count cX10_count 3 (some .int) 1 := ⟨⟨Or.inl w_1442, w_126, w_1445, by decide +kernel, by decide⟩, w_1443, w_1444⟩
theorem w_2227 : Cond.methodLink "TapeStudioLaw" 188 ⟨"TapeStudioModel","count","(I)I"⟩ ∈ m_big := m_big_mem (i := 2227) (by decide +kernel) (by decide +kernel)
theorem w_2230 : Cond.code ⟨"TapeStudioModel","count","(I)I"⟩ prog_13_method_114_code 4 (Option.some .int) ∈ m_big := m_big_mem (i := 2230) (by decide +kernel) (by decide +kernel)
theorem w_2228 : Cond.instanceMethod ⟨"TapeStudioModel","count","(I)I"⟩ ∈ m_big := m_big_mem (i := 2228) (by decide +kernel) (by decide +kernel)
theorem w_2229 : Cond.selects "TapeStudioModel" ⟨"TapeStudioModel","count","(I)I"⟩ ⟨"TapeStudioModel","count","(I)I"⟩ ∈ m_big := m_big_mem (i := 2229) (by decide +kernel) (by decide +kernel)
theorem lm_L_188 : m_MV RL 188 yX11_count cX11_count 4 (some .int) 1 := ⟨⟨Or.inl w_2227, w_135, w_2230, by decide +kernel, by decide⟩, w_2228, w_2229⟩
theorem w_145 : Cond.classLink "TapeStudioLaw" 7 "TapeStudio" ∈ m_big := m_big_mem (i := 145) (by decide +kernel) (by decide +kernel)
theorem w_146 : Cond.instantiable "TapeStudio" 10 ∈ m_big := m_big_mem (i := 146) (by decide +kernel) (by decide +kernel)
theorem ln_L_7 : m_NL RL 7 10 := ⟨RX10, TX10, 10, tyX10, rfl, rfl, by decide, uw_10, w_145, w_146, w_126, tyX10_ok, by decide +kernel⟩
theorem w_147 : Cond.methodLink "TapeStudioLaw" 9 ⟨"TapeStudio","<init>","()V"⟩ ∈ m_big := m_big_mem (i := 147) (by decide +kernel) (by decide +kernel)
theorem w_149 : Cond.code ⟨"TapeStudio","<init>","()V"⟩ prog_1_method_1_code 1 (Option.none : Option Jvm.ClassFile.FieldType) ∈ m_big := m_big_mem (i := 149) (by decide +kernel) (by decide +kernel)
theorem w_148 : Cond.instanceMethod ⟨"TapeStudio","<init>","()V"⟩ ∈ m_big := m_big_mem (i := 148) (by decide +kernel) (by decide +kernel)
theorem lm_L_9 : m_MI RL 9 yX10_init cX10_init 1 0 := ⟨⟨Or.inl w_147, w_126, w_149, by decide +kernel, by decide⟩, w_148, rfl⟩
theorem w_1450 : Cond.classLink "TapeStudioLaw" 10 "TapeStudioModel" ∈ m_big := m_big_mem (i := 1450) (by decide +kernel) (by decide +kernel)
theorem w_1451 : Cond.instantiable "TapeStudioModel" 92 ∈ m_big := m_big_mem (i := 1451) (by decide +kernel) (by decide +kernel)
theorem ln_L_10 : m_NL RL 10 11 := ⟨RX11, TX11, 92, tyX11, rfl, rfl, by decide, uw_11, w_1450, w_1451, w_135, tyX11_ok, by decide +kernel⟩
theorem w_1452 : Cond.methodLink "TapeStudioLaw" 12 ⟨"TapeStudioModel","<init>","()V"⟩ ∈ m_big := m_big_mem (i := 1452) (by decide +kernel) (by decide +kernel)
theorem w_1454 : Cond.code ⟨"TapeStudioModel","<init>","()V"⟩ prog_13_method_3_code 1 (Option.none : Option Jvm.ClassFile.FieldType) ∈ m_big := m_big_mem (i := 1454) (by decide +kernel) (by decide +kernel)
theorem w_1453 : Cond.instanceMethod ⟨"TapeStudioModel","<init>","()V"⟩ ∈ m_big := m_big_mem (i := 1453) (by decide +kernel) (by decide +kernel)
theorem lm_L_12 : m_MI RL 12 yX11_init cX11_init 1 0 := ⟨⟨Or.inl w_1452, w_135, w_1454, by decide +kernel, by decide⟩, w_1453, rfl⟩
set_option maxRecDepth 100000 in
def tL_law_c18 (xn : Int) (xs : Int → Int) (v0 v1 v2 v3 : Int) (h : m_H) : Option (Bool × m_H) :=
  (if v0 = -1 then (if (m_w (xn - 6)) < (m_w v3) then
  some (true, h)
else
  (if 0 ≤ (m_w v3) ∧ (m_w v3) < xn then (if (m_w (m_and (xs (m_w v3)) 63)) = 0 then
    (if 0 ≤ (m_w (v3 + 1)) ∧ (m_w (v3 + 1)) < xn then if 0 ≤ (m_w (v3 + 2)) ∧ (m_w (v3 + 2)) < xn then if 0 ≤ (m_w (v3 + 3)) ∧ (m_w (v3 + 3)) < xn then if 0 ≤ (m_w (v3 + 4)) ∧ (m_w (v3 + 4)) < xn then if 0 ≤ (m_w (v3 + 5)) ∧ (m_w (v3 + 5)) < xn then if m_t h v1 = 10 then t10_hand v1 (xs (m_w (v3 + 1))) (xs (m_w (v3 + 2))) (xs (m_w (v3 + 3))) (xs (m_w (v3 + 4))) (xs (m_w (v3 + 5))) h >>= fun ⟨r12, h11⟩ => if m_t h11 v2 = 11 then t11_hand v2 (xs (m_w (v3 + 1))) (xs (m_w (v3 + 2))) (xs (m_w (v3 + 3))) (xs (m_w (v3 + 4))) (xs (m_w (v3 + 5))) h11 >>= fun ⟨r15, h14⟩ => (if (m_w r12) = (m_w r15) then
      (tL_law_c18 xn xs v0 v1 v2 (v3 + 6) h14)
    else
      some (false, h14)) else none else none else none else none else none else none else none)
  else (if (m_w (m_and (xs (m_w v3)) 63)) = 1 then
    (if m_t h v1 = 10 then t10_drop v1 h >>= fun ⟨r20, h19⟩ => if m_t h19 v2 = 11 then t11_drop v2 h19 >>= fun ⟨r23, h22⟩ => (if (m_w r20) = (m_w r23) then
      (tL_law_c18 xn xs v0 v1 v2 (v3 + 6) h22)
    else
      some (false, h22)) else none else none)
  else (if (m_w (m_and (xs (m_w v3)) 63)) = 2 then
    (if 0 ≤ (m_w (v3 + 1)) ∧ (m_w (v3 + 1)) < xn then if m_t h v1 = 10 then t10_strip v1 (xs (m_w (v3 + 1))) h >>= fun ⟨r29, h28⟩ => if m_t h28 v2 = 11 then t11_strip v2 (xs (m_w (v3 + 1))) h28 >>= fun ⟨r32, h31⟩ => (if (m_w r29) = (m_w r32) then
      (tL_law_c18 xn xs v0 v1 v2 (v3 + 6) h31)
    else
      some (false, h31)) else none else none else none)
  else (if (m_w (m_and (xs (m_w v3)) 63)) = 3 then
    (if 0 ≤ (m_w (v3 + 1)) ∧ (m_w (v3 + 1)) < xn then if m_t h v1 = 10 then t10_sliver v1 (xs (m_w (v3 + 1))) h >>= fun ⟨r38, h37⟩ => if m_t h37 v2 = 11 then t11_sliver v2 (xs (m_w (v3 + 1))) h37 >>= fun ⟨r41, h40⟩ => (if (m_w (m_b2i r38)) = (m_w (m_b2i r41)) then
      (tL_law_c18 xn xs v0 v1 v2 (v3 + 6) h40)
    else
      some (false, h40)) else none else none else none)
  else (if (m_w (m_and (xs (m_w v3)) 63)) = 4 then
    (if 0 ≤ (m_w (v3 + 1)) ∧ (m_w (v3 + 1)) < xn then if 0 ≤ (m_w (v3 + 2)) ∧ (m_w (v3 + 2)) < xn then if m_t h v1 = 10 then t10_cut v1 (xs (m_w (v3 + 1))) (xs (m_w (v3 + 2))) h >>= fun ⟨r48, h47⟩ => if m_t h47 v2 = 11 then t11_cut v2 (xs (m_w (v3 + 1))) (xs (m_w (v3 + 2))) h47 >>= fun ⟨r51, h50⟩ => (if (m_w r48) = (m_w r51) then
      (tL_law_c18 xn xs v0 v1 v2 (v3 + 6) h50)
    else
      some (false, h50)) else none else none else none else none)
  else (if (m_w (m_and (xs (m_w v3)) 63)) = 5 then
    (if 0 ≤ (m_w (v3 + 1)) ∧ (m_w (v3 + 1)) < xn then if m_t h v1 = 10 then t10_turn v1 (xs (m_w (v3 + 1))) h >>= fun ⟨r57, h56⟩ => if m_t h56 v2 = 11 then t11_turn v2 (xs (m_w (v3 + 1))) h56 >>= fun ⟨r60, h59⟩ => (if (m_w r57) = (m_w r60) then
      (tL_law_c18 xn xs v0 v1 v2 (v3 + 6) h59)
    else
      some (false, h59)) else none else none else none)
  else (if (m_w (m_and (xs (m_w v3)) 63)) = 6 then
    (if 0 ≤ (m_w (v3 + 1)) ∧ (m_w (v3 + 1)) < xn then if m_t h v1 = 10 then t10_loop v1 (xs (m_w (v3 + 1))) h >>= fun ⟨r66, h65⟩ => if m_t h65 v2 = 11 then t11_loop v2 (xs (m_w (v3 + 1))) h65 >>= fun ⟨r69, h68⟩ => (if (m_w r66) = (m_w r69) then
      (tL_law_c18 xn xs v0 v1 v2 (v3 + 6) h68)
    else
      some (false, h68)) else none else none else none)
  else (if (m_w (m_and (xs (m_w v3)) 63)) = 7 then
    (if 0 ≤ (m_w (v3 + 1)) ∧ (m_w (v3 + 1)) < xn then if m_t h v1 = 10 then t10_seam v1 (xs (m_w (v3 + 1))) h >>= fun ⟨r75, h74⟩ => if m_t h74 v2 = 11 then t11_seam v2 (xs (m_w (v3 + 1))) h74 >>= fun ⟨r78, h77⟩ => (if (m_w r75) = (m_w r78) then
      (tL_law_c18 xn xs v0 v1 v2 (v3 + 6) h77)
    else
      some (false, h77)) else none else none else none)
  else (if (m_w (m_and (xs (m_w v3)) 63)) = 8 then
    (if 0 ≤ (m_w (v3 + 1)) ∧ (m_w (v3 + 1)) < xn then if 0 ≤ (m_w (v3 + 2)) ∧ (m_w (v3 + 2)) < xn then if 0 ≤ (m_w (v3 + 3)) ∧ (m_w (v3 + 3)) < xn then if m_t h v1 = 10 then t10_splice v1 (xs (m_w (v3 + 1))) (xs (m_w (v3 + 2))) (xs (m_w (v3 + 3))) h >>= fun ⟨r86, h85⟩ => if m_t h85 v2 = 11 then t11_splice v2 (xs (m_w (v3 + 1))) (xs (m_w (v3 + 2))) (xs (m_w (v3 + 3))) h85 >>= fun ⟨r89, h88⟩ => (if (m_w r86) = (m_w r89) then
      (tL_law_c18 xn xs v0 v1 v2 (v3 + 6) h88)
    else
      some (false, h88)) else none else none else none else none else none)
  else (if (m_w (m_and (xs (m_w v3)) 63)) = 9 then
    (if 0 ≤ (m_w (v3 + 1)) ∧ (m_w (v3 + 1)) < xn then if 0 ≤ (m_w (v3 + 2)) ∧ (m_w (v3 + 2)) < xn then if 0 ≤ (m_w (v3 + 3)) ∧ (m_w (v3 + 3)) < xn then if m_t h v1 = 10 then t10_machine v1 (xs (m_w (v3 + 1))) (xs (m_w (v3 + 2))) (xs (m_w (v3 + 3))) h >>= fun ⟨r97, h96⟩ => if m_t h96 v2 = 11 then t11_machine v2 (xs (m_w (v3 + 1))) (xs (m_w (v3 + 2))) (xs (m_w (v3 + 3))) h96 >>= fun ⟨r100, h99⟩ => (if (m_w r97) = (m_w r100) then
      (tL_law_c18 xn xs v0 v1 v2 (v3 + 6) h99)
    else
      some (false, h99)) else none else none else none else none else none)
  else (if (m_w (m_and (xs (m_w v3)) 63)) = 10 then
    (if 0 ≤ (m_w (v3 + 1)) ∧ (m_w (v3 + 1)) < xn then if 0 ≤ (m_w (v3 + 2)) ∧ (m_w (v3 + 2)) < xn then if m_t h v1 = 10 then t10_copy v1 (xs (m_w (v3 + 1))) (xs (m_w (v3 + 2))) h >>= fun ⟨r107, h106⟩ => if m_t h106 v2 = 11 then t11_copy v2 (xs (m_w (v3 + 1))) (xs (m_w (v3 + 2))) h106 >>= fun ⟨r110, h109⟩ => (if (m_w r107) = (m_w r110) then
      (tL_law_c18 xn xs v0 v1 v2 (v3 + 6) h109)
    else
      some (false, h109)) else none else none else none else none)
  else (if (m_w (m_and (xs (m_w v3)) 63)) = 11 then
    (if 0 ≤ (m_w (v3 + 1)) ∧ (m_w (v3 + 1)) < xn then if 0 ≤ (m_w (v3 + 2)) ∧ (m_w (v3 + 2)) < xn then if 0 ≤ (m_w (v3 + 3)) ∧ (m_w (v3 + 3)) < xn then if 0 ≤ (m_w (v3 + 4)) ∧ (m_w (v3 + 4)) < xn then if m_t h v1 = 10 then t10_speed v1 (xs (m_w (v3 + 1))) (xs (m_w (v3 + 2))) (xs (m_w (v3 + 3))) (xs (m_w (v3 + 4))) h >>= fun ⟨r119, h118⟩ => if m_t h118 v2 = 11 then t11_speed v2 (xs (m_w (v3 + 1))) (xs (m_w (v3 + 2))) (xs (m_w (v3 + 3))) (xs (m_w (v3 + 4))) h118 >>= fun ⟨r122, h121⟩ => (if (m_w r119) = (m_w r122) then
      (tL_law_c18 xn xs v0 v1 v2 (v3 + 6) h121)
    else
      some (false, h121)) else none else none else none else none else none else none)
  else (if (m_w (m_and (xs (m_w v3)) 63)) = 12 then
    (if 0 ≤ (m_w (v3 + 1)) ∧ (m_w (v3 + 1)) < xn then if m_t h v1 = 10 then t10_lose v1 (xs (m_w (v3 + 1))) h >>= fun ⟨r128, h127⟩ => if m_t h127 v2 = 11 then t11_lose v2 (xs (m_w (v3 + 1))) h127 >>= fun ⟨r131, h130⟩ => (if (m_w (m_b2i r128)) = (m_w (m_b2i r131)) then
      (tL_law_c18 xn xs v0 v1 v2 (v3 + 6) h130)
    else
      some (false, h130)) else none else none else none)
  else (if (m_w (m_and (xs (m_w v3)) 63)) = 13 then
    (if 0 ≤ (m_w (v3 + 1)) ∧ (m_w (v3 + 1)) < xn then if 0 ≤ (m_w (v3 + 2)) ∧ (m_w (v3 + 2)) < xn then if m_t h v1 = 10 then t10_hang v1 (xs (m_w (v3 + 1))) (xs (m_w (v3 + 2))) h >>= fun ⟨r138, h137⟩ => if m_t h137 v2 = 11 then t11_hang v2 (xs (m_w (v3 + 1))) (xs (m_w (v3 + 2))) h137 >>= fun ⟨r141, h140⟩ => (if (m_w (m_b2i r138)) = (m_w (m_b2i r141)) then
      (tL_law_c18 xn xs v0 v1 v2 (v3 + 6) h140)
    else
      some (false, h140)) else none else none else none else none)
  else (if (m_w (m_and (xs (m_w v3)) 63)) = 14 then
    (if 0 ≤ (m_w (v3 + 1)) ∧ (m_w (v3 + 1)) < xn then if m_t h v1 = 10 then t10_nail v1 (xs (m_w (v3 + 1))) h >>= fun ⟨r147, h146⟩ => if m_t h146 v2 = 11 then t11_nail v2 (xs (m_w (v3 + 1))) h146 >>= fun ⟨r150, h149⟩ => (if (m_w r147) = (m_w r150) then
      (tL_law_c18 xn xs v0 v1 v2 (v3 + 6) h149)
    else
      some (false, h149)) else none else none else none)
  else (if (m_w (m_and (xs (m_w v3)) 63)) = 15 then
    (if 0 ≤ (m_w (v3 + 1)) ∧ (m_w (v3 + 1)) < xn then if 0 ≤ (m_w (v3 + 2)) ∧ (m_w (v3 + 2)) < xn then if m_t h v1 = 10 then t10_read v1 (xs (m_w (v3 + 1))) (xs (m_w (v3 + 2))) h >>= fun ⟨r157, h156⟩ => if m_t h156 v2 = 11 then t11_read v2 (xs (m_w (v3 + 1))) (xs (m_w (v3 + 2))) h156 >>= fun ⟨r160, h159⟩ => (if (m_w (m_b2i r157)) = (m_w (m_b2i r160)) then
      (tL_law_c18 xn xs v0 v1 v2 (v3 + 6) h159)
    else
      some (false, h159)) else none else none else none else none)
  else (if (m_w (m_and (xs (m_w v3)) 63)) = 16 then
    (if 0 ≤ (m_w (v3 + 1)) ∧ (m_w (v3 + 1)) < xn then if 0 ≤ (m_w (v3 + 2)) ∧ (m_w (v3 + 2)) < xn then if m_t h v1 = 10 then t10_marked v1 (xs (m_w (v3 + 1))) (xs (m_w (v3 + 2))) h >>= fun ⟨r167, h166⟩ => if m_t h166 v2 = 11 then t11_marked v2 (xs (m_w (v3 + 1))) (xs (m_w (v3 + 2))) h166 >>= fun ⟨r170, h169⟩ => (if (m_w r167) = (m_w r170) then
      (tL_law_c18 xn xs v0 v1 v2 (v3 + 6) h169)
    else
      some (false, h169)) else none else none else none else none)
  else (if (m_w (m_and (xs (m_w v3)) 63)) = 17 then
    (if 0 ≤ (m_w (v3 + 1)) ∧ (m_w (v3 + 1)) < xn then if m_t h v1 = 10 then t10_go v1 (xs (m_w (v3 + 1))) h >>= fun ⟨r176, h175⟩ => if m_t h175 v2 = 11 then t11_go v2 (xs (m_w (v3 + 1))) h175 >>= fun ⟨r179, h178⟩ => (if (m_w r176) = (m_w r179) then
      (tL_law_c18 xn xs v0 v1 v2 (v3 + 6) h178)
    else
      some (false, h178)) else none else none else none)
  else (if (m_w (m_and (xs (m_w v3)) 63)) = 18 then
    (if 0 ≤ (m_w (v3 + 1)) ∧ (m_w (v3 + 1)) < xn then if 0 ≤ (m_w (v3 + 2)) ∧ (m_w (v3 + 2)) < xn then if m_t h v1 = 10 then t10_sample v1 (xs (m_w (v3 + 1))) (xs (m_w (v3 + 2))) h >>= fun ⟨r186, h185⟩ => if m_t h185 v2 = 11 then t11_sample v2 (xs (m_w (v3 + 1))) (xs (m_w (v3 + 2))) h185 >>= fun ⟨r189, h188⟩ => (if (m_w r186) = (m_w r189) then
      (tL_law_c18 xn xs v0 v1 v2 (v3 + 6) h188)
    else
      some (false, h188)) else none else none else none else none)
  else (if (m_w (m_and (xs (m_w v3)) 63)) = 19 then
    (if 0 ≤ (m_w (v3 + 1)) ∧ (m_w (v3 + 1)) < xn then if 0 ≤ (m_w (v3 + 2)) ∧ (m_w (v3 + 2)) < xn then if m_t h v1 = 10 then t10_told v1 (xs (m_w (v3 + 1))) (xs (m_w (v3 + 2))) h >>= fun ⟨r196, h195⟩ => if m_t h195 v2 = 11 then t11_told v2 (xs (m_w (v3 + 1))) (xs (m_w (v3 + 2))) h195 >>= fun ⟨r199, h198⟩ => (if (m_w r196) = (m_w r199) then
      (tL_law_c18 xn xs v0 v1 v2 (v3 + 6) h198)
    else
      some (false, h198)) else none else none else none else none)
  else (if (m_w (m_and (xs (m_w v3)) 63)) = 20 then
    (if 0 ≤ (m_w (v3 + 1)) ∧ (m_w (v3 + 1)) < xn then if 0 ≤ (m_w (v3 + 2)) ∧ (m_w (v3 + 2)) < xn then if 0 ≤ (m_w (v3 + 3)) ∧ (m_w (v3 + 3)) < xn then if 0 ≤ (m_w (v3 + 4)) ∧ (m_w (v3 + 4)) < xn then if 0 ≤ (m_w (v3 + 5)) ∧ (m_w (v3 + 5)) < xn then if m_t h v1 = 10 then t10_feed v1 (xs (m_w (v3 + 1))) (xs (m_w (v3 + 2))) (xs (m_w (v3 + 3))) (xs (m_w (v3 + 4))) (xs (m_w (v3 + 5))) h >>= fun ⟨r209, h208⟩ => if m_t h208 v2 = 11 then t11_feed v2 (xs (m_w (v3 + 1))) (xs (m_w (v3 + 2))) (xs (m_w (v3 + 3))) (xs (m_w (v3 + 4))) (xs (m_w (v3 + 5))) h208 >>= fun ⟨r212, h211⟩ => (if (m_w r209) = (m_w r212) then
      (tL_law_c18 xn xs v0 v1 v2 (v3 + 6) h211)
    else
      some (false, h211)) else none else none else none else none else none else none else none)
  else (if (m_w (m_and (xs (m_w v3)) 63)) = 21 then
    (if 0 ≤ (m_w (v3 + 1)) ∧ (m_w (v3 + 1)) < xn then if m_t h v1 = 10 then t10_end v1 (xs (m_w (v3 + 1))) h >>= fun ⟨r218, h217⟩ => if m_t h217 v2 = 11 then t11_end v2 (xs (m_w (v3 + 1))) h217 >>= fun ⟨r221, h220⟩ => (if (m_w (m_b2i r218)) = (m_w (m_b2i r221)) then
      (tL_law_c18 xn xs v0 v1 v2 (v3 + 6) h220)
    else
      some (false, h220)) else none else none else none)
  else (if (m_w (m_and (xs (m_w v3)) 63)) = 22 then
    (if m_t h v1 = 10 then t10_fault v1 h >>= fun ⟨r226, h225⟩ => if m_t h225 v2 = 11 then t11_fault v2 h225 >>= fun ⟨r229, h228⟩ => (if (m_w r226) = (m_w r229) then
      (tL_law_c18 xn xs v0 v1 v2 (v3 + 6) h228)
    else
      some (false, h228)) else none else none)
  else (if (m_w (m_and (xs (m_w v3)) 63)) = 23 then
    (if m_t h v1 = 10 then t10_score v1 h >>= fun ⟨r234, h233⟩ => if m_t h233 v2 = 11 then t11_score v2 h233 >>= fun ⟨r237, h236⟩ => (if (m_w r234) = (m_w r237) then
      (tL_law_c18 xn xs v0 v1 v2 (v3 + 6) h236)
    else
      some (false, h236)) else none else none)
  else (if (m_w (m_and (xs (m_w v3)) 63)) = 24 then
    (if 0 ≤ (m_w (v3 + 1)) ∧ (m_w (v3 + 1)) < xn then if 0 ≤ (m_w (v3 + 2)) ∧ (m_w (v3 + 2)) < xn then if m_t h v1 = 10 then t10_make v1 (xs (m_w (v3 + 1))) (xs (m_w (v3 + 2))) h >>= fun ⟨r244, h243⟩ => if m_t h243 v2 = 11 then t11_make v2 (xs (m_w (v3 + 1))) (xs (m_w (v3 + 2))) h243 >>= fun ⟨r247, h246⟩ => (if (m_w r244) = (m_w r247) then
      (tL_law_c18 xn xs v0 v1 v2 (v3 + 6) h246)
    else
      some (false, h246)) else none else none else none else none)
  else (if (m_w (m_and (xs (m_w v3)) 63)) = 25 then
    (if 0 ≤ (m_w (v3 + 1)) ∧ (m_w (v3 + 1)) < xn then if 0 ≤ (m_w (v3 + 2)) ∧ (m_w (v3 + 2)) < xn then if m_t h v1 = 10 then t10_fails v1 (xs (m_w (v3 + 1))) (xs (m_w (v3 + 2))) h >>= fun ⟨r254, h253⟩ => if m_t h253 v2 = 11 then t11_fails_ v2 (xs (m_w (v3 + 1))) (xs (m_w (v3 + 2))) h253 >>= fun ⟨r257, h256⟩ => (if (m_w r254) = (m_w r257) then
      (tL_law_c18 xn xs v0 v1 v2 (v3 + 6) h256)
    else
      some (false, h256)) else none else none else none else none)
  else (if (m_w (m_and (xs (m_w v3)) 63)) = 26 then
    (if 0 ≤ (m_w (v3 + 1)) ∧ (m_w (v3 + 1)) < xn then if m_t h v1 = 10 then t10_out v1 (xs (m_w (v3 + 1))) h >>= fun ⟨r263, h262⟩ => if m_t h262 v2 = 11 then t11_out v2 (xs (m_w (v3 + 1))) h262 >>= fun ⟨r266, h265⟩ => (if (m_w r263) = (m_w r266) then
      (tL_law_c18 xn xs v0 v1 v2 (v3 + 6) h265)
    else
      some (false, h265)) else none else none else none)
  else (if (m_w (m_and (xs (m_w v3)) 63)) = 27 then
    (if 0 ≤ (m_w (v3 + 1)) ∧ (m_w (v3 + 1)) < xn then if 0 ≤ (m_w (v3 + 2)) ∧ (m_w (v3 + 2)) < xn then if m_t h v1 = 10 then t10_why v1 (xs (m_w (v3 + 1))) (xs (m_w (v3 + 2))) h >>= fun ⟨r273, h272⟩ => if m_t h272 v2 = 11 then t11_why v2 (xs (m_w (v3 + 1))) (xs (m_w (v3 + 2))) h272 >>= fun ⟨r276, h275⟩ => (if (m_w r273) = (m_w r276) then
      (tL_law_c18 xn xs v0 v1 v2 (v3 + 6) h275)
    else
      some (false, h275)) else none else none else none else none)
  else (if (m_w (m_and (xs (m_w v3)) 63)) = 28 then
    (if 0 ≤ (m_w (v3 + 1)) ∧ (m_w (v3 + 1)) < xn then if 0 ≤ (m_w (v3 + 2)) ∧ (m_w (v3 + 2)) < xn then if 0 ≤ (m_w (v3 + 3)) ∧ (m_w (v3 + 3)) < xn then if m_t h v1 = 10 then t10_lead v1 (xs (m_w (v3 + 1))) (xs (m_w (v3 + 2))) (xs (m_w (v3 + 3))) h >>= fun ⟨r284, h283⟩ => if m_t h283 v2 = 11 then t11_lead v2 (xs (m_w (v3 + 1))) (xs (m_w (v3 + 2))) (xs (m_w (v3 + 3))) h283 >>= fun ⟨r287, h286⟩ => (if (m_w r284) = (m_w r287) then
      (tL_law_c18 xn xs v0 v1 v2 (v3 + 6) h286)
    else
      some (false, h286)) else none else none else none else none else none)
  else (if (m_w (m_and (xs (m_w v3)) 63)) = 29 then
    (if 0 ≤ (m_w (v3 + 1)) ∧ (m_w (v3 + 1)) < xn then if m_t h v1 = 10 then t10_quarrel v1 (xs (m_w (v3 + 1))) h >>= fun ⟨r293, h292⟩ => if m_t h292 v2 = 11 then t11_quarrel v2 (xs (m_w (v3 + 1))) h292 >>= fun ⟨r296, h295⟩ => (if (m_w r293) = (m_w r296) then
      (tL_law_c18 xn xs v0 v1 v2 (v3 + 6) h295)
    else
      some (false, h295)) else none else none else none)
  else (if (m_w (m_and (xs (m_w v3)) 63)) = 30 then
    (if 0 ≤ (m_w (v3 + 1)) ∧ (m_w (v3 + 1)) < xn then if m_t h v1 = 10 then t10_open v1 (xs (m_w (v3 + 1))) h >>= fun ⟨r302, h301⟩ => if m_t h301 v2 = 11 then t11_open v2 (xs (m_w (v3 + 1))) h301 >>= fun ⟨r305, h304⟩ => (if (m_w r302) = (m_w r305) then
      (tL_law_c18 xn xs v0 v1 v2 (v3 + 6) h304)
    else
      some (false, h304)) else none else none else none)
  else (if (m_w (m_and (xs (m_w v3)) 63)) = 31 then
    (if 0 ≤ (m_w (v3 + 1)) ∧ (m_w (v3 + 1)) < xn then if m_t h v1 = 10 then t10_turns v1 (xs (m_w (v3 + 1))) h >>= fun ⟨r311, h310⟩ => if m_t h310 v2 = 11 then t11_turns v2 (xs (m_w (v3 + 1))) h310 >>= fun ⟨r314, h313⟩ => (if (m_w r311) = (m_w r314) then
      (tL_law_c18 xn xs v0 v1 v2 (v3 + 6) h313)
    else
      some (false, h313)) else none else none else none)
  else (if (m_w (m_and (xs (m_w v3)) 63)) = 32 then
    (if 0 ≤ (m_w (v3 + 1)) ∧ (m_w (v3 + 1)) < xn then if 0 ≤ (m_w (v3 + 2)) ∧ (m_w (v3 + 2)) < xn then if m_t h v1 = 10 then t10_turnOf v1 (xs (m_w (v3 + 1))) (xs (m_w (v3 + 2))) h >>= fun ⟨r321, h320⟩ => if m_t h320 v2 = 11 then t11_turnOf v2 (xs (m_w (v3 + 1))) (xs (m_w (v3 + 2))) h320 >>= fun ⟨r324, h323⟩ => (if (m_w r321) = (m_w r324) then
      (tL_law_c18 xn xs v0 v1 v2 (v3 + 6) h323)
    else
      some (false, h323)) else none else none else none else none)
  else (if (m_w (m_and (xs (m_w v3)) 63)) = 33 then
    (if 0 ≤ (m_w (v3 + 1)) ∧ (m_w (v3 + 1)) < xn then if m_t h v1 = 10 then t10_deep v1 (xs (m_w (v3 + 1))) h >>= fun ⟨r330, h329⟩ => if m_t h329 v2 = 11 then t11_deep v2 (xs (m_w (v3 + 1))) h329 >>= fun ⟨r333, h332⟩ => (if (m_w r330) = (m_w r333) then
      (tL_law_c18 xn xs v0 v1 v2 (v3 + 6) h332)
    else
      some (false, h332)) else none else none else none)
  else (if (m_w (m_and (xs (m_w v3)) 63)) = 34 then
    (if 0 ≤ (m_w (v3 + 1)) ∧ (m_w (v3 + 1)) < xn then if m_t h v1 = 10 then t10_tape v1 (xs (m_w (v3 + 1))) h >>= fun ⟨r339, h338⟩ => if m_t h338 v2 = 11 then t11_tape v2 (xs (m_w (v3 + 1))) h338 >>= fun ⟨r342, h341⟩ => (if (m_w r339) = (m_w r342) then
      (tL_law_c18 xn xs v0 v1 v2 (v3 + 6) h341)
    else
      some (false, h341)) else none else none else none)
  else (if (m_w (m_and (xs (m_w v3)) 63)) = 35 then
    (if m_t h v1 = 10 then t10_wipe v1 h >>= fun ⟨r347, h346⟩ => if m_t h346 v2 = 11 then t11_wipe v2 h346 >>= fun ⟨r350, h349⟩ => (if (m_w r347) = (m_w r350) then
      (tL_law_c18 xn xs v0 v1 v2 (v3 + 6) h349)
    else
      some (false, h349)) else none else none)
  else (if (m_w (m_and (xs (m_w v3)) 63)) = 36 then
    (if 0 ≤ (m_w (v3 + 1)) ∧ (m_w (v3 + 1)) < xn then if 0 ≤ (m_w (v3 + 2)) ∧ (m_w (v3 + 2)) < xn then if 0 ≤ (m_w (v3 + 3)) ∧ (m_w (v3 + 3)) < xn then if 0 ≤ (m_w (v3 + 4)) ∧ (m_w (v3 + 4)) < xn then if m_t h v1 = 10 then t10_near v1 (xs (m_w (v3 + 1))) (xs (m_w (v3 + 2))) (xs (m_w (v3 + 3))) (xs (m_w (v3 + 4))) h >>= fun ⟨r359, h358⟩ => if m_t h358 v2 = 11 then t11_near v2 (xs (m_w (v3 + 1))) (xs (m_w (v3 + 2))) (xs (m_w (v3 + 3))) (xs (m_w (v3 + 4))) h358 >>= fun ⟨r362, h361⟩ => (if (m_w r359) = (m_w r362) then
      (tL_law_c18 xn xs v0 v1 v2 (v3 + 6) h361)
    else
      some (false, h361)) else none else none else none else none else none else none)
  else (if (m_w (m_and (xs (m_w v3)) 63)) = 37 then
    (if 0 ≤ (m_w (v3 + 1)) ∧ (m_w (v3 + 1)) < xn then if 0 ≤ (m_w (v3 + 2)) ∧ (m_w (v3 + 2)) < xn then if 0 ≤ (m_w (v3 + 3)) ∧ (m_w (v3 + 3)) < xn then if m_t h v1 = 10 then t10_rivals v1 (xs (m_w (v3 + 1))) (xs (m_w (v3 + 2))) (xs (m_w (v3 + 3))) h >>= fun ⟨r370, h369⟩ => if m_t h369 v2 = 11 then t11_rivals v2 (xs (m_w (v3 + 1))) (xs (m_w (v3 + 2))) (xs (m_w (v3 + 3))) h369 >>= fun ⟨r373, h372⟩ => (if (m_w r370) = (m_w r373) then
      (tL_law_c18 xn xs v0 v1 v2 (v3 + 6) h372)
    else
      some (false, h372)) else none else none else none else none else none)
  else (if (m_w (m_and (xs (m_w v3)) 63)) = 38 then
    (if 0 ≤ (m_w (v3 + 1)) ∧ (m_w (v3 + 1)) < xn then if 0 ≤ (m_w (v3 + 2)) ∧ (m_w (v3 + 2)) < xn then if m_t h v1 = 10 then t10_remade v1 (xs (m_w (v3 + 1))) (xs (m_w (v3 + 2))) h >>= fun ⟨r380, h379⟩ => if m_t h379 v2 = 11 then t11_remade v2 (xs (m_w (v3 + 1))) (xs (m_w (v3 + 2))) h379 >>= fun ⟨r383, h382⟩ => (if (m_w r380) = (m_w r383) then
      (tL_law_c18 xn xs v0 v1 v2 (v3 + 6) h382)
    else
      some (false, h382)) else none else none else none else none)
  else (if (m_w (m_and (xs (m_w v3)) 63)) = 39 then
    (if 0 ≤ (m_w (v3 + 1)) ∧ (m_w (v3 + 1)) < xn then if 0 ≤ (m_w (v3 + 2)) ∧ (m_w (v3 + 2)) < xn then if 0 ≤ (m_w (v3 + 3)) ∧ (m_w (v3 + 3)) < xn then if m_t h v1 = 10 then t10_stretch v1 (xs (m_w (v3 + 1))) (xs (m_w (v3 + 2))) (xs (m_w (v3 + 3))) h >>= fun ⟨r391, h390⟩ => if m_t h390 v2 = 11 then t11_stretch v2 (xs (m_w (v3 + 1))) (xs (m_w (v3 + 2))) (xs (m_w (v3 + 3))) h390 >>= fun ⟨r394, h393⟩ => (if (m_w r391) = (m_w r394) then
      (tL_law_c18 xn xs v0 v1 v2 (v3 + 6) h393)
    else
      some (false, h393)) else none else none else none else none else none)
  else (if (m_w (m_and (xs (m_w v3)) 63)) = 40 then
    (if 0 ≤ (m_w (v3 + 1)) ∧ (m_w (v3 + 1)) < xn then if 0 ≤ (m_w (v3 + 2)) ∧ (m_w (v3 + 2)) < xn then if m_t h v1 = 10 then t10_unfound v1 (xs (m_w (v3 + 1))) (xs (m_w (v3 + 2))) h >>= fun ⟨r401, h400⟩ => if m_t h400 v2 = 11 then t11_unfound v2 (xs (m_w (v3 + 1))) (xs (m_w (v3 + 2))) h400 >>= fun ⟨r404, h403⟩ => (if (m_w r401) = (m_w r404) then
      (tL_law_c18 xn xs v0 v1 v2 (v3 + 6) h403)
    else
      some (false, h403)) else none else none else none else none)
  else (if (m_w (m_and (xs (m_w v3)) 63)) = 41 then
    (if 0 ≤ (m_w (v3 + 1)) ∧ (m_w (v3 + 1)) < xn then if m_t h v1 = 10 then t10_count v1 (xs (m_w (v3 + 1))) h >>= fun ⟨r410, h409⟩ => if m_t h409 v2 = 11 then t11_count v2 (xs (m_w (v3 + 1))) h409 >>= fun ⟨r413, h412⟩ => (if (m_w r410) = (m_w r413) then
      (tL_law_c18 xn xs v0 v1 v2 (v3 + 6) h412)
    else
      some (false, h412)) else none else none else none)
  else (tL_law_c18 xn xs v0 v1 v2 (v3 + 6) h))))))))))))))))))))))))))))))))))))))))))) else none)) else none)
partial_fixpoint
set_option maxRecDepth 100000 in
def tL_law (xn : Int) (xs : Int → Int) (v0 : Int) (h : m_H) : Option (Bool × m_H) :=
  (some (m_a h 10 10) >>= fun h1 => if 0 ≤ m_t h1 (m_n h) then t10_init (m_n h) h1 >>= fun ⟨_, h3⟩ => some (m_n h) >>= fun x5 => some (m_a h3 11 92) >>= fun h6 => if 0 ≤ m_t h6 (m_n h3) then t11_init (m_n h3) h6 >>= fun ⟨_, h8⟩ => some (m_n h3) >>= fun x10 => (tL_law_c18 xn xs v0 x5 x10 0 h8) else none else none)
