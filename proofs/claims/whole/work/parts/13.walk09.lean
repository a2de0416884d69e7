/-! the walks of the methods, 9 -/
set_option maxRecDepth 100000 in
theorem e11_does : ∀ q ∈ ([(0, .aload_n 0, 1), (1, .getfield 92, 3), (4, .iload_n 1, 1), (5, .aaload, 1), (6, .iload_n 2, 1), (7, .iaload, 1), (8, .istore 4, 2), (10, .aload_n 0, 1), (11, .getfield 184, 3), (14, .iload_n 2, 1), (15, .iconst (-1), 1), (16, .iastore, 1), (17, .aload_n 0, 1), (18, .getfield 89, 3), (21, .iload_n 1, 1), (22, .aaload, 1), (23, .iload_n 2, 1), (24, .iaload, 1), (25, .tableswitch 455 0 11 #[63, 63, 71, 95, 160, 186, 210, 226, 256, 320, 353, 382], 63), (88, .aload_n 0, 1), (89, .iload_n 1, 1), (90, .iload_n 2, 1), (91, .iload_n 3, 1), (92, .invokevirtual 473, 3), (95, .ireturn, 1), (96, .aload_n 0, 1), (97, .iload_n 2, 1), (98, .iload 4, 2), (100, .aload_n 0, 1), (101, .getfield 98, 3), (104, .iload_n 1, 1), (105, .aaload, 1), (106, .iload_n 2, 1), (107, .iaload, 1), (108, .aload_n 0, 1), (109, .getfield 101, 3), (112, .iload_n 1, 1), (113, .aaload, 1), (114, .iload_n 2, 1), (115, .iaload, 1), (116, .invokevirtual 477, 3), (119, .ireturn, 1), (120, .iconst 0, 1), (121, .istore 5, 2), (123, .iload 5, 2), (125, .aload_n 0, 1), (126, .getfield 181, 3), (129, .iload 4, 2), (131, .iaload, 1), (132, .if_icmp .ge 38, 3), (135, .aload_n 0, 1), (136, .getfield 178, 3), (139, .iload_n 2, 1), (140, .aaload, 1), (141, .iload 5, 2), (143, .aload_n 0, 1), (144, .getfield 178, 3), (147, .iload 4, 2), (149, .aaload, 1), (150, .aload_n 0, 1), (151, .getfield 181, 3), (154, .iload 4, 2), (156, .iaload, 1), (157, .iconst 1, 1), (158, .isub, 1), (159, .iload 5, 2), (161, .isub, 1), (162, .iaload, 1), (163, .iastore, 1), (164, .iinc 5 1, 3), (167, .goto (-44), 3), (170, .aload_n 0, 1), (171, .getfield 181, 3), (174, .iload_n 2, 1), (175, .aload_n 0, 1), (176, .getfield 181, 3), (179, .iload 4, 2), (181, .iaload, 1), (182, .iastore, 1), (183, .iconst 1, 1), (184, .ireturn, 1), (185, .aload_n 0, 1), (186, .iload_n 2, 1), (187, .iload 4, 2), (189, .aload_n 0, 1), (190, .getfield 98, 3), (193, .iload_n 1, 1), (194, .aaload, 1), (195, .iload_n 2, 1), (196, .iaload, 1), (197, .aload_n 0, 1), (198, .getfield 101, 3), (201, .iload_n 1, 1), (202, .aaload, 1), (203, .iload_n 2, 1), (204, .iaload, 1), (205, .bipush 64, 2), (207, .invokevirtual 481, 3), (210, .ireturn, 1), (211, .aload_n 0, 1), (212, .iload_n 2, 1), (213, .iload 4, 2), (215, .aload_n 0, 1), (216, .getfield 95, 3), (219, .iload_n 1, 1), (220, .aaload, 1), (221, .iload_n 2, 1), (222, .iaload, 1), (223, .aload_n 0, 1), (224, .getfield 98, 3), (227, .iload_n 1, 1), (228, .aaload, 1), (229, .iload_n 2, 1), (230, .iaload, 1), (231, .invokevirtual 485, 3), (234, .ireturn, 1), (235, .aload_n 0, 1), (236, .iload_n 2, 1), (237, .iload 4, 2), (239, .aload_n 0, 1), (240, .getfield 98, 3), (243, .iload_n 1, 1), (244, .aaload, 1), (245, .iload_n 2, 1), (246, .iaload, 1), (247, .invokevirtual 488, 3), (250, .ireturn, 1), (251, .aload_n 0, 1), (252, .iload_n 2, 1), (253, .iload 4, 2), (255, .invokevirtual 491, 3), (258, .aload_n 0, 1), (259, .iload_n 2, 1), (260, .aload_n 0, 1), (261, .getfield 98, 3), (264, .iload_n 1, 1), (265, .aaload, 1), (266, .iload_n 2, 1), (267, .iaload, 1), (268, .aload_n 0, 1), (269, .getfield 101, 3), (272, .iload_n 1, 1), (273, .aaload, 1), (274, .iload_n 2, 1), (275, .iaload, 1), (276, .invokevirtual 494, 3), (279, .iconst 1, 1), (280, .ireturn, 1), (281, .aload_n 0, 1), (282, .aload_n 0, 1), (283, .getfield 98, 3), (286, .iload_n 1, 1), (287, .aaload, 1), (288, .iload_n 2, 1), (289, .iaload, 1), (290, .invokevirtual 336, 3), (293, .ifCond .eq 50, 3), (296, .aload_n 0, 1), (297, .iload_n 2, 1), (298, .iload 4, 2), (300, .sipush 1000, 3), (303, .aload_n 0, 1), (304, .getfield 56, 3), (307, .aload_n 0, 1), (308, .getfield 98, 3), (311, .iload_n 1, 1), (312, .aaload, 1), (313, .iload_n 2, 1), (314, .iaload, 1), (315, .iaload, 1), (316, .iadd, 1), (317, .sipush 1000, 3), (320, .aload_n 0, 1), (321, .getfield 59, 3), (324, .aload_n 0, 1), (325, .getfield 98, 3), (328, .iload_n 1, 1), (329, .aaload, 1), (330, .iload_n 2, 1), (331, .iaload, 1), (332, .iaload, 1), (333, .invokevirtual 481, 3), (336, .ifCond .eq 7, 3), (339, .iconst 1, 1), (340, .goto 4, 3), (343, .iconst 0, 1), (344, .ireturn, 1), (345, .aload_n 0, 1), (346, .iload_n 2, 1), (347, .iload 4, 2), (349, .aload_n 0, 1), (350, .getfield 98, 3), (353, .iload_n 1, 1), (354, .aaload, 1), (355, .iload_n 2, 1), (356, .iaload, 1), (357, .aload_n 0, 1), (358, .getfield 101, 3), (361, .iload_n 1, 1), (362, .aaload, 1), (363, .iload_n 2, 1), (364, .iaload, 1), (365, .aload_n 0, 1), (366, .getfield 104, 3), (369, .iload_n 1, 1), (370, .aaload, 1), (371, .iload_n 2, 1), (372, .iaload, 1), (373, .invokevirtual 498, 3), (376, .iconst 1, 1), (377, .ireturn, 1), (378, .aload_n 0, 1), (379, .iload_n 2, 1), (380, .iload 4, 2), (382, .invokevirtual 491, 3), (385, .aload_n 0, 1), (386, .iload_n 2, 1), (387, .aload_n 0, 1), (388, .getfield 98, 3), (391, .iload_n 1, 1), (392, .aaload, 1), (393, .iload_n 2, 1), (394, .iaload, 1), (395, .aload_n 0, 1), (396, .getfield 101, 3), (399, .iload_n 1, 1), (400, .aaload, 1), (401, .iload_n 2, 1), (402, .iaload, 1), (403, .invokevirtual 502, 3), (406, .ireturn, 1), (407, .iconst 0, 1), (408, .istore 5, 2), (410, .iload 5, 2), (412, .aload_n 0, 1), (413, .getfield 181, 3), (416, .iload 4, 2), (418, .iaload, 1), (419, .if_icmp .ge 46, 3), (422, .aload_n 0, 1), (423, .getfield 178, 3), (426, .iload_n 2, 1), (427, .aaload, 1), (428, .iload 5, 2), (430, .aload_n 0, 1), (431, .getfield 178, 3), (434, .iload 4, 2), (436, .aaload, 1), (437, .iload 5, 2), (439, .iaload, 1), (440, .i2l, 1), (441, .aload_n 0, 1), (442, .getfield 98, 3), (445, .iload_n 1, 1), (446, .aaload, 1), (447, .iload_n 2, 1), (448, .iaload, 1), (449, .i2l, 1), (450, .lmul, 1), (451, .ldc2_w 346, 3), (454, .ldiv, 1), (455, .invokestatic 320, 3), (458, .iastore, 1), (459, .iinc 5 1, 3), (462, .goto (-52), 3), (465, .aload_n 0, 1), (466, .getfield 181, 3), (469, .iload_n 2, 1), (470, .aload_n 0, 1), (471, .getfield 181, 3), (474, .iload 4, 2), (476, .iaload, 1), (477, .iastore, 1), (478, .iconst 1, 1), (479, .ireturn, 1), (480, .aload_n 0, 1), (481, .iload_n 1, 1), (482, .iload_n 2, 1), (483, .invokevirtual 505, 3), (486, .ireturn, 1)] : List (Nat × Instr × Nat)), decode cX11_does q.1 = .ok q.2 := by decide +kernel
set_option maxHeartbeats 4000000 in
set_option maxRecDepth 20000 in
theorem s11_does_c123 {Y : m_Y Bool} (S : m_Std Y RX11 cX11_does) (E : m_End Y cX11_does .ireturn (fun r => [m_i (m_b2i r)])) {F : Nat} (hF : m_Rm Y F) (hFn : 5 ≤ F) (hN : Y.2.2.2.1 = 6) : ∀ (v0 v2 v4 v5 : Int) (h : m_H), m_Sim Y 123 [(0, m_r v0), (2, m_i v2), (4, m_i v4), (5, m_i v5)] [] h (t11_does_c123 v0 v2 v4 v5 h) := by
  intro v0 v2 v4 v5 h
  refine ms_all fun r e => ?_
  refine t11_does_c123.partial_correctness v0 v2 v4 (motive := fun v5 h r => m_Sim Y 123 [(0, m_r v0), (2, m_i v2), (4, m_i v4), (5, m_i v5)] [] h (some r)) ?_ v5 h r e
  intro f ih v5 h r e
  have ih : ∀ (v5 : Int) (h : m_H), m_Sim Y 123 [(0, m_r v0), (2, m_i v2), (4, m_i v4), (5, m_i v5)] [] h (f v5 h ) := fun v5 h  => ms_all fun r e => ih v5 h r e
  refine ms_use ?_ e
  clear e r
  refine ms_iload (pc := 123) S 3 rfl (m_dec e11_does 44 rfl) ?_
  refine ms_aload_n (pc := 125) S 0 rfl rfl (m_dec e11_does 45 rfl) ?_
  refine ms_grd fun g1 => ?_
  refine ms_getf (pc := 126) S lf_X11_181 rfl (m_dec e11_does 46 rfl) g1 ?_
  refine ms_iload (pc := 129) S 2 rfl (m_dec e11_does 47 rfl) ?_
  refine ms_grd fun g2 => ?_
  refine ms_iald (pc := 131) S g2 (m_dec e11_does 48 rfl) ?_
  refine ms_icmp_ge (pc := 132) S (m_dec e11_does 49 rfl) rfl (fun q3 => ?_) (fun q3 => ?_)
  · refine ms_aload_n (pc := 135) S 0 rfl rfl (m_dec e11_does 50 rfl) ?_
    refine ms_getf (pc := 136) S lf_X11_178 rfl (m_dec e11_does 51 rfl) g1 ?_
    refine ms_iload_n (pc := 139) S 1 rfl rfl (m_dec e11_does 52 rfl) ?_
    refine ms_grd fun g4 => ?_
    refine ms_aald (pc := 140) S 29 (by decide) (fun _ => rfl) rfl g4 (m_dec e11_does 53 rfl) ?_
    refine ms_iload (pc := 141) S 3 rfl (m_dec e11_does 54 rfl) ?_
    refine ms_aload_n (pc := 143) S 0 rfl rfl (m_dec e11_does 55 rfl) ?_
    refine ms_getf (pc := 144) S lf_X11_178 rfl (m_dec e11_does 56 rfl) g1 ?_
    refine ms_iload (pc := 147) S 2 rfl (m_dec e11_does 57 rfl) ?_
    refine ms_grd fun g5 => ?_
    refine ms_aald (pc := 149) S 29 (by decide) (fun _ => rfl) rfl g5 (m_dec e11_does 58 rfl) ?_
    refine ms_aload_n (pc := 150) S 0 rfl rfl (m_dec e11_does 59 rfl) ?_
    refine ms_getf (pc := 151) S lf_X11_181 rfl (m_dec e11_does 60 rfl) g1 ?_
    refine ms_iload (pc := 154) S 2 rfl (m_dec e11_does 61 rfl) ?_
    refine ms_iald (pc := 156) S g2 (m_dec e11_does 62 rfl) ?_
    refine ms_iconst (pc := 157) S (m_dec e11_does 63 rfl) ?_
    refine ms_isub (pc := 158) S (m_dec e11_does 64 rfl) ?_
    refine ms_iload (pc := 159) S 3 rfl (m_dec e11_does 65 rfl) ?_
    refine ms_isub (pc := 161) S (m_dec e11_does 66 rfl) ?_
    refine ms_grd fun g6 => ?_
    refine ms_iald (pc := 162) S g6 (m_dec e11_does 67 rfl) ?_
    refine ms_grd fun g7 => ?_
    refine ms_iast (pc := 163) S g7 (m_dec e11_does 68 rfl) (fun h8 => ?_)
    refine ms_iinc (pc := 164) S (L' := [(0, m_r v0), (2, m_i v2), (4, m_i v4), (5, m_i (v5 + 1))]) 3 rfl [1, 2, 3, 0] rfl (m_lt hN rfl) (m_dec e11_does 69 rfl) ?_
    refine ms_goto (pc := 167) S (m_dec e11_does 70 rfl) rfl ?_
    exact ih (v5 + 1) h8
  · refine ms_aload_n (pc := 170) S 0 rfl rfl (m_dec e11_does 71 rfl) ?_
    refine ms_getf (pc := 171) S lf_X11_181 rfl (m_dec e11_does 72 rfl) g1 ?_
    refine ms_iload_n (pc := 174) S 1 rfl rfl (m_dec e11_does 73 rfl) ?_
    refine ms_aload_n (pc := 175) S 0 rfl rfl (m_dec e11_does 74 rfl) ?_
    refine ms_getf (pc := 176) S lf_X11_181 rfl (m_dec e11_does 75 rfl) g1 ?_
    refine ms_iload (pc := 179) S 2 rfl (m_dec e11_does 76 rfl) ?_
    refine ms_iald (pc := 181) S g2 (m_dec e11_does 77 rfl) ?_
    refine ms_grd fun g9 => ?_
    refine ms_iast (pc := 182) S g9 (m_dec e11_does 78 rfl) (fun h10 => ?_)
    refine ms_iconst (pc := 183) S (m_dec e11_does 79 rfl) ?_
    exact ms_ret (pc := 184) E (m_dec e11_does 80 rfl) rfl
set_option maxHeartbeats 4000000 in
set_option maxRecDepth 20000 in
theorem s11_does_c410 {Y : m_Y Bool} (S : m_Std Y RX11 cX11_does) (E : m_End Y cX11_does .ireturn (fun r => [m_i (m_b2i r)])) {F : Nat} (hF : m_Rm Y F) (hFn : 5 ≤ F) (hN : Y.2.2.2.1 = 6) : ∀ (v0 v1 v2 v4 v5 : Int) (h : m_H), m_Sim Y 410 [(0, m_r v0), (1, m_i v1), (2, m_i v2), (4, m_i v4), (5, m_i v5)] [] h (t11_does_c410 v0 v1 v2 v4 v5 h) := by
  intro v0 v1 v2 v4 v5 h
  refine ms_all fun r e => ?_
  refine t11_does_c410.partial_correctness v0 v1 v2 v4 (motive := fun v5 h r => m_Sim Y 410 [(0, m_r v0), (1, m_i v1), (2, m_i v2), (4, m_i v4), (5, m_i v5)] [] h (some r)) ?_ v5 h r e
  intro f ih v5 h r e
  have ih : ∀ (v5 : Int) (h : m_H), m_Sim Y 410 [(0, m_r v0), (1, m_i v1), (2, m_i v2), (4, m_i v4), (5, m_i v5)] [] h (f v5 h ) := fun v5 h  => ms_all fun r e => ih v5 h r e
  refine ms_use ?_ e
  clear e r
  refine ms_iload (pc := 410) S 4 rfl (m_dec e11_does 233 rfl) ?_
  refine ms_aload_n (pc := 412) S 0 rfl rfl (m_dec e11_does 234 rfl) ?_
  refine ms_grd fun g1 => ?_
  refine ms_getf (pc := 413) S lf_X11_181 rfl (m_dec e11_does 235 rfl) g1 ?_
  refine ms_iload (pc := 416) S 3 rfl (m_dec e11_does 236 rfl) ?_
  refine ms_grd fun g2 => ?_
  refine ms_iald (pc := 418) S g2 (m_dec e11_does 237 rfl) ?_
  refine ms_icmp_ge (pc := 419) S (m_dec e11_does 238 rfl) rfl (fun q3 => ?_) (fun q3 => ?_)
  · refine ms_aload_n (pc := 422) S 0 rfl rfl (m_dec e11_does 239 rfl) ?_
    refine ms_getf (pc := 423) S lf_X11_178 rfl (m_dec e11_does 240 rfl) g1 ?_
    refine ms_iload_n (pc := 426) S 2 rfl rfl (m_dec e11_does 241 rfl) ?_
    refine ms_grd fun g4 => ?_
    refine ms_aald (pc := 427) S 29 (by decide) (fun _ => rfl) rfl g4 (m_dec e11_does 242 rfl) ?_
    refine ms_iload (pc := 428) S 4 rfl (m_dec e11_does 243 rfl) ?_
    refine ms_aload_n (pc := 430) S 0 rfl rfl (m_dec e11_does 244 rfl) ?_
    refine ms_getf (pc := 431) S lf_X11_178 rfl (m_dec e11_does 245 rfl) g1 ?_
    refine ms_iload (pc := 434) S 3 rfl (m_dec e11_does 246 rfl) ?_
    refine ms_grd fun g5 => ?_
    refine ms_aald (pc := 436) S 29 (by decide) (fun _ => rfl) rfl g5 (m_dec e11_does 247 rfl) ?_
    refine ms_iload (pc := 437) S 4 rfl (m_dec e11_does 248 rfl) ?_
    refine ms_grd fun g6 => ?_
    refine ms_iald (pc := 439) S g6 (m_dec e11_does 249 rfl) ?_
    refine ms_i2l (pc := 440) S (m_dec e11_does 250 rfl) ?_
    refine ms_aload_n (pc := 441) S 0 rfl rfl (m_dec e11_does 251 rfl) ?_
    refine ms_getf (pc := 442) S lf_X11_98 rfl (m_dec e11_does 252 rfl) g1 ?_
    refine ms_iload_n (pc := 445) S 1 rfl rfl (m_dec e11_does 253 rfl) ?_
    refine ms_grd fun g7 => ?_
    refine ms_aald (pc := 446) S 29 (by decide) (fun _ => rfl) rfl g7 (m_dec e11_does 254 rfl) ?_
    refine ms_iload_n (pc := 447) S 2 rfl rfl (m_dec e11_does 255 rfl) ?_
    refine ms_grd fun g8 => ?_
    refine ms_iald (pc := 448) S g8 (m_dec e11_does 256 rfl) ?_
    refine ms_i2l (pc := 449) S (m_dec e11_does 257 rfl) ?_
    refine ms_lmul (pc := 450) S (m_dec e11_does 258 rfl) ?_
    refine ms_ldc2 (pc := 451) S (n := 64) w_1877 (m_dec e11_does 259 rfl) ?_
    refine ms_ldivN (pc := 454) S (by decide) (m_dec e11_does 260 rfl) ?_
    refine ms_callSi (pc := 455) S hF (vals := [m_j (Int.tdiv (m_v ((m_w (m_g h (m_g h (m_g h v0 50) (m_w v4)) (m_w v5))) * (m_w (m_g h (m_g h (m_g h v0 38) (m_w v1)) (m_w v2))))) 64)]) (st := [m_i v5, m_r (m_g h (m_g h v0 50) (m_w v2))])  (hC := (k11_bounded _ _ (Int.tdiv (m_v ((m_w (m_g h (m_g h (m_g h v0 50) (m_w v4)) (m_w v5))) * (m_w (m_g h (m_g h (m_g h v0 38) (m_w v1)) (m_w v2))))) 64) h)) (hM := lm_X11_320) (hfr := (Nat.le_trans (by decide) hFn)) (hstk := rfl) (hcat := Nat.le_of_ble_eq_true rfl) (hd := (m_dec e11_does 261 rfl)) (k1 := fun r10 h9 => ?_)
    refine ms_grd fun g11 => ?_
    refine ms_iast (pc := 458) S g11 (m_dec e11_does 262 rfl) (fun h12 => ?_)
    refine ms_iinc (pc := 459) S (L' := [(0, m_r v0), (1, m_i v1), (2, m_i v2), (4, m_i v4), (5, m_i (v5 + 1))]) 4 rfl [1, 2, 3, 4, 0] rfl (m_lt hN rfl) (m_dec e11_does 263 rfl) ?_
    refine ms_goto (pc := 462) S (m_dec e11_does 264 rfl) rfl ?_
    exact ih (v5 + 1) h12
  · refine ms_aload_n (pc := 465) S 0 rfl rfl (m_dec e11_does 265 rfl) ?_
    refine ms_getf (pc := 466) S lf_X11_181 rfl (m_dec e11_does 266 rfl) g1 ?_
    refine ms_iload_n (pc := 469) S 2 rfl rfl (m_dec e11_does 267 rfl) ?_
    refine ms_aload_n (pc := 470) S 0 rfl rfl (m_dec e11_does 268 rfl) ?_
    refine ms_getf (pc := 471) S lf_X11_181 rfl (m_dec e11_does 269 rfl) g1 ?_
    refine ms_iload (pc := 474) S 3 rfl (m_dec e11_does 270 rfl) ?_
    refine ms_iald (pc := 476) S g2 (m_dec e11_does 271 rfl) ?_
    refine ms_grd fun g13 => ?_
    refine ms_iast (pc := 477) S g13 (m_dec e11_does 272 rfl) (fun h14 => ?_)
    refine ms_iconst (pc := 478) S (m_dec e11_does 273 rfl) ?_
    exact ms_ret (pc := 479) E (m_dec e11_does 274 rfl) rfl
set_option maxHeartbeats 4000000 in
set_option maxRecDepth 20000 in
theorem s11_does {Y : m_Y Bool} (S : m_Std Y RX11 cX11_does) (E : m_End Y cX11_does .ireturn (fun r => [m_i (m_b2i r)])) {F : Nat} (hF : m_Rm Y F) (hFn : 5 ≤ F) (hN : Y.2.2.2.1 = 6) (v0 v1 v2 v3 : Int) (h : m_H) : m_Sim Y 0 [(0, m_r v0), (1, m_i v1), (2, m_i v2), (3, m_i v3)] [] h (t11_does v0 v1 v2 v3 h) := by
  unfold t11_does
  refine ms_aload_n (pc := 0) S 0 rfl rfl (m_dec e11_does 0 rfl) ?_
  refine ms_grd fun g1 => ?_
  refine ms_getf (pc := 1) S lf_X11_92 rfl (m_dec e11_does 1 rfl) g1 ?_
  refine ms_iload_n (pc := 4) S 1 rfl rfl (m_dec e11_does 2 rfl) ?_
  refine ms_grd fun g2 => ?_
  refine ms_aald (pc := 5) S 29 (by decide) (fun _ => rfl) rfl g2 (m_dec e11_does 3 rfl) ?_
  refine ms_iload_n (pc := 6) S 2 rfl rfl (m_dec e11_does 4 rfl) ?_
  refine ms_grd fun g3 => ?_
  refine ms_iald (pc := 7) S g3 (m_dec e11_does 5 rfl) ?_
  refine ms_nm (st := fun x4 => [m_i x4]) fun x4 => ?_
  refine ms_istore (pc := 8) S (L' := [(0, m_r v0), (1, m_i v1), (2, m_i v2), (3, m_i v3), (4, m_i x4)]) [1, 2, 3, 4, 0] rfl (m_lt hN rfl) (m_dec e11_does 6 rfl) ?_
  refine ms_aload_n (pc := 10) S 0 rfl rfl (m_dec e11_does 7 rfl) ?_
  refine ms_getf (pc := 11) S lf_X11_184 rfl (m_dec e11_does 8 rfl) g1 ?_
  refine ms_iload_n (pc := 14) S 2 rfl rfl (m_dec e11_does 9 rfl) ?_
  refine ms_iconst (pc := 15) S (m_dec e11_does 10 rfl) ?_
  refine ms_grd fun g5 => ?_
  refine ms_iast (pc := 16) S g5 (m_dec e11_does 11 rfl) (fun h6 => ?_)
  refine ms_aload_n (pc := 17) S 0 rfl rfl (m_dec e11_does 12 rfl) ?_
  refine ms_grd fun g7 => ?_
  refine ms_getf (pc := 18) S lf_X11_89 rfl (m_dec e11_does 13 rfl) g7 ?_
  refine ms_iload_n (pc := 21) S 1 rfl rfl (m_dec e11_does 14 rfl) ?_
  refine ms_grd fun g8 => ?_
  refine ms_aald (pc := 22) S 29 (by decide) (fun _ => rfl) rfl g8 (m_dec e11_does 15 rfl) ?_
  refine ms_iload_n (pc := 23) S 2 rfl rfl (m_dec e11_does 16 rfl) ?_
  refine ms_grd fun g9 => ?_
  refine ms_iald (pc := 24) S g9 (m_dec e11_does 17 rfl) ?_
  refine ms_ite (fun q10 => ?_) (fun q10 => ?_)
  · refine ms_swIn (pc := 25) S (m_dec e11_does 18 rfl) 0 q10 (by decide) (by decide) rfl rfl ?_
    refine ms_aload_n (pc := 88) S 0 rfl rfl (m_dec e11_does 19 rfl) ?_
    refine ms_iload_n (pc := 89) S 1 rfl rfl (m_dec e11_does 20 rfl) ?_
    refine ms_iload_n (pc := 90) S 2 rfl rfl (m_dec e11_does 21 rfl) ?_
    refine ms_iload_n (pc := 91) S 3 rfl rfl (m_dec e11_does 22 rfl) ?_
    refine ms_callVz (pc := 92) S hF (vals := [m_i v1, m_i v2, m_i v3]) (st := []) (hc := vw_11) (hci := by decide) (hcy := rfl) (ht := g7) (hC := (k11_takes _ _ v0 v1 v2 v3 h6)) (hM := lm_X11_473) (hfr := (Nat.le_trans (by decide) hFn)) (hstk := rfl) (hcat := Nat.le_of_ble_eq_true rfl) (hd := (m_dec e11_does 23 rfl)) (k1 := fun r12 h11 => ?_)
    exact ms_ret (pc := 95) E (m_dec e11_does 24 rfl) rfl
  · refine ms_ite (fun q13 => ?_) (fun q13 => ?_)
    · refine ms_swIn (pc := 25) S (m_dec e11_does 18 rfl) 1 q13 (by decide) (by decide) rfl rfl ?_
      refine ms_aload_n (pc := 88) S 0 rfl rfl (m_dec e11_does 19 rfl) ?_
      refine ms_iload_n (pc := 89) S 1 rfl rfl (m_dec e11_does 20 rfl) ?_
      refine ms_iload_n (pc := 90) S 2 rfl rfl (m_dec e11_does 21 rfl) ?_
      refine ms_iload_n (pc := 91) S 3 rfl rfl (m_dec e11_does 22 rfl) ?_
      refine ms_callVz (pc := 92) S hF (vals := [m_i v1, m_i v2, m_i v3]) (st := []) (hc := vw_11) (hci := by decide) (hcy := rfl) (ht := g7) (hC := (k11_takes _ _ v0 v1 v2 v3 h6)) (hM := lm_X11_473) (hfr := (Nat.le_trans (by decide) hFn)) (hstk := rfl) (hcat := Nat.le_of_ble_eq_true rfl) (hd := (m_dec e11_does 23 rfl)) (k1 := fun r15 h14 => ?_)
      exact ms_ret (pc := 95) E (m_dec e11_does 24 rfl) rfl
    · refine ms_ite (fun q16 => ?_) (fun q16 => ?_)
      · refine ms_swIn (pc := 25) S (m_dec e11_does 18 rfl) 2 q16 (by decide) (by decide) rfl rfl ?_
        refine ms_aload_n (pc := 96) S 0 rfl rfl (m_dec e11_does 25 rfl) ?_
        refine ms_iload_n (pc := 97) S 2 rfl rfl (m_dec e11_does 26 rfl) ?_
        refine ms_iload (pc := 98) S 4 rfl (m_dec e11_does 27 rfl) ?_
        refine ms_aload_n (pc := 100) S 0 rfl rfl (m_dec e11_does 28 rfl) ?_
        refine ms_getf (pc := 101) S lf_X11_98 rfl (m_dec e11_does 29 rfl) g7 ?_
        refine ms_iload_n (pc := 104) S 1 rfl rfl (m_dec e11_does 30 rfl) ?_
        refine ms_grd fun g17 => ?_
        refine ms_aald (pc := 105) S 29 (by decide) (fun _ => rfl) rfl g17 (m_dec e11_does 31 rfl) ?_
        refine ms_iload_n (pc := 106) S 2 rfl rfl (m_dec e11_does 32 rfl) ?_
        refine ms_grd fun g18 => ?_
        refine ms_iald (pc := 107) S g18 (m_dec e11_does 33 rfl) ?_
        refine ms_aload_n (pc := 108) S 0 rfl rfl (m_dec e11_does 34 rfl) ?_
        refine ms_getf (pc := 109) S lf_X11_101 rfl (m_dec e11_does 35 rfl) g7 ?_
        refine ms_iload_n (pc := 112) S 1 rfl rfl (m_dec e11_does 36 rfl) ?_
        refine ms_grd fun g19 => ?_
        refine ms_aald (pc := 113) S 29 (by decide) (fun _ => rfl) rfl g19 (m_dec e11_does 37 rfl) ?_
        refine ms_iload_n (pc := 114) S 2 rfl rfl (m_dec e11_does 38 rfl) ?_
        refine ms_grd fun g20 => ?_
        refine ms_iald (pc := 115) S g20 (m_dec e11_does 39 rfl) ?_
        refine ms_callVz (pc := 116) S hF (vals := [m_i v2, m_i x4, m_i (m_g h6 (m_g h6 (m_g h6 v0 38) (m_w v1)) (m_w v2)), m_i (m_g h6 (m_g h6 (m_g h6 v0 39) (m_w v1)) (m_w v2))]) (st := []) (hc := vw_11) (hci := by decide) (hcy := rfl) (ht := g7) (hC := (k11_cuts _ _ v0 v2 x4 (m_g h6 (m_g h6 (m_g h6 v0 38) (m_w v1)) (m_w v2)) (m_g h6 (m_g h6 (m_g h6 v0 39) (m_w v1)) (m_w v2)) h6)) (hM := lm_X11_477) (hfr := (Nat.le_trans (by decide) hFn)) (hstk := rfl) (hcat := Nat.le_of_ble_eq_true rfl) (hd := (m_dec e11_does 40 rfl)) (k1 := fun r22 h21 => ?_)
        exact ms_ret (pc := 119) E (m_dec e11_does 41 rfl) rfl
      · refine ms_ite (fun q23 => ?_) (fun q23 => ?_)
        · refine ms_swIn (pc := 25) S (m_dec e11_does 18 rfl) 3 q23 (by decide) (by decide) rfl rfl ?_
          refine ms_iconst (pc := 120) S (m_dec e11_does 42 rfl) ?_
          refine ms_istore (pc := 121) S (L' := [(0, m_r v0), (2, m_i v2), (4, m_i x4), (5, m_i 0)]) [1, 3, 5, 0] rfl (m_lt hN rfl) (m_dec e11_does 43 rfl) ?_
          exact s11_does_c123 S E hF hFn hN v0 v2 x4 0 h6
        · refine ms_ite (fun q24 => ?_) (fun q24 => ?_)
          · refine ms_swIn (pc := 25) S (m_dec e11_does 18 rfl) 4 q24 (by decide) (by decide) rfl rfl ?_
            refine ms_aload_n (pc := 185) S 0 rfl rfl (m_dec e11_does 81 rfl) ?_
            refine ms_iload_n (pc := 186) S 2 rfl rfl (m_dec e11_does 82 rfl) ?_
            refine ms_iload (pc := 187) S 4 rfl (m_dec e11_does 83 rfl) ?_
            refine ms_aload_n (pc := 189) S 0 rfl rfl (m_dec e11_does 84 rfl) ?_
            refine ms_getf (pc := 190) S lf_X11_98 rfl (m_dec e11_does 85 rfl) g7 ?_
            refine ms_iload_n (pc := 193) S 1 rfl rfl (m_dec e11_does 86 rfl) ?_
            refine ms_grd fun g25 => ?_
            refine ms_aald (pc := 194) S 29 (by decide) (fun _ => rfl) rfl g25 (m_dec e11_does 87 rfl) ?_
            refine ms_iload_n (pc := 195) S 2 rfl rfl (m_dec e11_does 88 rfl) ?_
            refine ms_grd fun g26 => ?_
            refine ms_iald (pc := 196) S g26 (m_dec e11_does 89 rfl) ?_
            refine ms_aload_n (pc := 197) S 0 rfl rfl (m_dec e11_does 90 rfl) ?_
            refine ms_getf (pc := 198) S lf_X11_101 rfl (m_dec e11_does 91 rfl) g7 ?_
            refine ms_iload_n (pc := 201) S 1 rfl rfl (m_dec e11_does 92 rfl) ?_
            refine ms_grd fun g27 => ?_
            refine ms_aald (pc := 202) S 29 (by decide) (fun _ => rfl) rfl g27 (m_dec e11_does 93 rfl) ?_
            refine ms_iload_n (pc := 203) S 2 rfl rfl (m_dec e11_does 94 rfl) ?_
            refine ms_grd fun g28 => ?_
            refine ms_iald (pc := 204) S g28 (m_dec e11_does 95 rfl) ?_
            refine ms_bipush (pc := 205) S (m_dec e11_does 96 rfl) rfl ?_
            refine ms_callVz (pc := 207) S hF (vals := [m_i v2, m_i x4, m_i (m_g h6 (m_g h6 (m_g h6 v0 38) (m_w v1)) (m_w v2)), m_i (m_g h6 (m_g h6 (m_g h6 v0 39) (m_w v1)) (m_w v2)), m_i 64]) (st := []) (hc := vw_11) (hci := by decide) (hcy := rfl) (ht := g7) (hC := (k11_playsRow _ _ v0 v2 x4 (m_g h6 (m_g h6 (m_g h6 v0 38) (m_w v1)) (m_w v2)) (m_g h6 (m_g h6 (m_g h6 v0 39) (m_w v1)) (m_w v2)) 64 h6)) (hM := lm_X11_481) (hfr := (Nat.le_trans (by decide) hFn)) (hstk := rfl) (hcat := Nat.le_of_ble_eq_true rfl) (hd := (m_dec e11_does 97 rfl)) (k1 := fun r30 h29 => ?_)
            exact ms_ret (pc := 210) E (m_dec e11_does 98 rfl) rfl
          · refine ms_ite (fun q31 => ?_) (fun q31 => ?_)
            · refine ms_swIn (pc := 25) S (m_dec e11_does 18 rfl) 5 q31 (by decide) (by decide) rfl rfl ?_
              refine ms_aload_n (pc := 211) S 0 rfl rfl (m_dec e11_does 99 rfl) ?_
              refine ms_iload_n (pc := 212) S 2 rfl rfl (m_dec e11_does 100 rfl) ?_
              refine ms_iload (pc := 213) S 4 rfl (m_dec e11_does 101 rfl) ?_
              refine ms_aload_n (pc := 215) S 0 rfl rfl (m_dec e11_does 102 rfl) ?_
              refine ms_getf (pc := 216) S lf_X11_95 rfl (m_dec e11_does 103 rfl) g7 ?_
              refine ms_iload_n (pc := 219) S 1 rfl rfl (m_dec e11_does 104 rfl) ?_
              refine ms_grd fun g32 => ?_
              refine ms_aald (pc := 220) S 29 (by decide) (fun _ => rfl) rfl g32 (m_dec e11_does 105 rfl) ?_
              refine ms_iload_n (pc := 221) S 2 rfl rfl (m_dec e11_does 106 rfl) ?_
              refine ms_grd fun g33 => ?_
              refine ms_iald (pc := 222) S g33 (m_dec e11_does 107 rfl) ?_
              refine ms_aload_n (pc := 223) S 0 rfl rfl (m_dec e11_does 108 rfl) ?_
              refine ms_getf (pc := 224) S lf_X11_98 rfl (m_dec e11_does 109 rfl) g7 ?_
              refine ms_iload_n (pc := 227) S 1 rfl rfl (m_dec e11_does 110 rfl) ?_
              refine ms_grd fun g34 => ?_
              refine ms_aald (pc := 228) S 29 (by decide) (fun _ => rfl) rfl g34 (m_dec e11_does 111 rfl) ?_
              refine ms_iload_n (pc := 229) S 2 rfl rfl (m_dec e11_does 112 rfl) ?_
              refine ms_grd fun g35 => ?_
              refine ms_iald (pc := 230) S g35 (m_dec e11_does 113 rfl) ?_
              refine ms_callVz (pc := 231) S hF (vals := [m_i v2, m_i x4, m_i (m_g h6 (m_g h6 (m_g h6 v0 37) (m_w v1)) (m_w v2)), m_i (m_g h6 (m_g h6 (m_g h6 v0 38) (m_w v1)) (m_w v2))]) (st := []) (hc := vw_11) (hci := by decide) (hcy := rfl) (ht := g7) (hC := (k11_splices _ _ v0 v2 x4 (m_g h6 (m_g h6 (m_g h6 v0 37) (m_w v1)) (m_w v2)) (m_g h6 (m_g h6 (m_g h6 v0 38) (m_w v1)) (m_w v2)) h6)) (hM := lm_X11_485) (hfr := (Nat.le_trans (by decide) hFn)) (hstk := rfl) (hcat := Nat.le_of_ble_eq_true rfl) (hd := (m_dec e11_does 114 rfl)) (k1 := fun r37 h36 => ?_)
              exact ms_ret (pc := 234) E (m_dec e11_does 115 rfl) rfl
            · refine ms_ite (fun q38 => ?_) (fun q38 => ?_)
              · refine ms_swIn (pc := 25) S (m_dec e11_does 18 rfl) 6 q38 (by decide) (by decide) rfl rfl ?_
                refine ms_aload_n (pc := 235) S 0 rfl rfl (m_dec e11_does 116 rfl) ?_
                refine ms_iload_n (pc := 236) S 2 rfl rfl (m_dec e11_does 117 rfl) ?_
                refine ms_iload (pc := 237) S 4 rfl (m_dec e11_does 118 rfl) ?_
                refine ms_aload_n (pc := 239) S 0 rfl rfl (m_dec e11_does 119 rfl) ?_
                refine ms_getf (pc := 240) S lf_X11_98 rfl (m_dec e11_does 120 rfl) g7 ?_
                refine ms_iload_n (pc := 243) S 1 rfl rfl (m_dec e11_does 121 rfl) ?_
                refine ms_grd fun g39 => ?_
                refine ms_aald (pc := 244) S 29 (by decide) (fun _ => rfl) rfl g39 (m_dec e11_does 122 rfl) ?_
                refine ms_iload_n (pc := 245) S 2 rfl rfl (m_dec e11_does 123 rfl) ?_
                refine ms_grd fun g40 => ?_
                refine ms_iald (pc := 246) S g40 (m_dec e11_does 124 rfl) ?_
                refine ms_callVz (pc := 247) S hF (vals := [m_i v2, m_i x4, m_i (m_g h6 (m_g h6 (m_g h6 v0 38) (m_w v1)) (m_w v2))]) (st := []) (hc := vw_11) (hci := by decide) (hcy := rfl) (ht := g7) (hC := (k11_loops _ _ v0 v2 x4 (m_g h6 (m_g h6 (m_g h6 v0 38) (m_w v1)) (m_w v2)) h6)) (hM := lm_X11_488) (hfr := (Nat.le_trans (by decide) hFn)) (hstk := rfl) (hcat := Nat.le_of_ble_eq_true rfl) (hd := (m_dec e11_does 125 rfl)) (k1 := fun r42 h41 => ?_)
                exact ms_ret (pc := 250) E (m_dec e11_does 126 rfl) rfl
              · refine ms_ite (fun q43 => ?_) (fun q43 => ?_)
                · refine ms_swIn (pc := 25) S (m_dec e11_does 18 rfl) 7 q43 (by decide) (by decide) rfl rfl ?_
                  refine ms_aload_n (pc := 251) S 0 rfl rfl (m_dec e11_does 127 rfl) ?_
                  refine ms_iload_n (pc := 252) S 2 rfl rfl (m_dec e11_does 128 rfl) ?_
                  refine ms_iload (pc := 253) S 4 rfl (m_dec e11_does 129 rfl) ?_
                  refine ms_callVv (pc := 255) S hF (vals := [m_i v2, m_i x4]) (st := []) (hc := vw_11) (hci := by decide) (hcy := rfl) (ht := g7) (hC := (k11_lists _ _ v0 v2 x4 h6)) (hM := lm_X11_491) (hfr := (Nat.le_trans (by decide) hFn)) (hstk := rfl) (hcat := Nat.le_of_ble_eq_true rfl) (hd := (m_dec e11_does 130 rfl)) (k1 := fun h44 => ?_)
                  refine ms_aload_n (pc := 258) S 0 rfl rfl (m_dec e11_does 131 rfl) ?_
                  refine ms_iload_n (pc := 259) S 2 rfl rfl (m_dec e11_does 132 rfl) ?_
                  refine ms_aload_n (pc := 260) S 0 rfl rfl (m_dec e11_does 133 rfl) ?_
                  refine ms_grd fun g46 => ?_
                  refine ms_getf (pc := 261) S lf_X11_98 rfl (m_dec e11_does 134 rfl) g46 ?_
                  refine ms_iload_n (pc := 264) S 1 rfl rfl (m_dec e11_does 135 rfl) ?_
                  refine ms_grd fun g47 => ?_
                  refine ms_aald (pc := 265) S 29 (by decide) (fun _ => rfl) rfl g47 (m_dec e11_does 136 rfl) ?_
                  refine ms_iload_n (pc := 266) S 2 rfl rfl (m_dec e11_does 137 rfl) ?_
                  refine ms_grd fun g48 => ?_
                  refine ms_iald (pc := 267) S g48 (m_dec e11_does 138 rfl) ?_
                  refine ms_aload_n (pc := 268) S 0 rfl rfl (m_dec e11_does 139 rfl) ?_
                  refine ms_getf (pc := 269) S lf_X11_101 rfl (m_dec e11_does 140 rfl) g46 ?_
                  refine ms_iload_n (pc := 272) S 1 rfl rfl (m_dec e11_does 141 rfl) ?_
                  refine ms_grd fun g49 => ?_
                  refine ms_aald (pc := 273) S 29 (by decide) (fun _ => rfl) rfl g49 (m_dec e11_does 142 rfl) ?_
                  refine ms_iload_n (pc := 274) S 2 rfl rfl (m_dec e11_does 143 rfl) ?_
                  refine ms_grd fun g50 => ?_
                  refine ms_iald (pc := 275) S g50 (m_dec e11_does 144 rfl) ?_
                  refine ms_callVv (pc := 276) S hF (vals := [m_i v2, m_i (m_g h44 (m_g h44 (m_g h44 v0 38) (m_w v1)) (m_w v2)), m_i (m_g h44 (m_g h44 (m_g h44 v0 39) (m_w v1)) (m_w v2))]) (st := []) (hc := vw_11) (hci := by decide) (hcy := rfl) (ht := g46) (hC := (k11_echoes _ _ v0 v2 (m_g h44 (m_g h44 (m_g h44 v0 38) (m_w v1)) (m_w v2)) (m_g h44 (m_g h44 (m_g h44 v0 39) (m_w v1)) (m_w v2)) h44)) (hM := lm_X11_494) (hfr := (Nat.le_trans (by decide) hFn)) (hstk := rfl) (hcat := Nat.le_of_ble_eq_true rfl) (hd := (m_dec e11_does 145 rfl)) (k1 := fun h51 => ?_)
                  refine ms_iconst (pc := 279) S (m_dec e11_does 146 rfl) ?_
                  exact ms_ret (pc := 280) E (m_dec e11_does 147 rfl) rfl
                · refine ms_ite (fun q53 => ?_) (fun q53 => ?_)
                  · refine ms_swIn (pc := 25) S (m_dec e11_does 18 rfl) 8 q53 (by decide) (by decide) rfl rfl ?_
                    refine ms_aload_n (pc := 281) S 0 rfl rfl (m_dec e11_does 148 rfl) ?_
                    refine ms_aload_n (pc := 282) S 0 rfl rfl (m_dec e11_does 149 rfl) ?_
                    refine ms_getf (pc := 283) S lf_X11_98 rfl (m_dec e11_does 150 rfl) g7 ?_
                    refine ms_iload_n (pc := 286) S 1 rfl rfl (m_dec e11_does 151 rfl) ?_
                    refine ms_grd fun g54 => ?_
                    refine ms_aald (pc := 287) S 29 (by decide) (fun _ => rfl) rfl g54 (m_dec e11_does 152 rfl) ?_
                    refine ms_iload_n (pc := 288) S 2 rfl rfl (m_dec e11_does 153 rfl) ?_
                    refine ms_grd fun g55 => ?_
                    refine ms_iald (pc := 289) S g55 (m_dec e11_does 154 rfl) ?_
                    refine ms_callVz (pc := 290) S hF (vals := [m_i (m_g h6 (m_g h6 (m_g h6 v0 38) (m_w v1)) (m_w v2))]) (st := []) (hc := vw_11) (hci := by decide) (hcy := rfl) (ht := g7) (hC := (k11_isMachine _ _ v0 (m_g h6 (m_g h6 (m_g h6 v0 38) (m_w v1)) (m_w v2)) h6)) (hM := lm_X11_336) (hfr := (Nat.le_trans (by decide) hFn)) (hstk := rfl) (hcat := Nat.le_of_ble_eq_true rfl) (hd := (m_dec e11_does 155 rfl)) (k1 := fun r57 h56 => ?_)
                    refine ms_ifb_eq (pc := 293) S (m_dec e11_does 156 rfl) rfl (fun q58 => ?_) (fun q58 => ?_)
                    · refine ms_aload_n (pc := 296) S 0 rfl rfl (m_dec e11_does 157 rfl) ?_
                      refine ms_iload_n (pc := 297) S 2 rfl rfl (m_dec e11_does 158 rfl) ?_
                      refine ms_iload (pc := 298) S 4 rfl (m_dec e11_does 159 rfl) ?_
                      refine ms_sipush (pc := 300) S (m_dec e11_does 160 rfl) rfl ?_
                      refine ms_aload_n (pc := 303) S 0 rfl rfl (m_dec e11_does 161 rfl) ?_
                      refine ms_grd fun g59 => ?_
                      refine ms_getf (pc := 304) S lf_X11_56 rfl (m_dec e11_does 162 rfl) g59 ?_
                      refine ms_aload_n (pc := 307) S 0 rfl rfl (m_dec e11_does 163 rfl) ?_
                      refine ms_getf (pc := 308) S lf_X11_98 rfl (m_dec e11_does 164 rfl) g59 ?_
                      refine ms_iload_n (pc := 311) S 1 rfl rfl (m_dec e11_does 165 rfl) ?_
                      refine ms_grd fun g60 => ?_
                      refine ms_aald (pc := 312) S 29 (by decide) (fun _ => rfl) rfl g60 (m_dec e11_does 166 rfl) ?_
                      refine ms_iload_n (pc := 313) S 2 rfl rfl (m_dec e11_does 167 rfl) ?_
                      refine ms_grd fun g61 => ?_
                      refine ms_iald (pc := 314) S g61 (m_dec e11_does 168 rfl) ?_
                      refine ms_grd fun g62 => ?_
                      refine ms_iald (pc := 315) S g62 (m_dec e11_does 169 rfl) ?_
                      refine ms_iadd (pc := 316) S (m_dec e11_does 170 rfl) ?_
                      refine ms_sipush (pc := 317) S (m_dec e11_does 171 rfl) rfl ?_
                      refine ms_aload_n (pc := 320) S 0 rfl rfl (m_dec e11_does 172 rfl) ?_
                      refine ms_getf (pc := 321) S lf_X11_59 rfl (m_dec e11_does 173 rfl) g59 ?_
                      refine ms_aload_n (pc := 324) S 0 rfl rfl (m_dec e11_does 174 rfl) ?_
                      refine ms_getf (pc := 325) S lf_X11_98 rfl (m_dec e11_does 175 rfl) g59 ?_
                      refine ms_iload_n (pc := 328) S 1 rfl rfl (m_dec e11_does 176 rfl) ?_
                      refine ms_aald (pc := 329) S 29 (by decide) (fun _ => rfl) rfl g60 (m_dec e11_does 177 rfl) ?_
                      refine ms_iload_n (pc := 330) S 2 rfl rfl (m_dec e11_does 178 rfl) ?_
                      refine ms_iald (pc := 331) S g61 (m_dec e11_does 179 rfl) ?_
                      refine ms_grd fun g63 => ?_
                      refine ms_iald (pc := 332) S g63 (m_dec e11_does 180 rfl) ?_
                      refine ms_callVz (pc := 333) S hF (vals := [m_i v2, m_i x4, m_i (1000 + (m_g h56 (m_g h56 v0 19) (m_w (m_g h56 (m_g h56 (m_g h56 v0 38) (m_w v1)) (m_w v2))))), m_i 1000, m_i (m_g h56 (m_g h56 v0 20) (m_w (m_g h56 (m_g h56 (m_g h56 v0 38) (m_w v1)) (m_w v2))))]) (st := []) (hc := vw_11) (hci := by decide) (hcy := rfl) (ht := g59) (hC := (k11_playsRow _ _ v0 v2 x4 (1000 + (m_g h56 (m_g h56 v0 19) (m_w (m_g h56 (m_g h56 (m_g h56 v0 38) (m_w v1)) (m_w v2))))) 1000 (m_g h56 (m_g h56 v0 20) (m_w (m_g h56 (m_g h56 (m_g h56 v0 38) (m_w v1)) (m_w v2)))) h56)) (hM := lm_X11_481) (hfr := (Nat.le_trans (by decide) hFn)) (hstk := rfl) (hcat := Nat.le_of_ble_eq_true rfl) (hd := (m_dec e11_does 181 rfl)) (k1 := fun r65 h64 => ?_)
                      refine ms_ifb_eq (pc := 336) S (m_dec e11_does 182 rfl) rfl (fun q66 => ?_) (fun q66 => ?_)
                      · refine ms_iconst (pc := 339) S (m_dec e11_does 183 rfl) ?_
                        refine ms_goto (pc := 340) S (m_dec e11_does 184 rfl) rfl ?_
                        exact ms_ret (pc := 344) E (m_dec e11_does 186 rfl) rfl
                      · refine ms_iconst (pc := 343) S (m_dec e11_does 185 rfl) ?_
                        exact ms_ret (pc := 344) E (m_dec e11_does 186 rfl) rfl
                    · refine ms_iconst (pc := 343) S (m_dec e11_does 185 rfl) ?_
                      exact ms_ret (pc := 344) E (m_dec e11_does 186 rfl) rfl
                  · refine ms_ite (fun q67 => ?_) (fun q67 => ?_)
                    · refine ms_swIn (pc := 25) S (m_dec e11_does 18 rfl) 9 q67 (by decide) (by decide) rfl rfl ?_
                      refine ms_aload_n (pc := 345) S 0 rfl rfl (m_dec e11_does 187 rfl) ?_
                      refine ms_iload_n (pc := 346) S 2 rfl rfl (m_dec e11_does 188 rfl) ?_
                      refine ms_iload (pc := 347) S 4 rfl (m_dec e11_does 189 rfl) ?_
                      refine ms_aload_n (pc := 349) S 0 rfl rfl (m_dec e11_does 190 rfl) ?_
                      refine ms_getf (pc := 350) S lf_X11_98 rfl (m_dec e11_does 191 rfl) g7 ?_
                      refine ms_iload_n (pc := 353) S 1 rfl rfl (m_dec e11_does 192 rfl) ?_
                      refine ms_grd fun g68 => ?_
                      refine ms_aald (pc := 354) S 29 (by decide) (fun _ => rfl) rfl g68 (m_dec e11_does 193 rfl) ?_
                      refine ms_iload_n (pc := 355) S 2 rfl rfl (m_dec e11_does 194 rfl) ?_
                      refine ms_grd fun g69 => ?_
                      refine ms_iald (pc := 356) S g69 (m_dec e11_does 195 rfl) ?_
                      refine ms_aload_n (pc := 357) S 0 rfl rfl (m_dec e11_does 196 rfl) ?_
                      refine ms_getf (pc := 358) S lf_X11_101 rfl (m_dec e11_does 197 rfl) g7 ?_
                      refine ms_iload_n (pc := 361) S 1 rfl rfl (m_dec e11_does 198 rfl) ?_
                      refine ms_grd fun g70 => ?_
                      refine ms_aald (pc := 362) S 29 (by decide) (fun _ => rfl) rfl g70 (m_dec e11_does 199 rfl) ?_
                      refine ms_iload_n (pc := 363) S 2 rfl rfl (m_dec e11_does 200 rfl) ?_
                      refine ms_grd fun g71 => ?_
                      refine ms_iald (pc := 364) S g71 (m_dec e11_does 201 rfl) ?_
                      refine ms_aload_n (pc := 365) S 0 rfl rfl (m_dec e11_does 202 rfl) ?_
                      refine ms_getf (pc := 366) S lf_X11_104 rfl (m_dec e11_does 203 rfl) g7 ?_
                      refine ms_iload_n (pc := 369) S 1 rfl rfl (m_dec e11_does 204 rfl) ?_
                      refine ms_grd fun g72 => ?_
                      refine ms_aald (pc := 370) S 29 (by decide) (fun _ => rfl) rfl g72 (m_dec e11_does 205 rfl) ?_
                      refine ms_iload_n (pc := 371) S 2 rfl rfl (m_dec e11_does 206 rfl) ?_
                      refine ms_grd fun g73 => ?_
                      refine ms_iald (pc := 372) S g73 (m_dec e11_does 207 rfl) ?_
                      refine ms_callVv (pc := 373) S hF (vals := [m_i v2, m_i x4, m_i (m_g h6 (m_g h6 (m_g h6 v0 38) (m_w v1)) (m_w v2)), m_i (m_g h6 (m_g h6 (m_g h6 v0 39) (m_w v1)) (m_w v2)), m_i (m_g h6 (m_g h6 (m_g h6 v0 40) (m_w v1)) (m_w v2))]) (st := []) (hc := vw_11) (hci := by decide) (hcy := rfl) (ht := g7) (hC := (k11_filters _ _ v0 v2 x4 (m_g h6 (m_g h6 (m_g h6 v0 38) (m_w v1)) (m_w v2)) (m_g h6 (m_g h6 (m_g h6 v0 39) (m_w v1)) (m_w v2)) (m_g h6 (m_g h6 (m_g h6 v0 40) (m_w v1)) (m_w v2)) h6)) (hM := lm_X11_498) (hfr := (Nat.le_trans (by decide) hFn)) (hstk := rfl) (hcat := Nat.le_of_ble_eq_true rfl) (hd := (m_dec e11_does 208 rfl)) (k1 := fun h74 => ?_)
                      refine ms_iconst (pc := 376) S (m_dec e11_does 209 rfl) ?_
                      exact ms_ret (pc := 377) E (m_dec e11_does 210 rfl) rfl
                    · refine ms_ite (fun q76 => ?_) (fun q76 => ?_)
                      · refine ms_swIn (pc := 25) S (m_dec e11_does 18 rfl) 10 q76 (by decide) (by decide) rfl rfl ?_
                        refine ms_aload_n (pc := 378) S 0 rfl rfl (m_dec e11_does 211 rfl) ?_
                        refine ms_iload_n (pc := 379) S 2 rfl rfl (m_dec e11_does 212 rfl) ?_
                        refine ms_iload (pc := 380) S 4 rfl (m_dec e11_does 213 rfl) ?_
                        refine ms_callVv (pc := 382) S hF (vals := [m_i v2, m_i x4]) (st := []) (hc := vw_11) (hci := by decide) (hcy := rfl) (ht := g7) (hC := (k11_lists _ _ v0 v2 x4 h6)) (hM := lm_X11_491) (hfr := (Nat.le_trans (by decide) hFn)) (hstk := rfl) (hcat := Nat.le_of_ble_eq_true rfl) (hd := (m_dec e11_does 214 rfl)) (k1 := fun h77 => ?_)
                        refine ms_aload_n (pc := 385) S 0 rfl rfl (m_dec e11_does 215 rfl) ?_
                        refine ms_iload_n (pc := 386) S 2 rfl rfl (m_dec e11_does 216 rfl) ?_
                        refine ms_aload_n (pc := 387) S 0 rfl rfl (m_dec e11_does 217 rfl) ?_
                        refine ms_grd fun g79 => ?_
                        refine ms_getf (pc := 388) S lf_X11_98 rfl (m_dec e11_does 218 rfl) g79 ?_
                        refine ms_iload_n (pc := 391) S 1 rfl rfl (m_dec e11_does 219 rfl) ?_
                        refine ms_grd fun g80 => ?_
                        refine ms_aald (pc := 392) S 29 (by decide) (fun _ => rfl) rfl g80 (m_dec e11_does 220 rfl) ?_
                        refine ms_iload_n (pc := 393) S 2 rfl rfl (m_dec e11_does 221 rfl) ?_
                        refine ms_grd fun g81 => ?_
                        refine ms_iald (pc := 394) S g81 (m_dec e11_does 222 rfl) ?_
                        refine ms_aload_n (pc := 395) S 0 rfl rfl (m_dec e11_does 223 rfl) ?_
                        refine ms_getf (pc := 396) S lf_X11_101 rfl (m_dec e11_does 224 rfl) g79 ?_
                        refine ms_iload_n (pc := 399) S 1 rfl rfl (m_dec e11_does 225 rfl) ?_
                        refine ms_grd fun g82 => ?_
                        refine ms_aald (pc := 400) S 29 (by decide) (fun _ => rfl) rfl g82 (m_dec e11_does 226 rfl) ?_
                        refine ms_iload_n (pc := 401) S 2 rfl rfl (m_dec e11_does 227 rfl) ?_
                        refine ms_grd fun g83 => ?_
                        refine ms_iald (pc := 402) S g83 (m_dec e11_does 228 rfl) ?_
                        refine ms_callVz (pc := 403) S hF (vals := [m_i v2, m_i (m_g h77 (m_g h77 (m_g h77 v0 38) (m_w v1)) (m_w v2)), m_i (m_g h77 (m_g h77 (m_g h77 v0 39) (m_w v1)) (m_w v2))]) (st := []) (hc := vw_11) (hci := by decide) (hcy := rfl) (ht := g79) (hC := (k11_fades _ _ v0 v2 (m_g h77 (m_g h77 (m_g h77 v0 38) (m_w v1)) (m_w v2)) (m_g h77 (m_g h77 (m_g h77 v0 39) (m_w v1)) (m_w v2)) h77)) (hM := lm_X11_502) (hfr := (Nat.le_trans (by decide) hFn)) (hstk := rfl) (hcat := Nat.le_of_ble_eq_true rfl) (hd := (m_dec e11_does 229 rfl)) (k1 := fun r85 h84 => ?_)
                        exact ms_ret (pc := 406) E (m_dec e11_does 230 rfl) rfl
                      · refine ms_ite (fun q86 => ?_) (fun q86 => ?_)
                        · refine ms_swIn (pc := 25) S (m_dec e11_does 18 rfl) 11 q86 (by decide) (by decide) rfl rfl ?_
                          refine ms_iconst (pc := 407) S (m_dec e11_does 231 rfl) ?_
                          refine ms_istore (pc := 408) S (L' := [(0, m_r v0), (1, m_i v1), (2, m_i v2), (4, m_i x4), (5, m_i 0)]) [1, 2, 3, 5, 0] rfl (m_lt hN rfl) (m_dec e11_does 232 rfl) ?_
                          exact s11_does_c410 S E hF hFn hN v0 v1 v2 x4 0 h6
                        · refine ms_swOut (pc := 25) (a := (m_g h6 (m_g h6 (m_g h6 v0 35) (m_w v1)) (m_w v2))) S (m_dec e11_does 18 rfl) (by omega) rfl ?_
                          refine ms_aload_n (pc := 480) S 0 rfl rfl (m_dec e11_does 275 rfl) ?_
                          refine ms_iload_n (pc := 481) S 1 rfl rfl (m_dec e11_does 276 rfl) ?_
                          refine ms_iload_n (pc := 482) S 2 rfl rfl (m_dec e11_does 277 rfl) ?_
                          refine ms_callVz (pc := 483) S hF (vals := [m_i v1, m_i v2]) (st := []) (hc := vw_11) (hci := by decide) (hcy := rfl) (ht := g7) (hC := (k11_lays _ _ v0 v1 v2 h6)) (hM := lm_X11_505) (hfr := (Nat.le_trans (by decide) hFn)) (hstk := rfl) (hcat := Nat.le_of_ble_eq_true rfl) (hd := (m_dec e11_does 278 rfl)) (k1 := fun r88 h87 => ?_)
                          exact ms_ret (pc := 486) E (m_dec e11_does 279 rfl) rfl
theorem k11_does (l : Launch) (d : m_D) (v0 v1 v2 v3 : Int) (h : m_H) : m_Con l d yX11_does cX11_does 6 (some .boolean) 5 (fun r => [m_i (m_b2i r)]) [m_r v0, m_i v1, m_i v2, m_i v3] h (t11_does v0 v1 v2 v3 h) :=
  m_con2 (by decide +kernel) (Nat.le_of_ble_eq_true rfl) (fun Y hN hRm hr hI S hfin => s11_does S (m_end_z S hr hfin) hRm (Nat.le_refl _) hN v0 v1 v2 v3 h)
set_option maxRecDepth 100000 in
theorem e11_makes_ : ∀ q ∈ ([(0, .aload_n 0, 1), (1, .iconst 0, 1), (2, .putfield 467, 3), (5, .aload_n 0, 1), (6, .iconst 0, 1), (7, .putfield 470, 3), (10, .iconst 0, 1), (11, .istore_n 3, 1), (12, .iload_n 3, 1), (13, .sipush 3000, 3), (16, .if_icmp .ge 16, 3), (19, .aload_n 0, 1), (20, .getfield 187, 3), (23, .iload_n 3, 1), (24, .lconst 0, 1), (25, .lastore, 1), (26, .iinc 3 1, 3), (29, .goto (-17), 3), (32, .iconst 0, 1), (33, .istore_n 3, 1), (34, .iload_n 3, 1), (35, .aload_n 0, 1), (36, .getfield 84, 3), (39, .iload_n 1, 1), (40, .iaload, 1), (41, .if_icmp .ge 21, 3), (44, .aload_n 0, 1), (45, .iload_n 1, 1), (46, .iload_n 3, 1), (47, .iload_n 2, 1), (48, .invokevirtual 508, 3), (51, .ifCond .ne 5, 3), (54, .iload_n 3, 1), (55, .ireturn, 1), (56, .iinc 3 1, 3), (59, .goto (-25), 3), (62, .iconst (-1), 1), (63, .ireturn, 1)] : List (Nat × Instr × Nat)), decode cX11_makes_ q.1 = .ok q.2 := by decide +kernel
set_option maxHeartbeats 4000000 in
set_option maxRecDepth 20000 in
theorem s11_makes__c34 {Y : m_Y Int} (S : m_Std Y RX11 cX11_makes_) (E : m_End Y cX11_makes_ .ireturn (fun r => [m_i r])) {F : Nat} (hF : m_Rm Y F) (hFn : 6 ≤ F) (hN : Y.2.2.2.1 = 4) : ∀ (v0 v1 v2 v3 : Int) (h : m_H), m_Sim Y 34 [(0, m_r v0), (1, m_i v1), (2, m_i v2), (3, m_i v3)] [] h (t11_makes__c34 v0 v1 v2 v3 h) := by
  intro v0 v1 v2 v3 h
  refine ms_all fun r e => ?_
  refine t11_makes__c34.partial_correctness v0 v1 v2 (motive := fun v3 h r => m_Sim Y 34 [(0, m_r v0), (1, m_i v1), (2, m_i v2), (3, m_i v3)] [] h (some r)) ?_ v3 h r e
  intro f ih v3 h r e
  have ih : ∀ (v3 : Int) (h : m_H), m_Sim Y 34 [(0, m_r v0), (1, m_i v1), (2, m_i v2), (3, m_i v3)] [] h (f v3 h ) := fun v3 h  => ms_all fun r e => ih v3 h r e
  refine ms_use ?_ e
  clear e r
  refine ms_iload_n (pc := 34) S 3 rfl rfl (m_dec e11_makes_ 20 rfl) ?_
  refine ms_aload_n (pc := 35) S 0 rfl rfl (m_dec e11_makes_ 21 rfl) ?_
  refine ms_grd fun g1 => ?_
  refine ms_getf (pc := 36) S lf_X11_84 rfl (m_dec e11_makes_ 22 rfl) g1 ?_
  refine ms_iload_n (pc := 39) S 1 rfl rfl (m_dec e11_makes_ 23 rfl) ?_
  refine ms_grd fun g2 => ?_
  refine ms_iald (pc := 40) S g2 (m_dec e11_makes_ 24 rfl) ?_
  refine ms_icmp_ge (pc := 41) S (m_dec e11_makes_ 25 rfl) rfl (fun q3 => ?_) (fun q3 => ?_)
  · refine ms_aload_n (pc := 44) S 0 rfl rfl (m_dec e11_makes_ 26 rfl) ?_
    refine ms_iload_n (pc := 45) S 1 rfl rfl (m_dec e11_makes_ 27 rfl) ?_
    refine ms_iload_n (pc := 46) S 3 rfl rfl (m_dec e11_makes_ 28 rfl) ?_
    refine ms_iload_n (pc := 47) S 2 rfl rfl (m_dec e11_makes_ 29 rfl) ?_
    refine ms_callVz (pc := 48) S hF (vals := [m_i v1, m_i v3, m_i v2]) (st := []) (hc := vw_11) (hci := by decide) (hcy := rfl) (ht := g1) (hC := (k11_does _ _ v0 v1 v3 v2 h)) (hM := lm_X11_508) (hfr := (Nat.le_trans (by decide) hFn)) (hstk := rfl) (hcat := Nat.le_of_ble_eq_true rfl) (hd := (m_dec e11_makes_ 30 rfl)) (k1 := fun r5 h4 => ?_)
    refine ms_ifb_ne (pc := 51) S (m_dec e11_makes_ 31 rfl) rfl (fun q6 => ?_) (fun q6 => ?_)
    · refine ms_iinc (pc := 56) S (L' := [(0, m_r v0), (1, m_i v1), (2, m_i v2), (3, m_i (v3 + 1))]) 3 rfl [1, 2, 3, 0] rfl (m_lt hN rfl) (m_dec e11_makes_ 34 rfl) ?_
      refine ms_goto (pc := 59) S (m_dec e11_makes_ 35 rfl) rfl ?_
      exact ih (v3 + 1) h4
    · refine ms_iload_n (pc := 54) S 3 rfl rfl (m_dec e11_makes_ 32 rfl) ?_
      exact ms_ret (pc := 55) E (m_dec e11_makes_ 33 rfl) rfl
  · refine ms_iconst (pc := 62) S (m_dec e11_makes_ 36 rfl) ?_
    exact ms_ret (pc := 63) E (m_dec e11_makes_ 37 rfl) rfl
set_option maxHeartbeats 4000000 in
set_option maxRecDepth 20000 in
theorem s11_makes__c12 {Y : m_Y Int} (S : m_Std Y RX11 cX11_makes_) (E : m_End Y cX11_makes_ .ireturn (fun r => [m_i r])) {F : Nat} (hF : m_Rm Y F) (hFn : 6 ≤ F) (hN : Y.2.2.2.1 = 4) : ∀ (v0 v1 v2 v3 : Int) (h : m_H), m_Sim Y 12 [(0, m_r v0), (1, m_i v1), (2, m_i v2), (3, m_i v3)] [] h (t11_makes__c12 v0 v1 v2 v3 h) := by
  intro v0 v1 v2 v3 h
  refine ms_all fun r e => ?_
  refine t11_makes__c12.partial_correctness v0 v1 v2 (motive := fun v3 h r => m_Sim Y 12 [(0, m_r v0), (1, m_i v1), (2, m_i v2), (3, m_i v3)] [] h (some r)) ?_ v3 h r e
  intro f ih v3 h r e
  have ih : ∀ (v3 : Int) (h : m_H), m_Sim Y 12 [(0, m_r v0), (1, m_i v1), (2, m_i v2), (3, m_i v3)] [] h (f v3 h ) := fun v3 h  => ms_all fun r e => ih v3 h r e
  refine ms_use ?_ e
  clear e r
  refine ms_iload_n (pc := 12) S 3 rfl rfl (m_dec e11_makes_ 8 rfl) ?_
  refine ms_sipush (pc := 13) S (m_dec e11_makes_ 9 rfl) rfl ?_
  refine ms_icmp_ge (pc := 16) S (m_dec e11_makes_ 10 rfl) rfl (fun q1 => ?_) (fun q1 => ?_)
  · refine ms_aload_n (pc := 19) S 0 rfl rfl (m_dec e11_makes_ 11 rfl) ?_
    refine ms_grd fun g2 => ?_
    refine ms_getf (pc := 20) S lf_X11_187 rfl (m_dec e11_makes_ 12 rfl) g2 ?_
    refine ms_iload_n (pc := 23) S 3 rfl rfl (m_dec e11_makes_ 13 rfl) ?_
    refine ms_lconst (pc := 24) S (n := 0) rfl (m_dec e11_makes_ 14 rfl) ?_
    refine ms_grd fun g3 => ?_
    refine ms_last (pc := 25) S g3 (m_dec e11_makes_ 15 rfl) (fun h4 => ?_)
    refine ms_iinc (pc := 26) S (L' := [(0, m_r v0), (1, m_i v1), (2, m_i v2), (3, m_i (v3 + 1))]) 3 rfl [1, 2, 3, 0] rfl (m_lt hN rfl) (m_dec e11_makes_ 16 rfl) ?_
    refine ms_goto (pc := 29) S (m_dec e11_makes_ 17 rfl) rfl ?_
    exact ih (v3 + 1) h4
  · refine ms_iconst (pc := 32) S (m_dec e11_makes_ 18 rfl) ?_
    refine ms_istore_n (pc := 33) S (L' := [(0, m_r v0), (1, m_i v1), (2, m_i v2), (3, m_i 0)]) [1, 2, 3, 0] rfl rfl (m_lt hN rfl) (m_dec e11_makes_ 19 rfl) ?_
    exact s11_makes__c34 S E hF hFn hN v0 v1 v2 0 h
set_option maxHeartbeats 4000000 in
set_option maxRecDepth 20000 in
theorem s11_makes_ {Y : m_Y Int} (S : m_Std Y RX11 cX11_makes_) (E : m_End Y cX11_makes_ .ireturn (fun r => [m_i r])) {F : Nat} (hF : m_Rm Y F) (hFn : 6 ≤ F) (hN : Y.2.2.2.1 = 4) (v0 v1 v2 : Int) (h : m_H) : m_Sim Y 0 [(0, m_r v0), (1, m_i v1), (2, m_i v2)] [] h (t11_makes_ v0 v1 v2 h) := by
  unfold t11_makes_
  refine ms_aload_n (pc := 0) S 0 rfl rfl (m_dec e11_makes_ 0 rfl) ?_
  refine ms_iconst (pc := 1) S (m_dec e11_makes_ 1 rfl) ?_
  refine ms_grd fun g1 => ?_
  refine ms_putf (pc := 2) S lp_X11_467 (fun z => by cases z) rfl (fun d => m_fitI d _) (m_dec e11_makes_ 2 rfl) g1 (fun h2 => ?_)
  refine ms_aload_n (pc := 5) S 0 rfl rfl (m_dec e11_makes_ 3 rfl) ?_
  refine ms_iconst (pc := 6) S (m_dec e11_makes_ 4 rfl) ?_
  refine ms_grd fun g3 => ?_
  refine ms_putf (pc := 7) S lp_X11_470 (fun z => by cases z) rfl (fun d => m_fitI d _) (m_dec e11_makes_ 5 rfl) g3 (fun h4 => ?_)
  refine ms_iconst (pc := 10) S (m_dec e11_makes_ 6 rfl) ?_
  refine ms_istore_n (pc := 11) S (L' := [(0, m_r v0), (1, m_i v1), (2, m_i v2), (3, m_i 0)]) [1, 2, 3, 0] rfl rfl (m_lt hN rfl) (m_dec e11_makes_ 7 rfl) ?_
  exact s11_makes__c12 S E hF hFn hN v0 v1 v2 0 h4
theorem k11_makes_ (l : Launch) (d : m_D) (v0 v1 v2 : Int) (h : m_H) : m_Con l d yX11_makes_ cX11_makes_ 4 (some .int) 6 (fun r => [m_i r]) [m_r v0, m_i v1, m_i v2] h (t11_makes_ v0 v1 v2 h) :=
  m_con2 (by decide +kernel) (Nat.le_of_ble_eq_true rfl) (fun Y hN hRm hr hI S hfin => s11_makes_ S (m_end_i S hr hfin) hRm (Nat.le_refl _) hN v0 v1 v2 h)
set_option maxRecDepth 100000 in
theorem e11_canMake : ∀ q ∈ ([(0, .aload_n 0, 1), (1, .iload_n 1, 1), (2, .invokevirtual 511, 3), (5, .ifCond .eq 21, 3), (8, .iload_n 2, 1), (9, .i2l, 1), (10, .lconst 0, 1), (11, .aload_n 0, 1), (12, .getfield 285, 3), (15, .i2l, 1), (16, .invokestatic 268, 3), (19, .ifCond .eq 7, 3), (22, .iconst 1, 1), (23, .goto 4, 3), (26, .iconst 0, 1), (27, .ireturn, 1)] : List (Nat × Instr × Nat)), decode cX11_canMake q.1 = .ok q.2 := by decide +kernel
set_option maxHeartbeats 4000000 in
set_option maxRecDepth 20000 in
theorem s11_canMake {Y : m_Y Bool} (S : m_Std Y RX11 cX11_canMake) (E : m_End Y cX11_canMake .ireturn (fun r => [m_i (m_b2i r)])) {F : Nat} (hF : m_Rm Y F) (hFn : 2 ≤ F) (hN : Y.2.2.2.1 = 3) (v0 v1 v2 : Int) (h : m_H) : m_Sim Y 0 [(0, m_r v0), (1, m_i v1), (2, m_i v2)] [] h (t11_canMake v0 v1 v2 h) := by
  unfold t11_canMake
  refine ms_aload_n (pc := 0) S 0 rfl rfl (m_dec e11_canMake 0 rfl) ?_
  refine ms_iload_n (pc := 1) S 1 rfl rfl (m_dec e11_canMake 1 rfl) ?_
  refine ms_grd fun g1 => ?_
  refine ms_callVz (pc := 2) S hF (vals := [m_i v1]) (st := []) (hc := vw_11) (hci := by decide) (hcy := rfl) (ht := g1) (hC := (k11_isScore _ _ v0 v1 h)) (hM := lm_X11_511) (hfr := (Nat.le_trans (by decide) hFn)) (hstk := rfl) (hcat := Nat.le_of_ble_eq_true rfl) (hd := (m_dec e11_canMake 2 rfl)) (k1 := fun r3 h2 => ?_)
  refine ms_ifb_eq (pc := 5) S (m_dec e11_canMake 3 rfl) rfl (fun q4 => ?_) (fun q4 => ?_)
  · refine ms_iload_n (pc := 8) S 2 rfl rfl (m_dec e11_canMake 4 rfl) ?_
    refine ms_i2l (pc := 9) S (m_dec e11_canMake 5 rfl) ?_
    refine ms_lconst (pc := 10) S (n := 0) rfl (m_dec e11_canMake 6 rfl) ?_
    refine ms_aload_n (pc := 11) S 0 rfl rfl (m_dec e11_canMake 7 rfl) ?_
    refine ms_grd fun g5 => ?_
    refine ms_getf (pc := 12) S lf_X11_285 rfl (m_dec e11_canMake 8 rfl) g5 ?_
    refine ms_i2l (pc := 15) S (m_dec e11_canMake 9 rfl) ?_
    refine ms_callSz (pc := 16) S hF (vals := [m_j (m_w v2), m_j 0, m_j (m_w (m_g h2 v0 18))]) (st := [])  (hC := (k11_in _ _ (m_w v2) 0 (m_w (m_g h2 v0 18)) h2)) (hM := lm_X11_268) (hfr := (Nat.le_trans (by decide) hFn)) (hstk := rfl) (hcat := Nat.le_of_ble_eq_true rfl) (hd := (m_dec e11_canMake 10 rfl)) (k1 := fun r7 h6 => ?_)
    refine ms_ifb_eq (pc := 19) S (m_dec e11_canMake 11 rfl) rfl (fun q8 => ?_) (fun q8 => ?_)
    · refine ms_iconst (pc := 22) S (m_dec e11_canMake 12 rfl) ?_
      refine ms_goto (pc := 23) S (m_dec e11_canMake 13 rfl) rfl ?_
      exact ms_ret (pc := 27) E (m_dec e11_canMake 15 rfl) rfl
    · refine ms_iconst (pc := 26) S (m_dec e11_canMake 14 rfl) ?_
      exact ms_ret (pc := 27) E (m_dec e11_canMake 15 rfl) rfl
  · refine ms_iconst (pc := 26) S (m_dec e11_canMake 14 rfl) ?_
    exact ms_ret (pc := 27) E (m_dec e11_canMake 15 rfl) rfl
theorem k11_canMake (l : Launch) (d : m_D) (v0 v1 v2 : Int) (h : m_H) : m_Con l d yX11_canMake cX11_canMake 3 (some .boolean) 2 (fun r => [m_i (m_b2i r)]) [m_r v0, m_i v1, m_i v2] h (t11_canMake v0 v1 v2 h) :=
  m_con2 (by decide +kernel) (Nat.le_of_ble_eq_true rfl) (fun Y hN hRm hr hI S hfin => s11_canMake S (m_end_z S hr hfin) hRm (Nat.le_refl _) hN v0 v1 v2 h)
set_option maxRecDepth 100000 in
theorem e11_make : ∀ q ∈ ([(0, .aload_n 0, 1), (1, .iload_n 1, 1), (2, .iload_n 2, 1), (3, .invokevirtual 514, 3), (6, .ifCond .eq 13, 3), (9, .aload_n 0, 1), (10, .iload_n 1, 1), (11, .iload_n 2, 1), (12, .invokevirtual 517, 3), (15, .iconst (-1), 1), (16, .if_icmp .eq 5, 3), (19, .iconst (-1), 1), (20, .ireturn, 1), (21, .aload_n 0, 1), (22, .iload_n 1, 1), (23, .putfield 203, 3), (26, .aload_n 0, 1), (27, .aload_n 0, 1), (28, .getfield 470, 3), (31, .putfield 519, 3), (34, .iconst 0, 1), (35, .istore_n 3, 1), (36, .iload_n 3, 1), (37, .aload_n 0, 1), (38, .getfield 470, 3), (41, .if_icmp .ge 24, 3), (44, .aload_n 0, 1), (45, .getfield 207, 3), (48, .iload_n 3, 1), (49, .aload_n 0, 1), (50, .getfield 187, 3), (53, .iload_n 3, 1), (54, .laload, 1), (55, .invokestatic 320, 3), (58, .iastore, 1), (59, .iinc 3 1, 3), (62, .goto (-26), 3), (65, .aload_n 0, 1), (66, .aload_n 0, 1), (67, .getfield 467, 3), (70, .putfield 522, 3), (73, .iconst 0, 1), (74, .istore_n 3, 1), (75, .iload_n 3, 1), (76, .aload_n 0, 1), (77, .getfield 467, 3), (80, .if_icmp .ge 57, 3), (83, .aload_n 0, 1), (84, .getfield 216, 3), (87, .iload_n 3, 1), (88, .aload_n 0, 1), (89, .getfield 191, 3), (92, .iload_n 3, 1), (93, .iaload, 1), (94, .iastore, 1), (95, .aload_n 0, 1), (96, .getfield 219, 3), (99, .iload_n 3, 1), (100, .aload_n 0, 1), (101, .getfield 194, 3), (104, .iload_n 3, 1), (105, .iaload, 1), (106, .iastore, 1), (107, .aload_n 0, 1), (108, .getfield 222, 3), (111, .iload_n 3, 1), (112, .aload_n 0, 1), (113, .getfield 197, 3), (116, .iload_n 3, 1), (117, .iaload, 1), (118, .iastore, 1), (119, .aload_n 0, 1), (120, .getfield 225, 3), (123, .iload_n 3, 1), (124, .aload_n 0, 1), (125, .getfield 200, 3), (128, .iload_n 3, 1), (129, .iaload, 1), (130, .iastore, 1), (131, .iinc 3 1, 3), (134, .goto (-59), 3), (137, .aload_n 0, 1), (138, .getfield 228, 3), (141, .iload_n 1, 1), (142, .iconst 1, 1), (143, .bastore, 1), (144, .iconst 0, 1), (145, .istore_n 3, 1), (146, .iload_n 3, 1), (147, .aload_n 0, 1), (148, .getfield 84, 3), (151, .iload_n 1, 1), (152, .iaload, 1), (153, .if_icmp .ge 47, 3), (156, .aload_n 0, 1), (157, .getfield 210, 3), (160, .iload_n 3, 1), (161, .aload_n 0, 1), (162, .getfield 181, 3), (165, .iload_n 3, 1), (166, .iaload, 1), (167, .iastore, 1), (168, .aload_n 0, 1), (169, .getfield 213, 3), (172, .iload_n 3, 1), (173, .aload_n 0, 1), (174, .getfield 184, 3), (177, .iload_n 3, 1), (178, .iaload, 1), (179, .iastore, 1), (180, .aload_n 0, 1), (181, .getfield 232, 3), (184, .iload_n 1, 1), (185, .aaload, 1), (186, .iload_n 3, 1), (187, .aload_n 0, 1), (188, .getfield 184, 3), (191, .iload_n 3, 1), (192, .iaload, 1), (193, .iastore, 1), (194, .iinc 3 1, 3), (197, .goto (-51), 3), (200, .aload_n 0, 1), (201, .getfield 470, 3), (204, .ireturn, 1)] : List (Nat × Instr × Nat)), decode cX11_make q.1 = .ok q.2 := by decide +kernel
set_option maxHeartbeats 4000000 in
set_option maxRecDepth 20000 in
theorem s11_make_c146 {Y : m_Y Int} (S : m_Std Y RX11 cX11_make) (E : m_End Y cX11_make .ireturn (fun r => [m_i r])) {F : Nat} (hF : m_Rm Y F) (hFn : 7 ≤ F) (hN : Y.2.2.2.1 = 4) : ∀ (v0 v1 v3 : Int) (h : m_H), m_Sim Y 146 [(0, m_r v0), (1, m_i v1), (3, m_i v3)] [] h (t11_make_c146 v0 v1 v3 h) := by
  intro v0 v1 v3 h
  refine ms_all fun r e => ?_
  refine t11_make_c146.partial_correctness v0 v1 (motive := fun v3 h r => m_Sim Y 146 [(0, m_r v0), (1, m_i v1), (3, m_i v3)] [] h (some r)) ?_ v3 h r e
  intro f ih v3 h r e
  have ih : ∀ (v3 : Int) (h : m_H), m_Sim Y 146 [(0, m_r v0), (1, m_i v1), (3, m_i v3)] [] h (f v3 h ) := fun v3 h  => ms_all fun r e => ih v3 h r e
  refine ms_use ?_ e
  clear e r
  refine ms_iload_n (pc := 146) S 2 rfl rfl (m_dec e11_make 88 rfl) ?_
  refine ms_aload_n (pc := 147) S 0 rfl rfl (m_dec e11_make 89 rfl) ?_
  refine ms_grd fun g1 => ?_
  refine ms_getf (pc := 148) S lf_X11_84 rfl (m_dec e11_make 90 rfl) g1 ?_
  refine ms_iload_n (pc := 151) S 1 rfl rfl (m_dec e11_make 91 rfl) ?_
  refine ms_grd fun g2 => ?_
  refine ms_iald (pc := 152) S g2 (m_dec e11_make 92 rfl) ?_
  refine ms_icmp_ge (pc := 153) S (m_dec e11_make 93 rfl) rfl (fun q3 => ?_) (fun q3 => ?_)
  · refine ms_aload_n (pc := 156) S 0 rfl rfl (m_dec e11_make 94 rfl) ?_
    refine ms_getf (pc := 157) S lf_X11_210 rfl (m_dec e11_make 95 rfl) g1 ?_
    refine ms_iload_n (pc := 160) S 2 rfl rfl (m_dec e11_make 96 rfl) ?_
    refine ms_aload_n (pc := 161) S 0 rfl rfl (m_dec e11_make 97 rfl) ?_
    refine ms_getf (pc := 162) S lf_X11_181 rfl (m_dec e11_make 98 rfl) g1 ?_
    refine ms_iload_n (pc := 165) S 2 rfl rfl (m_dec e11_make 99 rfl) ?_
    refine ms_grd fun g4 => ?_
    refine ms_iald (pc := 166) S g4 (m_dec e11_make 100 rfl) ?_
    refine ms_grd fun g5 => ?_
    refine ms_iast (pc := 167) S g5 (m_dec e11_make 101 rfl) (fun h6 => ?_)
    refine ms_aload_n (pc := 168) S 0 rfl rfl (m_dec e11_make 102 rfl) ?_
    refine ms_grd fun g7 => ?_
    refine ms_getf (pc := 169) S lf_X11_213 rfl (m_dec e11_make 103 rfl) g7 ?_
    refine ms_iload_n (pc := 172) S 2 rfl rfl (m_dec e11_make 104 rfl) ?_
    refine ms_aload_n (pc := 173) S 0 rfl rfl (m_dec e11_make 105 rfl) ?_
    refine ms_getf (pc := 174) S lf_X11_184 rfl (m_dec e11_make 106 rfl) g7 ?_
    refine ms_iload_n (pc := 177) S 2 rfl rfl (m_dec e11_make 107 rfl) ?_
    refine ms_grd fun g8 => ?_
    refine ms_iald (pc := 178) S g8 (m_dec e11_make 108 rfl) ?_
    refine ms_grd fun g9 => ?_
    refine ms_iast (pc := 179) S g9 (m_dec e11_make 109 rfl) (fun h10 => ?_)
    refine ms_aload_n (pc := 180) S 0 rfl rfl (m_dec e11_make 110 rfl) ?_
    refine ms_grd fun g11 => ?_
    refine ms_getf (pc := 181) S lf_X11_232 rfl (m_dec e11_make 111 rfl) g11 ?_
    refine ms_iload_n (pc := 184) S 1 rfl rfl (m_dec e11_make 112 rfl) ?_
    refine ms_grd fun g12 => ?_
    refine ms_aald (pc := 185) S 29 (by decide) (fun _ => rfl) rfl g12 (m_dec e11_make 113 rfl) ?_
    refine ms_iload_n (pc := 186) S 2 rfl rfl (m_dec e11_make 114 rfl) ?_
    refine ms_aload_n (pc := 187) S 0 rfl rfl (m_dec e11_make 115 rfl) ?_
    refine ms_getf (pc := 188) S lf_X11_184 rfl (m_dec e11_make 116 rfl) g11 ?_
    refine ms_iload_n (pc := 191) S 2 rfl rfl (m_dec e11_make 117 rfl) ?_
    refine ms_grd fun g13 => ?_
    refine ms_iald (pc := 192) S g13 (m_dec e11_make 118 rfl) ?_
    refine ms_grd fun g14 => ?_
    refine ms_iast (pc := 193) S g14 (m_dec e11_make 119 rfl) (fun h15 => ?_)
    refine ms_iinc (pc := 194) S (L' := [(0, m_r v0), (1, m_i v1), (3, m_i (v3 + 1))]) 2 rfl [1, 2, 0] rfl (m_lt hN rfl) (m_dec e11_make 120 rfl) ?_
    refine ms_goto (pc := 197) S (m_dec e11_make 121 rfl) rfl ?_
    exact ih (v3 + 1) h15
  · refine ms_aload_n (pc := 200) S 0 rfl rfl (m_dec e11_make 122 rfl) ?_
    refine ms_getf (pc := 201) S lf_X11_470 rfl (m_dec e11_make 123 rfl) g1 ?_
    exact ms_ret (pc := 204) E (m_dec e11_make 124 rfl) rfl
set_option maxHeartbeats 4000000 in
set_option maxRecDepth 20000 in
theorem s11_make_c75 {Y : m_Y Int} (S : m_Std Y RX11 cX11_make) (E : m_End Y cX11_make .ireturn (fun r => [m_i r])) {F : Nat} (hF : m_Rm Y F) (hFn : 7 ≤ F) (hN : Y.2.2.2.1 = 4) : ∀ (v0 v1 v3 : Int) (h : m_H), m_Sim Y 75 [(0, m_r v0), (1, m_i v1), (3, m_i v3)] [] h (t11_make_c75 v0 v1 v3 h) := by
  intro v0 v1 v3 h
  refine ms_all fun r e => ?_
  refine t11_make_c75.partial_correctness v0 v1 (motive := fun v3 h r => m_Sim Y 75 [(0, m_r v0), (1, m_i v1), (3, m_i v3)] [] h (some r)) ?_ v3 h r e
  intro f ih v3 h r e
  have ih : ∀ (v3 : Int) (h : m_H), m_Sim Y 75 [(0, m_r v0), (1, m_i v1), (3, m_i v3)] [] h (f v3 h ) := fun v3 h  => ms_all fun r e => ih v3 h r e
  refine ms_use ?_ e
  clear e r
  refine ms_iload_n (pc := 75) S 2 rfl rfl (m_dec e11_make 43 rfl) ?_
  refine ms_aload_n (pc := 76) S 0 rfl rfl (m_dec e11_make 44 rfl) ?_
  refine ms_grd fun g1 => ?_
  refine ms_getf (pc := 77) S lf_X11_467 rfl (m_dec e11_make 45 rfl) g1 ?_
  refine ms_icmp_ge (pc := 80) S (m_dec e11_make 46 rfl) rfl (fun q2 => ?_) (fun q2 => ?_)
  · refine ms_aload_n (pc := 83) S 0 rfl rfl (m_dec e11_make 47 rfl) ?_
    refine ms_getf (pc := 84) S lf_X11_216 rfl (m_dec e11_make 48 rfl) g1 ?_
    refine ms_iload_n (pc := 87) S 2 rfl rfl (m_dec e11_make 49 rfl) ?_
    refine ms_aload_n (pc := 88) S 0 rfl rfl (m_dec e11_make 50 rfl) ?_
    refine ms_getf (pc := 89) S lf_X11_191 rfl (m_dec e11_make 51 rfl) g1 ?_
    refine ms_iload_n (pc := 92) S 2 rfl rfl (m_dec e11_make 52 rfl) ?_
    refine ms_grd fun g3 => ?_
    refine ms_iald (pc := 93) S g3 (m_dec e11_make 53 rfl) ?_
    refine ms_grd fun g4 => ?_
    refine ms_iast (pc := 94) S g4 (m_dec e11_make 54 rfl) (fun h5 => ?_)
    refine ms_aload_n (pc := 95) S 0 rfl rfl (m_dec e11_make 55 rfl) ?_
    refine ms_grd fun g6 => ?_
    refine ms_getf (pc := 96) S lf_X11_219 rfl (m_dec e11_make 56 rfl) g6 ?_
    refine ms_iload_n (pc := 99) S 2 rfl rfl (m_dec e11_make 57 rfl) ?_
    refine ms_aload_n (pc := 100) S 0 rfl rfl (m_dec e11_make 58 rfl) ?_
    refine ms_getf (pc := 101) S lf_X11_194 rfl (m_dec e11_make 59 rfl) g6 ?_
    refine ms_iload_n (pc := 104) S 2 rfl rfl (m_dec e11_make 60 rfl) ?_
    refine ms_grd fun g7 => ?_
    refine ms_iald (pc := 105) S g7 (m_dec e11_make 61 rfl) ?_
    refine ms_grd fun g8 => ?_
    refine ms_iast (pc := 106) S g8 (m_dec e11_make 62 rfl) (fun h9 => ?_)
    refine ms_aload_n (pc := 107) S 0 rfl rfl (m_dec e11_make 63 rfl) ?_
    refine ms_grd fun g10 => ?_
    refine ms_getf (pc := 108) S lf_X11_222 rfl (m_dec e11_make 64 rfl) g10 ?_
    refine ms_iload_n (pc := 111) S 2 rfl rfl (m_dec e11_make 65 rfl) ?_
    refine ms_aload_n (pc := 112) S 0 rfl rfl (m_dec e11_make 66 rfl) ?_
    refine ms_getf (pc := 113) S lf_X11_197 rfl (m_dec e11_make 67 rfl) g10 ?_
    refine ms_iload_n (pc := 116) S 2 rfl rfl (m_dec e11_make 68 rfl) ?_
    refine ms_grd fun g11 => ?_
    refine ms_iald (pc := 117) S g11 (m_dec e11_make 69 rfl) ?_
    refine ms_grd fun g12 => ?_
    refine ms_iast (pc := 118) S g12 (m_dec e11_make 70 rfl) (fun h13 => ?_)
    refine ms_aload_n (pc := 119) S 0 rfl rfl (m_dec e11_make 71 rfl) ?_
    refine ms_grd fun g14 => ?_
    refine ms_getf (pc := 120) S lf_X11_225 rfl (m_dec e11_make 72 rfl) g14 ?_
    refine ms_iload_n (pc := 123) S 2 rfl rfl (m_dec e11_make 73 rfl) ?_
    refine ms_aload_n (pc := 124) S 0 rfl rfl (m_dec e11_make 74 rfl) ?_
    refine ms_getf (pc := 125) S lf_X11_200 rfl (m_dec e11_make 75 rfl) g14 ?_
    refine ms_iload_n (pc := 128) S 2 rfl rfl (m_dec e11_make 76 rfl) ?_
    refine ms_grd fun g15 => ?_
    refine ms_iald (pc := 129) S g15 (m_dec e11_make 77 rfl) ?_
    refine ms_grd fun g16 => ?_
    refine ms_iast (pc := 130) S g16 (m_dec e11_make 78 rfl) (fun h17 => ?_)
    refine ms_iinc (pc := 131) S (L' := [(0, m_r v0), (1, m_i v1), (3, m_i (v3 + 1))]) 2 rfl [1, 2, 0] rfl (m_lt hN rfl) (m_dec e11_make 79 rfl) ?_
    refine ms_goto (pc := 134) S (m_dec e11_make 80 rfl) rfl ?_
    exact ih (v3 + 1) h17
  · refine ms_aload_n (pc := 137) S 0 rfl rfl (m_dec e11_make 81 rfl) ?_
    refine ms_getf (pc := 138) S lf_X11_228 rfl (m_dec e11_make 82 rfl) g1 ?_
    refine ms_iload_n (pc := 141) S 1 rfl rfl (m_dec e11_make 83 rfl) ?_
    refine ms_iconst (pc := 142) S (m_dec e11_make 84 rfl) ?_
    refine ms_grd fun g18 => ?_
    refine ms_zast (pc := 143) S (by decide) g18 (m_dec e11_make 85 rfl) (fun h19 => ?_)
    refine ms_iconst (pc := 144) S (m_dec e11_make 86 rfl) ?_
    refine ms_istore_n (pc := 145) S (L' := [(0, m_r v0), (1, m_i v1), (3, m_i 0)]) [1, 2, 0] rfl rfl (m_lt hN rfl) (m_dec e11_make 87 rfl) ?_
    exact s11_make_c146 S E hF hFn hN v0 v1 0 h19
set_option maxHeartbeats 4000000 in
set_option maxRecDepth 20000 in
theorem s11_make_c36 {Y : m_Y Int} (S : m_Std Y RX11 cX11_make) (E : m_End Y cX11_make .ireturn (fun r => [m_i r])) {F : Nat} (hF : m_Rm Y F) (hFn : 7 ≤ F) (hN : Y.2.2.2.1 = 4) : ∀ (v0 v1 v3 : Int) (h : m_H), m_Sim Y 36 [(0, m_r v0), (1, m_i v1), (3, m_i v3)] [] h (t11_make_c36 v0 v1 v3 h) := by
  intro v0 v1 v3 h
  refine ms_all fun r e => ?_
  refine t11_make_c36.partial_correctness v0 v1 (motive := fun v3 h r => m_Sim Y 36 [(0, m_r v0), (1, m_i v1), (3, m_i v3)] [] h (some r)) ?_ v3 h r e
  intro f ih v3 h r e
  have ih : ∀ (v3 : Int) (h : m_H), m_Sim Y 36 [(0, m_r v0), (1, m_i v1), (3, m_i v3)] [] h (f v3 h ) := fun v3 h  => ms_all fun r e => ih v3 h r e
  refine ms_use ?_ e
  clear e r
  refine ms_iload_n (pc := 36) S 2 rfl rfl (m_dec e11_make 22 rfl) ?_
  refine ms_aload_n (pc := 37) S 0 rfl rfl (m_dec e11_make 23 rfl) ?_
  refine ms_grd fun g1 => ?_
  refine ms_getf (pc := 38) S lf_X11_470 rfl (m_dec e11_make 24 rfl) g1 ?_
  refine ms_icmp_ge (pc := 41) S (m_dec e11_make 25 rfl) rfl (fun q2 => ?_) (fun q2 => ?_)
  · refine ms_aload_n (pc := 44) S 0 rfl rfl (m_dec e11_make 26 rfl) ?_
    refine ms_getf (pc := 45) S lf_X11_207 rfl (m_dec e11_make 27 rfl) g1 ?_
    refine ms_iload_n (pc := 48) S 2 rfl rfl (m_dec e11_make 28 rfl) ?_
    refine ms_aload_n (pc := 49) S 0 rfl rfl (m_dec e11_make 29 rfl) ?_
    refine ms_getf (pc := 50) S lf_X11_187 rfl (m_dec e11_make 30 rfl) g1 ?_
    refine ms_iload_n (pc := 53) S 2 rfl rfl (m_dec e11_make 31 rfl) ?_
    refine ms_grd fun g3 => ?_
    refine ms_lald (pc := 54) S g3 (m_dec e11_make 32 rfl) ?_
    refine ms_callSi (pc := 55) S hF (vals := [m_j (m_g h (m_g h v0 53) (m_w v3))]) (st := [m_i v3, m_r (m_g h v0 63)])  (hC := (k11_bounded _ _ (m_g h (m_g h v0 53) (m_w v3)) h)) (hM := lm_X11_320) (hfr := (Nat.le_trans (by decide) hFn)) (hstk := rfl) (hcat := Nat.le_of_ble_eq_true rfl) (hd := (m_dec e11_make 33 rfl)) (k1 := fun r5 h4 => ?_)
    refine ms_grd fun g6 => ?_
    refine ms_iast (pc := 58) S g6 (m_dec e11_make 34 rfl) (fun h7 => ?_)
    refine ms_iinc (pc := 59) S (L' := [(0, m_r v0), (1, m_i v1), (3, m_i (v3 + 1))]) 2 rfl [1, 2, 0] rfl (m_lt hN rfl) (m_dec e11_make 35 rfl) ?_
    refine ms_goto (pc := 62) S (m_dec e11_make 36 rfl) rfl ?_
    exact ih (v3 + 1) h7
  · refine ms_aload_n (pc := 65) S 0 rfl rfl (m_dec e11_make 37 rfl) ?_
    refine ms_aload_n (pc := 66) S 0 rfl rfl (m_dec e11_make 38 rfl) ?_
    refine ms_getf (pc := 67) S lf_X11_467 rfl (m_dec e11_make 39 rfl) g1 ?_
    refine ms_putf (pc := 70) S lp_X11_522 (fun z => by cases z) rfl (fun d => m_fitI d _) (m_dec e11_make 40 rfl) g1 (fun h8 => ?_)
    refine ms_iconst (pc := 73) S (m_dec e11_make 41 rfl) ?_
    refine ms_istore_n (pc := 74) S (L' := [(0, m_r v0), (1, m_i v1), (3, m_i 0)]) [1, 2, 0] rfl rfl (m_lt hN rfl) (m_dec e11_make 42 rfl) ?_
    exact s11_make_c75 S E hF hFn hN v0 v1 0 h8
set_option maxHeartbeats 4000000 in
set_option maxRecDepth 20000 in
theorem s11_make {Y : m_Y Int} (S : m_Std Y RX11 cX11_make) (E : m_End Y cX11_make .ireturn (fun r => [m_i r])) {F : Nat} (hF : m_Rm Y F) (hFn : 7 ≤ F) (hN : Y.2.2.2.1 = 4) (v0 v1 v2 : Int) (h : m_H) : m_Sim Y 0 [(0, m_r v0), (1, m_i v1), (2, m_i v2)] [] h (t11_make v0 v1 v2 h) := by
  unfold t11_make
  refine ms_aload_n (pc := 0) S 0 rfl rfl (m_dec e11_make 0 rfl) ?_
  refine ms_iload_n (pc := 1) S 1 rfl rfl (m_dec e11_make 1 rfl) ?_
  refine ms_iload_n (pc := 2) S 2 rfl rfl (m_dec e11_make 2 rfl) ?_
  refine ms_grd fun g1 => ?_
  refine ms_callVz (pc := 3) S hF (vals := [m_i v1, m_i v2]) (st := []) (hc := vw_11) (hci := by decide) (hcy := rfl) (ht := g1) (hC := (k11_canMake _ _ v0 v1 v2 h)) (hM := lm_X11_514) (hfr := (Nat.le_trans (by decide) hFn)) (hstk := rfl) (hcat := Nat.le_of_ble_eq_true rfl) (hd := (m_dec e11_make 3 rfl)) (k1 := fun r3 h2 => ?_)
  refine ms_ifb_eq (pc := 6) S (m_dec e11_make 4 rfl) rfl (fun q4 => ?_) (fun q4 => ?_)
  · refine ms_aload_n (pc := 9) S 0 rfl rfl (m_dec e11_make 5 rfl) ?_
    refine ms_iload_n (pc := 10) S 1 rfl rfl (m_dec e11_make 6 rfl) ?_
    refine ms_iload_n (pc := 11) S 2 rfl rfl (m_dec e11_make 7 rfl) ?_
    refine ms_grd fun g5 => ?_
    refine ms_callVi (pc := 12) S hF (vals := [m_i v1, m_i v2]) (st := []) (hc := vw_11) (hci := by decide) (hcy := rfl) (ht := g5) (hC := (k11_makes_ _ _ v0 v1 v2 h2)) (hM := lm_X11_517) (hfr := (Nat.le_trans (by decide) hFn)) (hstk := rfl) (hcat := Nat.le_of_ble_eq_true rfl) (hd := (m_dec e11_make 8 rfl)) (k1 := fun r7 h6 => ?_)
    refine ms_iconst (pc := 15) S (m_dec e11_make 9 rfl) ?_
    refine ms_icmp_eq (pc := 16) S (m_dec e11_make 10 rfl) rfl (fun q8 => ?_) (fun q8 => ?_)
    · refine ms_aload_n (pc := 21) S 0 rfl rfl (m_dec e11_make 13 rfl) ?_
      refine ms_iload_n (pc := 22) S 1 rfl rfl (m_dec e11_make 14 rfl) ?_
      refine ms_grd fun g9 => ?_
      refine ms_putf (pc := 23) S lp_X11_203 (fun z => by cases z) rfl (fun d => m_fitI d _) (m_dec e11_make 15 rfl) g9 (fun h10 => ?_)
      refine ms_aload_n (pc := 26) S 0 rfl rfl (m_dec e11_make 16 rfl) ?_
      refine ms_aload_n (pc := 27) S 0 rfl rfl (m_dec e11_make 17 rfl) ?_
      refine ms_grd fun g11 => ?_
      refine ms_getf (pc := 28) S lf_X11_470 rfl (m_dec e11_make 18 rfl) g11 ?_
      refine ms_putf (pc := 31) S lp_X11_519 (fun z => by cases z) rfl (fun d => m_fitI d _) (m_dec e11_make 19 rfl) g11 (fun h12 => ?_)
      refine ms_iconst (pc := 34) S (m_dec e11_make 20 rfl) ?_
      refine ms_istore_n (pc := 35) S (L' := [(0, m_r v0), (1, m_i v1), (3, m_i 0)]) [1, 2, 0] rfl rfl (m_lt hN rfl) (m_dec e11_make 21 rfl) ?_
      exact s11_make_c36 S E hF hFn hN v0 v1 0 h12
    · refine ms_iconst (pc := 19) S (m_dec e11_make 11 rfl) ?_
      exact ms_ret (pc := 20) E (m_dec e11_make 12 rfl) rfl
  · refine ms_iconst (pc := 19) S (m_dec e11_make 11 rfl) ?_
    exact ms_ret (pc := 20) E (m_dec e11_make 12 rfl) rfl
theorem k11_make (l : Launch) (d : m_D) (v0 v1 v2 : Int) (h : m_H) : m_Con l d yX11_make cX11_make 4 (some .int) 7 (fun r => [m_i r]) [m_r v0, m_i v1, m_i v2] h (t11_make v0 v1 v2 h) :=
  m_con2 (by decide +kernel) (Nat.le_of_ble_eq_true rfl) (fun Y hN hRm hr hI S hfin => s11_make S (m_end_i S hr hfin) hRm (Nat.le_refl _) hN v0 v1 v2 h)
set_option maxRecDepth 100000 in
theorem e11_fails_ : ∀ q ∈ ([(0, .aload_n 0, 1), (1, .iload_n 1, 1), (2, .iload_n 2, 1), (3, .invokevirtual 514, 3), (6, .ifCond .eq 12, 3), (9, .aload_n 0, 1), (10, .iload_n 1, 1), (11, .iload_n 2, 1), (12, .invokevirtual 517, 3), (15, .goto 4, 3), (18, .iconst (-1), 1), (19, .ireturn, 1)] : List (Nat × Instr × Nat)), decode cX11_fails_ q.1 = .ok q.2 := by decide +kernel
set_option maxHeartbeats 4000000 in
set_option maxRecDepth 20000 in
theorem s11_fails_ {Y : m_Y Int} (S : m_Std Y RX11 cX11_fails_) (E : m_End Y cX11_fails_ .ireturn (fun r => [m_i r])) {F : Nat} (hF : m_Rm Y F) (hFn : 7 ≤ F) (hN : Y.2.2.2.1 = 3) (v0 v1 v2 : Int) (h : m_H) : m_Sim Y 0 [(0, m_r v0), (1, m_i v1), (2, m_i v2)] [] h (t11_fails_ v0 v1 v2 h) := by
  unfold t11_fails_
  refine ms_aload_n (pc := 0) S 0 rfl rfl (m_dec e11_fails_ 0 rfl) ?_
  refine ms_iload_n (pc := 1) S 1 rfl rfl (m_dec e11_fails_ 1 rfl) ?_
  refine ms_iload_n (pc := 2) S 2 rfl rfl (m_dec e11_fails_ 2 rfl) ?_
  refine ms_grd fun g1 => ?_
  refine ms_callVz (pc := 3) S hF (vals := [m_i v1, m_i v2]) (st := []) (hc := vw_11) (hci := by decide) (hcy := rfl) (ht := g1) (hC := (k11_canMake _ _ v0 v1 v2 h)) (hM := lm_X11_514) (hfr := (Nat.le_trans (by decide) hFn)) (hstk := rfl) (hcat := Nat.le_of_ble_eq_true rfl) (hd := (m_dec e11_fails_ 3 rfl)) (k1 := fun r3 h2 => ?_)
  refine ms_ifb_eq (pc := 6) S (m_dec e11_fails_ 4 rfl) rfl (fun q4 => ?_) (fun q4 => ?_)
  · refine ms_aload_n (pc := 9) S 0 rfl rfl (m_dec e11_fails_ 5 rfl) ?_
    refine ms_iload_n (pc := 10) S 1 rfl rfl (m_dec e11_fails_ 6 rfl) ?_
    refine ms_iload_n (pc := 11) S 2 rfl rfl (m_dec e11_fails_ 7 rfl) ?_
    refine ms_grd fun g5 => ?_
    refine ms_callVi (pc := 12) S hF (vals := [m_i v1, m_i v2]) (st := []) (hc := vw_11) (hci := by decide) (hcy := rfl) (ht := g5) (hC := (k11_makes_ _ _ v0 v1 v2 h2)) (hM := lm_X11_517) (hfr := (Nat.le_trans (by decide) hFn)) (hstk := rfl) (hcat := Nat.le_of_ble_eq_true rfl) (hd := (m_dec e11_fails_ 8 rfl)) (k1 := fun r7 h6 => ?_)
    refine ms_goto (pc := 15) S (m_dec e11_fails_ 9 rfl) rfl ?_
    exact ms_ret (pc := 19) E (m_dec e11_fails_ 11 rfl) rfl
  · refine ms_iconst (pc := 18) S (m_dec e11_fails_ 10 rfl) ?_
    exact ms_ret (pc := 19) E (m_dec e11_fails_ 11 rfl) rfl
theorem k11_fails_ (l : Launch) (d : m_D) (v0 v1 v2 : Int) (h : m_H) : m_Con l d yX11_fails_ cX11_fails_ 3 (some .int) 7 (fun r => [m_i r]) [m_r v0, m_i v1, m_i v2] h (t11_fails_ v0 v1 v2 h) :=
  m_con2 (by decide +kernel) (Nat.le_of_ble_eq_true rfl) (fun Y hN hRm hr hI S hfin => s11_fails_ S (m_end_i S hr hfin) hRm (Nat.le_refl _) hN v0 v1 v2 h)
set_option maxRecDepth 100000 in
theorem e11_out : ∀ q ∈ ([(0, .aload_n 0, 1), (1, .getfield 203, 3), (4, .iconst (-1), 1), (5, .if_icmp .eq 28, 3), (8, .iload_n 1, 1), (9, .i2l, 1), (10, .lconst 0, 1), (11, .aload_n 0, 1), (12, .getfield 519, 3), (15, .iconst 1, 1), (16, .isub, 1), (17, .i2l, 1), (18, .invokestatic 268, 3), (21, .ifCond .eq 12, 3), (24, .aload_n 0, 1), (25, .getfield 207, 3), (28, .iload_n 1, 1), (29, .iaload, 1), (30, .goto 6, 3), (33, .ldc_w 368, 3), (36, .ireturn, 1)] : List (Nat × Instr × Nat)), decode cX11_out q.1 = .ok q.2 := by decide +kernel
set_option maxHeartbeats 4000000 in
set_option maxRecDepth 20000 in
theorem s11_out {Y : m_Y Int} (S : m_Std Y RX11 cX11_out) (E : m_End Y cX11_out .ireturn (fun r => [m_i r])) {F : Nat} (hF : m_Rm Y F) (hFn : 1 ≤ F) (hN : Y.2.2.2.1 = 2) (v0 v1 : Int) (h : m_H) : m_Sim Y 0 [(0, m_r v0), (1, m_i v1)] [] h (t11_out v0 v1 h) := by
  unfold t11_out
  refine ms_aload_n (pc := 0) S 0 rfl rfl (m_dec e11_out 0 rfl) ?_
  refine ms_grd fun g1 => ?_
  refine ms_getf (pc := 1) S lf_X11_203 rfl (m_dec e11_out 1 rfl) g1 ?_
  refine ms_iconst (pc := 4) S (m_dec e11_out 2 rfl) ?_
  refine ms_icmp_eq (pc := 5) S (m_dec e11_out 3 rfl) rfl (fun q2 => ?_) (fun q2 => ?_)
  · refine ms_ldcw (pc := 33) S (n := (-2147483648)) w_1919 (m_dec e11_out 19 rfl) ?_
    exact ms_ret (pc := 36) E (m_dec e11_out 20 rfl) rfl
  · refine ms_iload_n (pc := 8) S 1 rfl rfl (m_dec e11_out 4 rfl) ?_
    refine ms_i2l (pc := 9) S (m_dec e11_out 5 rfl) ?_
    refine ms_lconst (pc := 10) S (n := 0) rfl (m_dec e11_out 6 rfl) ?_
    refine ms_aload_n (pc := 11) S 0 rfl rfl (m_dec e11_out 7 rfl) ?_
    refine ms_getf (pc := 12) S lf_X11_519 rfl (m_dec e11_out 8 rfl) g1 ?_
    refine ms_iconst (pc := 15) S (m_dec e11_out 9 rfl) ?_
    refine ms_isub (pc := 16) S (m_dec e11_out 10 rfl) ?_
    refine ms_i2l (pc := 17) S (m_dec e11_out 11 rfl) ?_
    refine ms_callSz (pc := 18) S hF (vals := [m_j (m_w v1), m_j 0, m_j (m_w ((m_g h v0 61) - 1))]) (st := [])  (hC := (k11_in _ _ (m_w v1) 0 (m_w ((m_g h v0 61) - 1)) h)) (hM := lm_X11_268) (hfr := (Nat.le_trans (by decide) hFn)) (hstk := rfl) (hcat := Nat.le_of_ble_eq_true rfl) (hd := (m_dec e11_out 12 rfl)) (k1 := fun r4 h3 => ?_)
    refine ms_ifb_eq (pc := 21) S (m_dec e11_out 13 rfl) rfl (fun q5 => ?_) (fun q5 => ?_)
    · refine ms_aload_n (pc := 24) S 0 rfl rfl (m_dec e11_out 14 rfl) ?_
      refine ms_grd fun g6 => ?_
      refine ms_getf (pc := 25) S lf_X11_207 rfl (m_dec e11_out 15 rfl) g6 ?_
      refine ms_iload_n (pc := 28) S 1 rfl rfl (m_dec e11_out 16 rfl) ?_
      refine ms_grd fun g7 => ?_
      refine ms_iald (pc := 29) S g7 (m_dec e11_out 17 rfl) ?_
      refine ms_goto (pc := 30) S (m_dec e11_out 18 rfl) rfl ?_
      exact ms_ret (pc := 36) E (m_dec e11_out 20 rfl) rfl
    · refine ms_ldcw (pc := 33) S (n := (-2147483648)) w_1919 (m_dec e11_out 19 rfl) ?_
      exact ms_ret (pc := 36) E (m_dec e11_out 20 rfl) rfl
theorem k11_out (l : Launch) (d : m_D) (v0 v1 : Int) (h : m_H) : m_Con l d yX11_out cX11_out 2 (some .int) 1 (fun r => [m_i r]) [m_r v0, m_i v1] h (t11_out v0 v1 h) :=
  m_con2 (by decide +kernel) (Nat.le_of_ble_eq_true rfl) (fun Y hN hRm hr hI S hfin => s11_out S (m_end_i S hr hfin) hRm (Nat.le_refl _) hN v0 v1 h)
set_option maxRecDepth 100000 in
theorem e11_isOver : ∀ q ∈ ([(0, .iload_n 2, 1), (1, .i2l, 1), (2, .aload_n 0, 1), (3, .getfield 222, 3), (6, .iload_n 1, 1), (7, .iaload, 1), (8, .i2l, 1), (9, .aload_n 0, 1), (10, .getfield 222, 3), (13, .iload_n 1, 1), (14, .iaload, 1), (15, .aload_n 0, 1), (16, .getfield 225, 3), (19, .iload_n 1, 1), (20, .iaload, 1), (21, .iadd, 1), (22, .iconst 1, 1), (23, .isub, 1), (24, .i2l, 1), (25, .invokestatic 268, 3), (28, .ireturn, 1)] : List (Nat × Instr × Nat)), decode cX11_isOver q.1 = .ok q.2 := by decide +kernel
set_option maxHeartbeats 4000000 in
set_option maxRecDepth 20000 in
theorem s11_isOver {Y : m_Y Bool} (S : m_Std Y RX11 cX11_isOver) (E : m_End Y cX11_isOver .ireturn (fun r => [m_i (m_b2i r)])) {F : Nat} (hF : m_Rm Y F) (hFn : 1 ≤ F) (hN : Y.2.2.2.1 = 3) (v0 v1 v2 : Int) (h : m_H) : m_Sim Y 0 [(0, m_r v0), (1, m_i v1), (2, m_i v2)] [] h (t11_isOver v0 v1 v2 h) := by
  unfold t11_isOver
  refine ms_iload_n (pc := 0) S 2 rfl rfl (m_dec e11_isOver 0 rfl) ?_
  refine ms_i2l (pc := 1) S (m_dec e11_isOver 1 rfl) ?_
  refine ms_aload_n (pc := 2) S 0 rfl rfl (m_dec e11_isOver 2 rfl) ?_
  refine ms_grd fun g1 => ?_
  refine ms_getf (pc := 3) S lf_X11_222 rfl (m_dec e11_isOver 3 rfl) g1 ?_
  refine ms_iload_n (pc := 6) S 1 rfl rfl (m_dec e11_isOver 4 rfl) ?_
  refine ms_grd fun g2 => ?_
  refine ms_iald (pc := 7) S g2 (m_dec e11_isOver 5 rfl) ?_
  refine ms_i2l (pc := 8) S (m_dec e11_isOver 6 rfl) ?_
  refine ms_aload_n (pc := 9) S 0 rfl rfl (m_dec e11_isOver 7 rfl) ?_
  refine ms_getf (pc := 10) S lf_X11_222 rfl (m_dec e11_isOver 8 rfl) g1 ?_
  refine ms_iload_n (pc := 13) S 1 rfl rfl (m_dec e11_isOver 9 rfl) ?_
  refine ms_iald (pc := 14) S g2 (m_dec e11_isOver 10 rfl) ?_
  refine ms_aload_n (pc := 15) S 0 rfl rfl (m_dec e11_isOver 11 rfl) ?_
  refine ms_getf (pc := 16) S lf_X11_225 rfl (m_dec e11_isOver 12 rfl) g1 ?_
  refine ms_iload_n (pc := 19) S 1 rfl rfl (m_dec e11_isOver 13 rfl) ?_
  refine ms_grd fun g3 => ?_
  refine ms_iald (pc := 20) S g3 (m_dec e11_isOver 14 rfl) ?_
  refine ms_iadd (pc := 21) S (m_dec e11_isOver 15 rfl) ?_
  refine ms_iconst (pc := 22) S (m_dec e11_isOver 16 rfl) ?_
  refine ms_isub (pc := 23) S (m_dec e11_isOver 17 rfl) ?_
  refine ms_i2l (pc := 24) S (m_dec e11_isOver 18 rfl) ?_
  refine ms_callSz (pc := 25) S hF (vals := [m_j (m_w v2), m_j (m_w (m_g h (m_g h v0 68) (m_w v1))), m_j (m_w (((m_g h (m_g h v0 68) (m_w v1)) + (m_g h (m_g h v0 69) (m_w v1))) - 1))]) (st := [])  (hC := (k11_in _ _ (m_w v2) (m_w (m_g h (m_g h v0 68) (m_w v1))) (m_w (((m_g h (m_g h v0 68) (m_w v1)) + (m_g h (m_g h v0 69) (m_w v1))) - 1)) h)) (hM := lm_X11_268) (hfr := (Nat.le_trans (by decide) hFn)) (hstk := rfl) (hcat := Nat.le_of_ble_eq_true rfl) (hd := (m_dec e11_isOver 19 rfl)) (k1 := fun r5 h4 => ?_)
  exact ms_ret (pc := 28) E (m_dec e11_isOver 20 rfl) rfl
theorem k11_isOver (l : Launch) (d : m_D) (v0 v1 v2 : Int) (h : m_H) : m_Con l d yX11_isOver cX11_isOver 3 (some .boolean) 1 (fun r => [m_i (m_b2i r)]) [m_r v0, m_i v1, m_i v2] h (t11_isOver v0 v1 v2 h) :=
  m_con2 (by decide +kernel) (Nat.le_of_ble_eq_true rfl) (fun Y hN hRm hr hI S hfin => s11_isOver S (m_end_z S hr hfin) hRm (Nat.le_refl _) hN v0 v1 v2 h)
set_option maxRecDepth 100000 in
theorem e11_why : ∀ q ∈ ([(0, .aload_n 0, 1), (1, .getfield 203, 3), (4, .iconst (-1), 1), (5, .if_icmp .ne 5, 3), (8, .iconst (-1), 1), (9, .ireturn, 1), (10, .iconst 0, 1), (11, .istore_n 3, 1), (12, .iload_n 3, 1), (13, .bipush 40, 2), (15, .if_icmp .ge 16, 3), (18, .aload_n 0, 1), (19, .getfield 235, 3), (22, .iload_n 3, 1), (23, .iconst 0, 1), (24, .bastore, 1), (25, .iinc 3 1, 3), (28, .goto (-16), 3), (31, .iconst 0, 1), (32, .istore_n 3, 1), (33, .iload_n 3, 1), (34, .aload_n 0, 1), (35, .getfield 522, 3), (38, .if_icmp .ge 30, 3), (41, .aload_n 0, 1), (42, .iload_n 3, 1), (43, .iload_n 1, 1), (44, .invokevirtual 525, 3), (47, .ifCond .eq 15, 3), (50, .aload_n 0, 1), (51, .getfield 235, 3), (54, .aload_n 0, 1), (55, .getfield 216, 3), (58, .iload_n 3, 1), (59, .iaload, 1), (60, .iconst 1, 1), (61, .bastore, 1), (62, .iinc 3 1, 3), (65, .goto (-32), 3), (68, .aload_n 0, 1), (69, .getfield 84, 3), (72, .aload_n 0, 1), (73, .getfield 203, 3), (76, .iaload, 1), (77, .iconst 1, 1), (78, .isub, 1), (79, .istore_n 3, 1), (80, .iload_n 3, 1), (81, .ifCond .lt 85, 3), (84, .aload_n 0, 1), (85, .getfield 235, 3), (88, .iload_n 3, 1), (89, .baload, 1), (90, .ifCond .ne 6, 3), (93, .goto 67, 3), (96, .aload_n 0, 1), (97, .getfield 92, 3), (100, .aload_n 0, 1), (101, .getfield 203, 3), (104, .aaload, 1), (105, .iload_n 3, 1), (106, .iaload, 1), (107, .iconst (-1), 1), (108, .if_icmp .eq 20, 3), (111, .aload_n 0, 1), (112, .getfield 235, 3), (115, .aload_n 0, 1), (116, .getfield 92, 3), (119, .aload_n 0, 1), (120, .getfield 203, 3), (123, .aaload, 1), (124, .iload_n 3, 1), (125, .iaload, 1), (126, .iconst 1, 1), (127, .bastore, 1), (128, .aload_n 0, 1), (129, .getfield 95, 3), (132, .aload_n 0, 1), (133, .getfield 203, 3), (136, .aaload, 1), (137, .iload_n 3, 1), (138, .iaload, 1), (139, .iconst (-1), 1), (140, .if_icmp .eq 20, 3), (143, .aload_n 0, 1), (144, .getfield 235, 3), (147, .aload_n 0, 1), (148, .getfield 95, 3), (151, .aload_n 0, 1), (152, .getfield 203, 3), (155, .aaload, 1), (156, .iload_n 3, 1), (157, .iaload, 1), (158, .iconst 1, 1), (159, .bastore, 1), (160, .iinc 3 (-1), 3), (163, .goto (-83), 3), (166, .iconst 0, 1), (167, .istore_n 3, 1), (168, .iconst 0, 1), (169, .istore 4, 2), (171, .iload 4, 2), (173, .aload_n 0, 1), (174, .getfield 84, 3), (177, .aload_n 0, 1), (178, .getfield 203, 3), (181, .iaload, 1), (182, .if_icmp .ge 33, 3), (185, .aload_n 0, 1), (186, .getfield 235, 3), (189, .iload 4, 2), (191, .baload, 1), (192, .ifCond .ne 6, 3), (195, .goto 14, 3), (198, .iload_n 3, 1), (199, .iload_n 2, 1), (200, .if_icmp .ne 6, 3), (203, .iload 4, 2), (205, .ireturn, 1), (206, .iinc 3 1, 3), (209, .iinc 4 1, 3), (212, .goto (-41), 3), (215, .iconst (-1), 1), (216, .ireturn, 1)] : List (Nat × Instr × Nat)), decode cX11_why q.1 = .ok q.2 := by decide +kernel
set_option maxHeartbeats 4000000 in
set_option maxRecDepth 20000 in
theorem s11_why_c171 {Y : m_Y Int} (S : m_Std Y RX11 cX11_why) (E : m_End Y cX11_why .ireturn (fun r => [m_i r])) {F : Nat} (hF : m_Rm Y F) (hFn : 2 ≤ F) (hN : Y.2.2.2.1 = 5) : ∀ (v0 v2 v3 v4 : Int) (h : m_H), m_Sim Y 171 [(0, m_r v0), (2, m_i v2), (3, m_i v3), (4, m_i v4)] [] h (t11_why_c171 v0 v2 v3 v4 h) := by
  intro v0 v2 v3 v4 h
  refine ms_all fun r e => ?_
  refine t11_why_c171.partial_correctness v0 v2 h (motive := fun v3 v4 r => m_Sim Y 171 [(0, m_r v0), (2, m_i v2), (3, m_i v3), (4, m_i v4)] [] h (some r)) ?_ v3 v4 r e
  intro f ih v3 v4 r e
  have ih : ∀ (v3 v4 : Int) , m_Sim Y 171 [(0, m_r v0), (2, m_i v2), (3, m_i v3), (4, m_i v4)] [] h (f v3 v4 ) := fun v3 v4  => ms_all fun r e => ih v3 v4 r e
  refine ms_use ?_ e
  clear e r
  refine ms_iload (pc := 171) S 3 rfl (m_dec e11_why 101 rfl) ?_
  refine ms_aload_n (pc := 173) S 0 rfl rfl (m_dec e11_why 102 rfl) ?_
  refine ms_grd fun g1 => ?_
  refine ms_getf (pc := 174) S lf_X11_84 rfl (m_dec e11_why 103 rfl) g1 ?_
  refine ms_aload_n (pc := 177) S 0 rfl rfl (m_dec e11_why 104 rfl) ?_
  refine ms_getf (pc := 178) S lf_X11_203 rfl (m_dec e11_why 105 rfl) g1 ?_
  refine ms_grd fun g2 => ?_
  refine ms_iald (pc := 181) S g2 (m_dec e11_why 106 rfl) ?_
  refine ms_icmp_ge (pc := 182) S (m_dec e11_why 107 rfl) rfl (fun q3 => ?_) (fun q3 => ?_)
  · refine ms_aload_n (pc := 185) S 0 rfl rfl (m_dec e11_why 108 rfl) ?_
    refine ms_getf (pc := 186) S lf_X11_235 rfl (m_dec e11_why 109 rfl) g1 ?_
    refine ms_iload (pc := 189) S 3 rfl (m_dec e11_why 110 rfl) ?_
    refine ms_grd fun g4 => ?_
    refine ms_zald (pc := 191) S g4 (m_dec e11_why 111 rfl) ?_
    refine ms_if_ne (pc := 192) S (m_dec e11_why 112 rfl) rfl (fun q5 => ?_) (fun q5 => ?_)
    · refine ms_goto (pc := 195) S (m_dec e11_why 113 rfl) rfl ?_
      refine ms_iinc (pc := 209) S (L' := [(0, m_r v0), (2, m_i v2), (3, m_i v3), (4, m_i (v4 + 1))]) 3 rfl [1, 2, 3, 0] rfl (m_lt hN rfl) (m_dec e11_why 120 rfl) ?_
      refine ms_goto (pc := 212) S (m_dec e11_why 121 rfl) rfl ?_
      exact ih v3 (v4 + 1)
    · refine ms_iload_n (pc := 198) S 2 rfl rfl (m_dec e11_why 114 rfl) ?_
      refine ms_iload_n (pc := 199) S 1 rfl rfl (m_dec e11_why 115 rfl) ?_
      refine ms_icmp_ne (pc := 200) S (m_dec e11_why 116 rfl) rfl (fun q6 => ?_) (fun q6 => ?_)
      · refine ms_iload (pc := 203) S 3 rfl (m_dec e11_why 117 rfl) ?_
        exact ms_ret (pc := 205) E (m_dec e11_why 118 rfl) rfl
      · refine ms_iinc (pc := 206) S (L' := [(0, m_r v0), (2, m_i v2), (3, m_i (v3 + 1)), (4, m_i v4)]) 2 rfl [1, 2, 0, 3] rfl (m_lt hN rfl) (m_dec e11_why 119 rfl) ?_
        refine ms_iinc (pc := 209) S (L' := [(0, m_r v0), (2, m_i v2), (3, m_i (v3 + 1)), (4, m_i (v4 + 1))]) 3 rfl [1, 2, 3, 0] rfl (m_lt hN rfl) (m_dec e11_why 120 rfl) ?_
        refine ms_goto (pc := 212) S (m_dec e11_why 121 rfl) rfl ?_
        exact ih (v3 + 1) (v4 + 1)
  · refine ms_iconst (pc := 215) S (m_dec e11_why 122 rfl) ?_
    exact ms_ret (pc := 216) E (m_dec e11_why 123 rfl) rfl
set_option maxHeartbeats 4000000 in
set_option maxRecDepth 20000 in
theorem s11_why_x80 {Y : m_Y Int} (S : m_Std Y RX11 cX11_why) (E : m_End Y cX11_why .ireturn (fun r => [m_i r])) {F : Nat} (hF : m_Rm Y F) (hFn : 2 ≤ F) (hN : Y.2.2.2.1 = 5) : ∀ (cc : Int) (v0 v2 v3 : Int) (h : m_H) (r : Int × m_H), t11_why_x80 cc v0 v2 v3 h = some r → (cc = 80 → m_Sim Y 80 [(0, m_r v0), (2, m_i v2), (3, m_i v3)] [] h (some r)) ∧ (cc = 128 → m_Sim Y 128 [(0, m_r v0), (2, m_i v2), (3, m_i v3)] [] h (some r)) := by
  intro cc v0 v2 v3 h r e
  refine t11_why_x80.partial_correctness v0 v2 (motive := fun cc v3 h r => (cc = 80 → m_Sim Y 80 [(0, m_r v0), (2, m_i v2), (3, m_i v3)] [] h (some r)) ∧ (cc = 128 → m_Sim Y 128 [(0, m_r v0), (2, m_i v2), (3, m_i v3)] [] h (some r))) ?_ cc v3 h r e
  intro f ih cc v3 h r e
  have ih80 : ∀ (v3 : Int) (h : m_H), m_Sim Y 80 [(0, m_r v0), (2, m_i v2), (3, m_i v3)] [] h (f 80 v3 h ) := fun v3 h  => ms_all fun r e => (ih 80 v3 h r e).1 rfl
  have ih128 : ∀ (v3 : Int) (h : m_H), m_Sim Y 128 [(0, m_r v0), (2, m_i v2), (3, m_i v3)] [] h (f 128 v3 h ) := fun v3 h  => ms_all fun r e => (ih 128 v3 h r e).2 rfl
  refine ⟨?_, ?_⟩
  · intro q0
    subst q0
    rw [if_pos rfl] at e
    refine ms_use ?_ e
    clear e r
    refine ms_iload_n (pc := 80) S 2 rfl rfl (m_dec e11_why 47 rfl) ?_
    refine ms_if_lt (pc := 81) S (m_dec e11_why 48 rfl) rfl (fun q1 => ?_) (fun q1 => ?_)
    · refine ms_iconst (pc := 166) S (m_dec e11_why 97 rfl) ?_
      refine ms_istore_n (pc := 167) S (L' := [(0, m_r v0), (2, m_i v2), (3, m_i 0)]) [1, 2, 0] rfl rfl (m_lt hN rfl) (m_dec e11_why 98 rfl) ?_
      refine ms_iconst (pc := 168) S (m_dec e11_why 99 rfl) ?_
      refine ms_istore (pc := 169) S (L' := [(0, m_r v0), (2, m_i v2), (3, m_i 0), (4, m_i 0)]) [1, 2, 3, 0] rfl (m_lt hN rfl) (m_dec e11_why 100 rfl) ?_
      exact s11_why_c171 S E hF hFn hN v0 v2 0 0 h
    · refine ms_aload_n (pc := 84) S 0 rfl rfl (m_dec e11_why 49 rfl) ?_
      refine ms_grd fun g2 => ?_
      refine ms_getf (pc := 85) S lf_X11_235 rfl (m_dec e11_why 50 rfl) g2 ?_
      refine ms_iload_n (pc := 88) S 2 rfl rfl (m_dec e11_why 51 rfl) ?_
      refine ms_grd fun g3 => ?_
      refine ms_zald (pc := 89) S g3 (m_dec e11_why 52 rfl) ?_
      refine ms_if_ne (pc := 90) S (m_dec e11_why 53 rfl) rfl (fun q4 => ?_) (fun q4 => ?_)
      · refine ms_goto (pc := 93) S (m_dec e11_why 54 rfl) rfl ?_
        refine ms_iinc (pc := 160) S (L' := [(0, m_r v0), (2, m_i v2), (3, m_i (v3 + (-1)))]) 2 rfl [1, 2, 0] rfl (m_lt hN rfl) (m_dec e11_why 95 rfl) ?_
        refine ms_goto (pc := 163) S (m_dec e11_why 96 rfl) rfl ?_
        exact ih80 (v3 + (-1)) h
      · refine ms_aload_n (pc := 96) S 0 rfl rfl (m_dec e11_why 55 rfl) ?_
        refine ms_getf (pc := 97) S lf_X11_92 rfl (m_dec e11_why 56 rfl) g2 ?_
        refine ms_aload_n (pc := 100) S 0 rfl rfl (m_dec e11_why 57 rfl) ?_
        refine ms_getf (pc := 101) S lf_X11_203 rfl (m_dec e11_why 58 rfl) g2 ?_
        refine ms_grd fun g5 => ?_
        refine ms_aald (pc := 104) S 29 (by decide) (fun _ => rfl) rfl g5 (m_dec e11_why 59 rfl) ?_
        refine ms_iload_n (pc := 105) S 2 rfl rfl (m_dec e11_why 60 rfl) ?_
        refine ms_grd fun g6 => ?_
        refine ms_iald (pc := 106) S g6 (m_dec e11_why 61 rfl) ?_
        refine ms_iconst (pc := 107) S (m_dec e11_why 62 rfl) ?_
        refine ms_icmp_eq (pc := 108) S (m_dec e11_why 63 rfl) rfl (fun q7 => ?_) (fun q7 => ?_)
        · exact ih128 v3 h
        · refine ms_aload_n (pc := 111) S 0 rfl rfl (m_dec e11_why 64 rfl) ?_
          refine ms_getf (pc := 112) S lf_X11_235 rfl (m_dec e11_why 65 rfl) g2 ?_
          refine ms_aload_n (pc := 115) S 0 rfl rfl (m_dec e11_why 66 rfl) ?_
          refine ms_getf (pc := 116) S lf_X11_92 rfl (m_dec e11_why 67 rfl) g2 ?_
          refine ms_aload_n (pc := 119) S 0 rfl rfl (m_dec e11_why 68 rfl) ?_
          refine ms_getf (pc := 120) S lf_X11_203 rfl (m_dec e11_why 69 rfl) g2 ?_
          refine ms_aald (pc := 123) S 29 (by decide) (fun _ => rfl) rfl g5 (m_dec e11_why 70 rfl) ?_
          refine ms_iload_n (pc := 124) S 2 rfl rfl (m_dec e11_why 71 rfl) ?_
          refine ms_iald (pc := 125) S g6 (m_dec e11_why 72 rfl) ?_
          refine ms_iconst (pc := 126) S (m_dec e11_why 73 rfl) ?_
          refine ms_grd fun g8 => ?_
          refine ms_zast (pc := 127) S (by decide) g8 (m_dec e11_why 74 rfl) (fun h9 => ?_)
          exact ih128 v3 h9
  · intro q0
    subst q0
    rw [if_neg (by decide), if_pos rfl] at e
    refine ms_use ?_ e
    clear e r
    refine ms_aload_n (pc := 128) S 0 rfl rfl (m_dec e11_why 75 rfl) ?_
    refine ms_grd fun g1 => ?_
    refine ms_getf (pc := 129) S lf_X11_95 rfl (m_dec e11_why 76 rfl) g1 ?_
    refine ms_aload_n (pc := 132) S 0 rfl rfl (m_dec e11_why 77 rfl) ?_
    refine ms_getf (pc := 133) S lf_X11_203 rfl (m_dec e11_why 78 rfl) g1 ?_
    refine ms_grd fun g2 => ?_
    refine ms_aald (pc := 136) S 29 (by decide) (fun _ => rfl) rfl g2 (m_dec e11_why 79 rfl) ?_
    refine ms_iload_n (pc := 137) S 2 rfl rfl (m_dec e11_why 80 rfl) ?_
    refine ms_grd fun g3 => ?_
    refine ms_iald (pc := 138) S g3 (m_dec e11_why 81 rfl) ?_
    refine ms_iconst (pc := 139) S (m_dec e11_why 82 rfl) ?_
    refine ms_icmp_eq (pc := 140) S (m_dec e11_why 83 rfl) rfl (fun q4 => ?_) (fun q4 => ?_)
    · refine ms_iinc (pc := 160) S (L' := [(0, m_r v0), (2, m_i v2), (3, m_i (v3 + (-1)))]) 2 rfl [1, 2, 0] rfl (m_lt hN rfl) (m_dec e11_why 95 rfl) ?_
      refine ms_goto (pc := 163) S (m_dec e11_why 96 rfl) rfl ?_
      exact ih80 (v3 + (-1)) h
    · refine ms_aload_n (pc := 143) S 0 rfl rfl (m_dec e11_why 84 rfl) ?_
      refine ms_getf (pc := 144) S lf_X11_235 rfl (m_dec e11_why 85 rfl) g1 ?_
      refine ms_aload_n (pc := 147) S 0 rfl rfl (m_dec e11_why 86 rfl) ?_
      refine ms_getf (pc := 148) S lf_X11_95 rfl (m_dec e11_why 87 rfl) g1 ?_
      refine ms_aload_n (pc := 151) S 0 rfl rfl (m_dec e11_why 88 rfl) ?_
      refine ms_getf (pc := 152) S lf_X11_203 rfl (m_dec e11_why 89 rfl) g1 ?_
      refine ms_aald (pc := 155) S 29 (by decide) (fun _ => rfl) rfl g2 (m_dec e11_why 90 rfl) ?_
      refine ms_iload_n (pc := 156) S 2 rfl rfl (m_dec e11_why 91 rfl) ?_
      refine ms_iald (pc := 157) S g3 (m_dec e11_why 92 rfl) ?_
      refine ms_iconst (pc := 158) S (m_dec e11_why 93 rfl) ?_
      refine ms_grd fun g5 => ?_
      refine ms_zast (pc := 159) S (by decide) g5 (m_dec e11_why 94 rfl) (fun h6 => ?_)
      refine ms_iinc (pc := 160) S (L' := [(0, m_r v0), (2, m_i v2), (3, m_i (v3 + (-1)))]) 2 rfl [1, 2, 0] rfl (m_lt hN rfl) (m_dec e11_why 95 rfl) ?_
      refine ms_goto (pc := 163) S (m_dec e11_why 96 rfl) rfl ?_
      exact ih80 (v3 + (-1)) h6
set_option maxHeartbeats 4000000 in
set_option maxRecDepth 20000 in
theorem s11_why_c80 {Y : m_Y Int} (S : m_Std Y RX11 cX11_why) (E : m_End Y cX11_why .ireturn (fun r => [m_i r])) {F : Nat} (hF : m_Rm Y F) (hFn : 2 ≤ F) (hN : Y.2.2.2.1 = 5) (v0 v2 v3 : Int) (h : m_H) : m_Sim Y 80 [(0, m_r v0), (2, m_i v2), (3, m_i v3)] [] h (t11_why_x80 80 v0 v2 v3 h) := ms_all fun r e => (s11_why_x80 S E hF hFn hN 80 v0 v2 v3 h r e).1 rfl
set_option maxHeartbeats 4000000 in
set_option maxRecDepth 20000 in
theorem s11_why_c128 {Y : m_Y Int} (S : m_Std Y RX11 cX11_why) (E : m_End Y cX11_why .ireturn (fun r => [m_i r])) {F : Nat} (hF : m_Rm Y F) (hFn : 2 ≤ F) (hN : Y.2.2.2.1 = 5) (v0 v2 v3 : Int) (h : m_H) : m_Sim Y 128 [(0, m_r v0), (2, m_i v2), (3, m_i v3)] [] h (t11_why_x80 128 v0 v2 v3 h) := ms_all fun r e => (s11_why_x80 S E hF hFn hN 128 v0 v2 v3 h r e).2 rfl
set_option maxHeartbeats 4000000 in
set_option maxRecDepth 20000 in
theorem s11_why_c33 {Y : m_Y Int} (S : m_Std Y RX11 cX11_why) (E : m_End Y cX11_why .ireturn (fun r => [m_i r])) {F : Nat} (hF : m_Rm Y F) (hFn : 2 ≤ F) (hN : Y.2.2.2.1 = 5) : ∀ (v0 v1 v2 v3 : Int) (h : m_H), m_Sim Y 33 [(0, m_r v0), (1, m_i v1), (2, m_i v2), (3, m_i v3)] [] h (t11_why_c33 v0 v1 v2 v3 h) := by
  intro v0 v1 v2 v3 h
  refine ms_all fun r e => ?_
  refine t11_why_c33.partial_correctness v0 v1 v2 (motive := fun v3 h r => m_Sim Y 33 [(0, m_r v0), (1, m_i v1), (2, m_i v2), (3, m_i v3)] [] h (some r)) ?_ v3 h r e
  intro f ih v3 h r e
  have ih : ∀ (v3 : Int) (h : m_H), m_Sim Y 33 [(0, m_r v0), (1, m_i v1), (2, m_i v2), (3, m_i v3)] [] h (f v3 h ) := fun v3 h  => ms_all fun r e => ih v3 h r e
  refine ms_use ?_ e
  clear e r
  refine ms_iload_n (pc := 33) S 3 rfl rfl (m_dec e11_why 20 rfl) ?_
  refine ms_aload_n (pc := 34) S 0 rfl rfl (m_dec e11_why 21 rfl) ?_
  refine ms_grd fun g1 => ?_
  refine ms_getf (pc := 35) S lf_X11_522 rfl (m_dec e11_why 22 rfl) g1 ?_
  refine ms_icmp_ge (pc := 38) S (m_dec e11_why 23 rfl) rfl (fun q2 => ?_) (fun q2 => ?_)
  · refine ms_aload_n (pc := 41) S 0 rfl rfl (m_dec e11_why 24 rfl) ?_
    refine ms_iload_n (pc := 42) S 3 rfl rfl (m_dec e11_why 25 rfl) ?_
    refine ms_iload_n (pc := 43) S 1 rfl rfl (m_dec e11_why 26 rfl) ?_
    refine ms_callVz (pc := 44) S hF (vals := [m_i v3, m_i v1]) (st := []) (hc := vw_11) (hci := by decide) (hcy := rfl) (ht := g1) (hC := (k11_isOver _ _ v0 v3 v1 h)) (hM := lm_X11_525) (hfr := (Nat.le_trans (by decide) hFn)) (hstk := rfl) (hcat := Nat.le_of_ble_eq_true rfl) (hd := (m_dec e11_why 27 rfl)) (k1 := fun r4 h3 => ?_)
    refine ms_ifb_eq (pc := 47) S (m_dec e11_why 28 rfl) rfl (fun q5 => ?_) (fun q5 => ?_)
    · refine ms_aload_n (pc := 50) S 0 rfl rfl (m_dec e11_why 29 rfl) ?_
      refine ms_grd fun g6 => ?_
      refine ms_getf (pc := 51) S lf_X11_235 rfl (m_dec e11_why 30 rfl) g6 ?_
      refine ms_aload_n (pc := 54) S 0 rfl rfl (m_dec e11_why 31 rfl) ?_
      refine ms_getf (pc := 55) S lf_X11_216 rfl (m_dec e11_why 32 rfl) g6 ?_
      refine ms_iload_n (pc := 58) S 3 rfl rfl (m_dec e11_why 33 rfl) ?_
      refine ms_grd fun g7 => ?_
      refine ms_iald (pc := 59) S g7 (m_dec e11_why 34 rfl) ?_
      refine ms_iconst (pc := 60) S (m_dec e11_why 35 rfl) ?_
      refine ms_grd fun g8 => ?_
      refine ms_zast (pc := 61) S (by decide) g8 (m_dec e11_why 36 rfl) (fun h9 => ?_)
      refine ms_iinc (pc := 62) S (L' := [(0, m_r v0), (1, m_i v1), (2, m_i v2), (3, m_i (v3 + 1))]) 3 rfl [1, 2, 3, 0] rfl (m_lt hN rfl) (m_dec e11_why 37 rfl) ?_
      refine ms_goto (pc := 65) S (m_dec e11_why 38 rfl) rfl ?_
      exact ih (v3 + 1) h9
    · refine ms_iinc (pc := 62) S (L' := [(0, m_r v0), (1, m_i v1), (2, m_i v2), (3, m_i (v3 + 1))]) 3 rfl [1, 2, 3, 0] rfl (m_lt hN rfl) (m_dec e11_why 37 rfl) ?_
      refine ms_goto (pc := 65) S (m_dec e11_why 38 rfl) rfl ?_
      exact ih (v3 + 1) h3
  · refine ms_aload_n (pc := 68) S 0 rfl rfl (m_dec e11_why 39 rfl) ?_
    refine ms_getf (pc := 69) S lf_X11_84 rfl (m_dec e11_why 40 rfl) g1 ?_
    refine ms_aload_n (pc := 72) S 0 rfl rfl (m_dec e11_why 41 rfl) ?_
    refine ms_getf (pc := 73) S lf_X11_203 rfl (m_dec e11_why 42 rfl) g1 ?_
    refine ms_grd fun g10 => ?_
    refine ms_iald (pc := 76) S g10 (m_dec e11_why 43 rfl) ?_
    refine ms_iconst (pc := 77) S (m_dec e11_why 44 rfl) ?_
    refine ms_isub (pc := 78) S (m_dec e11_why 45 rfl) ?_
    refine ms_nm (st := fun x11 => [m_i x11]) fun x11 => ?_
    refine ms_istore_n (pc := 79) S (L' := [(0, m_r v0), (2, m_i v2), (3, m_i x11)]) [1, 3, 0] rfl rfl (m_lt hN rfl) (m_dec e11_why 46 rfl) ?_
    exact s11_why_c80 S E hF hFn hN v0 v2 x11 h
set_option maxHeartbeats 4000000 in
set_option maxRecDepth 20000 in
theorem s11_why_c12 {Y : m_Y Int} (S : m_Std Y RX11 cX11_why) (E : m_End Y cX11_why .ireturn (fun r => [m_i r])) {F : Nat} (hF : m_Rm Y F) (hFn : 2 ≤ F) (hN : Y.2.2.2.1 = 5) : ∀ (v0 v1 v2 v3 : Int) (h : m_H), m_Sim Y 12 [(0, m_r v0), (1, m_i v1), (2, m_i v2), (3, m_i v3)] [] h (t11_why_c12 v0 v1 v2 v3 h) := by
  intro v0 v1 v2 v3 h
  refine ms_all fun r e => ?_
  refine t11_why_c12.partial_correctness v0 v1 v2 (motive := fun v3 h r => m_Sim Y 12 [(0, m_r v0), (1, m_i v1), (2, m_i v2), (3, m_i v3)] [] h (some r)) ?_ v3 h r e
  intro f ih v3 h r e
  have ih : ∀ (v3 : Int) (h : m_H), m_Sim Y 12 [(0, m_r v0), (1, m_i v1), (2, m_i v2), (3, m_i v3)] [] h (f v3 h ) := fun v3 h  => ms_all fun r e => ih v3 h r e
  refine ms_use ?_ e
  clear e r
  refine ms_iload_n (pc := 12) S 3 rfl rfl (m_dec e11_why 8 rfl) ?_
  refine ms_bipush (pc := 13) S (m_dec e11_why 9 rfl) rfl ?_
  refine ms_icmp_ge (pc := 15) S (m_dec e11_why 10 rfl) rfl (fun q1 => ?_) (fun q1 => ?_)
  · refine ms_aload_n (pc := 18) S 0 rfl rfl (m_dec e11_why 11 rfl) ?_
    refine ms_grd fun g2 => ?_
    refine ms_getf (pc := 19) S lf_X11_235 rfl (m_dec e11_why 12 rfl) g2 ?_
    refine ms_iload_n (pc := 22) S 3 rfl rfl (m_dec e11_why 13 rfl) ?_
    refine ms_iconst (pc := 23) S (m_dec e11_why 14 rfl) ?_
    refine ms_grd fun g3 => ?_
    refine ms_zast (pc := 24) S (by decide) g3 (m_dec e11_why 15 rfl) (fun h4 => ?_)
    refine ms_iinc (pc := 25) S (L' := [(0, m_r v0), (1, m_i v1), (2, m_i v2), (3, m_i (v3 + 1))]) 3 rfl [1, 2, 3, 0] rfl (m_lt hN rfl) (m_dec e11_why 16 rfl) ?_
    refine ms_goto (pc := 28) S (m_dec e11_why 17 rfl) rfl ?_
    exact ih (v3 + 1) h4
  · refine ms_iconst (pc := 31) S (m_dec e11_why 18 rfl) ?_
    refine ms_istore_n (pc := 32) S (L' := [(0, m_r v0), (1, m_i v1), (2, m_i v2), (3, m_i 0)]) [1, 2, 3, 0] rfl rfl (m_lt hN rfl) (m_dec e11_why 19 rfl) ?_
    exact s11_why_c33 S E hF hFn hN v0 v1 v2 0 h
set_option maxHeartbeats 4000000 in
set_option maxRecDepth 20000 in
theorem s11_why {Y : m_Y Int} (S : m_Std Y RX11 cX11_why) (E : m_End Y cX11_why .ireturn (fun r => [m_i r])) {F : Nat} (hF : m_Rm Y F) (hFn : 2 ≤ F) (hN : Y.2.2.2.1 = 5) (v0 v1 v2 : Int) (h : m_H) : m_Sim Y 0 [(0, m_r v0), (1, m_i v1), (2, m_i v2)] [] h (t11_why v0 v1 v2 h) := by
  unfold t11_why
  refine ms_aload_n (pc := 0) S 0 rfl rfl (m_dec e11_why 0 rfl) ?_
  refine ms_grd fun g1 => ?_
  refine ms_getf (pc := 1) S lf_X11_203 rfl (m_dec e11_why 1 rfl) g1 ?_
  refine ms_iconst (pc := 4) S (m_dec e11_why 2 rfl) ?_
  refine ms_icmp_ne (pc := 5) S (m_dec e11_why 3 rfl) rfl (fun q2 => ?_) (fun q2 => ?_)
  · refine ms_iconst (pc := 8) S (m_dec e11_why 4 rfl) ?_
    exact ms_ret (pc := 9) E (m_dec e11_why 5 rfl) rfl
  · refine ms_iconst (pc := 10) S (m_dec e11_why 6 rfl) ?_
    refine ms_istore_n (pc := 11) S (L' := [(0, m_r v0), (1, m_i v1), (2, m_i v2), (3, m_i 0)]) [1, 2, 3, 0] rfl rfl (m_lt hN rfl) (m_dec e11_why 7 rfl) ?_
    exact s11_why_c12 S E hF hFn hN v0 v1 v2 0 h
theorem k11_why (l : Launch) (d : m_D) (v0 v1 v2 : Int) (h : m_H) : m_Con l d yX11_why cX11_why 5 (some .int) 2 (fun r => [m_i r]) [m_r v0, m_i v1, m_i v2] h (t11_why v0 v1 v2 h) :=
  m_con2 (by decide +kernel) (Nat.le_of_ble_eq_true rfl) (fun Y hN hRm hr hI S hfin => s11_why S (m_end_i S hr hfin) hRm (Nat.le_refl _) hN v0 v1 v2 h)
set_option maxRecDepth 100000 in
theorem e11_leads : ∀ q ∈ ([(0, .aload_n 0, 1), (1, .getfield 203, 3), (4, .istore_n 1, 1), (5, .aload_n 0, 1), (6, .getfield 528, 3), (9, .istore_n 2, 1), (10, .aload_n 0, 1), (11, .getfield 92, 3), (14, .iload_n 1, 1), (15, .aaload, 1), (16, .iload_n 2, 1), (17, .iaload, 1), (18, .istore_n 3, 1), (19, .aload_n 0, 1), (20, .getfield 531, 3), (23, .istore 4, 2), (25, .aload_n 0, 1), (26, .iload_n 3, 1), (27, .putfield 528, 3), (30, .aload_n 0, 1), (31, .getfield 89, 3), (34, .iload_n 1, 1), (35, .aaload, 1), (36, .iload_n 2, 1), (37, .iaload, 1), (38, .tableswitch 210 2 8 #[42, 60, 78, 143, 194, 210, 109], 42), (80, .aload_n 0, 1), (81, .iload 4, 2), (83, .aload_n 0, 1), (84, .getfield 98, 3), (87, .iload_n 1, 1), (88, .aaload, 1), (89, .iload_n 2, 1), (90, .iaload, 1), (91, .iadd, 1), (92, .putfield 531, 3), (95, .goto 153, 3), (98, .aload_n 0, 1), (99, .aload_n 0, 1), (100, .getfield 210, 3), (103, .iload_n 3, 1), (104, .iaload, 1), (105, .iconst 1, 1), (106, .isub, 1), (107, .iload 4, 2), (109, .isub, 1), (110, .putfield 531, 3), (113, .goto 135, 3), (116, .aload_n 0, 1), (117, .iload 4, 2), (119, .i2l, 1), (120, .aload_n 0, 1), (121, .getfield 98, 3), (124, .iload_n 1, 1), (125, .aaload, 1), (126, .iload_n 2, 1), (127, .iaload, 1), (128, .i2l, 1), (129, .lmul, 1), (130, .aload_n 0, 1), (131, .getfield 101, 3), (134, .iload_n 1, 1), (135, .aaload, 1), (136, .iload_n 2, 1), (137, .iaload, 1), (138, .i2l, 1), (139, .ldiv, 1), (140, .l2i, 1), (141, .putfield 531, 3), (144, .goto 104, 3), (147, .aload_n 0, 1), (148, .iload 4, 2), (150, .i2l, 1), (151, .sipush 1000, 3), (154, .aload_n 0, 1), (155, .getfield 56, 3), (158, .aload_n 0, 1), (159, .getfield 98, 3), (162, .iload_n 1, 1), (163, .aaload, 1), (164, .iload_n 2, 1), (165, .iaload, 1), (166, .iaload, 1), (167, .iadd, 1), (168, .i2l, 1), (169, .lmul, 1), (170, .ldc2_w 534, 3), (173, .ldiv, 1), (174, .l2i, 1), (175, .putfield 531, 3), (178, .goto 70, 3), (181, .iload 4, 2), (183, .aload_n 0, 1), (184, .getfield 210, 3), (187, .iload_n 3, 1), (188, .iaload, 1), (189, .if_icmp .ge 6, 3), (192, .goto 56, 3), (195, .aload_n 0, 1), (196, .aload_n 0, 1), (197, .getfield 95, 3), (200, .iload_n 1, 1), (201, .aaload, 1), (202, .iload_n 2, 1), (203, .iaload, 1), (204, .putfield 528, 3), (207, .aload_n 0, 1), (208, .iload 4, 2), (210, .aload_n 0, 1), (211, .getfield 210, 3), (214, .iload_n 3, 1), (215, .iaload, 1), (216, .isub, 1), (217, .aload_n 0, 1), (218, .getfield 98, 3), (221, .iload_n 1, 1), (222, .aaload, 1), (223, .iload_n 2, 1), (224, .iaload, 1), (225, .iadd, 1), (226, .putfield 531, 3), (229, .goto 19, 3), (232, .aload_n 0, 1), (233, .iload 4, 2), (235, .aload_n 0, 1), (236, .getfield 210, 3), (239, .iload_n 3, 1), (240, .iaload, 1), (241, .irem, 1), (242, .putfield 531, 3), (245, .goto 3, 3), (248, .return_, 1)] : List (Nat × Instr × Nat)), decode cX11_leads q.1 = .ok q.2 := by decide +kernel
set_option maxHeartbeats 4000000 in
set_option maxRecDepth 20000 in
theorem s11_leads {Y : m_Y Unit} (S : m_Std Y RX11 cX11_leads) (E : m_End Y cX11_leads .return_ (fun _ => [])) {F : Nat} (hF : m_Rm Y F) (hFn : 0 ≤ F) (hN : Y.2.2.2.1 = 5) (v0 : Int) (h : m_H) : m_Sim Y 0 [(0, m_r v0)] [] h (t11_leads v0 h) := by
  unfold t11_leads
  refine ms_aload_n (pc := 0) S 0 rfl rfl (m_dec e11_leads 0 rfl) ?_
  refine ms_grd fun g1 => ?_
  refine ms_getf (pc := 1) S lf_X11_203 rfl (m_dec e11_leads 1 rfl) g1 ?_
  refine ms_nm (st := fun x2 => [m_i x2]) fun x2 => ?_
  refine ms_istore_n (pc := 4) S (L' := [(0, m_r v0), (1, m_i x2)]) [1, 0] rfl rfl (m_lt hN rfl) (m_dec e11_leads 2 rfl) ?_
  refine ms_aload_n (pc := 5) S 0 rfl rfl (m_dec e11_leads 3 rfl) ?_
  refine ms_getf (pc := 6) S lf_X11_528 rfl (m_dec e11_leads 4 rfl) g1 ?_
  refine ms_nm (st := fun x3 => [m_i x3]) fun x3 => ?_
  refine ms_istore_n (pc := 9) S (L' := [(0, m_r v0), (1, m_i x2), (2, m_i x3)]) [1, 2, 0] rfl rfl (m_lt hN rfl) (m_dec e11_leads 5 rfl) ?_
  refine ms_aload_n (pc := 10) S 0 rfl rfl (m_dec e11_leads 6 rfl) ?_
  refine ms_getf (pc := 11) S lf_X11_92 rfl (m_dec e11_leads 7 rfl) g1 ?_
  refine ms_iload_n (pc := 14) S 1 rfl rfl (m_dec e11_leads 8 rfl) ?_
  refine ms_grd fun g4 => ?_
  refine ms_aald (pc := 15) S 29 (by decide) (fun _ => rfl) rfl g4 (m_dec e11_leads 9 rfl) ?_
  refine ms_iload_n (pc := 16) S 2 rfl rfl (m_dec e11_leads 10 rfl) ?_
  refine ms_grd fun g5 => ?_
  refine ms_iald (pc := 17) S g5 (m_dec e11_leads 11 rfl) ?_
  refine ms_nm (st := fun x6 => [m_i x6]) fun x6 => ?_
  refine ms_istore_n (pc := 18) S (L' := [(0, m_r v0), (1, m_i x2), (2, m_i x3), (3, m_i x6)]) [1, 2, 3, 0] rfl rfl (m_lt hN rfl) (m_dec e11_leads 12 rfl) ?_
  refine ms_aload_n (pc := 19) S 0 rfl rfl (m_dec e11_leads 13 rfl) ?_
  refine ms_getf (pc := 20) S lf_X11_531 rfl (m_dec e11_leads 14 rfl) g1 ?_
  refine ms_nm (st := fun x7 => [m_i x7]) fun x7 => ?_
  refine ms_istore (pc := 23) S (L' := [(0, m_r v0), (1, m_i x2), (2, m_i x3), (3, m_i x6), (4, m_i x7)]) [1, 2, 3, 4, 0] rfl (m_lt hN rfl) (m_dec e11_leads 15 rfl) ?_
  refine ms_aload_n (pc := 25) S 0 rfl rfl (m_dec e11_leads 16 rfl) ?_
  refine ms_iload_n (pc := 26) S 3 rfl rfl (m_dec e11_leads 17 rfl) ?_
  refine ms_putf (pc := 27) S lp_X11_528 (fun z => by cases z) rfl (fun d => m_fitI d _) (m_dec e11_leads 18 rfl) g1 (fun h8 => ?_)
  refine ms_aload_n (pc := 30) S 0 rfl rfl (m_dec e11_leads 19 rfl) ?_
  refine ms_grd fun g9 => ?_
  refine ms_getf (pc := 31) S lf_X11_89 rfl (m_dec e11_leads 20 rfl) g9 ?_
  refine ms_iload_n (pc := 34) S 1 rfl rfl (m_dec e11_leads 21 rfl) ?_
  refine ms_grd fun g10 => ?_
  refine ms_aald (pc := 35) S 29 (by decide) (fun _ => rfl) rfl g10 (m_dec e11_leads 22 rfl) ?_
  refine ms_iload_n (pc := 36) S 2 rfl rfl (m_dec e11_leads 23 rfl) ?_
  refine ms_grd fun g11 => ?_
  refine ms_iald (pc := 37) S g11 (m_dec e11_leads 24 rfl) ?_
  refine ms_ite (fun q12 => ?_) (fun q12 => ?_)
  · refine ms_swIn (pc := 38) S (m_dec e11_leads 25 rfl) 2 q12 (by decide) (by decide) rfl rfl ?_
    refine ms_aload_n (pc := 80) S 0 rfl rfl (m_dec e11_leads 26 rfl) ?_
    refine ms_iload (pc := 81) S 4 rfl (m_dec e11_leads 27 rfl) ?_
    refine ms_aload_n (pc := 83) S 0 rfl rfl (m_dec e11_leads 28 rfl) ?_
    refine ms_getf (pc := 84) S lf_X11_98 rfl (m_dec e11_leads 29 rfl) g9 ?_
    refine ms_iload_n (pc := 87) S 1 rfl rfl (m_dec e11_leads 30 rfl) ?_
    refine ms_grd fun g13 => ?_
    refine ms_aald (pc := 88) S 29 (by decide) (fun _ => rfl) rfl g13 (m_dec e11_leads 31 rfl) ?_
    refine ms_iload_n (pc := 89) S 2 rfl rfl (m_dec e11_leads 32 rfl) ?_
    refine ms_grd fun g14 => ?_
    refine ms_iald (pc := 90) S g14 (m_dec e11_leads 33 rfl) ?_
    refine ms_iadd (pc := 91) S (m_dec e11_leads 34 rfl) ?_
    refine ms_putf (pc := 92) S lp_X11_531 (fun z => by cases z) rfl (fun d => m_fitI d _) (m_dec e11_leads 35 rfl) g9 (fun h15 => ?_)
    refine ms_goto (pc := 95) S (m_dec e11_leads 36 rfl) rfl ?_
    exact ms_ret (pc := 248) E (m_dec e11_leads 131 rfl) rfl
  · refine ms_ite (fun q16 => ?_) (fun q16 => ?_)
    · refine ms_swIn (pc := 38) S (m_dec e11_leads 25 rfl) 3 q16 (by decide) (by decide) rfl rfl ?_
      refine ms_aload_n (pc := 98) S 0 rfl rfl (m_dec e11_leads 37 rfl) ?_
      refine ms_aload_n (pc := 99) S 0 rfl rfl (m_dec e11_leads 38 rfl) ?_
      refine ms_getf (pc := 100) S lf_X11_210 rfl (m_dec e11_leads 39 rfl) g9 ?_
      refine ms_iload_n (pc := 103) S 3 rfl rfl (m_dec e11_leads 40 rfl) ?_
      refine ms_grd fun g17 => ?_
      refine ms_iald (pc := 104) S g17 (m_dec e11_leads 41 rfl) ?_
      refine ms_iconst (pc := 105) S (m_dec e11_leads 42 rfl) ?_
      refine ms_isub (pc := 106) S (m_dec e11_leads 43 rfl) ?_
      refine ms_iload (pc := 107) S 4 rfl (m_dec e11_leads 44 rfl) ?_
      refine ms_isub (pc := 109) S (m_dec e11_leads 45 rfl) ?_
      refine ms_putf (pc := 110) S lp_X11_531 (fun z => by cases z) rfl (fun d => m_fitI d _) (m_dec e11_leads 46 rfl) g9 (fun h18 => ?_)
      refine ms_goto (pc := 113) S (m_dec e11_leads 47 rfl) rfl ?_
      exact ms_ret (pc := 248) E (m_dec e11_leads 131 rfl) rfl
    · refine ms_ite (fun q19 => ?_) (fun q19 => ?_)
      · refine ms_swIn (pc := 38) S (m_dec e11_leads 25 rfl) 4 q19 (by decide) (by decide) rfl rfl ?_
        refine ms_aload_n (pc := 116) S 0 rfl rfl (m_dec e11_leads 48 rfl) ?_
        refine ms_iload (pc := 117) S 4 rfl (m_dec e11_leads 49 rfl) ?_
        refine ms_i2l (pc := 119) S (m_dec e11_leads 50 rfl) ?_
        refine ms_aload_n (pc := 120) S 0 rfl rfl (m_dec e11_leads 51 rfl) ?_
        refine ms_getf (pc := 121) S lf_X11_98 rfl (m_dec e11_leads 52 rfl) g9 ?_
        refine ms_iload_n (pc := 124) S 1 rfl rfl (m_dec e11_leads 53 rfl) ?_
        refine ms_grd fun g20 => ?_
        refine ms_aald (pc := 125) S 29 (by decide) (fun _ => rfl) rfl g20 (m_dec e11_leads 54 rfl) ?_
        refine ms_iload_n (pc := 126) S 2 rfl rfl (m_dec e11_leads 55 rfl) ?_
        refine ms_grd fun g21 => ?_
        refine ms_iald (pc := 127) S g21 (m_dec e11_leads 56 rfl) ?_
        refine ms_i2l (pc := 128) S (m_dec e11_leads 57 rfl) ?_
        refine ms_lmul (pc := 129) S (m_dec e11_leads 58 rfl) ?_
        refine ms_aload_n (pc := 130) S 0 rfl rfl (m_dec e11_leads 59 rfl) ?_
        refine ms_getf (pc := 131) S lf_X11_101 rfl (m_dec e11_leads 60 rfl) g9 ?_
        refine ms_iload_n (pc := 134) S 1 rfl rfl (m_dec e11_leads 61 rfl) ?_
        refine ms_grd fun g22 => ?_
        refine ms_aald (pc := 135) S 29 (by decide) (fun _ => rfl) rfl g22 (m_dec e11_leads 62 rfl) ?_
        refine ms_iload_n (pc := 136) S 2 rfl rfl (m_dec e11_leads 63 rfl) ?_
        refine ms_grd fun g23 => ?_
        refine ms_iald (pc := 137) S g23 (m_dec e11_leads 64 rfl) ?_
        refine ms_i2l (pc := 138) S (m_dec e11_leads 65 rfl) ?_
        refine ms_ldiv (pc := 139) S (m_dec e11_leads 66 rfl) ?_
        refine ms_l2i (pc := 140) S (m_dec e11_leads 67 rfl) ?_
        refine ms_putf (pc := 141) S lp_X11_531 (fun z => by cases z) rfl (fun d => m_fitI d _) (m_dec e11_leads 68 rfl) g9 (fun h24 => ?_)
        refine ms_goto (pc := 144) S (m_dec e11_leads 69 rfl) rfl ?_
        exact ms_ret (pc := 248) E (m_dec e11_leads 131 rfl) rfl
      · refine ms_ite (fun q25 => ?_) (fun q25 => ?_)
        · refine ms_swIn (pc := 38) S (m_dec e11_leads 25 rfl) 5 q25 (by decide) (by decide) rfl rfl ?_
          refine ms_iload (pc := 181) S 4 rfl (m_dec e11_leads 91 rfl) ?_
          refine ms_aload_n (pc := 183) S 0 rfl rfl (m_dec e11_leads 92 rfl) ?_
          refine ms_getf (pc := 184) S lf_X11_210 rfl (m_dec e11_leads 93 rfl) g9 ?_
          refine ms_iload_n (pc := 187) S 3 rfl rfl (m_dec e11_leads 94 rfl) ?_
          refine ms_grd fun g26 => ?_
          refine ms_iald (pc := 188) S g26 (m_dec e11_leads 95 rfl) ?_
          refine ms_icmp_ge (pc := 189) S (m_dec e11_leads 96 rfl) rfl (fun q27 => ?_) (fun q27 => ?_)
          · refine ms_goto (pc := 192) S (m_dec e11_leads 97 rfl) rfl ?_
            exact ms_ret (pc := 248) E (m_dec e11_leads 131 rfl) rfl
          · refine ms_aload_n (pc := 195) S 0 rfl rfl (m_dec e11_leads 98 rfl) ?_
            refine ms_aload_n (pc := 196) S 0 rfl rfl (m_dec e11_leads 99 rfl) ?_
            refine ms_getf (pc := 197) S lf_X11_95 rfl (m_dec e11_leads 100 rfl) g9 ?_
            refine ms_iload_n (pc := 200) S 1 rfl rfl (m_dec e11_leads 101 rfl) ?_
            refine ms_grd fun g28 => ?_
            refine ms_aald (pc := 201) S 29 (by decide) (fun _ => rfl) rfl g28 (m_dec e11_leads 102 rfl) ?_
            refine ms_iload_n (pc := 202) S 2 rfl rfl (m_dec e11_leads 103 rfl) ?_
            refine ms_grd fun g29 => ?_
            refine ms_iald (pc := 203) S g29 (m_dec e11_leads 104 rfl) ?_
            refine ms_putf (pc := 204) S lp_X11_528 (fun z => by cases z) rfl (fun d => m_fitI d _) (m_dec e11_leads 105 rfl) g9 (fun h30 => ?_)
            refine ms_aload_n (pc := 207) S 0 rfl rfl (m_dec e11_leads 106 rfl) ?_
            refine ms_iload (pc := 208) S 4 rfl (m_dec e11_leads 107 rfl) ?_
            refine ms_aload_n (pc := 210) S 0 rfl rfl (m_dec e11_leads 108 rfl) ?_
            refine ms_grd fun g31 => ?_
            refine ms_getf (pc := 211) S lf_X11_210 rfl (m_dec e11_leads 109 rfl) g31 ?_
            refine ms_iload_n (pc := 214) S 3 rfl rfl (m_dec e11_leads 110 rfl) ?_
            refine ms_grd fun g32 => ?_
            refine ms_iald (pc := 215) S g32 (m_dec e11_leads 111 rfl) ?_
            refine ms_isub (pc := 216) S (m_dec e11_leads 112 rfl) ?_
            refine ms_aload_n (pc := 217) S 0 rfl rfl (m_dec e11_leads 113 rfl) ?_
            refine ms_getf (pc := 218) S lf_X11_98 rfl (m_dec e11_leads 114 rfl) g31 ?_
            refine ms_iload_n (pc := 221) S 1 rfl rfl (m_dec e11_leads 115 rfl) ?_
            refine ms_grd fun g33 => ?_
            refine ms_aald (pc := 222) S 29 (by decide) (fun _ => rfl) rfl g33 (m_dec e11_leads 116 rfl) ?_
            refine ms_iload_n (pc := 223) S 2 rfl rfl (m_dec e11_leads 117 rfl) ?_
            refine ms_grd fun g34 => ?_
            refine ms_iald (pc := 224) S g34 (m_dec e11_leads 118 rfl) ?_
            refine ms_iadd (pc := 225) S (m_dec e11_leads 119 rfl) ?_
            refine ms_putf (pc := 226) S lp_X11_531 (fun z => by cases z) rfl (fun d => m_fitI d _) (m_dec e11_leads 120 rfl) g31 (fun h35 => ?_)
            refine ms_goto (pc := 229) S (m_dec e11_leads 121 rfl) rfl ?_
            exact ms_ret (pc := 248) E (m_dec e11_leads 131 rfl) rfl
        · refine ms_ite (fun q36 => ?_) (fun q36 => ?_)
          · refine ms_swIn (pc := 38) S (m_dec e11_leads 25 rfl) 6 q36 (by decide) (by decide) rfl rfl ?_
            refine ms_aload_n (pc := 232) S 0 rfl rfl (m_dec e11_leads 122 rfl) ?_
            refine ms_iload (pc := 233) S 4 rfl (m_dec e11_leads 123 rfl) ?_
            refine ms_aload_n (pc := 235) S 0 rfl rfl (m_dec e11_leads 124 rfl) ?_
            refine ms_getf (pc := 236) S lf_X11_210 rfl (m_dec e11_leads 125 rfl) g9 ?_
            refine ms_iload_n (pc := 239) S 3 rfl rfl (m_dec e11_leads 126 rfl) ?_
            refine ms_grd fun g37 => ?_
            refine ms_iald (pc := 240) S g37 (m_dec e11_leads 127 rfl) ?_
            refine ms_irem (pc := 241) S (m_dec e11_leads 128 rfl) ?_
            refine ms_putf (pc := 242) S lp_X11_531 (fun z => by cases z) rfl (fun d => m_fitI d _) (m_dec e11_leads 129 rfl) g9 (fun h38 => ?_)
            refine ms_goto (pc := 245) S (m_dec e11_leads 130 rfl) rfl ?_
            exact ms_ret (pc := 248) E (m_dec e11_leads 131 rfl) rfl
          · refine ms_ite (fun q39 => ?_) (fun q39 => ?_)
            · refine ms_swIn (pc := 38) S (m_dec e11_leads 25 rfl) 7 q39 (by decide) (by decide) rfl rfl ?_
              exact ms_ret (pc := 248) E (m_dec e11_leads 131 rfl) rfl
            · refine ms_ite (fun q40 => ?_) (fun q40 => ?_)
              · refine ms_swIn (pc := 38) S (m_dec e11_leads 25 rfl) 8 q40 (by decide) (by decide) rfl rfl ?_
                refine ms_aload_n (pc := 147) S 0 rfl rfl (m_dec e11_leads 70 rfl) ?_
                refine ms_iload (pc := 148) S 4 rfl (m_dec e11_leads 71 rfl) ?_
                refine ms_i2l (pc := 150) S (m_dec e11_leads 72 rfl) ?_
                refine ms_sipush (pc := 151) S (m_dec e11_leads 73 rfl) rfl ?_
                refine ms_aload_n (pc := 154) S 0 rfl rfl (m_dec e11_leads 74 rfl) ?_
                refine ms_getf (pc := 155) S lf_X11_56 rfl (m_dec e11_leads 75 rfl) g9 ?_
                refine ms_aload_n (pc := 158) S 0 rfl rfl (m_dec e11_leads 76 rfl) ?_
                refine ms_getf (pc := 159) S lf_X11_98 rfl (m_dec e11_leads 77 rfl) g9 ?_
                refine ms_iload_n (pc := 162) S 1 rfl rfl (m_dec e11_leads 78 rfl) ?_
                refine ms_grd fun g41 => ?_
                refine ms_aald (pc := 163) S 29 (by decide) (fun _ => rfl) rfl g41 (m_dec e11_leads 79 rfl) ?_
                refine ms_iload_n (pc := 164) S 2 rfl rfl (m_dec e11_leads 80 rfl) ?_
                refine ms_grd fun g42 => ?_
                refine ms_iald (pc := 165) S g42 (m_dec e11_leads 81 rfl) ?_
                refine ms_grd fun g43 => ?_
                refine ms_iald (pc := 166) S g43 (m_dec e11_leads 82 rfl) ?_
                refine ms_iadd (pc := 167) S (m_dec e11_leads 83 rfl) ?_
                refine ms_i2l (pc := 168) S (m_dec e11_leads 84 rfl) ?_
                refine ms_lmul (pc := 169) S (m_dec e11_leads 85 rfl) ?_
                refine ms_ldc2 (pc := 170) S (n := 1000) w_2114 (m_dec e11_leads 86 rfl) ?_
                refine ms_ldivN (pc := 173) S (by decide) (m_dec e11_leads 87 rfl) ?_
                refine ms_l2i (pc := 174) S (m_dec e11_leads 88 rfl) ?_
                refine ms_putf (pc := 175) S lp_X11_531 (fun z => by cases z) rfl (fun d => m_fitI d _) (m_dec e11_leads 89 rfl) g9 (fun h44 => ?_)
                refine ms_goto (pc := 178) S (m_dec e11_leads 90 rfl) rfl ?_
                exact ms_ret (pc := 248) E (m_dec e11_leads 131 rfl) rfl
              · refine ms_swOut (pc := 38) (a := (m_g h8 (m_g h8 (m_g h8 v0 35) (m_w x2)) (m_w x3))) S (m_dec e11_leads 25 rfl) (by omega) rfl ?_
                exact ms_ret (pc := 248) E (m_dec e11_leads 131 rfl) rfl
theorem k11_leads (l : Launch) (d : m_D) (v0 : Int) (h : m_H) : m_Con l d yX11_leads cX11_leads 5 none 0 (fun _ => []) [m_r v0] h (t11_leads v0 h) :=
  m_con2 (by decide +kernel) (Nat.le_of_ble_eq_true rfl) (fun Y hN hRm hr hI S hfin => s11_leads S (m_end_v S hr hfin) hRm (Nat.le_refl _) hN v0 h)
set_option maxRecDepth 100000 in
theorem e11_lead : ∀ q ∈ ([(0, .aload_n 0, 1), (1, .getfield 203, 3), (4, .iconst (-1), 1), (5, .if_icmp .eq 15, 3), (8, .iload_n 3, 1), (9, .i2l, 1), (10, .lconst 0, 1), (11, .ldc2_w 536, 3), (14, .invokestatic 268, 3), (17, .ifCond .ne 5, 3), (20, .iconst (-1), 1), (21, .ireturn, 1), (22, .iconst 0, 1), (23, .istore 4, 2), (25, .iload 4, 2), (27, .aload_n 0, 1), (28, .getfield 522, 3), (31, .if_icmp .ge 126, 3), (34, .aload_n 0, 1), (35, .getfield 219, 3), (38, .iload 4, 2), (40, .iaload, 1), (41, .iload_n 2, 1), (42, .if_icmp .ne 109, 3), (45, .aload_n 0, 1), (46, .iload 4, 2), (48, .iload_n 1, 1), (49, .invokevirtual 525, 3), (52, .ifCond .ne 6, 3), (55, .goto 96, 3), (58, .iload_n 3, 1), (59, .ifCond .ne 11, 3), (62, .aload_n 0, 1), (63, .getfield 216, 3), (66, .iload 4, 2), (68, .iaload, 1), (69, .ireturn, 1), (70, .aload_n 0, 1), (71, .aload_n 0, 1), (72, .getfield 92, 3), (75, .aload_n 0, 1), (76, .getfield 203, 3), (79, .aaload, 1), (80, .aload_n 0, 1), (81, .getfield 216, 3), (84, .iload 4, 2), (86, .iaload, 1), (87, .iaload, 1), (88, .putfield 528, 3), (91, .aload_n 0, 1), (92, .iload_n 1, 1), (93, .aload_n 0, 1), (94, .getfield 222, 3), (97, .iload 4, 2), (99, .iaload, 1), (100, .isub, 1), (101, .putfield 531, 3), (104, .aload_n 0, 1), (105, .getfield 89, 3), (108, .aload_n 0, 1), (109, .getfield 203, 3), (112, .aaload, 1), (113, .aload_n 0, 1), (114, .getfield 528, 3), (117, .iaload, 1), (118, .iconst 1, 1), (119, .if_icmp .le 10, 3), (122, .aload_n 0, 1), (123, .invokevirtual 538, 3), (126, .goto (-22), 3), (129, .iload_n 3, 1), (130, .iconst 1, 1), (131, .if_icmp .ne 15, 3), (134, .aload_n 0, 1), (135, .getfield 213, 3), (138, .aload_n 0, 1), (139, .getfield 528, 3), (142, .iaload, 1), (143, .goto 7, 3), (146, .aload_n 0, 1), (147, .getfield 531, 3), (150, .ireturn, 1), (151, .iinc 4 1, 3), (154, .goto (-129), 3), (157, .iconst (-1), 1), (158, .ireturn, 1)] : List (Nat × Instr × Nat)), decode cX11_lead q.1 = .ok q.2 := by decide +kernel
set_option maxHeartbeats 4000000 in
set_option maxRecDepth 20000 in
theorem s11_lead_c104 {Y : m_Y Int} (S : m_Std Y RX11 cX11_lead) (E : m_End Y cX11_lead .ireturn (fun r => [m_i r])) {F : Nat} (hF : m_Rm Y F) (hFn : 2 ≤ F) (hN : Y.2.2.2.1 = 5) : ∀ (v0 v3 : Int) (h : m_H), m_Sim Y 104 [(0, m_r v0), (3, m_i v3)] [] h (t11_lead_c104 v0 v3 h) := by
  intro v0 v3 h
  refine ms_all fun r e => ?_
  refine t11_lead_c104.partial_correctness v0 v3 (motive := fun h r => m_Sim Y 104 [(0, m_r v0), (3, m_i v3)] [] h (some r)) ?_ h r e
  intro f ih h r e
  have ih : ∀ (h : m_H), m_Sim Y 104 [(0, m_r v0), (3, m_i v3)] [] h (f h ) := fun h  => ms_all fun r e => ih h r e
  refine ms_use ?_ e
  clear e r
  refine ms_aload_n (pc := 104) S 0 rfl rfl (m_dec e11_lead 57 rfl) ?_
  refine ms_grd fun g1 => ?_
  refine ms_getf (pc := 105) S lf_X11_89 rfl (m_dec e11_lead 58 rfl) g1 ?_
  refine ms_aload_n (pc := 108) S 0 rfl rfl (m_dec e11_lead 59 rfl) ?_
  refine ms_getf (pc := 109) S lf_X11_203 rfl (m_dec e11_lead 60 rfl) g1 ?_
  refine ms_grd fun g2 => ?_
  refine ms_aald (pc := 112) S 29 (by decide) (fun _ => rfl) rfl g2 (m_dec e11_lead 61 rfl) ?_
  refine ms_aload_n (pc := 113) S 0 rfl rfl (m_dec e11_lead 62 rfl) ?_
  refine ms_getf (pc := 114) S lf_X11_528 rfl (m_dec e11_lead 63 rfl) g1 ?_
  refine ms_grd fun g3 => ?_
  refine ms_iald (pc := 117) S g3 (m_dec e11_lead 64 rfl) ?_
  refine ms_iconst (pc := 118) S (m_dec e11_lead 65 rfl) ?_
  refine ms_icmp_le (pc := 119) S (m_dec e11_lead 66 rfl) rfl (fun q4 => ?_) (fun q4 => ?_)
  · refine ms_aload_n (pc := 122) S 0 rfl rfl (m_dec e11_lead 67 rfl) ?_
    refine ms_callVv (pc := 123) S hF (vals := []) (st := []) (hc := vw_11) (hci := by decide) (hcy := rfl) (ht := g1) (hC := (k11_leads _ _ v0 h)) (hM := lm_X11_538) (hfr := (Nat.le_trans (by decide) hFn)) (hstk := rfl) (hcat := Nat.le_of_ble_eq_true rfl) (hd := (m_dec e11_lead 68 rfl)) (k1 := fun h5 => ?_)
    refine ms_goto (pc := 126) S (m_dec e11_lead 69 rfl) rfl ?_
    exact ih h5
  · refine ms_iload_n (pc := 129) S 1 rfl rfl (m_dec e11_lead 70 rfl) ?_
    refine ms_iconst (pc := 130) S (m_dec e11_lead 71 rfl) ?_
    refine ms_icmp_ne (pc := 131) S (m_dec e11_lead 72 rfl) rfl (fun q7 => ?_) (fun q7 => ?_)
    · refine ms_aload_n (pc := 134) S 0 rfl rfl (m_dec e11_lead 73 rfl) ?_
      refine ms_getf (pc := 135) S lf_X11_213 rfl (m_dec e11_lead 74 rfl) g1 ?_
      refine ms_aload_n (pc := 138) S 0 rfl rfl (m_dec e11_lead 75 rfl) ?_
      refine ms_getf (pc := 139) S lf_X11_528 rfl (m_dec e11_lead 76 rfl) g1 ?_
      refine ms_grd fun g8 => ?_
      refine ms_iald (pc := 142) S g8 (m_dec e11_lead 77 rfl) ?_
      refine ms_goto (pc := 143) S (m_dec e11_lead 78 rfl) rfl ?_
      exact ms_ret (pc := 150) E (m_dec e11_lead 81 rfl) rfl
    · refine ms_aload_n (pc := 146) S 0 rfl rfl (m_dec e11_lead 79 rfl) ?_
      refine ms_getf (pc := 147) S lf_X11_531 rfl (m_dec e11_lead 80 rfl) g1 ?_
      exact ms_ret (pc := 150) E (m_dec e11_lead 81 rfl) rfl
set_option maxHeartbeats 4000000 in
set_option maxRecDepth 20000 in
theorem s11_lead_c25 {Y : m_Y Int} (S : m_Std Y RX11 cX11_lead) (E : m_End Y cX11_lead .ireturn (fun r => [m_i r])) {F : Nat} (hF : m_Rm Y F) (hFn : 2 ≤ F) (hN : Y.2.2.2.1 = 5) : ∀ (v0 v1 v2 v3 v4 : Int) (h : m_H), m_Sim Y 25 [(0, m_r v0), (1, m_i v1), (2, m_i v2), (3, m_i v3), (4, m_i v4)] [] h (t11_lead_c25 v0 v1 v2 v3 v4 h) := by
  intro v0 v1 v2 v3 v4 h
  refine ms_all fun r e => ?_
  refine t11_lead_c25.partial_correctness v0 v1 v2 v3 (motive := fun v4 h r => m_Sim Y 25 [(0, m_r v0), (1, m_i v1), (2, m_i v2), (3, m_i v3), (4, m_i v4)] [] h (some r)) ?_ v4 h r e
  intro f ih v4 h r e
  have ih : ∀ (v4 : Int) (h : m_H), m_Sim Y 25 [(0, m_r v0), (1, m_i v1), (2, m_i v2), (3, m_i v3), (4, m_i v4)] [] h (f v4 h ) := fun v4 h  => ms_all fun r e => ih v4 h r e
  refine ms_use ?_ e
  clear e r
  refine ms_iload (pc := 25) S 4 rfl (m_dec e11_lead 14 rfl) ?_
  refine ms_aload_n (pc := 27) S 0 rfl rfl (m_dec e11_lead 15 rfl) ?_
  refine ms_grd fun g1 => ?_
  refine ms_getf (pc := 28) S lf_X11_522 rfl (m_dec e11_lead 16 rfl) g1 ?_
  refine ms_icmp_ge (pc := 31) S (m_dec e11_lead 17 rfl) rfl (fun q2 => ?_) (fun q2 => ?_)
  · refine ms_aload_n (pc := 34) S 0 rfl rfl (m_dec e11_lead 18 rfl) ?_
    refine ms_getf (pc := 35) S lf_X11_219 rfl (m_dec e11_lead 19 rfl) g1 ?_
    refine ms_iload (pc := 38) S 4 rfl (m_dec e11_lead 20 rfl) ?_
    refine ms_grd fun g3 => ?_
    refine ms_iald (pc := 40) S g3 (m_dec e11_lead 21 rfl) ?_
    refine ms_iload_n (pc := 41) S 2 rfl rfl (m_dec e11_lead 22 rfl) ?_
    refine ms_icmp_ne (pc := 42) S (m_dec e11_lead 23 rfl) rfl (fun q4 => ?_) (fun q4 => ?_)
    · refine ms_aload_n (pc := 45) S 0 rfl rfl (m_dec e11_lead 24 rfl) ?_
      refine ms_iload (pc := 46) S 4 rfl (m_dec e11_lead 25 rfl) ?_
      refine ms_iload_n (pc := 48) S 1 rfl rfl (m_dec e11_lead 26 rfl) ?_
      refine ms_callVz (pc := 49) S hF (vals := [m_i v4, m_i v1]) (st := []) (hc := vw_11) (hci := by decide) (hcy := rfl) (ht := g1) (hC := (k11_isOver _ _ v0 v4 v1 h)) (hM := lm_X11_525) (hfr := (Nat.le_trans (by decide) hFn)) (hstk := rfl) (hcat := Nat.le_of_ble_eq_true rfl) (hd := (m_dec e11_lead 27 rfl)) (k1 := fun r6 h5 => ?_)
      refine ms_ifb_ne (pc := 52) S (m_dec e11_lead 28 rfl) rfl (fun q7 => ?_) (fun q7 => ?_)
      · refine ms_iload_n (pc := 58) S 3 rfl rfl (m_dec e11_lead 30 rfl) ?_
        refine ms_if_ne (pc := 59) S (m_dec e11_lead 31 rfl) rfl (fun q8 => ?_) (fun q8 => ?_)
        · refine ms_aload_n (pc := 62) S 0 rfl rfl (m_dec e11_lead 32 rfl) ?_
          refine ms_grd fun g9 => ?_
          refine ms_getf (pc := 63) S lf_X11_216 rfl (m_dec e11_lead 33 rfl) g9 ?_
          refine ms_iload (pc := 66) S 4 rfl (m_dec e11_lead 34 rfl) ?_
          refine ms_grd fun g10 => ?_
          refine ms_iald (pc := 68) S g10 (m_dec e11_lead 35 rfl) ?_
          exact ms_ret (pc := 69) E (m_dec e11_lead 36 rfl) rfl
        · refine ms_aload_n (pc := 70) S 0 rfl rfl (m_dec e11_lead 37 rfl) ?_
          refine ms_aload_n (pc := 71) S 0 rfl rfl (m_dec e11_lead 38 rfl) ?_
          refine ms_grd fun g11 => ?_
          refine ms_getf (pc := 72) S lf_X11_92 rfl (m_dec e11_lead 39 rfl) g11 ?_
          refine ms_aload_n (pc := 75) S 0 rfl rfl (m_dec e11_lead 40 rfl) ?_
          refine ms_getf (pc := 76) S lf_X11_203 rfl (m_dec e11_lead 41 rfl) g11 ?_
          refine ms_grd fun g12 => ?_
          refine ms_aald (pc := 79) S 29 (by decide) (fun _ => rfl) rfl g12 (m_dec e11_lead 42 rfl) ?_
          refine ms_aload_n (pc := 80) S 0 rfl rfl (m_dec e11_lead 43 rfl) ?_
          refine ms_getf (pc := 81) S lf_X11_216 rfl (m_dec e11_lead 44 rfl) g11 ?_
          refine ms_iload (pc := 84) S 4 rfl (m_dec e11_lead 45 rfl) ?_
          refine ms_grd fun g13 => ?_
          refine ms_iald (pc := 86) S g13 (m_dec e11_lead 46 rfl) ?_
          refine ms_grd fun g14 => ?_
          refine ms_iald (pc := 87) S g14 (m_dec e11_lead 47 rfl) ?_
          refine ms_putf (pc := 88) S lp_X11_528 (fun z => by cases z) rfl (fun d => m_fitI d _) (m_dec e11_lead 48 rfl) g11 (fun h15 => ?_)
          refine ms_aload_n (pc := 91) S 0 rfl rfl (m_dec e11_lead 49 rfl) ?_
          refine ms_iload_n (pc := 92) S 1 rfl rfl (m_dec e11_lead 50 rfl) ?_
          refine ms_aload_n (pc := 93) S 0 rfl rfl (m_dec e11_lead 51 rfl) ?_
          refine ms_grd fun g16 => ?_
          refine ms_getf (pc := 94) S lf_X11_222 rfl (m_dec e11_lead 52 rfl) g16 ?_
          refine ms_iload (pc := 97) S 4 rfl (m_dec e11_lead 53 rfl) ?_
          refine ms_grd fun g17 => ?_
          refine ms_iald (pc := 99) S g17 (m_dec e11_lead 54 rfl) ?_
          refine ms_isub (pc := 100) S (m_dec e11_lead 55 rfl) ?_
          refine ms_putf (pc := 101) S lp_X11_531 (fun z => by cases z) rfl (fun d => m_fitI d _) (m_dec e11_lead 56 rfl) g16 (fun h18 => ?_)
          refine ms_sub (pc := 104) (L' := [(0, m_r v0), (3, m_i v3)]) [0, 3] rfl ?_
          exact s11_lead_c104 S E hF hFn hN v0 v3 h18
      · refine ms_goto (pc := 55) S (m_dec e11_lead 29 rfl) rfl ?_
        refine ms_iinc (pc := 151) S (L' := [(0, m_r v0), (1, m_i v1), (2, m_i v2), (3, m_i v3), (4, m_i (v4 + 1))]) 4 rfl [1, 2, 3, 4, 0] rfl (m_lt hN rfl) (m_dec e11_lead 82 rfl) ?_
        refine ms_goto (pc := 154) S (m_dec e11_lead 83 rfl) rfl ?_
        exact ih (v4 + 1) h5
    · refine ms_iinc (pc := 151) S (L' := [(0, m_r v0), (1, m_i v1), (2, m_i v2), (3, m_i v3), (4, m_i (v4 + 1))]) 4 rfl [1, 2, 3, 4, 0] rfl (m_lt hN rfl) (m_dec e11_lead 82 rfl) ?_
      refine ms_goto (pc := 154) S (m_dec e11_lead 83 rfl) rfl ?_
      exact ih (v4 + 1) h
  · refine ms_iconst (pc := 157) S (m_dec e11_lead 84 rfl) ?_
    exact ms_ret (pc := 158) E (m_dec e11_lead 85 rfl) rfl
set_option maxHeartbeats 4000000 in
set_option maxRecDepth 20000 in
theorem s11_lead {Y : m_Y Int} (S : m_Std Y RX11 cX11_lead) (E : m_End Y cX11_lead .ireturn (fun r => [m_i r])) {F : Nat} (hF : m_Rm Y F) (hFn : 2 ≤ F) (hN : Y.2.2.2.1 = 5) (v0 v1 v2 v3 : Int) (h : m_H) : m_Sim Y 0 [(0, m_r v0), (1, m_i v1), (2, m_i v2), (3, m_i v3)] [] h (t11_lead v0 v1 v2 v3 h) := by
  unfold t11_lead
  refine ms_aload_n (pc := 0) S 0 rfl rfl (m_dec e11_lead 0 rfl) ?_
  refine ms_grd fun g1 => ?_
  refine ms_getf (pc := 1) S lf_X11_203 rfl (m_dec e11_lead 1 rfl) g1 ?_
  refine ms_iconst (pc := 4) S (m_dec e11_lead 2 rfl) ?_
  refine ms_icmp_eq (pc := 5) S (m_dec e11_lead 3 rfl) rfl (fun q2 => ?_) (fun q2 => ?_)
  · refine ms_iconst (pc := 20) S (m_dec e11_lead 10 rfl) ?_
    exact ms_ret (pc := 21) E (m_dec e11_lead 11 rfl) rfl
  · refine ms_iload_n (pc := 8) S 3 rfl rfl (m_dec e11_lead 4 rfl) ?_
    refine ms_i2l (pc := 9) S (m_dec e11_lead 5 rfl) ?_
    refine ms_lconst (pc := 10) S (n := 0) rfl (m_dec e11_lead 6 rfl) ?_
    refine ms_ldc2 (pc := 11) S (n := 2) w_2109 (m_dec e11_lead 7 rfl) ?_
    refine ms_callSz (pc := 14) S hF (vals := [m_j (m_w v3), m_j 0, m_j 2]) (st := [])  (hC := (k11_in _ _ (m_w v3) 0 2 h)) (hM := lm_X11_268) (hfr := (Nat.le_trans (by decide) hFn)) (hstk := rfl) (hcat := Nat.le_of_ble_eq_true rfl) (hd := (m_dec e11_lead 8 rfl)) (k1 := fun r4 h3 => ?_)
    refine ms_ifb_ne (pc := 17) S (m_dec e11_lead 9 rfl) rfl (fun q5 => ?_) (fun q5 => ?_)
    · refine ms_iconst (pc := 22) S (m_dec e11_lead 12 rfl) ?_
      refine ms_istore (pc := 23) S (L' := [(0, m_r v0), (1, m_i v1), (2, m_i v2), (3, m_i v3), (4, m_i 0)]) [1, 2, 3, 4, 0] rfl (m_lt hN rfl) (m_dec e11_lead 13 rfl) ?_
      exact s11_lead_c25 S E hF hFn hN v0 v1 v2 v3 0 h3
    · refine ms_iconst (pc := 20) S (m_dec e11_lead 10 rfl) ?_
      exact ms_ret (pc := 21) E (m_dec e11_lead 11 rfl) rfl
theorem k11_lead (l : Launch) (d : m_D) (v0 v1 v2 v3 : Int) (h : m_H) : m_Con l d yX11_lead cX11_lead 5 (some .int) 2 (fun r => [m_i r]) [m_r v0, m_i v1, m_i v2, m_i v3] h (t11_lead v0 v1 v2 v3 h) :=
  m_con2 (by decide +kernel) (Nat.le_of_ble_eq_true rfl) (fun Y hN hRm hr hI S hfin => s11_lead S (m_end_i S hr hfin) hRm (Nat.le_refl _) hN v0 v1 v2 v3 h)
set_option maxRecDepth 100000 in
theorem e11_quarrels : ∀ q ∈ ([(0, .iconst 0, 1), (1, .istore_n 3, 1), (2, .iload_n 3, 1), (3, .aload_n 0, 1), (4, .getfield 522, 3), (7, .if_icmp .ge 148, 3), (10, .iload_n 3, 1), (11, .iconst 1, 1), (12, .iadd, 1), (13, .istore 4, 2), (15, .iload 4, 2), (17, .aload_n 0, 1), (18, .getfield 522, 3), (21, .if_icmp .ge 128, 3), (24, .aload_n 0, 1), (25, .getfield 216, 3), (28, .iload_n 3, 1), (29, .iaload, 1), (30, .iload_n 1, 1), (31, .if_icmp .ne 14, 3), (34, .aload_n 0, 1), (35, .getfield 216, 3), (38, .iload 4, 2), (40, .iaload, 1), (41, .iload_n 2, 1), (42, .if_icmp .eq 24, 3), (45, .aload_n 0, 1), (46, .getfield 216, 3), (49, .iload_n 3, 1), (50, .iaload, 1), (51, .iload_n 2, 1), (52, .if_icmp .ne 18, 3), (55, .aload_n 0, 1), (56, .getfield 216, 3), (59, .iload 4, 2), (61, .iaload, 1), (62, .iload_n 1, 1), (63, .if_icmp .ne 7, 3), (66, .iconst 1, 1), (67, .goto 4, 3), (70, .iconst 0, 1), (71, .istore 5, 2), (73, .iload 5, 2), (75, .ifCond .eq 68, 3), (78, .aload_n 0, 1), (79, .getfield 219, 3), (82, .iload_n 3, 1), (83, .iaload, 1), (84, .aload_n 0, 1), (85, .getfield 219, 3), (88, .iload 4, 2), (90, .iaload, 1), (91, .if_icmp .ne 52, 3), (94, .aload_n 0, 1), (95, .getfield 222, 3), (98, .iload_n 3, 1), (99, .iaload, 1), (100, .aload_n 0, 1), (101, .getfield 222, 3), (104, .iload 4, 2), (106, .iaload, 1), (107, .aload_n 0, 1), (108, .getfield 225, 3), (111, .iload 4, 2), (113, .iaload, 1), (114, .iadd, 1), (115, .if_icmp .ge 28, 3), (118, .aload_n 0, 1), (119, .getfield 222, 3), (122, .iload 4, 2), (124, .iaload, 1), (125, .aload_n 0, 1), (126, .getfield 222, 3), (129, .iload_n 3, 1), (130, .iaload, 1), (131, .aload_n 0, 1), (132, .getfield 225, 3), (135, .iload_n 3, 1), (136, .iaload, 1), (137, .iadd, 1), (138, .if_icmp .ge 5, 3), (141, .iconst 1, 1), (142, .ireturn, 1), (143, .iinc 4 1, 3), (146, .goto (-131), 3), (149, .iinc 3 1, 3), (152, .goto (-150), 3), (155, .iconst 0, 1), (156, .ireturn, 1)] : List (Nat × Instr × Nat)), decode cX11_quarrels q.1 = .ok q.2 := by decide +kernel
set_option maxHeartbeats 4000000 in
set_option maxRecDepth 20000 in
theorem s11_quarrels_x2 {Y : m_Y Bool} (S : m_Std Y RX11 cX11_quarrels) (E : m_End Y cX11_quarrels .ireturn (fun r => [m_i (m_b2i r)])) {F : Nat} (hF : m_Rm Y F) (hFn : 0 ≤ F) (hN : Y.2.2.2.1 = 6) : ∀ (cc : Int) (v0 v1 v2 v3 v4 : Int) (h : m_H) (r : Bool × m_H), t11_quarrels_x2 cc v0 v1 v2 v3 v4 h = some r → (cc = 2 → m_Sim Y 2 [(0, m_r v0), (1, m_i v1), (2, m_i v2), (3, m_i v3)] [] h (some r)) ∧ (cc = 15 → m_Sim Y 15 [(0, m_r v0), (1, m_i v1), (2, m_i v2), (3, m_i v3), (4, m_i v4)] [] h (some r)) ∧ (cc = 45 → m_Sim Y 45 [(0, m_r v0), (1, m_i v1), (2, m_i v2), (3, m_i v3), (4, m_i v4)] [] h (some r)) ∧ (cc = 66 → m_Sim Y 66 [(0, m_r v0), (1, m_i v1), (2, m_i v2), (3, m_i v3), (4, m_i v4)] [] h (some r)) ∧ (cc = 70 → m_Sim Y 70 [(0, m_r v0), (1, m_i v1), (2, m_i v2), (3, m_i v3), (4, m_i v4)] [] h (some r)) := by
  intro cc v0 v1 v2 v3 v4 h r e
  refine t11_quarrels_x2.partial_correctness v0 v1 v2 h (motive := fun cc v3 v4 r => (cc = 2 → m_Sim Y 2 [(0, m_r v0), (1, m_i v1), (2, m_i v2), (3, m_i v3)] [] h (some r)) ∧ (cc = 15 → m_Sim Y 15 [(0, m_r v0), (1, m_i v1), (2, m_i v2), (3, m_i v3), (4, m_i v4)] [] h (some r)) ∧ (cc = 45 → m_Sim Y 45 [(0, m_r v0), (1, m_i v1), (2, m_i v2), (3, m_i v3), (4, m_i v4)] [] h (some r)) ∧ (cc = 66 → m_Sim Y 66 [(0, m_r v0), (1, m_i v1), (2, m_i v2), (3, m_i v3), (4, m_i v4)] [] h (some r)) ∧ (cc = 70 → m_Sim Y 70 [(0, m_r v0), (1, m_i v1), (2, m_i v2), (3, m_i v3), (4, m_i v4)] [] h (some r))) ?_ cc v3 v4 r e
  intro f ih cc v3 v4 r e
  have ih2 : ∀ (v3 v4 : Int) , m_Sim Y 2 [(0, m_r v0), (1, m_i v1), (2, m_i v2), (3, m_i v3)] [] h (f 2 v3 v4 ) := fun v3 v4  => ms_all fun r e => (ih 2 v3 v4 r e).1 rfl
  have ih15 : ∀ (v3 v4 : Int) , m_Sim Y 15 [(0, m_r v0), (1, m_i v1), (2, m_i v2), (3, m_i v3), (4, m_i v4)] [] h (f 15 v3 v4 ) := fun v3 v4  => ms_all fun r e => (ih 15 v3 v4 r e).2.1 rfl
  have ih45 : ∀ (v3 v4 : Int) , m_Sim Y 45 [(0, m_r v0), (1, m_i v1), (2, m_i v2), (3, m_i v3), (4, m_i v4)] [] h (f 45 v3 v4 ) := fun v3 v4  => ms_all fun r e => (ih 45 v3 v4 r e).2.2.1 rfl
  have ih66 : ∀ (v3 v4 : Int) , m_Sim Y 66 [(0, m_r v0), (1, m_i v1), (2, m_i v2), (3, m_i v3), (4, m_i v4)] [] h (f 66 v3 v4 ) := fun v3 v4  => ms_all fun r e => (ih 66 v3 v4 r e).2.2.2.1 rfl
  have ih70 : ∀ (v3 v4 : Int) , m_Sim Y 70 [(0, m_r v0), (1, m_i v1), (2, m_i v2), (3, m_i v3), (4, m_i v4)] [] h (f 70 v3 v4 ) := fun v3 v4  => ms_all fun r e => (ih 70 v3 v4 r e).2.2.2.2 rfl
  refine ⟨?_, ?_, ?_, ?_, ?_⟩
  · intro q0
    subst q0
    rw [if_pos rfl] at e
    refine ms_use ?_ e
    clear e r
    refine ms_iload_n (pc := 2) S 3 rfl rfl (m_dec e11_quarrels 2 rfl) ?_
    refine ms_aload_n (pc := 3) S 0 rfl rfl (m_dec e11_quarrels 3 rfl) ?_
    refine ms_grd fun g1 => ?_
    refine ms_getf (pc := 4) S lf_X11_522 rfl (m_dec e11_quarrels 4 rfl) g1 ?_
    refine ms_icmp_ge (pc := 7) S (m_dec e11_quarrels 5 rfl) rfl (fun q2 => ?_) (fun q2 => ?_)
    · refine ms_iload_n (pc := 10) S 3 rfl rfl (m_dec e11_quarrels 6 rfl) ?_
      refine ms_iconst (pc := 11) S (m_dec e11_quarrels 7 rfl) ?_
      refine ms_iadd (pc := 12) S (m_dec e11_quarrels 8 rfl) ?_
      refine ms_nm (st := fun x3 => [m_i x3]) fun x3 => ?_
      refine ms_istore (pc := 13) S (L' := [(0, m_r v0), (1, m_i v1), (2, m_i v2), (3, m_i v3), (4, m_i x3)]) [1, 2, 3, 4, 0] rfl (m_lt hN rfl) (m_dec e11_quarrels 9 rfl) ?_
      exact ih15 v3 x3
    · refine ms_iconst (pc := 155) S (m_dec e11_quarrels 87 rfl) ?_
      exact ms_ret (pc := 156) E (m_dec e11_quarrels 88 rfl) rfl
  · intro q0
    subst q0
    rw [if_neg (by decide), if_pos rfl] at e
    refine ms_use ?_ e
    clear e r
    refine ms_iload (pc := 15) S 4 rfl (m_dec e11_quarrels 10 rfl) ?_
    refine ms_aload_n (pc := 17) S 0 rfl rfl (m_dec e11_quarrels 11 rfl) ?_
    refine ms_grd fun g1 => ?_
    refine ms_getf (pc := 18) S lf_X11_522 rfl (m_dec e11_quarrels 12 rfl) g1 ?_
    refine ms_icmp_ge (pc := 21) S (m_dec e11_quarrels 13 rfl) rfl (fun q2 => ?_) (fun q2 => ?_)
    · refine ms_aload_n (pc := 24) S 0 rfl rfl (m_dec e11_quarrels 14 rfl) ?_
      refine ms_getf (pc := 25) S lf_X11_216 rfl (m_dec e11_quarrels 15 rfl) g1 ?_
      refine ms_iload_n (pc := 28) S 3 rfl rfl (m_dec e11_quarrels 16 rfl) ?_
      refine ms_grd fun g3 => ?_
      refine ms_iald (pc := 29) S g3 (m_dec e11_quarrels 17 rfl) ?_
      refine ms_iload_n (pc := 30) S 1 rfl rfl (m_dec e11_quarrels 18 rfl) ?_
      refine ms_icmp_ne (pc := 31) S (m_dec e11_quarrels 19 rfl) rfl (fun q4 => ?_) (fun q4 => ?_)
      · refine ms_aload_n (pc := 34) S 0 rfl rfl (m_dec e11_quarrels 20 rfl) ?_
        refine ms_getf (pc := 35) S lf_X11_216 rfl (m_dec e11_quarrels 21 rfl) g1 ?_
        refine ms_iload (pc := 38) S 4 rfl (m_dec e11_quarrels 22 rfl) ?_
        refine ms_grd fun g5 => ?_
        refine ms_iald (pc := 40) S g5 (m_dec e11_quarrels 23 rfl) ?_
        refine ms_iload_n (pc := 41) S 2 rfl rfl (m_dec e11_quarrels 24 rfl) ?_
        refine ms_icmp_eq (pc := 42) S (m_dec e11_quarrels 25 rfl) rfl (fun q6 => ?_) (fun q6 => ?_)
        · exact ih66 v3 v4
        · exact ih45 v3 v4
      · exact ih45 v3 v4
    · refine ms_iinc (pc := 149) S (L' := [(0, m_r v0), (1, m_i v1), (2, m_i v2), (3, m_i (v3 + 1))]) 3 rfl [1, 2, 3, 0] rfl (m_lt hN rfl) (m_dec e11_quarrels 85 rfl) ?_
      refine ms_goto (pc := 152) S (m_dec e11_quarrels 86 rfl) rfl ?_
      exact ih2 (v3 + 1) 0
  · intro q0
    subst q0
    rw [if_neg (by decide), if_neg (by decide), if_pos rfl] at e
    refine ms_use ?_ e
    clear e r
    refine ms_aload_n (pc := 45) S 0 rfl rfl (m_dec e11_quarrels 26 rfl) ?_
    refine ms_grd fun g1 => ?_
    refine ms_getf (pc := 46) S lf_X11_216 rfl (m_dec e11_quarrels 27 rfl) g1 ?_
    refine ms_iload_n (pc := 49) S 3 rfl rfl (m_dec e11_quarrels 28 rfl) ?_
    refine ms_grd fun g2 => ?_
    refine ms_iald (pc := 50) S g2 (m_dec e11_quarrels 29 rfl) ?_
    refine ms_iload_n (pc := 51) S 2 rfl rfl (m_dec e11_quarrels 30 rfl) ?_
    refine ms_icmp_ne (pc := 52) S (m_dec e11_quarrels 31 rfl) rfl (fun q3 => ?_) (fun q3 => ?_)
    · refine ms_aload_n (pc := 55) S 0 rfl rfl (m_dec e11_quarrels 32 rfl) ?_
      refine ms_getf (pc := 56) S lf_X11_216 rfl (m_dec e11_quarrels 33 rfl) g1 ?_
      refine ms_iload (pc := 59) S 4 rfl (m_dec e11_quarrels 34 rfl) ?_
      refine ms_grd fun g4 => ?_
      refine ms_iald (pc := 61) S g4 (m_dec e11_quarrels 35 rfl) ?_
      refine ms_iload_n (pc := 62) S 1 rfl rfl (m_dec e11_quarrels 36 rfl) ?_
      refine ms_icmp_ne (pc := 63) S (m_dec e11_quarrels 37 rfl) rfl (fun q5 => ?_) (fun q5 => ?_)
      · exact ih66 v3 v4
      · exact ih70 v3 v4
    · exact ih70 v3 v4
  · intro q0
    subst q0
    rw [if_neg (by decide), if_neg (by decide), if_neg (by decide), if_pos rfl] at e
    refine ms_use ?_ e
    clear e r
    refine ms_iconst (pc := 66) S (m_dec e11_quarrels 38 rfl) ?_
    refine ms_goto (pc := 67) S (m_dec e11_quarrels 39 rfl) rfl ?_
    refine ms_istore (pc := 71) S (L' := [(0, m_r v0), (1, m_i v1), (2, m_i v2), (3, m_i v3), (4, m_i v4), (5, m_i 1)]) [1, 2, 3, 4, 5, 0] rfl (m_lt hN rfl) (m_dec e11_quarrels 41 rfl) ?_
    refine ms_iload (pc := 73) S 5 rfl (m_dec e11_quarrels 42 rfl) ?_
    refine ms_if_eq (pc := 75) S (m_dec e11_quarrels 43 rfl) rfl (fun q1 => ?_) (fun q1 => ?_)
    · refine ms_iinc (pc := 143) S (L' := [(0, m_r v0), (1, m_i v1), (2, m_i v2), (3, m_i v3), (4, m_i (v4 + 1))]) 4 rfl [1, 2, 3, 4, 0] rfl (m_lt hN rfl) (m_dec e11_quarrels 83 rfl) ?_
      refine ms_goto (pc := 146) S (m_dec e11_quarrels 84 rfl) rfl ?_
      exact ih15 v3 (v4 + 1)
    · refine ms_aload_n (pc := 78) S 0 rfl rfl (m_dec e11_quarrels 44 rfl) ?_
      refine ms_grd fun g2 => ?_
      refine ms_getf (pc := 79) S lf_X11_219 rfl (m_dec e11_quarrels 45 rfl) g2 ?_
      refine ms_iload_n (pc := 82) S 3 rfl rfl (m_dec e11_quarrels 46 rfl) ?_
      refine ms_grd fun g3 => ?_
      refine ms_iald (pc := 83) S g3 (m_dec e11_quarrels 47 rfl) ?_
      refine ms_aload_n (pc := 84) S 0 rfl rfl (m_dec e11_quarrels 48 rfl) ?_
      refine ms_getf (pc := 85) S lf_X11_219 rfl (m_dec e11_quarrels 49 rfl) g2 ?_
      refine ms_iload (pc := 88) S 4 rfl (m_dec e11_quarrels 50 rfl) ?_
      refine ms_grd fun g4 => ?_
      refine ms_iald (pc := 90) S g4 (m_dec e11_quarrels 51 rfl) ?_
      refine ms_icmp_ne (pc := 91) S (m_dec e11_quarrels 52 rfl) rfl (fun q5 => ?_) (fun q5 => ?_)
      · refine ms_aload_n (pc := 94) S 0 rfl rfl (m_dec e11_quarrels 53 rfl) ?_
        refine ms_getf (pc := 95) S lf_X11_222 rfl (m_dec e11_quarrels 54 rfl) g2 ?_
        refine ms_iload_n (pc := 98) S 3 rfl rfl (m_dec e11_quarrels 55 rfl) ?_
        refine ms_grd fun g6 => ?_
        refine ms_iald (pc := 99) S g6 (m_dec e11_quarrels 56 rfl) ?_
        refine ms_aload_n (pc := 100) S 0 rfl rfl (m_dec e11_quarrels 57 rfl) ?_
        refine ms_getf (pc := 101) S lf_X11_222 rfl (m_dec e11_quarrels 58 rfl) g2 ?_
        refine ms_iload (pc := 104) S 4 rfl (m_dec e11_quarrels 59 rfl) ?_
        refine ms_grd fun g7 => ?_
        refine ms_iald (pc := 106) S g7 (m_dec e11_quarrels 60 rfl) ?_
        refine ms_aload_n (pc := 107) S 0 rfl rfl (m_dec e11_quarrels 61 rfl) ?_
        refine ms_getf (pc := 108) S lf_X11_225 rfl (m_dec e11_quarrels 62 rfl) g2 ?_
        refine ms_iload (pc := 111) S 4 rfl (m_dec e11_quarrels 63 rfl) ?_
        refine ms_grd fun g8 => ?_
        refine ms_iald (pc := 113) S g8 (m_dec e11_quarrels 64 rfl) ?_
        refine ms_iadd (pc := 114) S (m_dec e11_quarrels 65 rfl) ?_
        refine ms_icmp_ge (pc := 115) S (m_dec e11_quarrels 66 rfl) rfl (fun q9 => ?_) (fun q9 => ?_)
        · refine ms_aload_n (pc := 118) S 0 rfl rfl (m_dec e11_quarrels 67 rfl) ?_
          refine ms_getf (pc := 119) S lf_X11_222 rfl (m_dec e11_quarrels 68 rfl) g2 ?_
          refine ms_iload (pc := 122) S 4 rfl (m_dec e11_quarrels 69 rfl) ?_
          refine ms_iald (pc := 124) S g7 (m_dec e11_quarrels 70 rfl) ?_
          refine ms_aload_n (pc := 125) S 0 rfl rfl (m_dec e11_quarrels 71 rfl) ?_
          refine ms_getf (pc := 126) S lf_X11_222 rfl (m_dec e11_quarrels 72 rfl) g2 ?_
          refine ms_iload_n (pc := 129) S 3 rfl rfl (m_dec e11_quarrels 73 rfl) ?_
          refine ms_iald (pc := 130) S g6 (m_dec e11_quarrels 74 rfl) ?_
          refine ms_aload_n (pc := 131) S 0 rfl rfl (m_dec e11_quarrels 75 rfl) ?_
          refine ms_getf (pc := 132) S lf_X11_225 rfl (m_dec e11_quarrels 76 rfl) g2 ?_
          refine ms_iload_n (pc := 135) S 3 rfl rfl (m_dec e11_quarrels 77 rfl) ?_
          refine ms_grd fun g10 => ?_
          refine ms_iald (pc := 136) S g10 (m_dec e11_quarrels 78 rfl) ?_
          refine ms_iadd (pc := 137) S (m_dec e11_quarrels 79 rfl) ?_
          refine ms_icmp_ge (pc := 138) S (m_dec e11_quarrels 80 rfl) rfl (fun q11 => ?_) (fun q11 => ?_)
          · refine ms_iconst (pc := 141) S (m_dec e11_quarrels 81 rfl) ?_
            exact ms_ret (pc := 142) E (m_dec e11_quarrels 82 rfl) rfl
          · refine ms_iinc (pc := 143) S (L' := [(0, m_r v0), (1, m_i v1), (2, m_i v2), (3, m_i v3), (4, m_i (v4 + 1))]) 4 rfl [1, 2, 3, 4, 0] rfl (m_lt hN rfl) (m_dec e11_quarrels 83 rfl) ?_
            refine ms_goto (pc := 146) S (m_dec e11_quarrels 84 rfl) rfl ?_
            exact ih15 v3 (v4 + 1)
        · refine ms_iinc (pc := 143) S (L' := [(0, m_r v0), (1, m_i v1), (2, m_i v2), (3, m_i v3), (4, m_i (v4 + 1))]) 4 rfl [1, 2, 3, 4, 0] rfl (m_lt hN rfl) (m_dec e11_quarrels 83 rfl) ?_
          refine ms_goto (pc := 146) S (m_dec e11_quarrels 84 rfl) rfl ?_
          exact ih15 v3 (v4 + 1)
      · refine ms_iinc (pc := 143) S (L' := [(0, m_r v0), (1, m_i v1), (2, m_i v2), (3, m_i v3), (4, m_i (v4 + 1))]) 4 rfl [1, 2, 3, 4, 0] rfl (m_lt hN rfl) (m_dec e11_quarrels 83 rfl) ?_
        refine ms_goto (pc := 146) S (m_dec e11_quarrels 84 rfl) rfl ?_
        exact ih15 v3 (v4 + 1)
  · intro q0
    subst q0
    rw [if_neg (by decide), if_neg (by decide), if_neg (by decide), if_neg (by decide), if_pos rfl] at e
    refine ms_use ?_ e
    clear e r
    refine ms_iconst (pc := 70) S (m_dec e11_quarrels 40 rfl) ?_
    refine ms_istore (pc := 71) S (L' := [(0, m_r v0), (1, m_i v1), (2, m_i v2), (3, m_i v3), (4, m_i v4), (5, m_i 0)]) [1, 2, 3, 4, 5, 0] rfl (m_lt hN rfl) (m_dec e11_quarrels 41 rfl) ?_
    refine ms_iload (pc := 73) S 5 rfl (m_dec e11_quarrels 42 rfl) ?_
    refine ms_if_eq (pc := 75) S (m_dec e11_quarrels 43 rfl) rfl (fun q1 => ?_) (fun q1 => ?_)
    · refine ms_iinc (pc := 143) S (L' := [(0, m_r v0), (1, m_i v1), (2, m_i v2), (3, m_i v3), (4, m_i (v4 + 1))]) 4 rfl [1, 2, 3, 4, 0] rfl (m_lt hN rfl) (m_dec e11_quarrels 83 rfl) ?_
      refine ms_goto (pc := 146) S (m_dec e11_quarrels 84 rfl) rfl ?_
      exact ih15 v3 (v4 + 1)
    · refine ms_aload_n (pc := 78) S 0 rfl rfl (m_dec e11_quarrels 44 rfl) ?_
      refine ms_grd fun g2 => ?_
      refine ms_getf (pc := 79) S lf_X11_219 rfl (m_dec e11_quarrels 45 rfl) g2 ?_
      refine ms_iload_n (pc := 82) S 3 rfl rfl (m_dec e11_quarrels 46 rfl) ?_
      refine ms_grd fun g3 => ?_
      refine ms_iald (pc := 83) S g3 (m_dec e11_quarrels 47 rfl) ?_
      refine ms_aload_n (pc := 84) S 0 rfl rfl (m_dec e11_quarrels 48 rfl) ?_
      refine ms_getf (pc := 85) S lf_X11_219 rfl (m_dec e11_quarrels 49 rfl) g2 ?_
      refine ms_iload (pc := 88) S 4 rfl (m_dec e11_quarrels 50 rfl) ?_
      refine ms_grd fun g4 => ?_
      refine ms_iald (pc := 90) S g4 (m_dec e11_quarrels 51 rfl) ?_
      refine ms_icmp_ne (pc := 91) S (m_dec e11_quarrels 52 rfl) rfl (fun q5 => ?_) (fun q5 => ?_)
      · refine ms_aload_n (pc := 94) S 0 rfl rfl (m_dec e11_quarrels 53 rfl) ?_
        refine ms_getf (pc := 95) S lf_X11_222 rfl (m_dec e11_quarrels 54 rfl) g2 ?_
        refine ms_iload_n (pc := 98) S 3 rfl rfl (m_dec e11_quarrels 55 rfl) ?_
        refine ms_grd fun g6 => ?_
        refine ms_iald (pc := 99) S g6 (m_dec e11_quarrels 56 rfl) ?_
        refine ms_aload_n (pc := 100) S 0 rfl rfl (m_dec e11_quarrels 57 rfl) ?_
        refine ms_getf (pc := 101) S lf_X11_222 rfl (m_dec e11_quarrels 58 rfl) g2 ?_
        refine ms_iload (pc := 104) S 4 rfl (m_dec e11_quarrels 59 rfl) ?_
        refine ms_grd fun g7 => ?_
        refine ms_iald (pc := 106) S g7 (m_dec e11_quarrels 60 rfl) ?_
        refine ms_aload_n (pc := 107) S 0 rfl rfl (m_dec e11_quarrels 61 rfl) ?_
        refine ms_getf (pc := 108) S lf_X11_225 rfl (m_dec e11_quarrels 62 rfl) g2 ?_
        refine ms_iload (pc := 111) S 4 rfl (m_dec e11_quarrels 63 rfl) ?_
        refine ms_grd fun g8 => ?_
        refine ms_iald (pc := 113) S g8 (m_dec e11_quarrels 64 rfl) ?_
        refine ms_iadd (pc := 114) S (m_dec e11_quarrels 65 rfl) ?_
        refine ms_icmp_ge (pc := 115) S (m_dec e11_quarrels 66 rfl) rfl (fun q9 => ?_) (fun q9 => ?_)
        · refine ms_aload_n (pc := 118) S 0 rfl rfl (m_dec e11_quarrels 67 rfl) ?_
          refine ms_getf (pc := 119) S lf_X11_222 rfl (m_dec e11_quarrels 68 rfl) g2 ?_
          refine ms_iload (pc := 122) S 4 rfl (m_dec e11_quarrels 69 rfl) ?_
          refine ms_iald (pc := 124) S g7 (m_dec e11_quarrels 70 rfl) ?_
          refine ms_aload_n (pc := 125) S 0 rfl rfl (m_dec e11_quarrels 71 rfl) ?_
          refine ms_getf (pc := 126) S lf_X11_222 rfl (m_dec e11_quarrels 72 rfl) g2 ?_
          refine ms_iload_n (pc := 129) S 3 rfl rfl (m_dec e11_quarrels 73 rfl) ?_
          refine ms_iald (pc := 130) S g6 (m_dec e11_quarrels 74 rfl) ?_
          refine ms_aload_n (pc := 131) S 0 rfl rfl (m_dec e11_quarrels 75 rfl) ?_
          refine ms_getf (pc := 132) S lf_X11_225 rfl (m_dec e11_quarrels 76 rfl) g2 ?_
          refine ms_iload_n (pc := 135) S 3 rfl rfl (m_dec e11_quarrels 77 rfl) ?_
          refine ms_grd fun g10 => ?_
          refine ms_iald (pc := 136) S g10 (m_dec e11_quarrels 78 rfl) ?_
          refine ms_iadd (pc := 137) S (m_dec e11_quarrels 79 rfl) ?_
          refine ms_icmp_ge (pc := 138) S (m_dec e11_quarrels 80 rfl) rfl (fun q11 => ?_) (fun q11 => ?_)
          · refine ms_iconst (pc := 141) S (m_dec e11_quarrels 81 rfl) ?_
            exact ms_ret (pc := 142) E (m_dec e11_quarrels 82 rfl) rfl
          · refine ms_iinc (pc := 143) S (L' := [(0, m_r v0), (1, m_i v1), (2, m_i v2), (3, m_i v3), (4, m_i (v4 + 1))]) 4 rfl [1, 2, 3, 4, 0] rfl (m_lt hN rfl) (m_dec e11_quarrels 83 rfl) ?_
            refine ms_goto (pc := 146) S (m_dec e11_quarrels 84 rfl) rfl ?_
            exact ih15 v3 (v4 + 1)
        · refine ms_iinc (pc := 143) S (L' := [(0, m_r v0), (1, m_i v1), (2, m_i v2), (3, m_i v3), (4, m_i (v4 + 1))]) 4 rfl [1, 2, 3, 4, 0] rfl (m_lt hN rfl) (m_dec e11_quarrels 83 rfl) ?_
          refine ms_goto (pc := 146) S (m_dec e11_quarrels 84 rfl) rfl ?_
          exact ih15 v3 (v4 + 1)
      · refine ms_iinc (pc := 143) S (L' := [(0, m_r v0), (1, m_i v1), (2, m_i v2), (3, m_i v3), (4, m_i (v4 + 1))]) 4 rfl [1, 2, 3, 4, 0] rfl (m_lt hN rfl) (m_dec e11_quarrels 83 rfl) ?_
        refine ms_goto (pc := 146) S (m_dec e11_quarrels 84 rfl) rfl ?_
        exact ih15 v3 (v4 + 1)
set_option maxHeartbeats 4000000 in
set_option maxRecDepth 20000 in
theorem s11_quarrels_c2 {Y : m_Y Bool} (S : m_Std Y RX11 cX11_quarrels) (E : m_End Y cX11_quarrels .ireturn (fun r => [m_i (m_b2i r)])) {F : Nat} (hF : m_Rm Y F) (hFn : 0 ≤ F) (hN : Y.2.2.2.1 = 6) (v0 v1 v2 v3 v4 : Int) (h : m_H) : m_Sim Y 2 [(0, m_r v0), (1, m_i v1), (2, m_i v2), (3, m_i v3)] [] h (t11_quarrels_x2 2 v0 v1 v2 v3 v4 h) := ms_all fun r e => (s11_quarrels_x2 S E hF hFn hN 2 v0 v1 v2 v3 v4 h r e).1 rfl
set_option maxHeartbeats 4000000 in
set_option maxRecDepth 20000 in
theorem s11_quarrels_c15 {Y : m_Y Bool} (S : m_Std Y RX11 cX11_quarrels) (E : m_End Y cX11_quarrels .ireturn (fun r => [m_i (m_b2i r)])) {F : Nat} (hF : m_Rm Y F) (hFn : 0 ≤ F) (hN : Y.2.2.2.1 = 6) (v0 v1 v2 v3 v4 : Int) (h : m_H) : m_Sim Y 15 [(0, m_r v0), (1, m_i v1), (2, m_i v2), (3, m_i v3), (4, m_i v4)] [] h (t11_quarrels_x2 15 v0 v1 v2 v3 v4 h) := ms_all fun r e => (s11_quarrels_x2 S E hF hFn hN 15 v0 v1 v2 v3 v4 h r e).2.1 rfl
set_option maxHeartbeats 4000000 in
set_option maxRecDepth 20000 in
theorem s11_quarrels_c45 {Y : m_Y Bool} (S : m_Std Y RX11 cX11_quarrels) (E : m_End Y cX11_quarrels .ireturn (fun r => [m_i (m_b2i r)])) {F : Nat} (hF : m_Rm Y F) (hFn : 0 ≤ F) (hN : Y.2.2.2.1 = 6) (v0 v1 v2 v3 v4 : Int) (h : m_H) : m_Sim Y 45 [(0, m_r v0), (1, m_i v1), (2, m_i v2), (3, m_i v3), (4, m_i v4)] [] h (t11_quarrels_x2 45 v0 v1 v2 v3 v4 h) := ms_all fun r e => (s11_quarrels_x2 S E hF hFn hN 45 v0 v1 v2 v3 v4 h r e).2.2.1 rfl
set_option maxHeartbeats 4000000 in
set_option maxRecDepth 20000 in
theorem s11_quarrels_c66 {Y : m_Y Bool} (S : m_Std Y RX11 cX11_quarrels) (E : m_End Y cX11_quarrels .ireturn (fun r => [m_i (m_b2i r)])) {F : Nat} (hF : m_Rm Y F) (hFn : 0 ≤ F) (hN : Y.2.2.2.1 = 6) (v0 v1 v2 v3 v4 : Int) (h : m_H) : m_Sim Y 66 [(0, m_r v0), (1, m_i v1), (2, m_i v2), (3, m_i v3), (4, m_i v4)] [] h (t11_quarrels_x2 66 v0 v1 v2 v3 v4 h) := ms_all fun r e => (s11_quarrels_x2 S E hF hFn hN 66 v0 v1 v2 v3 v4 h r e).2.2.2.1 rfl
set_option maxHeartbeats 4000000 in
set_option maxRecDepth 20000 in
theorem s11_quarrels_c70 {Y : m_Y Bool} (S : m_Std Y RX11 cX11_quarrels) (E : m_End Y cX11_quarrels .ireturn (fun r => [m_i (m_b2i r)])) {F : Nat} (hF : m_Rm Y F) (hFn : 0 ≤ F) (hN : Y.2.2.2.1 = 6) (v0 v1 v2 v3 v4 : Int) (h : m_H) : m_Sim Y 70 [(0, m_r v0), (1, m_i v1), (2, m_i v2), (3, m_i v3), (4, m_i v4)] [] h (t11_quarrels_x2 70 v0 v1 v2 v3 v4 h) := ms_all fun r e => (s11_quarrels_x2 S E hF hFn hN 70 v0 v1 v2 v3 v4 h r e).2.2.2.2 rfl
set_option maxHeartbeats 4000000 in
set_option maxRecDepth 20000 in
theorem s11_quarrels {Y : m_Y Bool} (S : m_Std Y RX11 cX11_quarrels) (E : m_End Y cX11_quarrels .ireturn (fun r => [m_i (m_b2i r)])) {F : Nat} (hF : m_Rm Y F) (hFn : 0 ≤ F) (hN : Y.2.2.2.1 = 6) (v0 v1 v2 : Int) (h : m_H) : m_Sim Y 0 [(0, m_r v0), (1, m_i v1), (2, m_i v2)] [] h (t11_quarrels v0 v1 v2 h) := by
  unfold t11_quarrels
  refine ms_iconst (pc := 0) S (m_dec e11_quarrels 0 rfl) ?_
  refine ms_istore_n (pc := 1) S (L' := [(0, m_r v0), (1, m_i v1), (2, m_i v2), (3, m_i 0)]) [1, 2, 3, 0] rfl rfl (m_lt hN rfl) (m_dec e11_quarrels 1 rfl) ?_
  exact s11_quarrels_c2 S E hF hFn hN v0 v1 v2 0 0 h
theorem k11_quarrels (l : Launch) (d : m_D) (v0 v1 v2 : Int) (h : m_H) : m_Con l d yX11_quarrels cX11_quarrels 6 (some .boolean) 0 (fun r => [m_i (m_b2i r)]) [m_r v0, m_i v1, m_i v2] h (t11_quarrels v0 v1 v2 h) :=
  m_con2 (by decide +kernel) (Nat.le_of_ble_eq_true rfl) (fun Y hN hRm hr hI S hfin => s11_quarrels S (m_end_z S hr hfin) hRm (Nat.le_refl _) hN v0 v1 v2 h)
set_option maxRecDepth 100000 in
theorem e11_quarrel : ∀ q ∈ ([(0, .aload_n 0, 1), (1, .getfield 203, 3), (4, .iconst (-1), 1), (5, .if_icmp .ne 5, 3), (8, .iconst (-1), 1), (9, .ireturn, 1), (10, .iconst 0, 1), (11, .istore_n 2, 1), (12, .iconst 0, 1), (13, .istore_n 3, 1), (14, .iload_n 3, 1), (15, .aload_n 0, 1), (16, .getfield 84, 3), (19, .aload_n 0, 1), (20, .getfield 203, 3), (23, .iaload, 1), (24, .if_icmp .ge 94, 3), (27, .iload_n 3, 1), (28, .istore 4, 2), (30, .iload 4, 2), (32, .aload_n 0, 1), (33, .getfield 84, 3), (36, .aload_n 0, 1), (37, .getfield 203, 3), (40, .iaload, 1), (41, .if_icmp .ge 71, 3), (44, .aload_n 0, 1), (45, .getfield 89, 3), (48, .aload_n 0, 1), (49, .getfield 203, 3), (52, .aaload, 1), (53, .iload_n 3, 1), (54, .iaload, 1), (55, .bipush 12, 2), (57, .if_icmp .ne 49, 3), (60, .aload_n 0, 1), (61, .getfield 89, 3), (64, .aload_n 0, 1), (65, .getfield 203, 3), (68, .aaload, 1), (69, .iload 4, 2), (71, .iaload, 1), (72, .bipush 12, 2), (74, .if_icmp .ne 32, 3), (77, .aload_n 0, 1), (78, .iload_n 3, 1), (79, .iload 4, 2), (81, .invokevirtual 541, 3), (84, .ifCond .ne 6, 3), (87, .goto 19, 3), (90, .iload_n 2, 1), (91, .iload_n 1, 1), (92, .if_icmp .ne 11, 3), (95, .bipush 100, 2), (97, .iload_n 3, 1), (98, .imul, 1), (99, .iload 4, 2), (101, .iadd, 1), (102, .ireturn, 1), (103, .iinc 2 1, 3), (106, .iinc 4 1, 3), (109, .goto (-79), 3), (112, .iinc 3 1, 3), (115, .goto (-101), 3), (118, .iconst (-1), 1), (119, .ireturn, 1)] : List (Nat × Instr × Nat)), decode cX11_quarrel q.1 = .ok q.2 := by decide +kernel
set_option maxHeartbeats 4000000 in
set_option maxRecDepth 20000 in
theorem s11_quarrel_x14 {Y : m_Y Int} (S : m_Std Y RX11 cX11_quarrel) (E : m_End Y cX11_quarrel .ireturn (fun r => [m_i r])) {F : Nat} (hF : m_Rm Y F) (hFn : 1 ≤ F) (hN : Y.2.2.2.1 = 5) : ∀ (cc : Int) (v0 v1 v2 v3 v4 : Int) (h : m_H) (r : Int × m_H), t11_quarrel_x14 cc v0 v1 v2 v3 v4 h = some r → (cc = 14 → m_Sim Y 14 [(0, m_r v0), (1, m_i v1), (2, m_i v2), (3, m_i v3)] [] h (some r)) ∧ (cc = 30 → m_Sim Y 30 [(0, m_r v0), (1, m_i v1), (2, m_i v2), (3, m_i v3), (4, m_i v4)] [] h (some r)) := by
  intro cc v0 v1 v2 v3 v4 h r e
  refine t11_quarrel_x14.partial_correctness v0 v1 (motive := fun cc v2 v3 v4 h r => (cc = 14 → m_Sim Y 14 [(0, m_r v0), (1, m_i v1), (2, m_i v2), (3, m_i v3)] [] h (some r)) ∧ (cc = 30 → m_Sim Y 30 [(0, m_r v0), (1, m_i v1), (2, m_i v2), (3, m_i v3), (4, m_i v4)] [] h (some r))) ?_ cc v2 v3 v4 h r e
  intro f ih cc v2 v3 v4 h r e
  have ih14 : ∀ (v2 v3 v4 : Int) (h : m_H), m_Sim Y 14 [(0, m_r v0), (1, m_i v1), (2, m_i v2), (3, m_i v3)] [] h (f 14 v2 v3 v4 h ) := fun v2 v3 v4 h  => ms_all fun r e => (ih 14 v2 v3 v4 h r e).1 rfl
  have ih30 : ∀ (v2 v3 v4 : Int) (h : m_H), m_Sim Y 30 [(0, m_r v0), (1, m_i v1), (2, m_i v2), (3, m_i v3), (4, m_i v4)] [] h (f 30 v2 v3 v4 h ) := fun v2 v3 v4 h  => ms_all fun r e => (ih 30 v2 v3 v4 h r e).2 rfl
  refine ⟨?_, ?_⟩
  · intro q0
    subst q0
    rw [if_pos rfl] at e
    refine ms_use ?_ e
    clear e r
    refine ms_iload_n (pc := 14) S 3 rfl rfl (m_dec e11_quarrel 10 rfl) ?_
    refine ms_aload_n (pc := 15) S 0 rfl rfl (m_dec e11_quarrel 11 rfl) ?_
    refine ms_grd fun g1 => ?_
    refine ms_getf (pc := 16) S lf_X11_84 rfl (m_dec e11_quarrel 12 rfl) g1 ?_
    refine ms_aload_n (pc := 19) S 0 rfl rfl (m_dec e11_quarrel 13 rfl) ?_
    refine ms_getf (pc := 20) S lf_X11_203 rfl (m_dec e11_quarrel 14 rfl) g1 ?_
    refine ms_grd fun g2 => ?_
    refine ms_iald (pc := 23) S g2 (m_dec e11_quarrel 15 rfl) ?_
    refine ms_icmp_ge (pc := 24) S (m_dec e11_quarrel 16 rfl) rfl (fun q3 => ?_) (fun q3 => ?_)
    · refine ms_iload_n (pc := 27) S 3 rfl rfl (m_dec e11_quarrel 17 rfl) ?_
      refine ms_istore (pc := 28) S (L' := [(0, m_r v0), (1, m_i v1), (2, m_i v2), (3, m_i v3), (4, m_i v3)]) [1, 2, 3, 4, 0] rfl (m_lt hN rfl) (m_dec e11_quarrel 18 rfl) ?_
      exact ih30 v2 v3 v3 h
    · refine ms_iconst (pc := 118) S (m_dec e11_quarrel 64 rfl) ?_
      exact ms_ret (pc := 119) E (m_dec e11_quarrel 65 rfl) rfl
  · intro q0
    subst q0
    rw [if_neg (by decide), if_pos rfl] at e
    refine ms_use ?_ e
    clear e r
    refine ms_iload (pc := 30) S 4 rfl (m_dec e11_quarrel 19 rfl) ?_
    refine ms_aload_n (pc := 32) S 0 rfl rfl (m_dec e11_quarrel 20 rfl) ?_
    refine ms_grd fun g1 => ?_
    refine ms_getf (pc := 33) S lf_X11_84 rfl (m_dec e11_quarrel 21 rfl) g1 ?_
    refine ms_aload_n (pc := 36) S 0 rfl rfl (m_dec e11_quarrel 22 rfl) ?_
    refine ms_getf (pc := 37) S lf_X11_203 rfl (m_dec e11_quarrel 23 rfl) g1 ?_
    refine ms_grd fun g2 => ?_
    refine ms_iald (pc := 40) S g2 (m_dec e11_quarrel 24 rfl) ?_
    refine ms_icmp_ge (pc := 41) S (m_dec e11_quarrel 25 rfl) rfl (fun q3 => ?_) (fun q3 => ?_)
    · refine ms_aload_n (pc := 44) S 0 rfl rfl (m_dec e11_quarrel 26 rfl) ?_
      refine ms_getf (pc := 45) S lf_X11_89 rfl (m_dec e11_quarrel 27 rfl) g1 ?_
      refine ms_aload_n (pc := 48) S 0 rfl rfl (m_dec e11_quarrel 28 rfl) ?_
      refine ms_getf (pc := 49) S lf_X11_203 rfl (m_dec e11_quarrel 29 rfl) g1 ?_
      refine ms_grd fun g4 => ?_
      refine ms_aald (pc := 52) S 29 (by decide) (fun _ => rfl) rfl g4 (m_dec e11_quarrel 30 rfl) ?_
      refine ms_iload_n (pc := 53) S 3 rfl rfl (m_dec e11_quarrel 31 rfl) ?_
      refine ms_grd fun g5 => ?_
      refine ms_iald (pc := 54) S g5 (m_dec e11_quarrel 32 rfl) ?_
      refine ms_bipush (pc := 55) S (m_dec e11_quarrel 33 rfl) rfl ?_
      refine ms_icmp_ne (pc := 57) S (m_dec e11_quarrel 34 rfl) rfl (fun q6 => ?_) (fun q6 => ?_)
      · refine ms_aload_n (pc := 60) S 0 rfl rfl (m_dec e11_quarrel 35 rfl) ?_
        refine ms_getf (pc := 61) S lf_X11_89 rfl (m_dec e11_quarrel 36 rfl) g1 ?_
        refine ms_aload_n (pc := 64) S 0 rfl rfl (m_dec e11_quarrel 37 rfl) ?_
        refine ms_getf (pc := 65) S lf_X11_203 rfl (m_dec e11_quarrel 38 rfl) g1 ?_
        refine ms_aald (pc := 68) S 29 (by decide) (fun _ => rfl) rfl g4 (m_dec e11_quarrel 39 rfl) ?_
        refine ms_iload (pc := 69) S 4 rfl (m_dec e11_quarrel 40 rfl) ?_
        refine ms_grd fun g7 => ?_
        refine ms_iald (pc := 71) S g7 (m_dec e11_quarrel 41 rfl) ?_
        refine ms_bipush (pc := 72) S (m_dec e11_quarrel 42 rfl) rfl ?_
        refine ms_icmp_ne (pc := 74) S (m_dec e11_quarrel 43 rfl) rfl (fun q8 => ?_) (fun q8 => ?_)
        · refine ms_aload_n (pc := 77) S 0 rfl rfl (m_dec e11_quarrel 44 rfl) ?_
          refine ms_iload_n (pc := 78) S 3 rfl rfl (m_dec e11_quarrel 45 rfl) ?_
          refine ms_iload (pc := 79) S 4 rfl (m_dec e11_quarrel 46 rfl) ?_
          refine ms_callVz (pc := 81) S hF (vals := [m_i v3, m_i v4]) (st := []) (hc := vw_11) (hci := by decide) (hcy := rfl) (ht := g1) (hC := (k11_quarrels _ _ v0 v3 v4 h)) (hM := lm_X11_541) (hfr := (Nat.le_trans (by decide) hFn)) (hstk := rfl) (hcat := Nat.le_of_ble_eq_true rfl) (hd := (m_dec e11_quarrel 47 rfl)) (k1 := fun r10 h9 => ?_)
          refine ms_ifb_ne (pc := 84) S (m_dec e11_quarrel 48 rfl) rfl (fun q11 => ?_) (fun q11 => ?_)
          · refine ms_iload_n (pc := 90) S 2 rfl rfl (m_dec e11_quarrel 50 rfl) ?_
            refine ms_iload_n (pc := 91) S 1 rfl rfl (m_dec e11_quarrel 51 rfl) ?_
            refine ms_icmp_ne (pc := 92) S (m_dec e11_quarrel 52 rfl) rfl (fun q12 => ?_) (fun q12 => ?_)
            · refine ms_bipush (pc := 95) S (m_dec e11_quarrel 53 rfl) rfl ?_
              refine ms_iload_n (pc := 97) S 3 rfl rfl (m_dec e11_quarrel 54 rfl) ?_
              refine ms_imul (pc := 98) S (m_dec e11_quarrel 55 rfl) ?_
              refine ms_iload (pc := 99) S 4 rfl (m_dec e11_quarrel 56 rfl) ?_
              refine ms_iadd (pc := 101) S (m_dec e11_quarrel 57 rfl) ?_
              exact ms_ret (pc := 102) E (m_dec e11_quarrel 58 rfl) rfl
            · refine ms_iinc (pc := 103) S (L' := [(0, m_r v0), (1, m_i v1), (2, m_i (v2 + 1)), (3, m_i v3), (4, m_i v4)]) 2 rfl [1, 2, 0, 3, 4] rfl (m_lt hN rfl) (m_dec e11_quarrel 59 rfl) ?_
              refine ms_iinc (pc := 106) S (L' := [(0, m_r v0), (1, m_i v1), (2, m_i (v2 + 1)), (3, m_i v3), (4, m_i (v4 + 1))]) 4 rfl [1, 2, 3, 4, 0] rfl (m_lt hN rfl) (m_dec e11_quarrel 60 rfl) ?_
              refine ms_goto (pc := 109) S (m_dec e11_quarrel 61 rfl) rfl ?_
              exact ih30 (v2 + 1) v3 (v4 + 1) h9
          · refine ms_goto (pc := 87) S (m_dec e11_quarrel 49 rfl) rfl ?_
            refine ms_iinc (pc := 106) S (L' := [(0, m_r v0), (1, m_i v1), (2, m_i v2), (3, m_i v3), (4, m_i (v4 + 1))]) 4 rfl [1, 2, 3, 4, 0] rfl (m_lt hN rfl) (m_dec e11_quarrel 60 rfl) ?_
            refine ms_goto (pc := 109) S (m_dec e11_quarrel 61 rfl) rfl ?_
            exact ih30 v2 v3 (v4 + 1) h9
        · refine ms_iinc (pc := 106) S (L' := [(0, m_r v0), (1, m_i v1), (2, m_i v2), (3, m_i v3), (4, m_i (v4 + 1))]) 4 rfl [1, 2, 3, 4, 0] rfl (m_lt hN rfl) (m_dec e11_quarrel 60 rfl) ?_
          refine ms_goto (pc := 109) S (m_dec e11_quarrel 61 rfl) rfl ?_
          exact ih30 v2 v3 (v4 + 1) h
      · refine ms_iinc (pc := 106) S (L' := [(0, m_r v0), (1, m_i v1), (2, m_i v2), (3, m_i v3), (4, m_i (v4 + 1))]) 4 rfl [1, 2, 3, 4, 0] rfl (m_lt hN rfl) (m_dec e11_quarrel 60 rfl) ?_
        refine ms_goto (pc := 109) S (m_dec e11_quarrel 61 rfl) rfl ?_
        exact ih30 v2 v3 (v4 + 1) h
    · refine ms_iinc (pc := 112) S (L' := [(0, m_r v0), (1, m_i v1), (2, m_i v2), (3, m_i (v3 + 1))]) 3 rfl [1, 2, 3, 0] rfl (m_lt hN rfl) (m_dec e11_quarrel 62 rfl) ?_
      refine ms_goto (pc := 115) S (m_dec e11_quarrel 63 rfl) rfl ?_
      exact ih14 v2 (v3 + 1) 0 h
set_option maxHeartbeats 4000000 in
set_option maxRecDepth 20000 in
theorem s11_quarrel_c14 {Y : m_Y Int} (S : m_Std Y RX11 cX11_quarrel) (E : m_End Y cX11_quarrel .ireturn (fun r => [m_i r])) {F : Nat} (hF : m_Rm Y F) (hFn : 1 ≤ F) (hN : Y.2.2.2.1 = 5) (v0 v1 v2 v3 v4 : Int) (h : m_H) : m_Sim Y 14 [(0, m_r v0), (1, m_i v1), (2, m_i v2), (3, m_i v3)] [] h (t11_quarrel_x14 14 v0 v1 v2 v3 v4 h) := ms_all fun r e => (s11_quarrel_x14 S E hF hFn hN 14 v0 v1 v2 v3 v4 h r e).1 rfl
set_option maxHeartbeats 4000000 in
set_option maxRecDepth 20000 in
theorem s11_quarrel_c30 {Y : m_Y Int} (S : m_Std Y RX11 cX11_quarrel) (E : m_End Y cX11_quarrel .ireturn (fun r => [m_i r])) {F : Nat} (hF : m_Rm Y F) (hFn : 1 ≤ F) (hN : Y.2.2.2.1 = 5) (v0 v1 v2 v3 v4 : Int) (h : m_H) : m_Sim Y 30 [(0, m_r v0), (1, m_i v1), (2, m_i v2), (3, m_i v3), (4, m_i v4)] [] h (t11_quarrel_x14 30 v0 v1 v2 v3 v4 h) := ms_all fun r e => (s11_quarrel_x14 S E hF hFn hN 30 v0 v1 v2 v3 v4 h r e).2 rfl
set_option maxHeartbeats 4000000 in
set_option maxRecDepth 20000 in
theorem s11_quarrel {Y : m_Y Int} (S : m_Std Y RX11 cX11_quarrel) (E : m_End Y cX11_quarrel .ireturn (fun r => [m_i r])) {F : Nat} (hF : m_Rm Y F) (hFn : 1 ≤ F) (hN : Y.2.2.2.1 = 5) (v0 v1 : Int) (h : m_H) : m_Sim Y 0 [(0, m_r v0), (1, m_i v1)] [] h (t11_quarrel v0 v1 h) := by
  unfold t11_quarrel
  refine ms_aload_n (pc := 0) S 0 rfl rfl (m_dec e11_quarrel 0 rfl) ?_
  refine ms_grd fun g1 => ?_
  refine ms_getf (pc := 1) S lf_X11_203 rfl (m_dec e11_quarrel 1 rfl) g1 ?_
  refine ms_iconst (pc := 4) S (m_dec e11_quarrel 2 rfl) ?_
  refine ms_icmp_ne (pc := 5) S (m_dec e11_quarrel 3 rfl) rfl (fun q2 => ?_) (fun q2 => ?_)
  · refine ms_iconst (pc := 8) S (m_dec e11_quarrel 4 rfl) ?_
    exact ms_ret (pc := 9) E (m_dec e11_quarrel 5 rfl) rfl
  · refine ms_iconst (pc := 10) S (m_dec e11_quarrel 6 rfl) ?_
    refine ms_istore_n (pc := 11) S (L' := [(0, m_r v0), (1, m_i v1), (2, m_i 0)]) [1, 2, 0] rfl rfl (m_lt hN rfl) (m_dec e11_quarrel 7 rfl) ?_
    refine ms_iconst (pc := 12) S (m_dec e11_quarrel 8 rfl) ?_
    refine ms_istore_n (pc := 13) S (L' := [(0, m_r v0), (1, m_i v1), (2, m_i 0), (3, m_i 0)]) [1, 2, 3, 0] rfl rfl (m_lt hN rfl) (m_dec e11_quarrel 9 rfl) ?_
    exact s11_quarrel_c14 S E hF hFn hN v0 v1 0 0 0 h
theorem k11_quarrel (l : Launch) (d : m_D) (v0 v1 : Int) (h : m_H) : m_Con l d yX11_quarrel cX11_quarrel 5 (some .int) 1 (fun r => [m_i r]) [m_r v0, m_i v1] h (t11_quarrel v0 v1 h) :=
  m_con2 (by decide +kernel) (Nat.le_of_ble_eq_true rfl) (fun Y hN hRm hr hI S hfin => s11_quarrel S (m_end_i S hr hfin) hRm (Nat.le_refl _) hN v0 v1 h)
set_option maxRecDepth 100000 in
theorem e11_open : ∀ q ∈ ([(0, .aload_n 0, 1), (1, .iload_n 1, 1), (2, .invokevirtual 511, 3), (5, .ifCond .eq 12, 3), (8, .aload_n 0, 1), (9, .getfield 228, 3), (12, .iload_n 1, 1), (13, .baload, 1), (14, .ifCond .ne 5, 3), (17, .iconst (-1), 1), (18, .ireturn, 1), (19, .aload_n 0, 1), (20, .iload_n 1, 1), (21, .aload_n 0, 1), (22, .getfield 285, 3), (25, .invokevirtual 517, 3), (28, .iconst (-1), 1), (29, .if_icmp .eq 5, 3), (32, .iconst 1, 1), (33, .ireturn, 1), (34, .iconst 0, 1), (35, .istore_n 2, 1), (36, .iload_n 2, 1), (37, .aload_n 0, 1), (38, .getfield 84, 3), (41, .iload_n 1, 1), (42, .iaload, 1), (43, .if_icmp .ge 40, 3), (46, .aload_n 0, 1), (47, .getfield 89, 3), (50, .iload_n 1, 1), (51, .aaload, 1), (52, .iload_n 2, 1), (53, .iaload, 1), (54, .iconst 1, 1), (55, .if_icmp .ne 22, 3), (58, .aload_n 0, 1), (59, .getfield 184, 3), (62, .iload_n 2, 1), (63, .iaload, 1), (64, .aload_n 0, 1), (65, .getfield 232, 3), (68, .iload_n 1, 1), (69, .aaload, 1), (70, .iload_n 2, 1), (71, .iaload, 1), (72, .if_icmp .eq 5, 3), (75, .iconst 1, 1), (76, .ireturn, 1), (77, .iinc 2 1, 3), (80, .goto (-44), 3), (83, .iconst 0, 1), (84, .ireturn, 1)] : List (Nat × Instr × Nat)), decode cX11_open q.1 = .ok q.2 := by decide +kernel
set_option maxHeartbeats 4000000 in
set_option maxRecDepth 20000 in
theorem s11_open_c36 {Y : m_Y Int} (S : m_Std Y RX11 cX11_open) (E : m_End Y cX11_open .ireturn (fun r => [m_i r])) {F : Nat} (hF : m_Rm Y F) (hFn : 7 ≤ F) (hN : Y.2.2.2.1 = 3) : ∀ (v0 v1 v2 : Int) (h : m_H), m_Sim Y 36 [(0, m_r v0), (1, m_i v1), (2, m_i v2)] [] h (t11_open_c36 v0 v1 v2 h) := by
  intro v0 v1 v2 h
  refine ms_all fun r e => ?_
  refine t11_open_c36.partial_correctness v0 v1 h (motive := fun v2 r => m_Sim Y 36 [(0, m_r v0), (1, m_i v1), (2, m_i v2)] [] h (some r)) ?_ v2 r e
  intro f ih v2 r e
  have ih : ∀ (v2 : Int) , m_Sim Y 36 [(0, m_r v0), (1, m_i v1), (2, m_i v2)] [] h (f v2 ) := fun v2  => ms_all fun r e => ih v2 r e
  refine ms_use ?_ e
  clear e r
  refine ms_iload_n (pc := 36) S 2 rfl rfl (m_dec e11_open 22 rfl) ?_
  refine ms_aload_n (pc := 37) S 0 rfl rfl (m_dec e11_open 23 rfl) ?_
  refine ms_grd fun g1 => ?_
  refine ms_getf (pc := 38) S lf_X11_84 rfl (m_dec e11_open 24 rfl) g1 ?_
  refine ms_iload_n (pc := 41) S 1 rfl rfl (m_dec e11_open 25 rfl) ?_
  refine ms_grd fun g2 => ?_
  refine ms_iald (pc := 42) S g2 (m_dec e11_open 26 rfl) ?_
  refine ms_icmp_ge (pc := 43) S (m_dec e11_open 27 rfl) rfl (fun q3 => ?_) (fun q3 => ?_)
  · refine ms_aload_n (pc := 46) S 0 rfl rfl (m_dec e11_open 28 rfl) ?_
    refine ms_getf (pc := 47) S lf_X11_89 rfl (m_dec e11_open 29 rfl) g1 ?_
    refine ms_iload_n (pc := 50) S 1 rfl rfl (m_dec e11_open 30 rfl) ?_
    refine ms_grd fun g4 => ?_
    refine ms_aald (pc := 51) S 29 (by decide) (fun _ => rfl) rfl g4 (m_dec e11_open 31 rfl) ?_
    refine ms_iload_n (pc := 52) S 2 rfl rfl (m_dec e11_open 32 rfl) ?_
    refine ms_grd fun g5 => ?_
    refine ms_iald (pc := 53) S g5 (m_dec e11_open 33 rfl) ?_
    refine ms_iconst (pc := 54) S (m_dec e11_open 34 rfl) ?_
    refine ms_icmp_ne (pc := 55) S (m_dec e11_open 35 rfl) rfl (fun q6 => ?_) (fun q6 => ?_)
    · refine ms_aload_n (pc := 58) S 0 rfl rfl (m_dec e11_open 36 rfl) ?_
      refine ms_getf (pc := 59) S lf_X11_184 rfl (m_dec e11_open 37 rfl) g1 ?_
      refine ms_iload_n (pc := 62) S 2 rfl rfl (m_dec e11_open 38 rfl) ?_
      refine ms_grd fun g7 => ?_
      refine ms_iald (pc := 63) S g7 (m_dec e11_open 39 rfl) ?_
      refine ms_aload_n (pc := 64) S 0 rfl rfl (m_dec e11_open 40 rfl) ?_
      refine ms_getf (pc := 65) S lf_X11_232 rfl (m_dec e11_open 41 rfl) g1 ?_
      refine ms_iload_n (pc := 68) S 1 rfl rfl (m_dec e11_open 42 rfl) ?_
      refine ms_grd fun g8 => ?_
      refine ms_aald (pc := 69) S 29 (by decide) (fun _ => rfl) rfl g8 (m_dec e11_open 43 rfl) ?_
      refine ms_iload_n (pc := 70) S 2 rfl rfl (m_dec e11_open 44 rfl) ?_
      refine ms_grd fun g9 => ?_
      refine ms_iald (pc := 71) S g9 (m_dec e11_open 45 rfl) ?_
      refine ms_icmp_eq (pc := 72) S (m_dec e11_open 46 rfl) rfl (fun q10 => ?_) (fun q10 => ?_)
      · refine ms_iinc (pc := 77) S (L' := [(0, m_r v0), (1, m_i v1), (2, m_i (v2 + 1))]) 2 rfl [1, 2, 0] rfl (m_lt hN rfl) (m_dec e11_open 49 rfl) ?_
        refine ms_goto (pc := 80) S (m_dec e11_open 50 rfl) rfl ?_
        exact ih (v2 + 1)
      · refine ms_iconst (pc := 75) S (m_dec e11_open 47 rfl) ?_
        exact ms_ret (pc := 76) E (m_dec e11_open 48 rfl) rfl
    · refine ms_iinc (pc := 77) S (L' := [(0, m_r v0), (1, m_i v1), (2, m_i (v2 + 1))]) 2 rfl [1, 2, 0] rfl (m_lt hN rfl) (m_dec e11_open 49 rfl) ?_
      refine ms_goto (pc := 80) S (m_dec e11_open 50 rfl) rfl ?_
      exact ih (v2 + 1)
  · refine ms_iconst (pc := 83) S (m_dec e11_open 51 rfl) ?_
    exact ms_ret (pc := 84) E (m_dec e11_open 52 rfl) rfl
set_option maxHeartbeats 4000000 in
set_option maxRecDepth 20000 in
theorem s11_open {Y : m_Y Int} (S : m_Std Y RX11 cX11_open) (E : m_End Y cX11_open .ireturn (fun r => [m_i r])) {F : Nat} (hF : m_Rm Y F) (hFn : 7 ≤ F) (hN : Y.2.2.2.1 = 3) (v0 v1 : Int) (h : m_H) : m_Sim Y 0 [(0, m_r v0), (1, m_i v1)] [] h (t11_open v0 v1 h) := by
  unfold t11_open
  refine ms_aload_n (pc := 0) S 0 rfl rfl (m_dec e11_open 0 rfl) ?_
  refine ms_iload_n (pc := 1) S 1 rfl rfl (m_dec e11_open 1 rfl) ?_
  refine ms_grd fun g1 => ?_
  refine ms_callVz (pc := 2) S hF (vals := [m_i v1]) (st := []) (hc := vw_11) (hci := by decide) (hcy := rfl) (ht := g1) (hC := (k11_isScore _ _ v0 v1 h)) (hM := lm_X11_511) (hfr := (Nat.le_trans (by decide) hFn)) (hstk := rfl) (hcat := Nat.le_of_ble_eq_true rfl) (hd := (m_dec e11_open 2 rfl)) (k1 := fun r3 h2 => ?_)
  refine ms_ifb_eq (pc := 5) S (m_dec e11_open 3 rfl) rfl (fun q4 => ?_) (fun q4 => ?_)
  · refine ms_aload_n (pc := 8) S 0 rfl rfl (m_dec e11_open 4 rfl) ?_
    refine ms_grd fun g5 => ?_
    refine ms_getf (pc := 9) S lf_X11_228 rfl (m_dec e11_open 5 rfl) g5 ?_
    refine ms_iload_n (pc := 12) S 1 rfl rfl (m_dec e11_open 6 rfl) ?_
    refine ms_grd fun g6 => ?_
    refine ms_zald (pc := 13) S g6 (m_dec e11_open 7 rfl) ?_
    refine ms_if_ne (pc := 14) S (m_dec e11_open 8 rfl) rfl (fun q7 => ?_) (fun q7 => ?_)
    · refine ms_iconst (pc := 17) S (m_dec e11_open 9 rfl) ?_
      exact ms_ret (pc := 18) E (m_dec e11_open 10 rfl) rfl
    · refine ms_aload_n (pc := 19) S 0 rfl rfl (m_dec e11_open 11 rfl) ?_
      refine ms_iload_n (pc := 20) S 1 rfl rfl (m_dec e11_open 12 rfl) ?_
      refine ms_aload_n (pc := 21) S 0 rfl rfl (m_dec e11_open 13 rfl) ?_
      refine ms_getf (pc := 22) S lf_X11_285 rfl (m_dec e11_open 14 rfl) g5 ?_
      refine ms_callVi (pc := 25) S hF (vals := [m_i v1, m_i (m_g h2 v0 18)]) (st := []) (hc := vw_11) (hci := by decide) (hcy := rfl) (ht := g5) (hC := (k11_makes_ _ _ v0 v1 (m_g h2 v0 18) h2)) (hM := lm_X11_517) (hfr := (Nat.le_trans (by decide) hFn)) (hstk := rfl) (hcat := Nat.le_of_ble_eq_true rfl) (hd := (m_dec e11_open 15 rfl)) (k1 := fun r9 h8 => ?_)
      refine ms_iconst (pc := 28) S (m_dec e11_open 16 rfl) ?_
      refine ms_icmp_eq (pc := 29) S (m_dec e11_open 17 rfl) rfl (fun q10 => ?_) (fun q10 => ?_)
      · refine ms_iconst (pc := 34) S (m_dec e11_open 20 rfl) ?_
        refine ms_istore_n (pc := 35) S (L' := [(0, m_r v0), (1, m_i v1), (2, m_i 0)]) [1, 2, 0] rfl rfl (m_lt hN rfl) (m_dec e11_open 21 rfl) ?_
        exact s11_open_c36 S E hF hFn hN v0 v1 0 h8
      · refine ms_iconst (pc := 32) S (m_dec e11_open 18 rfl) ?_
        exact ms_ret (pc := 33) E (m_dec e11_open 19 rfl) rfl
  · refine ms_iconst (pc := 17) S (m_dec e11_open 9 rfl) ?_
    exact ms_ret (pc := 18) E (m_dec e11_open 10 rfl) rfl
theorem k11_open (l : Launch) (d : m_D) (v0 v1 : Int) (h : m_H) : m_Con l d yX11_open cX11_open 3 (some .int) 7 (fun r => [m_i r]) [m_r v0, m_i v1] h (t11_open v0 v1 h) :=
  m_con2 (by decide +kernel) (Nat.le_of_ble_eq_true rfl) (fun Y hN hRm hr hI S hfin => s11_open S (m_end_i S hr hfin) hRm (Nat.le_refl _) hN v0 v1 h)
set_option maxRecDepth 100000 in
theorem e11_stepOf : ∀ q ∈ ([(0, .iconst 0, 1), (1, .istore_n 2, 1), (2, .iload_n 2, 1), (3, .aload_n 0, 1), (4, .getfield 544, 3), (7, .if_icmp .ge 21, 3), (10, .aload_n 0, 1), (11, .getfield 238, 3), (14, .iload_n 2, 1), (15, .iaload, 1), (16, .iload_n 1, 1), (17, .if_icmp .ne 5, 3), (20, .iload_n 2, 1), (21, .ireturn, 1), (22, .iinc 2 1, 3), (25, .goto (-23), 3), (28, .iconst (-1), 1), (29, .ireturn, 1)] : List (Nat × Instr × Nat)), decode cX11_stepOf q.1 = .ok q.2 := by decide +kernel
set_option maxHeartbeats 4000000 in
set_option maxRecDepth 20000 in
theorem s11_stepOf_c2 {Y : m_Y Int} (S : m_Std Y RX11 cX11_stepOf) (E : m_End Y cX11_stepOf .ireturn (fun r => [m_i r])) {F : Nat} (hF : m_Rm Y F) (hFn : 0 ≤ F) (hN : Y.2.2.2.1 = 3) : ∀ (v0 v1 v2 : Int) (h : m_H), m_Sim Y 2 [(0, m_r v0), (1, m_i v1), (2, m_i v2)] [] h (t11_stepOf_c2 v0 v1 v2 h) := by
  intro v0 v1 v2 h
  refine ms_all fun r e => ?_
  refine t11_stepOf_c2.partial_correctness v0 v1 h (motive := fun v2 r => m_Sim Y 2 [(0, m_r v0), (1, m_i v1), (2, m_i v2)] [] h (some r)) ?_ v2 r e
  intro f ih v2 r e
  have ih : ∀ (v2 : Int) , m_Sim Y 2 [(0, m_r v0), (1, m_i v1), (2, m_i v2)] [] h (f v2 ) := fun v2  => ms_all fun r e => ih v2 r e
  refine ms_use ?_ e
  clear e r
  refine ms_iload_n (pc := 2) S 2 rfl rfl (m_dec e11_stepOf 2 rfl) ?_
  refine ms_aload_n (pc := 3) S 0 rfl rfl (m_dec e11_stepOf 3 rfl) ?_
  refine ms_grd fun g1 => ?_
  refine ms_getf (pc := 4) S lf_X11_544 rfl (m_dec e11_stepOf 4 rfl) g1 ?_
  refine ms_icmp_ge (pc := 7) S (m_dec e11_stepOf 5 rfl) rfl (fun q2 => ?_) (fun q2 => ?_)
  · refine ms_aload_n (pc := 10) S 0 rfl rfl (m_dec e11_stepOf 6 rfl) ?_
    refine ms_getf (pc := 11) S lf_X11_238 rfl (m_dec e11_stepOf 7 rfl) g1 ?_
    refine ms_iload_n (pc := 14) S 2 rfl rfl (m_dec e11_stepOf 8 rfl) ?_
    refine ms_grd fun g3 => ?_
    refine ms_iald (pc := 15) S g3 (m_dec e11_stepOf 9 rfl) ?_
    refine ms_iload_n (pc := 16) S 1 rfl rfl (m_dec e11_stepOf 10 rfl) ?_
    refine ms_icmp_ne (pc := 17) S (m_dec e11_stepOf 11 rfl) rfl (fun q4 => ?_) (fun q4 => ?_)
    · refine ms_iload_n (pc := 20) S 2 rfl rfl (m_dec e11_stepOf 12 rfl) ?_
      exact ms_ret (pc := 21) E (m_dec e11_stepOf 13 rfl) rfl
    · refine ms_iinc (pc := 22) S (L' := [(0, m_r v0), (1, m_i v1), (2, m_i (v2 + 1))]) 2 rfl [1, 2, 0] rfl (m_lt hN rfl) (m_dec e11_stepOf 14 rfl) ?_
      refine ms_goto (pc := 25) S (m_dec e11_stepOf 15 rfl) rfl ?_
      exact ih (v2 + 1)
  · refine ms_iconst (pc := 28) S (m_dec e11_stepOf 16 rfl) ?_
    exact ms_ret (pc := 29) E (m_dec e11_stepOf 17 rfl) rfl
set_option maxHeartbeats 4000000 in
set_option maxRecDepth 20000 in
theorem s11_stepOf {Y : m_Y Int} (S : m_Std Y RX11 cX11_stepOf) (E : m_End Y cX11_stepOf .ireturn (fun r => [m_i r])) {F : Nat} (hF : m_Rm Y F) (hFn : 0 ≤ F) (hN : Y.2.2.2.1 = 3) (v0 v1 : Int) (h : m_H) : m_Sim Y 0 [(0, m_r v0), (1, m_i v1)] [] h (t11_stepOf v0 v1 h) := by
  unfold t11_stepOf
  refine ms_iconst (pc := 0) S (m_dec e11_stepOf 0 rfl) ?_
  refine ms_istore_n (pc := 1) S (L' := [(0, m_r v0), (1, m_i v1), (2, m_i 0)]) [1, 2, 0] rfl rfl (m_lt hN rfl) (m_dec e11_stepOf 1 rfl) ?_
  exact s11_stepOf_c2 S E hF hFn hN v0 v1 0 h
theorem k11_stepOf (l : Launch) (d : m_D) (v0 v1 : Int) (h : m_H) : m_Con l d yX11_stepOf cX11_stepOf 3 (some .int) 0 (fun r => [m_i r]) [m_r v0, m_i v1] h (t11_stepOf v0 v1 h) :=
  m_con2 (by decide +kernel) (Nat.le_of_ble_eq_true rfl) (fun Y hN hRm hr hI S hfin => s11_stepOf S (m_end_i S hr hfin) hRm (Nat.le_refl _) hN v0 v1 h)
set_option maxRecDepth 100000 in
theorem e11_need : ∀ q ∈ ([(0, .iload_n 3, 1), (1, .iconst (-1), 1), (2, .if_icmp .ne 4, 3), (5, .return_, 1), (6, .aload_n 0, 1), (7, .iload_n 3, 1), (8, .invokevirtual 547, 3), (11, .istore 4, 2), (13, .iload 4, 2), (15, .iconst (-1), 1), (16, .if_icmp .eq 16, 3), (19, .aload_n 0, 1), (20, .getfield 241, 3), (23, .iload_n 1, 1), (24, .dup2, 1), (25, .iaload, 1), (26, .iconst 1, 1), (27, .iload 4, 2), (29, .ishl, 1), (30, .ior, 1), (31, .iastore, 1), (32, .return_, 1)] : List (Nat × Instr × Nat)), decode cX11_need q.1 = .ok q.2 := by decide +kernel
set_option maxHeartbeats 4000000 in
set_option maxRecDepth 20000 in
theorem s11_need {Y : m_Y Unit} (S : m_Std Y RX11 cX11_need) (E : m_End Y cX11_need .return_ (fun _ => [])) {F : Nat} (hF : m_Rm Y F) (hFn : 1 ≤ F) (hN : Y.2.2.2.1 = 5) (v0 v1 v2 v3 : Int) (h : m_H) : m_Sim Y 0 [(0, m_r v0), (1, m_i v1), (2, m_i v2), (3, m_i v3)] [] h (t11_need v0 v1 v2 v3 h) := by
  unfold t11_need
  refine ms_iload_n (pc := 0) S 3 rfl rfl (m_dec e11_need 0 rfl) ?_
  refine ms_iconst (pc := 1) S (m_dec e11_need 1 rfl) ?_
  refine ms_icmp_ne (pc := 2) S (m_dec e11_need 2 rfl) rfl (fun q1 => ?_) (fun q1 => ?_)
  · exact ms_ret (pc := 5) E (m_dec e11_need 3 rfl) rfl
  · refine ms_aload_n (pc := 6) S 0 rfl rfl (m_dec e11_need 4 rfl) ?_
    refine ms_iload_n (pc := 7) S 3 rfl rfl (m_dec e11_need 5 rfl) ?_
    refine ms_grd fun g2 => ?_
    refine ms_callVi (pc := 8) S hF (vals := [m_i v3]) (st := []) (hc := vw_11) (hci := by decide) (hcy := rfl) (ht := g2) (hC := (k11_stepOf _ _ v0 v3 h)) (hM := lm_X11_547) (hfr := (Nat.le_trans (by decide) hFn)) (hstk := rfl) (hcat := Nat.le_of_ble_eq_true rfl) (hd := (m_dec e11_need 6 rfl)) (k1 := fun r4 h3 => ?_)
    refine ms_istore (pc := 11) S (L' := [(0, m_r v0), (1, m_i v1), (4, m_i r4)]) [1, 2, 0] rfl (m_lt hN rfl) (m_dec e11_need 7 rfl) ?_
    refine ms_iload (pc := 13) S 2 rfl (m_dec e11_need 8 rfl) ?_
    refine ms_iconst (pc := 15) S (m_dec e11_need 9 rfl) ?_
    refine ms_icmp_eq (pc := 16) S (m_dec e11_need 10 rfl) rfl (fun q5 => ?_) (fun q5 => ?_)
    · exact ms_ret (pc := 32) E (m_dec e11_need 21 rfl) rfl
    · refine ms_aload_n (pc := 19) S 0 rfl rfl (m_dec e11_need 11 rfl) ?_
      refine ms_grd fun g6 => ?_
      refine ms_getf (pc := 20) S lf_X11_241 rfl (m_dec e11_need 12 rfl) g6 ?_
      refine ms_iload_n (pc := 23) S 1 rfl rfl (m_dec e11_need 13 rfl) ?_
      refine ms_dup2 (pc := 24) S rfl rfl (m_dec e11_need 14 rfl) ?_
      refine ms_grd fun g7 => ?_
      refine ms_iald (pc := 25) S g7 (m_dec e11_need 15 rfl) ?_
      refine ms_iconst (pc := 26) S (m_dec e11_need 16 rfl) ?_
      refine ms_iload (pc := 27) S 2 rfl (m_dec e11_need 17 rfl) ?_
      refine ms_ishl (pc := 29) S (m_dec e11_need 18 rfl) ?_
      refine ms_ior (pc := 30) S (m_dec e11_need 19 rfl) ?_
      refine ms_iast (pc := 31) S g7 (m_dec e11_need 20 rfl) (fun h8 => ?_)
      exact ms_ret (pc := 32) E (m_dec e11_need 21 rfl) rfl
theorem k11_need (l : Launch) (d : m_D) (v0 v1 v2 v3 : Int) (h : m_H) : m_Con l d yX11_need cX11_need 5 none 1 (fun _ => []) [m_r v0, m_i v1, m_i v2, m_i v3] h (t11_need v0 v1 v2 v3 h) :=
  m_con2 (by decide +kernel) (Nat.le_of_ble_eq_true rfl) (fun Y hN hRm hr hI S hfin => s11_need S (m_end_v S hr hfin) hRm (Nat.le_refl _) hN v0 v1 v2 v3 h)
set_option maxRecDepth 100000 in
theorem e11_isBench : ∀ q ∈ ([(0, .iload_n 1, 1), (1, .iconst 2, 1), (2, .if_icmp .eq 19, 3), (5, .iload_n 1, 1), (6, .iconst 3, 1), (7, .if_icmp .eq 14, 3), (10, .iload_n 1, 1), (11, .iconst 5, 1), (12, .if_icmp .eq 9, 3), (15, .iload_n 1, 1), (16, .bipush 6, 2), (18, .if_icmp .ne 7, 3), (21, .iconst 1, 1), (22, .goto 4, 3), (25, .iconst 0, 1), (26, .ireturn, 1)] : List (Nat × Instr × Nat)), decode cX11_isBench q.1 = .ok q.2 := by decide +kernel
set_option maxHeartbeats 4000000 in
set_option maxRecDepth 20000 in
theorem s11_isBench {Y : m_Y Bool} (S : m_Std Y RX11 cX11_isBench) (E : m_End Y cX11_isBench .ireturn (fun r => [m_i (m_b2i r)])) {F : Nat} (hF : m_Rm Y F) (hFn : 0 ≤ F) (hN : Y.2.2.2.1 = 2) (v0 v1 : Int) (h : m_H) : m_Sim Y 0 [(0, m_r v0), (1, m_i v1)] [] h (t11_isBench v0 v1 h) := by
  unfold t11_isBench
  refine ms_iload_n (pc := 0) S 1 rfl rfl (m_dec e11_isBench 0 rfl) ?_
  refine ms_iconst (pc := 1) S (m_dec e11_isBench 1 rfl) ?_
  refine ms_icmp_eq (pc := 2) S (m_dec e11_isBench 2 rfl) rfl (fun q1 => ?_) (fun q1 => ?_)
  · refine ms_iconst (pc := 21) S (m_dec e11_isBench 12 rfl) ?_
    refine ms_goto (pc := 22) S (m_dec e11_isBench 13 rfl) rfl ?_
    exact ms_ret (pc := 26) E (m_dec e11_isBench 15 rfl) rfl
  · refine ms_iload_n (pc := 5) S 1 rfl rfl (m_dec e11_isBench 3 rfl) ?_
    refine ms_iconst (pc := 6) S (m_dec e11_isBench 4 rfl) ?_
    refine ms_icmp_eq (pc := 7) S (m_dec e11_isBench 5 rfl) rfl (fun q2 => ?_) (fun q2 => ?_)
    · refine ms_iconst (pc := 21) S (m_dec e11_isBench 12 rfl) ?_
      refine ms_goto (pc := 22) S (m_dec e11_isBench 13 rfl) rfl ?_
      exact ms_ret (pc := 26) E (m_dec e11_isBench 15 rfl) rfl
    · refine ms_iload_n (pc := 10) S 1 rfl rfl (m_dec e11_isBench 6 rfl) ?_
      refine ms_iconst (pc := 11) S (m_dec e11_isBench 7 rfl) ?_
      refine ms_icmp_eq (pc := 12) S (m_dec e11_isBench 8 rfl) rfl (fun q3 => ?_) (fun q3 => ?_)
      · refine ms_iconst (pc := 21) S (m_dec e11_isBench 12 rfl) ?_
        refine ms_goto (pc := 22) S (m_dec e11_isBench 13 rfl) rfl ?_
        exact ms_ret (pc := 26) E (m_dec e11_isBench 15 rfl) rfl
      · refine ms_iload_n (pc := 15) S 1 rfl rfl (m_dec e11_isBench 9 rfl) ?_
        refine ms_bipush (pc := 16) S (m_dec e11_isBench 10 rfl) rfl ?_
        refine ms_icmp_ne (pc := 18) S (m_dec e11_isBench 11 rfl) rfl (fun q4 => ?_) (fun q4 => ?_)
        · refine ms_iconst (pc := 21) S (m_dec e11_isBench 12 rfl) ?_
          refine ms_goto (pc := 22) S (m_dec e11_isBench 13 rfl) rfl ?_
          exact ms_ret (pc := 26) E (m_dec e11_isBench 15 rfl) rfl
        · refine ms_iconst (pc := 25) S (m_dec e11_isBench 14 rfl) ?_
          exact ms_ret (pc := 26) E (m_dec e11_isBench 15 rfl) rfl
theorem k11_isBench (l : Launch) (d : m_D) (v0 v1 : Int) (h : m_H) : m_Con l d yX11_isBench cX11_isBench 2 (some .boolean) 0 (fun r => [m_i (m_b2i r)]) [m_r v0, m_i v1] h (t11_isBench v0 v1 h) :=
  m_con2 (by decide +kernel) (Nat.le_of_ble_eq_true rfl) (fun Y hN hRm hr hI S hfin => s11_isBench S (m_end_z S hr hfin) hRm (Nat.le_refl _) hN v0 v1 h)
set_option maxRecDepth 100000 in
theorem e11_canDo : ∀ q ∈ ([(0, .iconst 0, 1), (1, .istore 4, 2), (3, .iconst 0, 1), (4, .istore 5, 2), (6, .iconst 0, 1), (7, .istore 6, 2), (9, .iconst 0, 1), (10, .istore 7, 2), (12, .iload 7, 2), (14, .aload_n 0, 1), (15, .getfield 544, 3), (18, .if_icmp .ge 140, 3), (21, .iload_n 2, 1), (22, .iload 7, 2), (24, .ishr, 1), (25, .iconst 1, 1), (26, .iand, 1), (27, .ifCond .ne 6, 3), (30, .goto 122, 3), (33, .aload_n 0, 1), (34, .getfield 89, 3), (37, .iload_n 1, 1), (38, .aaload, 1), (39, .aload_n 0, 1), (40, .getfield 238, 3), (43, .iload 7, 2), (45, .iaload, 1), (46, .iaload, 1), (47, .istore 8, 2), (49, .aload_n 0, 1), (50, .getfield 241, 3), (53, .iload 7, 2), (55, .iaload, 1), (56, .iload_n 3, 1), (57, .iconst (-1), 1), (58, .ixor, 1), (59, .iand, 1), (60, .ifCond .eq 5, 3), (63, .iconst 0, 1), (64, .ireturn, 1), (65, .aload_n 0, 1), (66, .iload 8, 2), (68, .invokevirtual 551, 3), (71, .ifCond .eq 9, 3), (74, .iinc 4 1, 3), (77, .goto 75, 3), (80, .iload 8, 2), (82, .bipush 8, 2), (84, .if_icmp .ne 65, 3), (87, .iconst 1, 1), (88, .aload_n 0, 1), (89, .getfield 98, 3), (92, .iload_n 1, 1), (93, .aaload, 1), (94, .aload_n 0, 1), (95, .getfield 238, 3), (98, .iload 7, 2), (100, .iaload, 1), (101, .iaload, 1), (102, .ishl, 1), (103, .istore 9, 2), (105, .iload 6, 2), (107, .iload 9, 2), (109, .iand, 1), (110, .ifCond .ne 24, 3), (113, .aload_n 0, 1), (114, .aload_n 0, 1), (115, .getfield 98, 3), (118, .iload_n 1, 1), (119, .aaload, 1), (120, .aload_n 0, 1), (121, .getfield 238, 3), (124, .iload 7, 2), (126, .iaload, 1), (127, .iaload, 1), (128, .invokevirtual 336, 3), (131, .ifCond .ne 5, 3), (134, .iconst 0, 1), (135, .ireturn, 1), (136, .iload 6, 2), (138, .iload 9, 2), (140, .ior, 1), (141, .istore 6, 2), (143, .iinc 5 1, 3), (146, .goto 6, 3), (149, .iinc 5 1, 3), (152, .iinc 7 1, 3), (155, .goto (-143), 3), (158, .iload 4, 2), (160, .iconst 1, 1), (161, .if_icmp .gt 16, 3), (164, .iload 5, 2), (166, .aload_n 0, 1), (167, .getfield 333, 3), (170, .if_icmp .gt 7, 3), (173, .iconst 1, 1), (174, .goto 4, 3), (177, .iconst 0, 1), (178, .ireturn, 1)] : List (Nat × Instr × Nat)), decode cX11_canDo q.1 = .ok q.2 := by decide +kernel
set_option maxHeartbeats 4000000 in
set_option maxRecDepth 20000 in
theorem s11_canDo_c12 {Y : m_Y Bool} (S : m_Std Y RX11 cX11_canDo) (E : m_End Y cX11_canDo .ireturn (fun r => [m_i (m_b2i r)])) {F : Nat} (hF : m_Rm Y F) (hFn : 2 ≤ F) (hN : Y.2.2.2.1 = 10) : ∀ (v0 v1 v2 v3 v4 v5 v6 v7 : Int) (h : m_H), m_Sim Y 12 [(0, m_r v0), (1, m_i v1), (2, m_i v2), (3, m_i v3), (4, m_i v4), (5, m_i v5), (6, m_i v6), (7, m_i v7)] [] h (t11_canDo_c12 v0 v1 v2 v3 v4 v5 v6 v7 h) := by
  intro v0 v1 v2 v3 v4 v5 v6 v7 h
  refine ms_all fun r e => ?_
  refine t11_canDo_c12.partial_correctness v0 v1 v2 v3 (motive := fun v4 v5 v6 v7 h r => m_Sim Y 12 [(0, m_r v0), (1, m_i v1), (2, m_i v2), (3, m_i v3), (4, m_i v4), (5, m_i v5), (6, m_i v6), (7, m_i v7)] [] h (some r)) ?_ v4 v5 v6 v7 h r e
  intro f ih v4 v5 v6 v7 h r e
  have ih : ∀ (v4 v5 v6 v7 : Int) (h : m_H), m_Sim Y 12 [(0, m_r v0), (1, m_i v1), (2, m_i v2), (3, m_i v3), (4, m_i v4), (5, m_i v5), (6, m_i v6), (7, m_i v7)] [] h (f v4 v5 v6 v7 h ) := fun v4 v5 v6 v7 h  => ms_all fun r e => ih v4 v5 v6 v7 h r e
  refine ms_use ?_ e
  clear e r
  refine ms_iload (pc := 12) S 7 rfl (m_dec e11_canDo 8 rfl) ?_
  refine ms_aload_n (pc := 14) S 0 rfl rfl (m_dec e11_canDo 9 rfl) ?_
  refine ms_grd fun g1 => ?_
  refine ms_getf (pc := 15) S lf_X11_544 rfl (m_dec e11_canDo 10 rfl) g1 ?_
  refine ms_icmp_ge (pc := 18) S (m_dec e11_canDo 11 rfl) rfl (fun q2 => ?_) (fun q2 => ?_)
  · refine ms_iload_n (pc := 21) S 2 rfl rfl (m_dec e11_canDo 12 rfl) ?_
    refine ms_iload (pc := 22) S 7 rfl (m_dec e11_canDo 13 rfl) ?_
    refine ms_ishr (pc := 24) S (m_dec e11_canDo 14 rfl) ?_
    refine ms_iconst (pc := 25) S (m_dec e11_canDo 15 rfl) ?_
    refine ms_iand (pc := 26) S (m_dec e11_canDo 16 rfl) ?_
    refine ms_if_ne (pc := 27) S (m_dec e11_canDo 17 rfl) rfl (fun q3 => ?_) (fun q3 => ?_)
    · refine ms_goto (pc := 30) S (m_dec e11_canDo 18 rfl) rfl ?_
      refine ms_iinc (pc := 152) S (L' := [(0, m_r v0), (1, m_i v1), (2, m_i v2), (3, m_i v3), (4, m_i v4), (5, m_i v5), (6, m_i v6), (7, m_i (v7 + 1))]) 7 rfl [1, 2, 3, 4, 5, 6, 7, 0] rfl (m_lt hN rfl) (m_dec e11_canDo 86 rfl) ?_
      refine ms_goto (pc := 155) S (m_dec e11_canDo 87 rfl) rfl ?_
      exact ih v4 v5 v6 (v7 + 1) h
    · refine ms_aload_n (pc := 33) S 0 rfl rfl (m_dec e11_canDo 19 rfl) ?_
      refine ms_getf (pc := 34) S lf_X11_89 rfl (m_dec e11_canDo 20 rfl) g1 ?_
      refine ms_iload_n (pc := 37) S 1 rfl rfl (m_dec e11_canDo 21 rfl) ?_
      refine ms_grd fun g4 => ?_
      refine ms_aald (pc := 38) S 29 (by decide) (fun _ => rfl) rfl g4 (m_dec e11_canDo 22 rfl) ?_
      refine ms_aload_n (pc := 39) S 0 rfl rfl (m_dec e11_canDo 23 rfl) ?_
      refine ms_getf (pc := 40) S lf_X11_238 rfl (m_dec e11_canDo 24 rfl) g1 ?_
      refine ms_iload (pc := 43) S 7 rfl (m_dec e11_canDo 25 rfl) ?_
      refine ms_grd fun g5 => ?_
      refine ms_iald (pc := 45) S g5 (m_dec e11_canDo 26 rfl) ?_
      refine ms_grd fun g6 => ?_
      refine ms_iald (pc := 46) S g6 (m_dec e11_canDo 27 rfl) ?_
      refine ms_nm (st := fun x7 => [m_i x7]) fun x7 => ?_
      refine ms_istore (pc := 47) S (L' := [(0, m_r v0), (1, m_i v1), (2, m_i v2), (3, m_i v3), (4, m_i v4), (5, m_i v5), (6, m_i v6), (7, m_i v7), (8, m_i x7)]) [1, 2, 3, 4, 5, 6, 7, 8, 0] rfl (m_lt hN rfl) (m_dec e11_canDo 28 rfl) ?_
      refine ms_aload_n (pc := 49) S 0 rfl rfl (m_dec e11_canDo 29 rfl) ?_
      refine ms_getf (pc := 50) S lf_X11_241 rfl (m_dec e11_canDo 30 rfl) g1 ?_
      refine ms_iload (pc := 53) S 7 rfl (m_dec e11_canDo 31 rfl) ?_
      refine ms_grd fun g8 => ?_
      refine ms_iald (pc := 55) S g8 (m_dec e11_canDo 32 rfl) ?_
      refine ms_iload_n (pc := 56) S 3 rfl rfl (m_dec e11_canDo 33 rfl) ?_
      refine ms_iconst (pc := 57) S (m_dec e11_canDo 34 rfl) ?_
      refine ms_ixor (pc := 58) S (m_dec e11_canDo 35 rfl) ?_
      refine ms_iand (pc := 59) S (m_dec e11_canDo 36 rfl) ?_
      refine ms_if_eq (pc := 60) S (m_dec e11_canDo 37 rfl) rfl (fun q9 => ?_) (fun q9 => ?_)
      · refine ms_aload_n (pc := 65) S 0 rfl rfl (m_dec e11_canDo 40 rfl) ?_
        refine ms_iload (pc := 66) S 8 rfl (m_dec e11_canDo 41 rfl) ?_
        refine ms_callVz (pc := 68) S hF (vals := [m_i x7]) (st := []) (hc := vw_11) (hci := by decide) (hcy := rfl) (ht := g1) (hC := (k11_isBench _ _ v0 x7 h)) (hM := lm_X11_551) (hfr := (Nat.le_trans (by decide) hFn)) (hstk := rfl) (hcat := Nat.le_of_ble_eq_true rfl) (hd := (m_dec e11_canDo 42 rfl)) (k1 := fun r11 h10 => ?_)
        refine ms_ifb_eq (pc := 71) S (m_dec e11_canDo 43 rfl) rfl (fun q12 => ?_) (fun q12 => ?_)
        · refine ms_iinc (pc := 74) S (L' := [(0, m_r v0), (1, m_i v1), (2, m_i v2), (3, m_i v3), (4, m_i (v4 + 1)), (5, m_i v5), (6, m_i v6), (7, m_i v7)]) 4 rfl [1, 2, 3, 4, 0, 5, 6, 7] rfl (m_lt hN rfl) (m_dec e11_canDo 44 rfl) ?_
          refine ms_goto (pc := 77) S (m_dec e11_canDo 45 rfl) rfl ?_
          refine ms_iinc (pc := 152) S (L' := [(0, m_r v0), (1, m_i v1), (2, m_i v2), (3, m_i v3), (4, m_i (v4 + 1)), (5, m_i v5), (6, m_i v6), (7, m_i (v7 + 1))]) 7 rfl [1, 2, 3, 4, 5, 6, 7, 0] rfl (m_lt hN rfl) (m_dec e11_canDo 86 rfl) ?_
          refine ms_goto (pc := 155) S (m_dec e11_canDo 87 rfl) rfl ?_
          exact ih (v4 + 1) v5 v6 (v7 + 1) h10
        · refine ms_iload (pc := 80) S 8 rfl (m_dec e11_canDo 46 rfl) ?_
          refine ms_bipush (pc := 82) S (m_dec e11_canDo 47 rfl) rfl ?_
          refine ms_icmp_ne (pc := 84) S (m_dec e11_canDo 48 rfl) rfl (fun q13 => ?_) (fun q13 => ?_)
          · refine ms_iconst (pc := 87) S (m_dec e11_canDo 49 rfl) ?_
            refine ms_aload_n (pc := 88) S 0 rfl rfl (m_dec e11_canDo 50 rfl) ?_
            refine ms_grd fun g14 => ?_
            refine ms_getf (pc := 89) S lf_X11_98 rfl (m_dec e11_canDo 51 rfl) g14 ?_
            refine ms_iload_n (pc := 92) S 1 rfl rfl (m_dec e11_canDo 52 rfl) ?_
            refine ms_grd fun g15 => ?_
            refine ms_aald (pc := 93) S 29 (by decide) (fun _ => rfl) rfl g15 (m_dec e11_canDo 53 rfl) ?_
            refine ms_aload_n (pc := 94) S 0 rfl rfl (m_dec e11_canDo 54 rfl) ?_
            refine ms_getf (pc := 95) S lf_X11_238 rfl (m_dec e11_canDo 55 rfl) g14 ?_
            refine ms_iload (pc := 98) S 7 rfl (m_dec e11_canDo 56 rfl) ?_
            refine ms_grd fun g16 => ?_
            refine ms_iald (pc := 100) S g16 (m_dec e11_canDo 57 rfl) ?_
            refine ms_grd fun g17 => ?_
            refine ms_iald (pc := 101) S g17 (m_dec e11_canDo 58 rfl) ?_
            refine ms_ishl (pc := 102) S (m_dec e11_canDo 59 rfl) ?_
            refine ms_nm (st := fun x18 => [m_i x18]) fun x18 => ?_
            refine ms_istore (pc := 103) S (L' := [(0, m_r v0), (1, m_i v1), (2, m_i v2), (3, m_i v3), (4, m_i v4), (5, m_i v5), (6, m_i v6), (7, m_i v7), (9, m_i x18)]) [1, 2, 3, 4, 5, 6, 7, 8, 0] rfl (m_lt hN rfl) (m_dec e11_canDo 60 rfl) ?_
            refine ms_iload (pc := 105) S 6 rfl (m_dec e11_canDo 61 rfl) ?_
            refine ms_iload (pc := 107) S 8 rfl (m_dec e11_canDo 62 rfl) ?_
            refine ms_iand (pc := 109) S (m_dec e11_canDo 63 rfl) ?_
            refine ms_if_ne (pc := 110) S (m_dec e11_canDo 64 rfl) rfl (fun q19 => ?_) (fun q19 => ?_)
            · refine ms_aload_n (pc := 113) S 0 rfl rfl (m_dec e11_canDo 65 rfl) ?_
              refine ms_aload_n (pc := 114) S 0 rfl rfl (m_dec e11_canDo 66 rfl) ?_
              refine ms_getf (pc := 115) S lf_X11_98 rfl (m_dec e11_canDo 67 rfl) g14 ?_
              refine ms_iload_n (pc := 118) S 1 rfl rfl (m_dec e11_canDo 68 rfl) ?_
              refine ms_aald (pc := 119) S 29 (by decide) (fun _ => rfl) rfl g15 (m_dec e11_canDo 69 rfl) ?_
              refine ms_aload_n (pc := 120) S 0 rfl rfl (m_dec e11_canDo 70 rfl) ?_
              refine ms_getf (pc := 121) S lf_X11_238 rfl (m_dec e11_canDo 71 rfl) g14 ?_
              refine ms_iload (pc := 124) S 7 rfl (m_dec e11_canDo 72 rfl) ?_
              refine ms_iald (pc := 126) S g16 (m_dec e11_canDo 73 rfl) ?_
              refine ms_iald (pc := 127) S g17 (m_dec e11_canDo 74 rfl) ?_
              refine ms_callVz (pc := 128) S hF (vals := [m_i (m_g h10 (m_g h10 (m_g h10 v0 38) (m_w v1)) (m_w (m_g h10 (m_g h10 v0 75) (m_w v7))))]) (st := []) (hc := vw_11) (hci := by decide) (hcy := rfl) (ht := g14) (hC := (k11_isMachine _ _ v0 (m_g h10 (m_g h10 (m_g h10 v0 38) (m_w v1)) (m_w (m_g h10 (m_g h10 v0 75) (m_w v7)))) h10)) (hM := lm_X11_336) (hfr := (Nat.le_trans (by decide) hFn)) (hstk := rfl) (hcat := Nat.le_of_ble_eq_true rfl) (hd := (m_dec e11_canDo 75 rfl)) (k1 := fun r21 h20 => ?_)
              refine ms_ifb_ne (pc := 131) S (m_dec e11_canDo 76 rfl) rfl (fun q22 => ?_) (fun q22 => ?_)
              · refine ms_iload (pc := 136) S 6 rfl (m_dec e11_canDo 79 rfl) ?_
                refine ms_iload (pc := 138) S 8 rfl (m_dec e11_canDo 80 rfl) ?_
                refine ms_ior (pc := 140) S (m_dec e11_canDo 81 rfl) ?_
                refine ms_nm (st := fun x23 => [m_i x23]) fun x23 => ?_
                refine ms_istore (pc := 141) S (L' := [(0, m_r v0), (1, m_i v1), (2, m_i v2), (3, m_i v3), (4, m_i v4), (5, m_i v5), (6, m_i x23), (7, m_i v7)]) [1, 2, 3, 4, 5, 6, 0, 7] rfl (m_lt hN rfl) (m_dec e11_canDo 82 rfl) ?_
                refine ms_iinc (pc := 143) S (L' := [(0, m_r v0), (1, m_i v1), (2, m_i v2), (3, m_i v3), (4, m_i v4), (5, m_i (v5 + 1)), (6, m_i x23), (7, m_i v7)]) 5 rfl [1, 2, 3, 4, 5, 0, 6, 7] rfl (m_lt hN rfl) (m_dec e11_canDo 83 rfl) ?_
                refine ms_goto (pc := 146) S (m_dec e11_canDo 84 rfl) rfl ?_
                refine ms_iinc (pc := 152) S (L' := [(0, m_r v0), (1, m_i v1), (2, m_i v2), (3, m_i v3), (4, m_i v4), (5, m_i (v5 + 1)), (6, m_i x23), (7, m_i (v7 + 1))]) 7 rfl [1, 2, 3, 4, 5, 6, 7, 0] rfl (m_lt hN rfl) (m_dec e11_canDo 86 rfl) ?_
                refine ms_goto (pc := 155) S (m_dec e11_canDo 87 rfl) rfl ?_
                exact ih v4 (v5 + 1) x23 (v7 + 1) h20
              · refine ms_iconst (pc := 134) S (m_dec e11_canDo 77 rfl) ?_
                exact ms_ret (pc := 135) E (m_dec e11_canDo 78 rfl) rfl
            · refine ms_iconst (pc := 134) S (m_dec e11_canDo 77 rfl) ?_
              exact ms_ret (pc := 135) E (m_dec e11_canDo 78 rfl) rfl
          · refine ms_iinc (pc := 149) S (L' := [(0, m_r v0), (1, m_i v1), (2, m_i v2), (3, m_i v3), (4, m_i v4), (5, m_i (v5 + 1)), (6, m_i v6), (7, m_i v7)]) 5 rfl [1, 2, 3, 4, 5, 0, 6, 7] rfl (m_lt hN rfl) (m_dec e11_canDo 85 rfl) ?_
            refine ms_iinc (pc := 152) S (L' := [(0, m_r v0), (1, m_i v1), (2, m_i v2), (3, m_i v3), (4, m_i v4), (5, m_i (v5 + 1)), (6, m_i v6), (7, m_i (v7 + 1))]) 7 rfl [1, 2, 3, 4, 5, 6, 7, 0] rfl (m_lt hN rfl) (m_dec e11_canDo 86 rfl) ?_
            refine ms_goto (pc := 155) S (m_dec e11_canDo 87 rfl) rfl ?_
            exact ih v4 (v5 + 1) v6 (v7 + 1) h10
      · refine ms_iconst (pc := 63) S (m_dec e11_canDo 38 rfl) ?_
        exact ms_ret (pc := 64) E (m_dec e11_canDo 39 rfl) rfl
  · refine ms_iload (pc := 158) S 4 rfl (m_dec e11_canDo 88 rfl) ?_
    refine ms_iconst (pc := 160) S (m_dec e11_canDo 89 rfl) ?_
    refine ms_icmp_gt (pc := 161) S (m_dec e11_canDo 90 rfl) rfl (fun q24 => ?_) (fun q24 => ?_)
    · refine ms_iconst (pc := 177) S (m_dec e11_canDo 97 rfl) ?_
      exact ms_ret (pc := 178) E (m_dec e11_canDo 98 rfl) rfl
    · refine ms_iload (pc := 164) S 5 rfl (m_dec e11_canDo 91 rfl) ?_
      refine ms_aload_n (pc := 166) S 0 rfl rfl (m_dec e11_canDo 92 rfl) ?_
      refine ms_getf (pc := 167) S lf_X11_333 rfl (m_dec e11_canDo 93 rfl) g1 ?_
      refine ms_icmp_gt (pc := 170) S (m_dec e11_canDo 94 rfl) rfl (fun q25 => ?_) (fun q25 => ?_)
      · refine ms_iconst (pc := 177) S (m_dec e11_canDo 97 rfl) ?_
        exact ms_ret (pc := 178) E (m_dec e11_canDo 98 rfl) rfl
      · refine ms_iconst (pc := 173) S (m_dec e11_canDo 95 rfl) ?_
        refine ms_goto (pc := 174) S (m_dec e11_canDo 96 rfl) rfl ?_
        exact ms_ret (pc := 178) E (m_dec e11_canDo 98 rfl) rfl
set_option maxHeartbeats 4000000 in
set_option maxRecDepth 20000 in
theorem s11_canDo {Y : m_Y Bool} (S : m_Std Y RX11 cX11_canDo) (E : m_End Y cX11_canDo .ireturn (fun r => [m_i (m_b2i r)])) {F : Nat} (hF : m_Rm Y F) (hFn : 2 ≤ F) (hN : Y.2.2.2.1 = 10) (v0 v1 v2 v3 : Int) (h : m_H) : m_Sim Y 0 [(0, m_r v0), (1, m_i v1), (2, m_i v2), (3, m_i v3)] [] h (t11_canDo v0 v1 v2 v3 h) := by
  unfold t11_canDo
  refine ms_iconst (pc := 0) S (m_dec e11_canDo 0 rfl) ?_
  refine ms_istore (pc := 1) S (L' := [(0, m_r v0), (1, m_i v1), (2, m_i v2), (3, m_i v3), (4, m_i 0)]) [1, 2, 3, 4, 0] rfl (m_lt hN rfl) (m_dec e11_canDo 1 rfl) ?_
  refine ms_iconst (pc := 3) S (m_dec e11_canDo 2 rfl) ?_
  refine ms_istore (pc := 4) S (L' := [(0, m_r v0), (1, m_i v1), (2, m_i v2), (3, m_i v3), (4, m_i 0), (5, m_i 0)]) [1, 2, 3, 4, 5, 0] rfl (m_lt hN rfl) (m_dec e11_canDo 3 rfl) ?_
  refine ms_iconst (pc := 6) S (m_dec e11_canDo 4 rfl) ?_
  refine ms_istore (pc := 7) S (L' := [(0, m_r v0), (1, m_i v1), (2, m_i v2), (3, m_i v3), (4, m_i 0), (5, m_i 0), (6, m_i 0)]) [1, 2, 3, 4, 5, 6, 0] rfl (m_lt hN rfl) (m_dec e11_canDo 5 rfl) ?_
  refine ms_iconst (pc := 9) S (m_dec e11_canDo 6 rfl) ?_
  refine ms_istore (pc := 10) S (L' := [(0, m_r v0), (1, m_i v1), (2, m_i v2), (3, m_i v3), (4, m_i 0), (5, m_i 0), (6, m_i 0), (7, m_i 0)]) [1, 2, 3, 4, 5, 6, 7, 0] rfl (m_lt hN rfl) (m_dec e11_canDo 7 rfl) ?_
  exact s11_canDo_c12 S E hF hFn hN v0 v1 v2 v3 0 0 0 0 h
theorem k11_canDo (l : Launch) (d : m_D) (v0 v1 v2 v3 : Int) (h : m_H) : m_Con l d yX11_canDo cX11_canDo 10 (some .boolean) 2 (fun r => [m_i (m_b2i r)]) [m_r v0, m_i v1, m_i v2, m_i v3] h (t11_canDo v0 v1 v2 v3 h) :=
  m_con2 (by decide +kernel) (Nat.le_of_ble_eq_true rfl) (fun Y hN hRm hr hI S hfin => s11_canDo S (m_end_z S hr hfin) hRm (Nat.le_refl _) hN v0 v1 v2 v3 h)
set_option maxRecDepth 100000 in
theorem e11_least : ∀ q ∈ ([(0, .iload_n 2, 1), (1, .iconst 1, 1), (2, .aload_n 0, 1), (3, .getfield 544, 3), (6, .ishl, 1), (7, .iconst 1, 1), (8, .isub, 1), (9, .if_icmp .ne 5, 3), (12, .iconst 0, 1), (13, .ireturn, 1), (14, .aload_n 0, 1), (15, .getfield 244, 3), (18, .iload_n 2, 1), (19, .iaload, 1), (20, .ifCond .eq 10, 3), (23, .aload_n 0, 1), (24, .getfield 244, 3), (27, .iload_n 2, 1), (28, .iaload, 1), (29, .ireturn, 1), (30, .sipush 1000, 3), (33, .istore_n 3, 1), (34, .iconst 1, 1), (35, .aload_n 0, 1), (36, .getfield 544, 3), (39, .ishl, 1), (40, .iconst 1, 1), (41, .isub, 1), (42, .iload_n 2, 1), (43, .iconst (-1), 1), (44, .ixor, 1), (45, .iand, 1), (46, .istore 4, 2), (48, .iload 4, 2), (50, .istore 5, 2), (52, .iload 5, 2), (54, .ifCond .le 53, 3), (57, .aload_n 0, 1), (58, .iload_n 1, 1), (59, .iload 5, 2), (61, .iload_n 2, 1), (62, .invokevirtual 554, 3), (65, .ifCond .eq 30, 3), (68, .aload_n 0, 1), (69, .iload_n 1, 1), (70, .iload_n 2, 1), (71, .iload 5, 2), (73, .ior, 1), (74, .invokevirtual 557, 3), (77, .iconst 1, 1), (78, .iadd, 1), (79, .iload_n 3, 1), (80, .if_icmp .ge 15, 3), (83, .aload_n 0, 1), (84, .iload_n 1, 1), (85, .iload_n 2, 1), (86, .iload 5, 2), (88, .ior, 1), (89, .invokevirtual 557, 3), (92, .iconst 1, 1), (93, .iadd, 1), (94, .istore_n 3, 1), (95, .iload 5, 2), (97, .iconst 1, 1), (98, .isub, 1), (99, .iload 4, 2), (101, .iand, 1), (102, .istore 5, 2), (104, .goto (-52), 3), (107, .aload_n 0, 1), (108, .getfield 244, 3), (111, .iload_n 2, 1), (112, .iload_n 3, 1), (113, .iastore, 1), (114, .iload_n 3, 1), (115, .ireturn, 1)] : List (Nat × Instr × Nat)), decode cX11_least q.1 = .ok q.2 := by decide +kernel
set_option maxHeartbeats 4000000 in
set_option maxRecDepth 20000 in
theorem s11_least_x52 {Y : m_Y Int} (S : m_Std Y RX11 cX11_least) (E : m_End Y cX11_least .ireturn (fun r => [m_i r])) {F : Nat} (hF : m_Rm Y F) (hFn : 3 ≤ F) (hN : Y.2.2.2.1 = 6) {K : Int → Int → Int → m_H → Option (Int × m_H)} {FK : Nat} (hK : ∀ (l : Launch) (d : m_D) (v0 v1 v2 : Int) (h : m_H), m_Con l d yX11_least cX11_least 6 (some .int) FK (fun r => [m_i r]) [m_r v0, m_i v1, m_i v2] h (K v0 v1 v2 h)) (hKF : FK + 1 ≤ F) : ∀ (cc : Int) (v0 v1 v2 v3 v4 v5 : Int) (h : m_H) (r : Int × m_H), t11_least_x52 K cc v0 v1 v2 v3 v4 v5 h = some r → (cc = 52 → m_Sim Y 52 [(0, m_r v0), (1, m_i v1), (2, m_i v2), (3, m_i v3), (4, m_i v4), (5, m_i v5)] [] h (some r)) ∧ (cc = 95 → m_Sim Y 95 [(0, m_r v0), (1, m_i v1), (2, m_i v2), (3, m_i v3), (4, m_i v4), (5, m_i v5)] [] h (some r)) := by
  intro cc v0 v1 v2 v3 v4 v5 h r e
  refine t11_least_x52.partial_correctness K v0 v1 v2 v4 (motive := fun cc v3 v5 h r => (cc = 52 → m_Sim Y 52 [(0, m_r v0), (1, m_i v1), (2, m_i v2), (3, m_i v3), (4, m_i v4), (5, m_i v5)] [] h (some r)) ∧ (cc = 95 → m_Sim Y 95 [(0, m_r v0), (1, m_i v1), (2, m_i v2), (3, m_i v3), (4, m_i v4), (5, m_i v5)] [] h (some r))) ?_ cc v3 v5 h r e
  intro f ih cc v3 v5 h r e
  have ih52 : ∀ (v3 v5 : Int) (h : m_H), m_Sim Y 52 [(0, m_r v0), (1, m_i v1), (2, m_i v2), (3, m_i v3), (4, m_i v4), (5, m_i v5)] [] h (f 52 v3 v5 h ) := fun v3 v5 h  => ms_all fun r e => (ih 52 v3 v5 h r e).1 rfl
  have ih95 : ∀ (v3 v5 : Int) (h : m_H), m_Sim Y 95 [(0, m_r v0), (1, m_i v1), (2, m_i v2), (3, m_i v3), (4, m_i v4), (5, m_i v5)] [] h (f 95 v3 v5 h ) := fun v3 v5 h  => ms_all fun r e => (ih 95 v3 v5 h r e).2 rfl
  refine ⟨?_, ?_⟩
  · intro q0
    subst q0
    rw [if_pos rfl] at e
    refine ms_use ?_ e
    clear e r
    refine ms_iload (pc := 52) S 5 rfl (m_dec e11_least 35 rfl) ?_
    refine ms_if_le (pc := 54) S (m_dec e11_least 36 rfl) rfl (fun q1 => ?_) (fun q1 => ?_)
    · refine ms_aload_n (pc := 57) S 0 rfl rfl (m_dec e11_least 37 rfl) ?_
      refine ms_iload_n (pc := 58) S 1 rfl rfl (m_dec e11_least 38 rfl) ?_
      refine ms_iload (pc := 59) S 5 rfl (m_dec e11_least 39 rfl) ?_
      refine ms_iload_n (pc := 61) S 2 rfl rfl (m_dec e11_least 40 rfl) ?_
      refine ms_grd fun g2 => ?_
      refine ms_callVz (pc := 62) S hF (vals := [m_i v1, m_i v5, m_i v2]) (st := []) (hc := vw_11) (hci := by decide) (hcy := rfl) (ht := g2) (hC := (k11_canDo _ _ v0 v1 v5 v2 h)) (hM := lm_X11_554) (hfr := (Nat.le_trans (by decide) hFn)) (hstk := rfl) (hcat := Nat.le_of_ble_eq_true rfl) (hd := (m_dec e11_least 41 rfl)) (k1 := fun r4 h3 => ?_)
      refine ms_ifb_eq (pc := 65) S (m_dec e11_least 42 rfl) rfl (fun q5 => ?_) (fun q5 => ?_)
      · refine ms_aload_n (pc := 68) S 0 rfl rfl (m_dec e11_least 43 rfl) ?_
        refine ms_iload_n (pc := 69) S 1 rfl rfl (m_dec e11_least 44 rfl) ?_
        refine ms_iload_n (pc := 70) S 2 rfl rfl (m_dec e11_least 45 rfl) ?_
        refine ms_iload (pc := 71) S 5 rfl (m_dec e11_least 46 rfl) ?_
        refine ms_ior (pc := 73) S (m_dec e11_least 47 rfl) ?_
        refine ms_grd fun g6 => ?_
        refine ms_callVi (pc := 74) S hF (vals := [m_i v1, m_i (m_or v2 v5)]) (st := []) (hc := vw_11) (hci := by decide) (hcy := rfl) (ht := g6) (hC := (hK _ _ v0 v1 (m_or v2 v5) h3)) (hM := lm_X11_557) (hfr := hKF) (hstk := rfl) (hcat := Nat.le_of_ble_eq_true rfl) (hd := (m_dec e11_least 48 rfl)) (k1 := fun r8 h7 => ?_)
        refine ms_iconst (pc := 77) S (m_dec e11_least 49 rfl) ?_
        refine ms_iadd (pc := 78) S (m_dec e11_least 50 rfl) ?_
        refine ms_iload_n (pc := 79) S 3 rfl rfl (m_dec e11_least 51 rfl) ?_
        refine ms_icmp_ge (pc := 80) S (m_dec e11_least 52 rfl) rfl (fun q9 => ?_) (fun q9 => ?_)
        · refine ms_aload_n (pc := 83) S 0 rfl rfl (m_dec e11_least 53 rfl) ?_
          refine ms_iload_n (pc := 84) S 1 rfl rfl (m_dec e11_least 54 rfl) ?_
          refine ms_iload_n (pc := 85) S 2 rfl rfl (m_dec e11_least 55 rfl) ?_
          refine ms_iload (pc := 86) S 5 rfl (m_dec e11_least 56 rfl) ?_
          refine ms_ior (pc := 88) S (m_dec e11_least 57 rfl) ?_
          refine ms_grd fun g10 => ?_
          refine ms_callVi (pc := 89) S hF (vals := [m_i v1, m_i (m_or v2 v5)]) (st := []) (hc := vw_11) (hci := by decide) (hcy := rfl) (ht := g10) (hC := (hK _ _ v0 v1 (m_or v2 v5) h7)) (hM := lm_X11_557) (hfr := hKF) (hstk := rfl) (hcat := Nat.le_of_ble_eq_true rfl) (hd := (m_dec e11_least 58 rfl)) (k1 := fun r12 h11 => ?_)
          refine ms_iconst (pc := 92) S (m_dec e11_least 59 rfl) ?_
          refine ms_iadd (pc := 93) S (m_dec e11_least 60 rfl) ?_
          refine ms_nm (st := fun x13 => [m_i x13]) fun x13 => ?_
          refine ms_istore_n (pc := 94) S (L' := [(0, m_r v0), (1, m_i v1), (2, m_i v2), (3, m_i x13), (4, m_i v4), (5, m_i v5)]) [1, 2, 3, 0, 4, 5] rfl rfl (m_lt hN rfl) (m_dec e11_least 61 rfl) ?_
          exact ih95 x13 v5 h11
        · exact ih95 v3 v5 h7
      · exact ih95 v3 v5 h3
    · refine ms_aload_n (pc := 107) S 0 rfl rfl (m_dec e11_least 69 rfl) ?_
      refine ms_grd fun g14 => ?_
      refine ms_getf (pc := 108) S lf_X11_244 rfl (m_dec e11_least 70 rfl) g14 ?_
      refine ms_iload_n (pc := 111) S 2 rfl rfl (m_dec e11_least 71 rfl) ?_
      refine ms_iload_n (pc := 112) S 3 rfl rfl (m_dec e11_least 72 rfl) ?_
      refine ms_grd fun g15 => ?_
      refine ms_iast (pc := 113) S g15 (m_dec e11_least 73 rfl) (fun h16 => ?_)
      refine ms_iload_n (pc := 114) S 3 rfl rfl (m_dec e11_least 74 rfl) ?_
      exact ms_ret (pc := 115) E (m_dec e11_least 75 rfl) rfl
  · intro q0
    subst q0
    rw [if_neg (by decide), if_pos rfl] at e
    refine ms_use ?_ e
    clear e r
    refine ms_iload (pc := 95) S 5 rfl (m_dec e11_least 62 rfl) ?_
    refine ms_iconst (pc := 97) S (m_dec e11_least 63 rfl) ?_
    refine ms_isub (pc := 98) S (m_dec e11_least 64 rfl) ?_
    refine ms_iload (pc := 99) S 4 rfl (m_dec e11_least 65 rfl) ?_
    refine ms_iand (pc := 101) S (m_dec e11_least 66 rfl) ?_
    refine ms_nm (st := fun x1 => [m_i x1]) fun x1 => ?_
    refine ms_istore (pc := 102) S (L' := [(0, m_r v0), (1, m_i v1), (2, m_i v2), (3, m_i v3), (4, m_i v4), (5, m_i x1)]) [1, 2, 3, 4, 5, 0] rfl (m_lt hN rfl) (m_dec e11_least 67 rfl) ?_
    refine ms_goto (pc := 104) S (m_dec e11_least 68 rfl) rfl ?_
    exact ih52 v3 x1 h
set_option maxHeartbeats 4000000 in
set_option maxRecDepth 20000 in
theorem s11_least_c52 {Y : m_Y Int} (S : m_Std Y RX11 cX11_least) (E : m_End Y cX11_least .ireturn (fun r => [m_i r])) {F : Nat} (hF : m_Rm Y F) (hFn : 3 ≤ F) (hN : Y.2.2.2.1 = 6) {K : Int → Int → Int → m_H → Option (Int × m_H)} {FK : Nat} (hK : ∀ (l : Launch) (d : m_D) (v0 v1 v2 : Int) (h : m_H), m_Con l d yX11_least cX11_least 6 (some .int) FK (fun r => [m_i r]) [m_r v0, m_i v1, m_i v2] h (K v0 v1 v2 h)) (hKF : FK + 1 ≤ F) (v0 v1 v2 v3 v4 v5 : Int) (h : m_H) : m_Sim Y 52 [(0, m_r v0), (1, m_i v1), (2, m_i v2), (3, m_i v3), (4, m_i v4), (5, m_i v5)] [] h (t11_least_x52 K 52 v0 v1 v2 v3 v4 v5 h) := ms_all fun r e => (s11_least_x52 S E hF hFn hN hK hKF 52 v0 v1 v2 v3 v4 v5 h r e).1 rfl
set_option maxHeartbeats 4000000 in
set_option maxRecDepth 20000 in
theorem s11_least_c95 {Y : m_Y Int} (S : m_Std Y RX11 cX11_least) (E : m_End Y cX11_least .ireturn (fun r => [m_i r])) {F : Nat} (hF : m_Rm Y F) (hFn : 3 ≤ F) (hN : Y.2.2.2.1 = 6) {K : Int → Int → Int → m_H → Option (Int × m_H)} {FK : Nat} (hK : ∀ (l : Launch) (d : m_D) (v0 v1 v2 : Int) (h : m_H), m_Con l d yX11_least cX11_least 6 (some .int) FK (fun r => [m_i r]) [m_r v0, m_i v1, m_i v2] h (K v0 v1 v2 h)) (hKF : FK + 1 ≤ F) (v0 v1 v2 v3 v4 v5 : Int) (h : m_H) : m_Sim Y 95 [(0, m_r v0), (1, m_i v1), (2, m_i v2), (3, m_i v3), (4, m_i v4), (5, m_i v5)] [] h (t11_least_x52 K 95 v0 v1 v2 v3 v4 v5 h) := ms_all fun r e => (s11_least_x52 S E hF hFn hN hK hKF 95 v0 v1 v2 v3 v4 v5 h r e).2 rfl
set_option maxHeartbeats 4000000 in
set_option maxRecDepth 20000 in
theorem s11_least_b {Y : m_Y Int} (S : m_Std Y RX11 cX11_least) (E : m_End Y cX11_least .ireturn (fun r => [m_i r])) {F : Nat} (hF : m_Rm Y F) (hFn : 3 ≤ F) (hN : Y.2.2.2.1 = 6) {K : Int → Int → Int → m_H → Option (Int × m_H)} {FK : Nat} (hK : ∀ (l : Launch) (d : m_D) (v0 v1 v2 : Int) (h : m_H), m_Con l d yX11_least cX11_least 6 (some .int) FK (fun r => [m_i r]) [m_r v0, m_i v1, m_i v2] h (K v0 v1 v2 h)) (hKF : FK + 1 ≤ F) (v0 v1 v2 : Int) (h : m_H) : m_Sim Y 0 [(0, m_r v0), (1, m_i v1), (2, m_i v2)] [] h (t11_least_b K v0 v1 v2 h) := by
  unfold t11_least_b
  refine ms_iload_n (pc := 0) S 2 rfl rfl (m_dec e11_least 0 rfl) ?_
  refine ms_iconst (pc := 1) S (m_dec e11_least 1 rfl) ?_
  refine ms_aload_n (pc := 2) S 0 rfl rfl (m_dec e11_least 2 rfl) ?_
  refine ms_grd fun g1 => ?_
  refine ms_getf (pc := 3) S lf_X11_544 rfl (m_dec e11_least 3 rfl) g1 ?_
  refine ms_ishl (pc := 6) S (m_dec e11_least 4 rfl) ?_
  refine ms_iconst (pc := 7) S (m_dec e11_least 5 rfl) ?_
  refine ms_isub (pc := 8) S (m_dec e11_least 6 rfl) ?_
  refine ms_icmp_ne (pc := 9) S (m_dec e11_least 7 rfl) rfl (fun q2 => ?_) (fun q2 => ?_)
  · refine ms_iconst (pc := 12) S (m_dec e11_least 8 rfl) ?_
    exact ms_ret (pc := 13) E (m_dec e11_least 9 rfl) rfl
  · refine ms_aload_n (pc := 14) S 0 rfl rfl (m_dec e11_least 10 rfl) ?_
    refine ms_getf (pc := 15) S lf_X11_244 rfl (m_dec e11_least 11 rfl) g1 ?_
    refine ms_iload_n (pc := 18) S 2 rfl rfl (m_dec e11_least 12 rfl) ?_
    refine ms_grd fun g3 => ?_
    refine ms_iald (pc := 19) S g3 (m_dec e11_least 13 rfl) ?_
    refine ms_if_eq (pc := 20) S (m_dec e11_least 14 rfl) rfl (fun q4 => ?_) (fun q4 => ?_)
    · refine ms_sipush (pc := 30) S (m_dec e11_least 20 rfl) rfl ?_
      refine ms_istore_n (pc := 33) S (L' := [(0, m_r v0), (1, m_i v1), (2, m_i v2), (3, m_i 1000)]) [1, 2, 3, 0] rfl rfl (m_lt hN rfl) (m_dec e11_least 21 rfl) ?_
      refine ms_iconst (pc := 34) S (m_dec e11_least 22 rfl) ?_
      refine ms_aload_n (pc := 35) S 0 rfl rfl (m_dec e11_least 23 rfl) ?_
      refine ms_getf (pc := 36) S lf_X11_544 rfl (m_dec e11_least 24 rfl) g1 ?_
      refine ms_ishl (pc := 39) S (m_dec e11_least 25 rfl) ?_
      refine ms_iconst (pc := 40) S (m_dec e11_least 26 rfl) ?_
      refine ms_isub (pc := 41) S (m_dec e11_least 27 rfl) ?_
      refine ms_iload_n (pc := 42) S 2 rfl rfl (m_dec e11_least 28 rfl) ?_
      refine ms_iconst (pc := 43) S (m_dec e11_least 29 rfl) ?_
      refine ms_ixor (pc := 44) S (m_dec e11_least 30 rfl) ?_
      refine ms_iand (pc := 45) S (m_dec e11_least 31 rfl) ?_
      refine ms_nm (st := fun x5 => [m_i x5]) fun x5 => ?_
      refine ms_istore (pc := 46) S (L' := [(0, m_r v0), (1, m_i v1), (2, m_i v2), (3, m_i 1000), (4, m_i x5)]) [1, 2, 3, 4, 0] rfl (m_lt hN rfl) (m_dec e11_least 32 rfl) ?_
      refine ms_iload (pc := 48) S 4 rfl (m_dec e11_least 33 rfl) ?_
      refine ms_istore (pc := 50) S (L' := [(0, m_r v0), (1, m_i v1), (2, m_i v2), (3, m_i 1000), (4, m_i x5), (5, m_i x5)]) [1, 2, 3, 4, 5, 0] rfl (m_lt hN rfl) (m_dec e11_least 34 rfl) ?_
      exact s11_least_c52 S E hF hFn hN hK hKF v0 v1 v2 1000 x5 x5 h
    · refine ms_aload_n (pc := 23) S 0 rfl rfl (m_dec e11_least 15 rfl) ?_
      refine ms_getf (pc := 24) S lf_X11_244 rfl (m_dec e11_least 16 rfl) g1 ?_
      refine ms_iload_n (pc := 27) S 2 rfl rfl (m_dec e11_least 17 rfl) ?_
      refine ms_iald (pc := 28) S g3 (m_dec e11_least 18 rfl) ?_
      exact ms_ret (pc := 29) E (m_dec e11_least 19 rfl) rfl
theorem k11_least_D : ∀ (k : Nat) (l : Launch) (d : m_D) (v0 v1 v2 : Int) (h : m_H), m_Con l d yX11_least cX11_least 6 (some .int) (3 + k) (fun r => [m_i r]) [m_r v0, m_i v1, m_i v2] h (t11_least_D k v0 v1 v2 h)
  | 0 => fun l d v0 v1 v2 h X r h2 e => by cases e
  | k + 1 => fun l d v0 v1 v2 h =>
  m_con2 (by decide +kernel) (Nat.le_of_ble_eq_true rfl) (fun Y hN hRm hr hI S hfin => s11_least_b S (m_end_i S hr hfin) hRm (Nat.le_add_right _ _) hN (k11_least_D k) (Nat.le_refl _) v0 v1 v2 h)
theorem k11_least (l : Launch) (d : m_D) (v0 v1 v2 : Int) (h : m_H) : m_Con l d yX11_least cX11_least 6 (some .int) 15 (fun r => [m_i r]) [m_r v0, m_i v1, m_i v2] h (t11_least v0 v1 v2 h) := k11_least_D 12 l d v0 v1 v2 h
