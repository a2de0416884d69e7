/-! the walks of the methods, 7 -/
set_option maxRecDepth 100000 in
theorem e11_plays : ∀ q ∈ ([(0, .aload_n 0, 1), (1, .iload_n 1, 1), (2, .invokevirtual 317, 3), (5, .ifCond .eq 23, 3), (8, .aload_n 0, 1), (9, .iload_n 2, 1), (10, .invokevirtual 336, 3), (13, .ifCond .eq 15, 3), (16, .aload_n 0, 1), (17, .getfield 38, 3), (20, .iload_n 1, 1), (21, .iaload, 1), (22, .sipush 1000, 3), (25, .if_icmp .lt 5, 3), (28, .iconst (-1), 1), (29, .ireturn, 1), (30, .aload_n 0, 1), (31, .getfield 23, 3), (34, .iload_n 1, 1), (35, .iaload, 1), (36, .iload 4, 2), (38, .iload 5, 2), (40, .invokestatic 339, 3), (43, .istore 7, 2), (45, .iload 7, 2), (47, .sipush 300, 3), (50, .if_icmp .gt 13, 3), (53, .aload_n 0, 1), (54, .iconst 1, 1), (55, .iload 7, 2), (57, .invokevirtual 288, 3), (60, .ifCond .ne 5, 3), (63, .iconst (-1), 1), (64, .ireturn, 1), (65, .aload_n 0, 1), (66, .iload_n 3, 1), (67, .iload_n 1, 1), (68, .iconst (-1), 1), (69, .iconst 0, 1), (70, .invokevirtual 292, 3), (73, .istore 8, 2), (75, .aload_n 0, 1), (76, .getfield 32, 3), (79, .iload 8, 2), (81, .dup2, 1), (82, .iaload, 1), (83, .iconst 1, 1), (84, .iadd, 1), (85, .iastore, 1), (86, .aload_n 0, 1), (87, .getfield 35, 3), (90, .iload 8, 2), (92, .aload_n 0, 1), (93, .getfield 35, 3), (96, .iload 8, 2), (98, .iaload, 1), (99, .aload_n 0, 1), (100, .getfield 62, 3), (103, .iload_n 2, 1), (104, .iaload, 1), (105, .iadd, 1), (106, .sipush 1000, 3), (109, .if_icmp .le 9, 3), (112, .sipush 1000, 3), (115, .goto 17, 3), (118, .aload_n 0, 1), (119, .getfield 35, 3), (122, .iload 8, 2), (124, .iaload, 1), (125, .aload_n 0, 1), (126, .getfield 62, 3), (129, .iload_n 2, 1), (130, .iaload, 1), (131, .iadd, 1), (132, .iastore, 1), (133, .aload_n 0, 1), (134, .getfield 38, 3), (137, .iload 8, 2), (139, .iconst 0, 1), (140, .iastore, 1), (141, .iconst 0, 1), (142, .istore 9, 2), (144, .iload 9, 2), (146, .aload_n 0, 1), (147, .getfield 23, 3), (150, .iload_n 1, 1), (151, .iaload, 1), (152, .if_icmp .ge 23, 3), (155, .aload_n 0, 1), (156, .getfield 77, 3), (159, .iload 9, 2), (161, .aload_n 0, 1), (162, .iload_n 1, 1), (163, .iload 9, 2), (165, .invokevirtual 311, 3), (168, .iastore, 1), (169, .iinc 9 1, 3), (172, .goto (-28), 3), (175, .iconst 0, 1), (176, .istore 9, 2), (178, .iload 9, 2), (180, .iload 7, 2), (182, .if_icmp .ge 43, 3), (185, .aload_n 0, 1), (186, .iload 8, 2), (188, .aload_n 0, 1), (189, .aload_n 0, 1), (190, .getfield 23, 3), (193, .iload_n 1, 1), (194, .iaload, 1), (195, .iload 9, 2), (197, .iload 4, 2), (199, .iload 5, 2), (201, .invokevirtual 343, 3), (204, .i2l, 1), (205, .iload 6, 2), (207, .i2l, 1), (208, .lmul, 1), (209, .ldc2_w 346, 3), (212, .ldiv, 1), (213, .invokestatic 320, 3), (216, .invokevirtual 296, 3), (219, .iinc 9 1, 3), (222, .goto (-44), 3), (225, .aload_n 0, 1), (226, .getfield 38, 3), (229, .iload_n 1, 1), (230, .aload_n 0, 1), (231, .getfield 38, 3), (234, .iload_n 1, 1), (235, .iaload, 1), (236, .aload_n 0, 1), (237, .getfield 65, 3), (240, .iload_n 2, 1), (241, .iaload, 1), (242, .iadd, 1), (243, .sipush 1000, 3), (246, .if_icmp .le 9, 3), (249, .sipush 1000, 3), (252, .goto 16, 3), (255, .aload_n 0, 1), (256, .getfield 38, 3), (259, .iload_n 1, 1), (260, .iaload, 1), (261, .aload_n 0, 1), (262, .getfield 65, 3), (265, .iload_n 2, 1), (266, .iaload, 1), (267, .iadd, 1), (268, .iastore, 1), (269, .iload 8, 2), (271, .ireturn, 1)] : List (Nat × Instr × Nat)), decode cX11_plays q.1 = .ok q.2 := by decide +kernel
set_option maxHeartbeats 4000000 in
set_option maxRecDepth 20000 in
theorem s11_plays_c178 {Y : m_Y Int} (S : m_Std Y RX11 cX11_plays) (E : m_End Y cX11_plays .ireturn (fun r => [m_i r])) {F : Nat} (hF : m_Rm Y F) (hFn : 4 ≤ F) (hN : Y.2.2.2.1 = 10) : ∀ (v0 v1 v2 v4 v5 v6 v7 v8 v9 : Int) (h : m_H), m_Sim Y 178 [(0, m_r v0), (1, m_i v1), (2, m_i v2), (4, m_i v4), (5, m_i v5), (6, m_i v6), (7, m_i v7), (8, m_i v8), (9, m_i v9)] [] h (t11_plays_c178 v0 v1 v2 v4 v5 v6 v7 v8 v9 h) := by
  intro v0 v1 v2 v4 v5 v6 v7 v8 v9 h
  refine ms_all fun r e => ?_
  refine t11_plays_c178.partial_correctness v0 v1 v2 v4 v5 v6 v7 v8 (motive := fun v9 h r => m_Sim Y 178 [(0, m_r v0), (1, m_i v1), (2, m_i v2), (4, m_i v4), (5, m_i v5), (6, m_i v6), (7, m_i v7), (8, m_i v8), (9, m_i v9)] [] h (some r)) ?_ v9 h r e
  intro f ih v9 h r e
  have ih : ∀ (v9 : Int) (h : m_H), m_Sim Y 178 [(0, m_r v0), (1, m_i v1), (2, m_i v2), (4, m_i v4), (5, m_i v5), (6, m_i v6), (7, m_i v7), (8, m_i v8), (9, m_i v9)] [] h (f v9 h ) := fun v9 h  => ms_all fun r e => ih v9 h r e
  refine ms_use ?_ e
  clear e r
  refine ms_iload (pc := 178) S 8 rfl (m_dec e11_plays 100 rfl) ?_
  refine ms_iload (pc := 180) S 6 rfl (m_dec e11_plays 101 rfl) ?_
  refine ms_icmp_ge (pc := 182) S (m_dec e11_plays 102 rfl) rfl (fun q1 => ?_) (fun q1 => ?_)
  · refine ms_aload_n (pc := 185) S 0 rfl rfl (m_dec e11_plays 103 rfl) ?_
    refine ms_iload (pc := 186) S 7 rfl (m_dec e11_plays 104 rfl) ?_
    refine ms_aload_n (pc := 188) S 0 rfl rfl (m_dec e11_plays 105 rfl) ?_
    refine ms_aload_n (pc := 189) S 0 rfl rfl (m_dec e11_plays 106 rfl) ?_
    refine ms_grd fun g2 => ?_
    refine ms_getf (pc := 190) S lf_X11_23 rfl (m_dec e11_plays 107 rfl) g2 ?_
    refine ms_iload_n (pc := 193) S 1 rfl rfl (m_dec e11_plays 108 rfl) ?_
    refine ms_grd fun g3 => ?_
    refine ms_iald (pc := 194) S g3 (m_dec e11_plays 109 rfl) ?_
    refine ms_iload (pc := 195) S 8 rfl (m_dec e11_plays 110 rfl) ?_
    refine ms_iload (pc := 197) S 3 rfl (m_dec e11_plays 111 rfl) ?_
    refine ms_iload (pc := 199) S 4 rfl (m_dec e11_plays 112 rfl) ?_
    refine ms_callVi (pc := 201) S hF (vals := [m_i (m_g h (m_g h v0 3) (m_w v1)), m_i v9, m_i v4, m_i v5]) (st := [m_i v8, m_r v0]) (hc := vw_11) (hci := by decide) (hcy := rfl) (ht := g2) (hC := (k11_sampleAt _ _ v0 (m_g h (m_g h v0 3) (m_w v1)) v9 v4 v5 h)) (hM := lm_X11_343) (hfr := (Nat.le_trans (by decide) hFn)) (hstk := rfl) (hcat := Nat.le_of_ble_eq_true rfl) (hd := (m_dec e11_plays 113 rfl)) (k1 := fun r5 h4 => ?_)
    refine ms_i2l (pc := 204) S (m_dec e11_plays 114 rfl) ?_
    refine ms_iload (pc := 205) S 5 rfl (m_dec e11_plays 115 rfl) ?_
    refine ms_i2l (pc := 207) S (m_dec e11_plays 116 rfl) ?_
    refine ms_lmul (pc := 208) S (m_dec e11_plays 117 rfl) ?_
    refine ms_ldc2 (pc := 209) S (n := 64) w_1877 (m_dec e11_plays 118 rfl) ?_
    refine ms_ldivN (pc := 212) S (by decide) (m_dec e11_plays 119 rfl) ?_
    refine ms_callSi (pc := 213) S hF (vals := [m_j (Int.tdiv (m_v ((m_w r5) * (m_w v6))) 64)]) (st := [m_i v8, m_r v0])  (hC := (k11_bounded _ _ (Int.tdiv (m_v ((m_w r5) * (m_w v6))) 64) h4)) (hM := lm_X11_320) (hfr := (Nat.le_trans (by decide) hFn)) (hstk := rfl) (hcat := Nat.le_of_ble_eq_true rfl) (hd := (m_dec e11_plays 120 rfl)) (k1 := fun r7 h6 => ?_)
    refine ms_grd fun g8 => ?_
    refine ms_callVv (pc := 216) S hF (vals := [m_i v8, m_i r7]) (st := []) (hc := vw_11) (hci := by decide) (hcy := rfl) (ht := g8) (hC := (k11_adds _ _ v0 v8 r7 h6)) (hM := lm_X11_296) (hfr := (Nat.le_trans (by decide) hFn)) (hstk := rfl) (hcat := Nat.le_of_ble_eq_true rfl) (hd := (m_dec e11_plays 121 rfl)) (k1 := fun h9 => ?_)
    refine ms_iinc (pc := 219) S (L' := [(0, m_r v0), (1, m_i v1), (2, m_i v2), (4, m_i v4), (5, m_i v5), (6, m_i v6), (7, m_i v7), (8, m_i v8), (9, m_i (v9 + 1))]) 8 rfl [1, 2, 3, 4, 5, 6, 7, 8, 0] rfl (m_lt hN rfl) (m_dec e11_plays 122 rfl) ?_
    refine ms_goto (pc := 222) S (m_dec e11_plays 123 rfl) rfl ?_
    exact ih (v9 + 1) h9
  · refine ms_aload_n (pc := 225) S 0 rfl rfl (m_dec e11_plays 124 rfl) ?_
    refine ms_grd fun g11 => ?_
    refine ms_getf (pc := 226) S lf_X11_38 rfl (m_dec e11_plays 125 rfl) g11 ?_
    refine ms_iload_n (pc := 229) S 1 rfl rfl (m_dec e11_plays 126 rfl) ?_
    refine ms_aload_n (pc := 230) S 0 rfl rfl (m_dec e11_plays 127 rfl) ?_
    refine ms_getf (pc := 231) S lf_X11_38 rfl (m_dec e11_plays 128 rfl) g11 ?_
    refine ms_iload_n (pc := 234) S 1 rfl rfl (m_dec e11_plays 129 rfl) ?_
    refine ms_grd fun g12 => ?_
    refine ms_iald (pc := 235) S g12 (m_dec e11_plays 130 rfl) ?_
    refine ms_aload_n (pc := 236) S 0 rfl rfl (m_dec e11_plays 131 rfl) ?_
    refine ms_getf (pc := 237) S lf_X11_65 rfl (m_dec e11_plays 132 rfl) g11 ?_
    refine ms_iload_n (pc := 240) S 2 rfl rfl (m_dec e11_plays 133 rfl) ?_
    refine ms_grd fun g13 => ?_
    refine ms_iald (pc := 241) S g13 (m_dec e11_plays 134 rfl) ?_
    refine ms_iadd (pc := 242) S (m_dec e11_plays 135 rfl) ?_
    refine ms_sipush (pc := 243) S (m_dec e11_plays 136 rfl) rfl ?_
    refine ms_icmp_le (pc := 246) S (m_dec e11_plays 137 rfl) rfl (fun q14 => ?_) (fun q14 => ?_)
    · refine ms_sipush (pc := 249) S (m_dec e11_plays 138 rfl) rfl ?_
      refine ms_goto (pc := 252) S (m_dec e11_plays 139 rfl) rfl ?_
      refine ms_iast (pc := 268) S g12 (m_dec e11_plays 149 rfl) (fun h15 => ?_)
      refine ms_iload (pc := 269) S 7 rfl (m_dec e11_plays 150 rfl) ?_
      exact ms_ret (pc := 271) E (m_dec e11_plays 151 rfl) rfl
    · refine ms_aload_n (pc := 255) S 0 rfl rfl (m_dec e11_plays 140 rfl) ?_
      refine ms_getf (pc := 256) S lf_X11_38 rfl (m_dec e11_plays 141 rfl) g11 ?_
      refine ms_iload_n (pc := 259) S 1 rfl rfl (m_dec e11_plays 142 rfl) ?_
      refine ms_iald (pc := 260) S g12 (m_dec e11_plays 143 rfl) ?_
      refine ms_aload_n (pc := 261) S 0 rfl rfl (m_dec e11_plays 144 rfl) ?_
      refine ms_getf (pc := 262) S lf_X11_65 rfl (m_dec e11_plays 145 rfl) g11 ?_
      refine ms_iload_n (pc := 265) S 2 rfl rfl (m_dec e11_plays 146 rfl) ?_
      refine ms_iald (pc := 266) S g13 (m_dec e11_plays 147 rfl) ?_
      refine ms_iadd (pc := 267) S (m_dec e11_plays 148 rfl) ?_
      refine ms_iast (pc := 268) S g12 (m_dec e11_plays 149 rfl) (fun h16 => ?_)
      refine ms_iload (pc := 269) S 7 rfl (m_dec e11_plays 150 rfl) ?_
      exact ms_ret (pc := 271) E (m_dec e11_plays 151 rfl) rfl
set_option maxHeartbeats 4000000 in
set_option maxRecDepth 20000 in
theorem s11_plays_c144 {Y : m_Y Int} (S : m_Std Y RX11 cX11_plays) (E : m_End Y cX11_plays .ireturn (fun r => [m_i r])) {F : Nat} (hF : m_Rm Y F) (hFn : 4 ≤ F) (hN : Y.2.2.2.1 = 10) : ∀ (v0 v1 v2 v4 v5 v6 v7 v8 v9 : Int) (h : m_H), m_Sim Y 144 [(0, m_r v0), (1, m_i v1), (2, m_i v2), (4, m_i v4), (5, m_i v5), (6, m_i v6), (7, m_i v7), (8, m_i v8), (9, m_i v9)] [] h (t11_plays_c144 v0 v1 v2 v4 v5 v6 v7 v8 v9 h) := by
  intro v0 v1 v2 v4 v5 v6 v7 v8 v9 h
  refine ms_all fun r e => ?_
  refine t11_plays_c144.partial_correctness v0 v1 v2 v4 v5 v6 v7 v8 (motive := fun v9 h r => m_Sim Y 144 [(0, m_r v0), (1, m_i v1), (2, m_i v2), (4, m_i v4), (5, m_i v5), (6, m_i v6), (7, m_i v7), (8, m_i v8), (9, m_i v9)] [] h (some r)) ?_ v9 h r e
  intro f ih v9 h r e
  have ih : ∀ (v9 : Int) (h : m_H), m_Sim Y 144 [(0, m_r v0), (1, m_i v1), (2, m_i v2), (4, m_i v4), (5, m_i v5), (6, m_i v6), (7, m_i v7), (8, m_i v8), (9, m_i v9)] [] h (f v9 h ) := fun v9 h  => ms_all fun r e => ih v9 h r e
  refine ms_use ?_ e
  clear e r
  refine ms_iload (pc := 144) S 8 rfl (m_dec e11_plays 82 rfl) ?_
  refine ms_aload_n (pc := 146) S 0 rfl rfl (m_dec e11_plays 83 rfl) ?_
  refine ms_grd fun g1 => ?_
  refine ms_getf (pc := 147) S lf_X11_23 rfl (m_dec e11_plays 84 rfl) g1 ?_
  refine ms_iload_n (pc := 150) S 1 rfl rfl (m_dec e11_plays 85 rfl) ?_
  refine ms_grd fun g2 => ?_
  refine ms_iald (pc := 151) S g2 (m_dec e11_plays 86 rfl) ?_
  refine ms_icmp_ge (pc := 152) S (m_dec e11_plays 87 rfl) rfl (fun q3 => ?_) (fun q3 => ?_)
  · refine ms_aload_n (pc := 155) S 0 rfl rfl (m_dec e11_plays 88 rfl) ?_
    refine ms_getf (pc := 156) S lf_X11_77 rfl (m_dec e11_plays 89 rfl) g1 ?_
    refine ms_iload (pc := 159) S 8 rfl (m_dec e11_plays 90 rfl) ?_
    refine ms_aload_n (pc := 161) S 0 rfl rfl (m_dec e11_plays 91 rfl) ?_
    refine ms_iload_n (pc := 162) S 1 rfl rfl (m_dec e11_plays 92 rfl) ?_
    refine ms_iload (pc := 163) S 8 rfl (m_dec e11_plays 93 rfl) ?_
    refine ms_callVi (pc := 165) S hF (vals := [m_i v1, m_i v9]) (st := [m_i v9, m_r (m_g h v0 28)]) (hc := vw_11) (hci := by decide) (hcy := rfl) (ht := g1) (hC := (k11_at _ _ v0 v1 v9 h)) (hM := lm_X11_311) (hfr := (Nat.le_trans (by decide) hFn)) (hstk := rfl) (hcat := Nat.le_of_ble_eq_true rfl) (hd := (m_dec e11_plays 94 rfl)) (k1 := fun r5 h4 => ?_)
    refine ms_grd fun g6 => ?_
    refine ms_iast (pc := 168) S g6 (m_dec e11_plays 95 rfl) (fun h7 => ?_)
    refine ms_iinc (pc := 169) S (L' := [(0, m_r v0), (1, m_i v1), (2, m_i v2), (4, m_i v4), (5, m_i v5), (6, m_i v6), (7, m_i v7), (8, m_i v8), (9, m_i (v9 + 1))]) 8 rfl [1, 2, 3, 4, 5, 6, 7, 8, 0] rfl (m_lt hN rfl) (m_dec e11_plays 96 rfl) ?_
    refine ms_goto (pc := 172) S (m_dec e11_plays 97 rfl) rfl ?_
    exact ih (v9 + 1) h7
  · refine ms_iconst (pc := 175) S (m_dec e11_plays 98 rfl) ?_
    refine ms_istore (pc := 176) S (L' := [(0, m_r v0), (1, m_i v1), (2, m_i v2), (4, m_i v4), (5, m_i v5), (6, m_i v6), (7, m_i v7), (8, m_i v8), (9, m_i 0)]) [1, 2, 3, 4, 5, 6, 7, 8, 0] rfl (m_lt hN rfl) (m_dec e11_plays 99 rfl) ?_
    exact s11_plays_c178 S E hF hFn hN v0 v1 v2 v4 v5 v6 v7 v8 0 h
set_option maxHeartbeats 4000000 in
set_option maxRecDepth 20000 in
theorem s11_plays_c132 {Y : m_Y Int} (S : m_Std Y RX11 cX11_plays) (E : m_End Y cX11_plays .ireturn (fun r => [m_i r])) {F : Nat} (hF : m_Rm Y F) (hFn : 4 ≤ F) (hN : Y.2.2.2.1 = 10) (v0 v1 v2 v4 v5 v6 v7 v8 s0 s1 s2 : Int) (h : m_H) : m_Sim Y 132 [(0, m_r v0), (1, m_i v1), (2, m_i v2), (4, m_i v4), (5, m_i v5), (6, m_i v6), (7, m_i v7), (8, m_i v8)] [m_i s2, m_i s1, m_r s0] h (t11_plays_c132 v0 v1 v2 v4 v5 v6 v7 v8 s0 s1 s2 h) := by
  unfold t11_plays_c132
  refine ms_grd fun g1 => ?_
  refine ms_iast (pc := 132) S g1 (m_dec e11_plays 74 rfl) (fun h2 => ?_)
  refine ms_aload_n (pc := 133) S 0 rfl rfl (m_dec e11_plays 75 rfl) ?_
  refine ms_grd fun g3 => ?_
  refine ms_getf (pc := 134) S lf_X11_38 rfl (m_dec e11_plays 76 rfl) g3 ?_
  refine ms_iload (pc := 137) S 7 rfl (m_dec e11_plays 77 rfl) ?_
  refine ms_iconst (pc := 139) S (m_dec e11_plays 78 rfl) ?_
  refine ms_grd fun g4 => ?_
  refine ms_iast (pc := 140) S g4 (m_dec e11_plays 79 rfl) (fun h5 => ?_)
  refine ms_iconst (pc := 141) S (m_dec e11_plays 80 rfl) ?_
  refine ms_istore (pc := 142) S (L' := [(0, m_r v0), (1, m_i v1), (2, m_i v2), (4, m_i v4), (5, m_i v5), (6, m_i v6), (7, m_i v7), (8, m_i v8), (9, m_i 0)]) [1, 2, 3, 4, 5, 6, 7, 8, 0] rfl (m_lt hN rfl) (m_dec e11_plays 81 rfl) ?_
  exact s11_plays_c144 S E hF hFn hN v0 v1 v2 v4 v5 v6 v7 v8 0 h5
set_option maxHeartbeats 4000000 in
set_option maxRecDepth 20000 in
theorem s11_plays {Y : m_Y Int} (S : m_Std Y RX11 cX11_plays) (E : m_End Y cX11_plays .ireturn (fun r => [m_i r])) {F : Nat} (hF : m_Rm Y F) (hFn : 4 ≤ F) (hN : Y.2.2.2.1 = 10) (v0 v1 v2 v3 v4 v5 v6 : Int) (h : m_H) : m_Sim Y 0 [(0, m_r v0), (1, m_i v1), (2, m_i v2), (3, m_i v3), (4, m_i v4), (5, m_i v5), (6, m_i v6)] [] h (t11_plays v0 v1 v2 v3 v4 v5 v6 h) := by
  unfold t11_plays
  refine ms_aload_n (pc := 0) S 0 rfl rfl (m_dec e11_plays 0 rfl) ?_
  refine ms_iload_n (pc := 1) S 1 rfl rfl (m_dec e11_plays 1 rfl) ?_
  refine ms_grd fun g1 => ?_
  refine ms_callVz (pc := 2) S hF (vals := [m_i v1]) (st := []) (hc := vw_11) (hci := by decide) (hcy := rfl) (ht := g1) (hC := (k11_isPlain _ _ v0 v1 h)) (hM := lm_X11_317) (hfr := (Nat.le_trans (by decide) hFn)) (hstk := rfl) (hcat := Nat.le_of_ble_eq_true rfl) (hd := (m_dec e11_plays 2 rfl)) (k1 := fun r3 h2 => ?_)
  refine ms_ifb_eq (pc := 5) S (m_dec e11_plays 3 rfl) rfl (fun q4 => ?_) (fun q4 => ?_)
  · refine ms_aload_n (pc := 8) S 0 rfl rfl (m_dec e11_plays 4 rfl) ?_
    refine ms_iload_n (pc := 9) S 2 rfl rfl (m_dec e11_plays 5 rfl) ?_
    refine ms_grd fun g5 => ?_
    refine ms_callVz (pc := 10) S hF (vals := [m_i v2]) (st := []) (hc := vw_11) (hci := by decide) (hcy := rfl) (ht := g5) (hC := (k11_isMachine _ _ v0 v2 h2)) (hM := lm_X11_336) (hfr := (Nat.le_trans (by decide) hFn)) (hstk := rfl) (hcat := Nat.le_of_ble_eq_true rfl) (hd := (m_dec e11_plays 6 rfl)) (k1 := fun r7 h6 => ?_)
    refine ms_ifb_eq (pc := 13) S (m_dec e11_plays 7 rfl) rfl (fun q8 => ?_) (fun q8 => ?_)
    · refine ms_aload_n (pc := 16) S 0 rfl rfl (m_dec e11_plays 8 rfl) ?_
      refine ms_grd fun g9 => ?_
      refine ms_getf (pc := 17) S lf_X11_38 rfl (m_dec e11_plays 9 rfl) g9 ?_
      refine ms_iload_n (pc := 20) S 1 rfl rfl (m_dec e11_plays 10 rfl) ?_
      refine ms_grd fun g10 => ?_
      refine ms_iald (pc := 21) S g10 (m_dec e11_plays 11 rfl) ?_
      refine ms_sipush (pc := 22) S (m_dec e11_plays 12 rfl) rfl ?_
      refine ms_icmp_lt (pc := 25) S (m_dec e11_plays 13 rfl) rfl (fun q11 => ?_) (fun q11 => ?_)
      · refine ms_aload_n (pc := 30) S 0 rfl rfl (m_dec e11_plays 16 rfl) ?_
        refine ms_getf (pc := 31) S lf_X11_23 rfl (m_dec e11_plays 17 rfl) g9 ?_
        refine ms_iload_n (pc := 34) S 1 rfl rfl (m_dec e11_plays 18 rfl) ?_
        refine ms_grd fun g12 => ?_
        refine ms_iald (pc := 35) S g12 (m_dec e11_plays 19 rfl) ?_
        refine ms_iload (pc := 36) S 4 rfl (m_dec e11_plays 20 rfl) ?_
        refine ms_iload (pc := 38) S 5 rfl (m_dec e11_plays 21 rfl) ?_
        refine ms_callSi (pc := 40) S hF (vals := [m_i (m_g h6 (m_g h6 v0 3) (m_w v1)), m_i v4, m_i v5]) (st := [])  (hC := (k11_longAt _ _ (m_g h6 (m_g h6 v0 3) (m_w v1)) v4 v5 h6)) (hM := lm_X11_339) (hfr := (Nat.le_trans (by decide) hFn)) (hstk := rfl) (hcat := Nat.le_of_ble_eq_true rfl) (hd := (m_dec e11_plays 22 rfl)) (k1 := fun r14 h13 => ?_)
        refine ms_istore (pc := 43) S (L' := [(0, m_r v0), (1, m_i v1), (2, m_i v2), (3, m_i v3), (4, m_i v4), (5, m_i v5), (6, m_i v6), (7, m_i r14)]) [1, 2, 3, 4, 5, 6, 7, 0] rfl (m_lt hN rfl) (m_dec e11_plays 23 rfl) ?_
        refine ms_iload (pc := 45) S 7 rfl (m_dec e11_plays 24 rfl) ?_
        refine ms_sipush (pc := 47) S (m_dec e11_plays 25 rfl) rfl ?_
        refine ms_icmp_gt (pc := 50) S (m_dec e11_plays 26 rfl) rfl (fun q15 => ?_) (fun q15 => ?_)
        · refine ms_iconst (pc := 63) S (m_dec e11_plays 32 rfl) ?_
          exact ms_ret (pc := 64) E (m_dec e11_plays 33 rfl) rfl
        · refine ms_aload_n (pc := 53) S 0 rfl rfl (m_dec e11_plays 27 rfl) ?_
          refine ms_iconst (pc := 54) S (m_dec e11_plays 28 rfl) ?_
          refine ms_iload (pc := 55) S 7 rfl (m_dec e11_plays 29 rfl) ?_
          refine ms_grd fun g16 => ?_
          refine ms_callVz (pc := 57) S hF (vals := [m_i 1, m_i r14]) (st := []) (hc := vw_11) (hci := by decide) (hcy := rfl) (ht := g16) (hC := (k11_isRoom _ _ v0 1 r14 h13)) (hM := lm_X11_288) (hfr := (Nat.le_trans (by decide) hFn)) (hstk := rfl) (hcat := Nat.le_of_ble_eq_true rfl) (hd := (m_dec e11_plays 30 rfl)) (k1 := fun r18 h17 => ?_)
          refine ms_ifb_ne (pc := 60) S (m_dec e11_plays 31 rfl) rfl (fun q19 => ?_) (fun q19 => ?_)
          · refine ms_aload_n (pc := 65) S 0 rfl rfl (m_dec e11_plays 34 rfl) ?_
            refine ms_iload_n (pc := 66) S 3 rfl rfl (m_dec e11_plays 35 rfl) ?_
            refine ms_iload_n (pc := 67) S 1 rfl rfl (m_dec e11_plays 36 rfl) ?_
            refine ms_iconst (pc := 68) S (m_dec e11_plays 37 rfl) ?_
            refine ms_iconst (pc := 69) S (m_dec e11_plays 38 rfl) ?_
            refine ms_grd fun g20 => ?_
            refine ms_callVi (pc := 70) S hF (vals := [m_i v3, m_i v1, m_i (-1), m_i 0]) (st := []) (hc := vw_11) (hci := by decide) (hcy := rfl) (ht := g20) (hC := (k11_comes _ _ v0 v3 v1 (-1) 0 h17)) (hM := lm_X11_292) (hfr := (Nat.le_trans (by decide) hFn)) (hstk := rfl) (hcat := Nat.le_of_ble_eq_true rfl) (hd := (m_dec e11_plays 39 rfl)) (k1 := fun r22 h21 => ?_)
            refine ms_istore (pc := 73) S (L' := [(0, m_r v0), (1, m_i v1), (2, m_i v2), (4, m_i v4), (5, m_i v5), (6, m_i v6), (7, m_i r14), (8, m_i r22)]) [1, 2, 3, 5, 6, 7, 8, 0] rfl (m_lt hN rfl) (m_dec e11_plays 40 rfl) ?_
            refine ms_aload_n (pc := 75) S 0 rfl rfl (m_dec e11_plays 41 rfl) ?_
            refine ms_grd fun g23 => ?_
            refine ms_getf (pc := 76) S lf_X11_32 rfl (m_dec e11_plays 42 rfl) g23 ?_
            refine ms_iload (pc := 79) S 7 rfl (m_dec e11_plays 43 rfl) ?_
            refine ms_dup2 (pc := 81) S rfl rfl (m_dec e11_plays 44 rfl) ?_
            refine ms_grd fun g24 => ?_
            refine ms_iald (pc := 82) S g24 (m_dec e11_plays 45 rfl) ?_
            refine ms_iconst (pc := 83) S (m_dec e11_plays 46 rfl) ?_
            refine ms_iadd (pc := 84) S (m_dec e11_plays 47 rfl) ?_
            refine ms_iast (pc := 85) S g24 (m_dec e11_plays 48 rfl) (fun h25 => ?_)
            refine ms_aload_n (pc := 86) S 0 rfl rfl (m_dec e11_plays 49 rfl) ?_
            refine ms_grd fun g26 => ?_
            refine ms_getf (pc := 87) S lf_X11_35 rfl (m_dec e11_plays 50 rfl) g26 ?_
            refine ms_iload (pc := 90) S 7 rfl (m_dec e11_plays 51 rfl) ?_
            refine ms_aload_n (pc := 92) S 0 rfl rfl (m_dec e11_plays 52 rfl) ?_
            refine ms_getf (pc := 93) S lf_X11_35 rfl (m_dec e11_plays 53 rfl) g26 ?_
            refine ms_iload (pc := 96) S 7 rfl (m_dec e11_plays 54 rfl) ?_
            refine ms_grd fun g27 => ?_
            refine ms_iald (pc := 98) S g27 (m_dec e11_plays 55 rfl) ?_
            refine ms_aload_n (pc := 99) S 0 rfl rfl (m_dec e11_plays 56 rfl) ?_
            refine ms_getf (pc := 100) S lf_X11_62 rfl (m_dec e11_plays 57 rfl) g26 ?_
            refine ms_iload_n (pc := 103) S 2 rfl rfl (m_dec e11_plays 58 rfl) ?_
            refine ms_grd fun g28 => ?_
            refine ms_iald (pc := 104) S g28 (m_dec e11_plays 59 rfl) ?_
            refine ms_iadd (pc := 105) S (m_dec e11_plays 60 rfl) ?_
            refine ms_sipush (pc := 106) S (m_dec e11_plays 61 rfl) rfl ?_
            refine ms_icmp_le (pc := 109) S (m_dec e11_plays 62 rfl) rfl (fun q29 => ?_) (fun q29 => ?_)
            · refine ms_sipush (pc := 112) S (m_dec e11_plays 63 rfl) rfl ?_
              refine ms_goto (pc := 115) S (m_dec e11_plays 64 rfl) rfl ?_
              exact s11_plays_c132 S E hF hFn hN v0 v1 v2 v4 v5 v6 r14 r22 (m_g h25 v0 7) r22 1000 h25
            · refine ms_aload_n (pc := 118) S 0 rfl rfl (m_dec e11_plays 65 rfl) ?_
              refine ms_getf (pc := 119) S lf_X11_35 rfl (m_dec e11_plays 66 rfl) g26 ?_
              refine ms_iload (pc := 122) S 7 rfl (m_dec e11_plays 67 rfl) ?_
              refine ms_iald (pc := 124) S g27 (m_dec e11_plays 68 rfl) ?_
              refine ms_aload_n (pc := 125) S 0 rfl rfl (m_dec e11_plays 69 rfl) ?_
              refine ms_getf (pc := 126) S lf_X11_62 rfl (m_dec e11_plays 70 rfl) g26 ?_
              refine ms_iload_n (pc := 129) S 2 rfl rfl (m_dec e11_plays 71 rfl) ?_
              refine ms_iald (pc := 130) S g28 (m_dec e11_plays 72 rfl) ?_
              refine ms_iadd (pc := 131) S (m_dec e11_plays 73 rfl) ?_
              exact s11_plays_c132 S E hF hFn hN v0 v1 v2 v4 v5 v6 r14 r22 (m_g h25 v0 7) r22 ((m_g h25 (m_g h25 v0 7) (m_w r22)) + (m_g h25 (m_g h25 v0 21) (m_w v2))) h25
          · refine ms_iconst (pc := 63) S (m_dec e11_plays 32 rfl) ?_
            exact ms_ret (pc := 64) E (m_dec e11_plays 33 rfl) rfl
      · refine ms_iconst (pc := 28) S (m_dec e11_plays 14 rfl) ?_
        exact ms_ret (pc := 29) E (m_dec e11_plays 15 rfl) rfl
    · refine ms_iconst (pc := 28) S (m_dec e11_plays 14 rfl) ?_
      exact ms_ret (pc := 29) E (m_dec e11_plays 15 rfl) rfl
  · refine ms_iconst (pc := 28) S (m_dec e11_plays 14 rfl) ?_
    exact ms_ret (pc := 29) E (m_dec e11_plays 15 rfl) rfl
theorem k11_plays (l : Launch) (d : m_D) (v0 v1 v2 v3 v4 v5 v6 : Int) (h : m_H) : m_Con l d yX11_plays cX11_plays 10 (some .int) 4 (fun r => [m_i r]) [m_r v0, m_i v1, m_i v2, m_i v3, m_i v4, m_i v5, m_i v6] h (t11_plays v0 v1 v2 v3 v4 v5 v6 h) :=
  m_con2 (by decide +kernel) (Nat.le_of_ble_eq_true rfl) (fun Y hN hRm hr hI S hfin => s11_plays S (m_end_i S hr hfin) hRm (Nat.le_refl _) hN v0 v1 v2 v3 v4 v5 v6 h)
set_option maxRecDepth 100000 in
theorem e11_copy : ∀ q ∈ ([(0, .aload_n 0, 1), (1, .iload_n 2, 1), (2, .invokevirtual 336, 3), (5, .ifCond .eq 32, 3), (8, .aload_n 0, 1), (9, .iload_n 1, 1), (10, .iload_n 2, 1), (11, .iconst 5, 1), (12, .sipush 1000, 3), (15, .aload_n 0, 1), (16, .getfield 56, 3), (19, .iload_n 2, 1), (20, .iaload, 1), (21, .iadd, 1), (22, .sipush 1000, 3), (25, .aload_n 0, 1), (26, .getfield 59, 3), (29, .iload_n 2, 1), (30, .iaload, 1), (31, .invokevirtual 348, 3), (34, .goto 4, 3), (37, .iconst (-1), 1), (38, .ireturn, 1)] : List (Nat × Instr × Nat)), decode cX11_copy q.1 = .ok q.2 := by decide +kernel
set_option maxHeartbeats 4000000 in
set_option maxRecDepth 20000 in
theorem s11_copy {Y : m_Y Int} (S : m_Std Y RX11 cX11_copy) (E : m_End Y cX11_copy .ireturn (fun r => [m_i r])) {F : Nat} (hF : m_Rm Y F) (hFn : 5 ≤ F) (hN : Y.2.2.2.1 = 3) (v0 v1 v2 : Int) (h : m_H) : m_Sim Y 0 [(0, m_r v0), (1, m_i v1), (2, m_i v2)] [] h (t11_copy v0 v1 v2 h) := by
  unfold t11_copy
  refine ms_aload_n (pc := 0) S 0 rfl rfl (m_dec e11_copy 0 rfl) ?_
  refine ms_iload_n (pc := 1) S 2 rfl rfl (m_dec e11_copy 1 rfl) ?_
  refine ms_grd fun g1 => ?_
  refine ms_callVz (pc := 2) S hF (vals := [m_i v2]) (st := []) (hc := vw_11) (hci := by decide) (hcy := rfl) (ht := g1) (hC := (k11_isMachine _ _ v0 v2 h)) (hM := lm_X11_336) (hfr := (Nat.le_trans (by decide) hFn)) (hstk := rfl) (hcat := Nat.le_of_ble_eq_true rfl) (hd := (m_dec e11_copy 2 rfl)) (k1 := fun r3 h2 => ?_)
  refine ms_ifb_eq (pc := 5) S (m_dec e11_copy 3 rfl) rfl (fun q4 => ?_) (fun q4 => ?_)
  · refine ms_aload_n (pc := 8) S 0 rfl rfl (m_dec e11_copy 4 rfl) ?_
    refine ms_iload_n (pc := 9) S 1 rfl rfl (m_dec e11_copy 5 rfl) ?_
    refine ms_iload_n (pc := 10) S 2 rfl rfl (m_dec e11_copy 6 rfl) ?_
    refine ms_iconst (pc := 11) S (m_dec e11_copy 7 rfl) ?_
    refine ms_sipush (pc := 12) S (m_dec e11_copy 8 rfl) rfl ?_
    refine ms_aload_n (pc := 15) S 0 rfl rfl (m_dec e11_copy 9 rfl) ?_
    refine ms_grd fun g5 => ?_
    refine ms_getf (pc := 16) S lf_X11_56 rfl (m_dec e11_copy 10 rfl) g5 ?_
    refine ms_iload_n (pc := 19) S 2 rfl rfl (m_dec e11_copy 11 rfl) ?_
    refine ms_grd fun g6 => ?_
    refine ms_iald (pc := 20) S g6 (m_dec e11_copy 12 rfl) ?_
    refine ms_iadd (pc := 21) S (m_dec e11_copy 13 rfl) ?_
    refine ms_sipush (pc := 22) S (m_dec e11_copy 14 rfl) rfl ?_
    refine ms_aload_n (pc := 25) S 0 rfl rfl (m_dec e11_copy 15 rfl) ?_
    refine ms_getf (pc := 26) S lf_X11_59 rfl (m_dec e11_copy 16 rfl) g5 ?_
    refine ms_iload_n (pc := 29) S 2 rfl rfl (m_dec e11_copy 17 rfl) ?_
    refine ms_grd fun g7 => ?_
    refine ms_iald (pc := 30) S g7 (m_dec e11_copy 18 rfl) ?_
    refine ms_callVi (pc := 31) S hF (vals := [m_i v1, m_i v2, m_i 5, m_i (1000 + (m_g h2 (m_g h2 v0 19) (m_w v2))), m_i 1000, m_i (m_g h2 (m_g h2 v0 20) (m_w v2))]) (st := []) (hc := vw_11) (hci := by decide) (hcy := rfl) (ht := g5) (hC := (k11_plays _ _ v0 v1 v2 5 (1000 + (m_g h2 (m_g h2 v0 19) (m_w v2))) 1000 (m_g h2 (m_g h2 v0 20) (m_w v2)) h2)) (hM := lm_X11_348) (hfr := (Nat.le_trans (by decide) hFn)) (hstk := rfl) (hcat := Nat.le_of_ble_eq_true rfl) (hd := (m_dec e11_copy 19 rfl)) (k1 := fun r9 h8 => ?_)
    refine ms_goto (pc := 34) S (m_dec e11_copy 20 rfl) rfl ?_
    exact ms_ret (pc := 38) E (m_dec e11_copy 22 rfl) rfl
  · refine ms_iconst (pc := 37) S (m_dec e11_copy 21 rfl) ?_
    exact ms_ret (pc := 38) E (m_dec e11_copy 22 rfl) rfl
theorem k11_copy (l : Launch) (d : m_D) (v0 v1 v2 : Int) (h : m_H) : m_Con l d yX11_copy cX11_copy 3 (some .int) 5 (fun r => [m_i r]) [m_r v0, m_i v1, m_i v2] h (t11_copy v0 v1 v2 h) :=
  m_con2 (by decide +kernel) (Nat.le_of_ble_eq_true rfl) (fun Y hN hRm hr hI S hfin => s11_copy S (m_end_i S hr hfin) hRm (Nat.le_refl _) hN v0 v1 v2 h)
set_option maxRecDepth 100000 in
theorem e11_speed : ∀ q ∈ ([(0, .iload_n 3, 1), (1, .i2l, 1), (2, .lconst 1, 1), (3, .ldc2_w 352, 3), (6, .invokestatic 268, 3), (9, .ifCond .eq 32, 3), (12, .iload 4, 2), (14, .i2l, 1), (15, .lconst 1, 1), (16, .ldc2_w 352, 3), (19, .invokestatic 268, 3), (22, .ifCond .eq 19, 3), (25, .aload_n 0, 1), (26, .iload_n 1, 1), (27, .iload_n 2, 1), (28, .bipush 6, 2), (30, .iload_n 3, 1), (31, .iload 4, 2), (33, .bipush 64, 2), (35, .invokevirtual 348, 3), (38, .goto 4, 3), (41, .iconst (-1), 1), (42, .ireturn, 1)] : List (Nat × Instr × Nat)), decode cX11_speed q.1 = .ok q.2 := by decide +kernel
set_option maxHeartbeats 4000000 in
set_option maxRecDepth 20000 in
theorem s11_speed {Y : m_Y Int} (S : m_Std Y RX11 cX11_speed) (E : m_End Y cX11_speed .ireturn (fun r => [m_i r])) {F : Nat} (hF : m_Rm Y F) (hFn : 5 ≤ F) (hN : Y.2.2.2.1 = 5) (v0 v1 v2 v3 v4 : Int) (h : m_H) : m_Sim Y 0 [(0, m_r v0), (1, m_i v1), (2, m_i v2), (3, m_i v3), (4, m_i v4)] [] h (t11_speed v0 v1 v2 v3 v4 h) := by
  unfold t11_speed
  refine ms_iload_n (pc := 0) S 3 rfl rfl (m_dec e11_speed 0 rfl) ?_
  refine ms_i2l (pc := 1) S (m_dec e11_speed 1 rfl) ?_
  refine ms_lconst (pc := 2) S (n := 1) rfl (m_dec e11_speed 2 rfl) ?_
  refine ms_ldc2 (pc := 3) S (n := 8) w_1882 (m_dec e11_speed 3 rfl) ?_
  refine ms_callSz (pc := 6) S hF (vals := [m_j (m_w v3), m_j 1, m_j 8]) (st := [])  (hC := (k11_in _ _ (m_w v3) 1 8 h)) (hM := lm_X11_268) (hfr := (Nat.le_trans (by decide) hFn)) (hstk := rfl) (hcat := Nat.le_of_ble_eq_true rfl) (hd := (m_dec e11_speed 4 rfl)) (k1 := fun r2 h1 => ?_)
  refine ms_ifb_eq (pc := 9) S (m_dec e11_speed 5 rfl) rfl (fun q3 => ?_) (fun q3 => ?_)
  · refine ms_iload (pc := 12) S 4 rfl (m_dec e11_speed 6 rfl) ?_
    refine ms_i2l (pc := 14) S (m_dec e11_speed 7 rfl) ?_
    refine ms_lconst (pc := 15) S (n := 1) rfl (m_dec e11_speed 8 rfl) ?_
    refine ms_ldc2 (pc := 16) S (n := 8) w_1882 (m_dec e11_speed 9 rfl) ?_
    refine ms_callSz (pc := 19) S hF (vals := [m_j (m_w v4), m_j 1, m_j 8]) (st := [])  (hC := (k11_in _ _ (m_w v4) 1 8 h1)) (hM := lm_X11_268) (hfr := (Nat.le_trans (by decide) hFn)) (hstk := rfl) (hcat := Nat.le_of_ble_eq_true rfl) (hd := (m_dec e11_speed 10 rfl)) (k1 := fun r5 h4 => ?_)
    refine ms_ifb_eq (pc := 22) S (m_dec e11_speed 11 rfl) rfl (fun q6 => ?_) (fun q6 => ?_)
    · refine ms_aload_n (pc := 25) S 0 rfl rfl (m_dec e11_speed 12 rfl) ?_
      refine ms_iload_n (pc := 26) S 1 rfl rfl (m_dec e11_speed 13 rfl) ?_
      refine ms_iload_n (pc := 27) S 2 rfl rfl (m_dec e11_speed 14 rfl) ?_
      refine ms_bipush (pc := 28) S (m_dec e11_speed 15 rfl) rfl ?_
      refine ms_iload_n (pc := 30) S 3 rfl rfl (m_dec e11_speed 16 rfl) ?_
      refine ms_iload (pc := 31) S 4 rfl (m_dec e11_speed 17 rfl) ?_
      refine ms_bipush (pc := 33) S (m_dec e11_speed 18 rfl) rfl ?_
      refine ms_grd fun g7 => ?_
      refine ms_callVi (pc := 35) S hF (vals := [m_i v1, m_i v2, m_i 6, m_i v3, m_i v4, m_i 64]) (st := []) (hc := vw_11) (hci := by decide) (hcy := rfl) (ht := g7) (hC := (k11_plays _ _ v0 v1 v2 6 v3 v4 64 h4)) (hM := lm_X11_348) (hfr := (Nat.le_trans (by decide) hFn)) (hstk := rfl) (hcat := Nat.le_of_ble_eq_true rfl) (hd := (m_dec e11_speed 19 rfl)) (k1 := fun r9 h8 => ?_)
      refine ms_goto (pc := 38) S (m_dec e11_speed 20 rfl) rfl ?_
      exact ms_ret (pc := 42) E (m_dec e11_speed 22 rfl) rfl
    · refine ms_iconst (pc := 41) S (m_dec e11_speed 21 rfl) ?_
      exact ms_ret (pc := 42) E (m_dec e11_speed 22 rfl) rfl
  · refine ms_iconst (pc := 41) S (m_dec e11_speed 21 rfl) ?_
    exact ms_ret (pc := 42) E (m_dec e11_speed 22 rfl) rfl
theorem k11_speed (l : Launch) (d : m_D) (v0 v1 v2 v3 v4 : Int) (h : m_H) : m_Con l d yX11_speed cX11_speed 5 (some .int) 5 (fun r => [m_i r]) [m_r v0, m_i v1, m_i v2, m_i v3, m_i v4] h (t11_speed v0 v1 v2 v3 v4 h) :=
  m_con2 (by decide +kernel) (Nat.le_of_ble_eq_true rfl) (fun Y hN hRm hr hI S hfin => s11_speed S (m_end_i S hr hfin) hRm (Nat.le_refl _) hN v0 v1 v2 v3 v4 h)
set_option maxRecDepth 100000 in
theorem e11_lose : ∀ q ∈ ([(0, .aload_n 0, 1), (1, .iload_n 1, 1), (2, .invokevirtual 308, 3), (5, .ifCond .ne 5, 3), (8, .iconst 0, 1), (9, .ireturn, 1), (10, .aload_n 0, 1), (11, .iload_n 1, 1), (12, .iconst 2, 1), (13, .invokevirtual 314, 3), (16, .iconst 1, 1), (17, .ireturn, 1)] : List (Nat × Instr × Nat)), decode cX11_lose q.1 = .ok q.2 := by decide +kernel
set_option maxHeartbeats 4000000 in
set_option maxRecDepth 20000 in
theorem s11_lose {Y : m_Y Bool} (S : m_Std Y RX11 cX11_lose) (E : m_End Y cX11_lose .ireturn (fun r => [m_i (m_b2i r)])) {F : Nat} (hF : m_Rm Y F) (hFn : 3 ≤ F) (hN : Y.2.2.2.1 = 2) (v0 v1 : Int) (h : m_H) : m_Sim Y 0 [(0, m_r v0), (1, m_i v1)] [] h (t11_lose v0 v1 h) := by
  unfold t11_lose
  refine ms_aload_n (pc := 0) S 0 rfl rfl (m_dec e11_lose 0 rfl) ?_
  refine ms_iload_n (pc := 1) S 1 rfl rfl (m_dec e11_lose 1 rfl) ?_
  refine ms_grd fun g1 => ?_
  refine ms_callVz (pc := 2) S hF (vals := [m_i v1]) (st := []) (hc := vw_11) (hci := by decide) (hcy := rfl) (ht := g1) (hC := (k11_isThere _ _ v0 v1 h)) (hM := lm_X11_308) (hfr := (Nat.le_trans (by decide) hFn)) (hstk := rfl) (hcat := Nat.le_of_ble_eq_true rfl) (hd := (m_dec e11_lose 2 rfl)) (k1 := fun r3 h2 => ?_)
  refine ms_ifb_ne (pc := 5) S (m_dec e11_lose 3 rfl) rfl (fun q4 => ?_) (fun q4 => ?_)
  · refine ms_aload_n (pc := 10) S 0 rfl rfl (m_dec e11_lose 6 rfl) ?_
    refine ms_iload_n (pc := 11) S 1 rfl rfl (m_dec e11_lose 7 rfl) ?_
    refine ms_iconst (pc := 12) S (m_dec e11_lose 8 rfl) ?_
    refine ms_grd fun g5 => ?_
    refine ms_callVv (pc := 13) S hF (vals := [m_i v1, m_i 2]) (st := []) (hc := vw_11) (hci := by decide) (hcy := rfl) (ht := g5) (hC := (k11_uses _ _ v0 v1 2 h2)) (hM := lm_X11_314) (hfr := (Nat.le_trans (by decide) hFn)) (hstk := rfl) (hcat := Nat.le_of_ble_eq_true rfl) (hd := (m_dec e11_lose 9 rfl)) (k1 := fun h6 => ?_)
    refine ms_iconst (pc := 16) S (m_dec e11_lose 10 rfl) ?_
    exact ms_ret (pc := 17) E (m_dec e11_lose 11 rfl) rfl
  · refine ms_iconst (pc := 8) S (m_dec e11_lose 4 rfl) ?_
    exact ms_ret (pc := 9) E (m_dec e11_lose 5 rfl) rfl
theorem k11_lose (l : Launch) (d : m_D) (v0 v1 : Int) (h : m_H) : m_Con l d yX11_lose cX11_lose 2 (some .boolean) 3 (fun r => [m_i (m_b2i r)]) [m_r v0, m_i v1] h (t11_lose v0 v1 h) :=
  m_con2 (by decide +kernel) (Nat.le_of_ble_eq_true rfl) (fun Y hN hRm hr hI S hfin => s11_lose S (m_end_z S hr hfin) hRm (Nat.le_refl _) hN v0 v1 h)
set_option maxRecDepth 100000 in
theorem e11_hang : ∀ q ∈ ([(0, .aload_n 0, 1), (1, .iload_n 1, 1), (2, .invokevirtual 308, 3), (5, .ifCond .eq 17, 3), (8, .iload_n 2, 1), (9, .i2l, 1), (10, .ldc2_w 354, 3), (13, .ldc2_w 356, 3), (16, .invokestatic 268, 3), (19, .ifCond .ne 5, 3), (22, .iconst 0, 1), (23, .ireturn, 1), (24, .iconst 0, 1), (25, .istore_n 3, 1), (26, .iload_n 3, 1), (27, .aload_n 0, 1), (28, .getfield 265, 3), (31, .if_icmp .ge 31, 3), (34, .iload_n 2, 1), (35, .iconst (-1), 1), (36, .if_icmp .eq 26, 3), (39, .iload_n 3, 1), (40, .iload_n 1, 1), (41, .if_icmp .eq 15, 3), (44, .aload_n 0, 1), (45, .getfield 41, 3), (48, .iload_n 3, 1), (49, .iaload, 1), (50, .iload_n 2, 1), (51, .if_icmp .ne 5, 3), (54, .iconst 0, 1), (55, .ireturn, 1), (56, .iinc 3 1, 3), (59, .goto (-33), 3), (62, .aload_n 0, 1), (63, .getfield 41, 3), (66, .iload_n 1, 1), (67, .iload_n 2, 1), (68, .iastore, 1), (69, .iconst 1, 1), (70, .ireturn, 1)] : List (Nat × Instr × Nat)), decode cX11_hang q.1 = .ok q.2 := by decide +kernel
set_option maxHeartbeats 4000000 in
set_option maxRecDepth 20000 in
theorem s11_hang_c62 {Y : m_Y Bool} (S : m_Std Y RX11 cX11_hang) (E : m_End Y cX11_hang .ireturn (fun r => [m_i (m_b2i r)])) {F : Nat} (hF : m_Rm Y F) (hFn : 3 ≤ F) (hN : Y.2.2.2.1 = 4) (v0 v1 v2 : Int) (h : m_H) : m_Sim Y 62 [(0, m_r v0), (1, m_i v1), (2, m_i v2)] [] h (t11_hang_c62 v0 v1 v2 h) := by
  unfold t11_hang_c62
  refine ms_aload_n (pc := 62) S 0 rfl rfl (m_dec e11_hang 34 rfl) ?_
  refine ms_grd fun g1 => ?_
  refine ms_getf (pc := 63) S lf_X11_41 rfl (m_dec e11_hang 35 rfl) g1 ?_
  refine ms_iload_n (pc := 66) S 1 rfl rfl (m_dec e11_hang 36 rfl) ?_
  refine ms_iload_n (pc := 67) S 2 rfl rfl (m_dec e11_hang 37 rfl) ?_
  refine ms_grd fun g2 => ?_
  refine ms_iast (pc := 68) S g2 (m_dec e11_hang 38 rfl) (fun h3 => ?_)
  refine ms_iconst (pc := 69) S (m_dec e11_hang 39 rfl) ?_
  exact ms_ret (pc := 70) E (m_dec e11_hang 40 rfl) rfl
set_option maxHeartbeats 4000000 in
set_option maxRecDepth 20000 in
theorem s11_hang_c26 {Y : m_Y Bool} (S : m_Std Y RX11 cX11_hang) (E : m_End Y cX11_hang .ireturn (fun r => [m_i (m_b2i r)])) {F : Nat} (hF : m_Rm Y F) (hFn : 3 ≤ F) (hN : Y.2.2.2.1 = 4) : ∀ (v0 v1 v2 v3 : Int) (h : m_H), m_Sim Y 26 [(0, m_r v0), (1, m_i v1), (2, m_i v2), (3, m_i v3)] [] h (t11_hang_c26 v0 v1 v2 v3 h) := by
  intro v0 v1 v2 v3 h
  refine ms_all fun r e => ?_
  refine t11_hang_c26.partial_correctness v0 v1 v2 h (motive := fun v3 r => m_Sim Y 26 [(0, m_r v0), (1, m_i v1), (2, m_i v2), (3, m_i v3)] [] h (some r)) ?_ v3 r e
  intro f ih v3 r e
  have ih : ∀ (v3 : Int) , m_Sim Y 26 [(0, m_r v0), (1, m_i v1), (2, m_i v2), (3, m_i v3)] [] h (f v3 ) := fun v3  => ms_all fun r e => ih v3 r e
  refine ms_use ?_ e
  clear e r
  refine ms_iload_n (pc := 26) S 3 rfl rfl (m_dec e11_hang 14 rfl) ?_
  refine ms_aload_n (pc := 27) S 0 rfl rfl (m_dec e11_hang 15 rfl) ?_
  refine ms_grd fun g1 => ?_
  refine ms_getf (pc := 28) S lf_X11_265 rfl (m_dec e11_hang 16 rfl) g1 ?_
  refine ms_icmp_ge (pc := 31) S (m_dec e11_hang 17 rfl) rfl (fun q2 => ?_) (fun q2 => ?_)
  · refine ms_iload_n (pc := 34) S 2 rfl rfl (m_dec e11_hang 18 rfl) ?_
    refine ms_iconst (pc := 35) S (m_dec e11_hang 19 rfl) ?_
    refine ms_icmp_eq (pc := 36) S (m_dec e11_hang 20 rfl) rfl (fun q3 => ?_) (fun q3 => ?_)
    · refine ms_sub (pc := 62) (L' := [(0, m_r v0), (1, m_i v1), (2, m_i v2)]) [0, 1, 2] rfl ?_
      exact s11_hang_c62 S E hF hFn hN v0 v1 v2 h
    · refine ms_iload_n (pc := 39) S 3 rfl rfl (m_dec e11_hang 21 rfl) ?_
      refine ms_iload_n (pc := 40) S 1 rfl rfl (m_dec e11_hang 22 rfl) ?_
      refine ms_icmp_eq (pc := 41) S (m_dec e11_hang 23 rfl) rfl (fun q4 => ?_) (fun q4 => ?_)
      · refine ms_iinc (pc := 56) S (L' := [(0, m_r v0), (1, m_i v1), (2, m_i v2), (3, m_i (v3 + 1))]) 3 rfl [1, 2, 3, 0] rfl (m_lt hN rfl) (m_dec e11_hang 32 rfl) ?_
        refine ms_goto (pc := 59) S (m_dec e11_hang 33 rfl) rfl ?_
        exact ih (v3 + 1)
      · refine ms_aload_n (pc := 44) S 0 rfl rfl (m_dec e11_hang 24 rfl) ?_
        refine ms_getf (pc := 45) S lf_X11_41 rfl (m_dec e11_hang 25 rfl) g1 ?_
        refine ms_iload_n (pc := 48) S 3 rfl rfl (m_dec e11_hang 26 rfl) ?_
        refine ms_grd fun g5 => ?_
        refine ms_iald (pc := 49) S g5 (m_dec e11_hang 27 rfl) ?_
        refine ms_iload_n (pc := 50) S 2 rfl rfl (m_dec e11_hang 28 rfl) ?_
        refine ms_icmp_ne (pc := 51) S (m_dec e11_hang 29 rfl) rfl (fun q6 => ?_) (fun q6 => ?_)
        · refine ms_iconst (pc := 54) S (m_dec e11_hang 30 rfl) ?_
          exact ms_ret (pc := 55) E (m_dec e11_hang 31 rfl) rfl
        · refine ms_iinc (pc := 56) S (L' := [(0, m_r v0), (1, m_i v1), (2, m_i v2), (3, m_i (v3 + 1))]) 3 rfl [1, 2, 3, 0] rfl (m_lt hN rfl) (m_dec e11_hang 32 rfl) ?_
          refine ms_goto (pc := 59) S (m_dec e11_hang 33 rfl) rfl ?_
          exact ih (v3 + 1)
  · refine ms_sub (pc := 62) (L' := [(0, m_r v0), (1, m_i v1), (2, m_i v2)]) [0, 1, 2] rfl ?_
    exact s11_hang_c62 S E hF hFn hN v0 v1 v2 h
set_option maxHeartbeats 4000000 in
set_option maxRecDepth 20000 in
theorem s11_hang {Y : m_Y Bool} (S : m_Std Y RX11 cX11_hang) (E : m_End Y cX11_hang .ireturn (fun r => [m_i (m_b2i r)])) {F : Nat} (hF : m_Rm Y F) (hFn : 3 ≤ F) (hN : Y.2.2.2.1 = 4) (v0 v1 v2 : Int) (h : m_H) : m_Sim Y 0 [(0, m_r v0), (1, m_i v1), (2, m_i v2)] [] h (t11_hang v0 v1 v2 h) := by
  unfold t11_hang
  refine ms_aload_n (pc := 0) S 0 rfl rfl (m_dec e11_hang 0 rfl) ?_
  refine ms_iload_n (pc := 1) S 1 rfl rfl (m_dec e11_hang 1 rfl) ?_
  refine ms_grd fun g1 => ?_
  refine ms_callVz (pc := 2) S hF (vals := [m_i v1]) (st := []) (hc := vw_11) (hci := by decide) (hcy := rfl) (ht := g1) (hC := (k11_isThere _ _ v0 v1 h)) (hM := lm_X11_308) (hfr := (Nat.le_trans (by decide) hFn)) (hstk := rfl) (hcat := Nat.le_of_ble_eq_true rfl) (hd := (m_dec e11_hang 2 rfl)) (k1 := fun r3 h2 => ?_)
  refine ms_ifb_eq (pc := 5) S (m_dec e11_hang 3 rfl) rfl (fun q4 => ?_) (fun q4 => ?_)
  · refine ms_iload_n (pc := 8) S 2 rfl rfl (m_dec e11_hang 4 rfl) ?_
    refine ms_i2l (pc := 9) S (m_dec e11_hang 5 rfl) ?_
    refine ms_ldc2 (pc := 10) S (n := (-1)) w_1891 (m_dec e11_hang 6 rfl) ?_
    refine ms_ldc2 (pc := 13) S (n := 29) w_1892 (m_dec e11_hang 7 rfl) ?_
    refine ms_callSz (pc := 16) S hF (vals := [m_j (m_w v2), m_j (-1), m_j 29]) (st := [])  (hC := (k11_in _ _ (m_w v2) (-1) 29 h2)) (hM := lm_X11_268) (hfr := (Nat.le_trans (by decide) hFn)) (hstk := rfl) (hcat := Nat.le_of_ble_eq_true rfl) (hd := (m_dec e11_hang 8 rfl)) (k1 := fun r6 h5 => ?_)
    refine ms_ifb_ne (pc := 19) S (m_dec e11_hang 9 rfl) rfl (fun q7 => ?_) (fun q7 => ?_)
    · refine ms_iconst (pc := 24) S (m_dec e11_hang 12 rfl) ?_
      refine ms_istore_n (pc := 25) S (L' := [(0, m_r v0), (1, m_i v1), (2, m_i v2), (3, m_i 0)]) [1, 2, 3, 0] rfl rfl (m_lt hN rfl) (m_dec e11_hang 13 rfl) ?_
      exact s11_hang_c26 S E hF hFn hN v0 v1 v2 0 h5
    · refine ms_iconst (pc := 22) S (m_dec e11_hang 10 rfl) ?_
      exact ms_ret (pc := 23) E (m_dec e11_hang 11 rfl) rfl
  · refine ms_iconst (pc := 22) S (m_dec e11_hang 10 rfl) ?_
    exact ms_ret (pc := 23) E (m_dec e11_hang 11 rfl) rfl
theorem k11_hang (l : Launch) (d : m_D) (v0 v1 v2 : Int) (h : m_H) : m_Con l d yX11_hang cX11_hang 4 (some .boolean) 3 (fun r => [m_i (m_b2i r)]) [m_r v0, m_i v1, m_i v2] h (t11_hang v0 v1 v2 h) :=
  m_con2 (by decide +kernel) (Nat.le_of_ble_eq_true rfl) (fun Y hN hRm hr hI S hfin => s11_hang S (m_end_z S hr hfin) hRm (Nat.le_refl _) hN v0 v1 v2 h)
set_option maxRecDepth 100000 in
theorem e11_nail : ∀ q ∈ ([(0, .iconst 0, 1), (1, .istore_n 2, 1), (2, .iload_n 2, 1), (3, .aload_n 0, 1), (4, .getfield 265, 3), (7, .if_icmp .ge 33, 3), (10, .iload_n 1, 1), (11, .i2l, 1), (12, .lconst 0, 1), (13, .ldc2_w 356, 3), (16, .invokestatic 268, 3), (19, .ifCond .eq 21, 3), (22, .aload_n 0, 1), (23, .getfield 41, 3), (26, .iload_n 2, 1), (27, .iaload, 1), (28, .iload_n 1, 1), (29, .if_icmp .ne 5, 3), (32, .iload_n 2, 1), (33, .ireturn, 1), (34, .iinc 2 1, 3), (37, .goto (-35), 3), (40, .iconst (-1), 1), (41, .ireturn, 1)] : List (Nat × Instr × Nat)), decode cX11_nail q.1 = .ok q.2 := by decide +kernel
set_option maxHeartbeats 4000000 in
set_option maxRecDepth 20000 in
theorem s11_nail_c2 {Y : m_Y Int} (S : m_Std Y RX11 cX11_nail) (E : m_End Y cX11_nail .ireturn (fun r => [m_i r])) {F : Nat} (hF : m_Rm Y F) (hFn : 1 ≤ F) (hN : Y.2.2.2.1 = 3) : ∀ (v0 v1 v2 : Int) (h : m_H), m_Sim Y 2 [(0, m_r v0), (1, m_i v1), (2, m_i v2)] [] h (t11_nail_c2 v0 v1 v2 h) := by
  intro v0 v1 v2 h
  refine ms_all fun r e => ?_
  refine t11_nail_c2.partial_correctness v0 v1 (motive := fun v2 h r => m_Sim Y 2 [(0, m_r v0), (1, m_i v1), (2, m_i v2)] [] h (some r)) ?_ v2 h r e
  intro f ih v2 h r e
  have ih : ∀ (v2 : Int) (h : m_H), m_Sim Y 2 [(0, m_r v0), (1, m_i v1), (2, m_i v2)] [] h (f v2 h ) := fun v2 h  => ms_all fun r e => ih v2 h r e
  refine ms_use ?_ e
  clear e r
  refine ms_iload_n (pc := 2) S 2 rfl rfl (m_dec e11_nail 2 rfl) ?_
  refine ms_aload_n (pc := 3) S 0 rfl rfl (m_dec e11_nail 3 rfl) ?_
  refine ms_grd fun g1 => ?_
  refine ms_getf (pc := 4) S lf_X11_265 rfl (m_dec e11_nail 4 rfl) g1 ?_
  refine ms_icmp_ge (pc := 7) S (m_dec e11_nail 5 rfl) rfl (fun q2 => ?_) (fun q2 => ?_)
  · refine ms_iload_n (pc := 10) S 1 rfl rfl (m_dec e11_nail 6 rfl) ?_
    refine ms_i2l (pc := 11) S (m_dec e11_nail 7 rfl) ?_
    refine ms_lconst (pc := 12) S (n := 0) rfl (m_dec e11_nail 8 rfl) ?_
    refine ms_ldc2 (pc := 13) S (n := 29) w_1892 (m_dec e11_nail 9 rfl) ?_
    refine ms_callSz (pc := 16) S hF (vals := [m_j (m_w v1), m_j 0, m_j 29]) (st := [])  (hC := (k11_in _ _ (m_w v1) 0 29 h)) (hM := lm_X11_268) (hfr := (Nat.le_trans (by decide) hFn)) (hstk := rfl) (hcat := Nat.le_of_ble_eq_true rfl) (hd := (m_dec e11_nail 10 rfl)) (k1 := fun r4 h3 => ?_)
    refine ms_ifb_eq (pc := 19) S (m_dec e11_nail 11 rfl) rfl (fun q5 => ?_) (fun q5 => ?_)
    · refine ms_aload_n (pc := 22) S 0 rfl rfl (m_dec e11_nail 12 rfl) ?_
      refine ms_grd fun g6 => ?_
      refine ms_getf (pc := 23) S lf_X11_41 rfl (m_dec e11_nail 13 rfl) g6 ?_
      refine ms_iload_n (pc := 26) S 2 rfl rfl (m_dec e11_nail 14 rfl) ?_
      refine ms_grd fun g7 => ?_
      refine ms_iald (pc := 27) S g7 (m_dec e11_nail 15 rfl) ?_
      refine ms_iload_n (pc := 28) S 1 rfl rfl (m_dec e11_nail 16 rfl) ?_
      refine ms_icmp_ne (pc := 29) S (m_dec e11_nail 17 rfl) rfl (fun q8 => ?_) (fun q8 => ?_)
      · refine ms_iload_n (pc := 32) S 2 rfl rfl (m_dec e11_nail 18 rfl) ?_
        exact ms_ret (pc := 33) E (m_dec e11_nail 19 rfl) rfl
      · refine ms_iinc (pc := 34) S (L' := [(0, m_r v0), (1, m_i v1), (2, m_i (v2 + 1))]) 2 rfl [1, 2, 0] rfl (m_lt hN rfl) (m_dec e11_nail 20 rfl) ?_
        refine ms_goto (pc := 37) S (m_dec e11_nail 21 rfl) rfl ?_
        exact ih (v2 + 1) h3
    · refine ms_iconst (pc := 40) S (m_dec e11_nail 22 rfl) ?_
      exact ms_ret (pc := 41) E (m_dec e11_nail 23 rfl) rfl
  · refine ms_iconst (pc := 40) S (m_dec e11_nail 22 rfl) ?_
    exact ms_ret (pc := 41) E (m_dec e11_nail 23 rfl) rfl
set_option maxHeartbeats 4000000 in
set_option maxRecDepth 20000 in
theorem s11_nail {Y : m_Y Int} (S : m_Std Y RX11 cX11_nail) (E : m_End Y cX11_nail .ireturn (fun r => [m_i r])) {F : Nat} (hF : m_Rm Y F) (hFn : 1 ≤ F) (hN : Y.2.2.2.1 = 3) (v0 v1 : Int) (h : m_H) : m_Sim Y 0 [(0, m_r v0), (1, m_i v1)] [] h (t11_nail v0 v1 h) := by
  unfold t11_nail
  refine ms_iconst (pc := 0) S (m_dec e11_nail 0 rfl) ?_
  refine ms_istore_n (pc := 1) S (L' := [(0, m_r v0), (1, m_i v1), (2, m_i 0)]) [1, 2, 0] rfl rfl (m_lt hN rfl) (m_dec e11_nail 1 rfl) ?_
  exact s11_nail_c2 S E hF hFn hN v0 v1 0 h
theorem k11_nail (l : Launch) (d : m_D) (v0 v1 : Int) (h : m_H) : m_Con l d yX11_nail cX11_nail 3 (some .int) 1 (fun r => [m_i r]) [m_r v0, m_i v1] h (t11_nail v0 v1 h) :=
  m_con2 (by decide +kernel) (Nat.le_of_ble_eq_true rfl) (fun Y hN hRm hr hI S hfin => s11_nail S (m_end_i S hr hfin) hRm (Nat.le_refl _) hN v0 v1 h)
set_option maxRecDepth 100000 in
theorem e11_read : ∀ q ∈ ([(0, .aload_n 0, 1), (1, .iload_n 1, 1), (2, .invokevirtual 271, 3), (5, .ifCond .eq 24, 3), (8, .iload_n 2, 1), (9, .i2l, 1), (10, .lconst 0, 1), (11, .ldc2_w 358, 3), (14, .invokestatic 268, 3), (17, .ifCond .eq 12, 3), (20, .aload_n 0, 1), (21, .getfield 360, 3), (24, .bipush 100, 2), (26, .if_icmp .ne 5, 3), (29, .iconst 0, 1), (30, .ireturn, 1), (31, .aload_n 0, 1), (32, .getfield 68, 3), (35, .aload_n 0, 1), (36, .getfield 360, 3), (39, .iload_n 1, 1), (40, .iastore, 1), (41, .aload_n 0, 1), (42, .getfield 71, 3), (45, .aload_n 0, 1), (46, .getfield 360, 3), (49, .iload_n 2, 1), (50, .iastore, 1), (51, .aload_n 0, 1), (52, .getfield 74, 3), (55, .aload_n 0, 1), (56, .getfield 360, 3), (59, .aload_n 0, 1), (60, .getfield 285, 3), (63, .iastore, 1), (64, .aload_n 0, 1), (65, .dup, 1), (66, .getfield 360, 3), (69, .iconst 1, 1), (70, .iadd, 1), (71, .putfield 360, 3), (74, .iconst 1, 1), (75, .ireturn, 1)] : List (Nat × Instr × Nat)), decode cX11_read q.1 = .ok q.2 := by decide +kernel
set_option maxHeartbeats 4000000 in
set_option maxRecDepth 20000 in
theorem s11_read {Y : m_Y Bool} (S : m_Std Y RX11 cX11_read) (E : m_End Y cX11_read .ireturn (fun r => [m_i (m_b2i r)])) {F : Nat} (hF : m_Rm Y F) (hFn : 2 ≤ F) (hN : Y.2.2.2.1 = 3) (v0 v1 v2 : Int) (h : m_H) : m_Sim Y 0 [(0, m_r v0), (1, m_i v1), (2, m_i v2)] [] h (t11_read v0 v1 v2 h) := by
  unfold t11_read
  refine ms_aload_n (pc := 0) S 0 rfl rfl (m_dec e11_read 0 rfl) ?_
  refine ms_iload_n (pc := 1) S 1 rfl rfl (m_dec e11_read 1 rfl) ?_
  refine ms_grd fun g1 => ?_
  refine ms_callVz (pc := 2) S hF (vals := [m_i v1]) (st := []) (hc := vw_11) (hci := by decide) (hcy := rfl) (ht := g1) (hC := (k11_isStrip _ _ v0 v1 h)) (hM := lm_X11_271) (hfr := (Nat.le_trans (by decide) hFn)) (hstk := rfl) (hcat := Nat.le_of_ble_eq_true rfl) (hd := (m_dec e11_read 2 rfl)) (k1 := fun r3 h2 => ?_)
  refine ms_ifb_eq (pc := 5) S (m_dec e11_read 3 rfl) rfl (fun q4 => ?_) (fun q4 => ?_)
  · refine ms_iload_n (pc := 8) S 2 rfl rfl (m_dec e11_read 4 rfl) ?_
    refine ms_i2l (pc := 9) S (m_dec e11_read 5 rfl) ?_
    refine ms_lconst (pc := 10) S (n := 0) rfl (m_dec e11_read 6 rfl) ?_
    refine ms_ldc2 (pc := 11) S (n := 999) w_1901 (m_dec e11_read 7 rfl) ?_
    refine ms_callSz (pc := 14) S hF (vals := [m_j (m_w v2), m_j 0, m_j 999]) (st := [])  (hC := (k11_in _ _ (m_w v2) 0 999 h2)) (hM := lm_X11_268) (hfr := (Nat.le_trans (by decide) hFn)) (hstk := rfl) (hcat := Nat.le_of_ble_eq_true rfl) (hd := (m_dec e11_read 8 rfl)) (k1 := fun r6 h5 => ?_)
    refine ms_ifb_eq (pc := 17) S (m_dec e11_read 9 rfl) rfl (fun q7 => ?_) (fun q7 => ?_)
    · refine ms_aload_n (pc := 20) S 0 rfl rfl (m_dec e11_read 10 rfl) ?_
      refine ms_grd fun g8 => ?_
      refine ms_getf (pc := 21) S lf_X11_360 rfl (m_dec e11_read 11 rfl) g8 ?_
      refine ms_bipush (pc := 24) S (m_dec e11_read 12 rfl) rfl ?_
      refine ms_icmp_ne (pc := 26) S (m_dec e11_read 13 rfl) rfl (fun q9 => ?_) (fun q9 => ?_)
      · refine ms_iconst (pc := 29) S (m_dec e11_read 14 rfl) ?_
        exact ms_ret (pc := 30) E (m_dec e11_read 15 rfl) rfl
      · refine ms_aload_n (pc := 31) S 0 rfl rfl (m_dec e11_read 16 rfl) ?_
        refine ms_getf (pc := 32) S lf_X11_68 rfl (m_dec e11_read 17 rfl) g8 ?_
        refine ms_aload_n (pc := 35) S 0 rfl rfl (m_dec e11_read 18 rfl) ?_
        refine ms_getf (pc := 36) S lf_X11_360 rfl (m_dec e11_read 19 rfl) g8 ?_
        refine ms_iload_n (pc := 39) S 1 rfl rfl (m_dec e11_read 20 rfl) ?_
        refine ms_grd fun g10 => ?_
        refine ms_iast (pc := 40) S g10 (m_dec e11_read 21 rfl) (fun h11 => ?_)
        refine ms_aload_n (pc := 41) S 0 rfl rfl (m_dec e11_read 22 rfl) ?_
        refine ms_grd fun g12 => ?_
        refine ms_getf (pc := 42) S lf_X11_71 rfl (m_dec e11_read 23 rfl) g12 ?_
        refine ms_aload_n (pc := 45) S 0 rfl rfl (m_dec e11_read 24 rfl) ?_
        refine ms_getf (pc := 46) S lf_X11_360 rfl (m_dec e11_read 25 rfl) g12 ?_
        refine ms_iload_n (pc := 49) S 2 rfl rfl (m_dec e11_read 26 rfl) ?_
        refine ms_grd fun g13 => ?_
        refine ms_iast (pc := 50) S g13 (m_dec e11_read 27 rfl) (fun h14 => ?_)
        refine ms_aload_n (pc := 51) S 0 rfl rfl (m_dec e11_read 28 rfl) ?_
        refine ms_grd fun g15 => ?_
        refine ms_getf (pc := 52) S lf_X11_74 rfl (m_dec e11_read 29 rfl) g15 ?_
        refine ms_aload_n (pc := 55) S 0 rfl rfl (m_dec e11_read 30 rfl) ?_
        refine ms_getf (pc := 56) S lf_X11_360 rfl (m_dec e11_read 31 rfl) g15 ?_
        refine ms_aload_n (pc := 59) S 0 rfl rfl (m_dec e11_read 32 rfl) ?_
        refine ms_getf (pc := 60) S lf_X11_285 rfl (m_dec e11_read 33 rfl) g15 ?_
        refine ms_grd fun g16 => ?_
        refine ms_iast (pc := 63) S g16 (m_dec e11_read 34 rfl) (fun h17 => ?_)
        refine ms_aload_n (pc := 64) S 0 rfl rfl (m_dec e11_read 35 rfl) ?_
        refine ms_dup (pc := 65) S rfl (m_dec e11_read 36 rfl) ?_
        refine ms_grd fun g18 => ?_
        refine ms_getf (pc := 66) S lf_X11_360 rfl (m_dec e11_read 37 rfl) g18 ?_
        refine ms_iconst (pc := 69) S (m_dec e11_read 38 rfl) ?_
        refine ms_iadd (pc := 70) S (m_dec e11_read 39 rfl) ?_
        refine ms_putf (pc := 71) S lp_X11_360 (fun z => by cases z) rfl (fun d => m_fitI d _) (m_dec e11_read 40 rfl) g18 (fun h19 => ?_)
        refine ms_iconst (pc := 74) S (m_dec e11_read 41 rfl) ?_
        exact ms_ret (pc := 75) E (m_dec e11_read 42 rfl) rfl
    · refine ms_iconst (pc := 29) S (m_dec e11_read 14 rfl) ?_
      exact ms_ret (pc := 30) E (m_dec e11_read 15 rfl) rfl
  · refine ms_iconst (pc := 29) S (m_dec e11_read 14 rfl) ?_
    exact ms_ret (pc := 30) E (m_dec e11_read 15 rfl) rfl
theorem k11_read (l : Launch) (d : m_D) (v0 v1 v2 : Int) (h : m_H) : m_Con l d yX11_read cX11_read 3 (some .boolean) 2 (fun r => [m_i (m_b2i r)]) [m_r v0, m_i v1, m_i v2] h (t11_read v0 v1 v2 h) :=
  m_con2 (by decide +kernel) (Nat.le_of_ble_eq_true rfl) (fun Y hN hRm hr hI S hfin => s11_read S (m_end_z S hr hfin) hRm (Nat.le_refl _) hN v0 v1 v2 h)
set_option maxRecDepth 100000 in
theorem e11_markOf : ∀ q ∈ ([(0, .iconst (-1), 1), (1, .istore_n 3, 1), (2, .iconst 0, 1), (3, .istore 4, 2), (5, .iload 4, 2), (7, .aload_n 0, 1), (8, .getfield 360, 3), (11, .if_icmp .ge 39, 3), (14, .aload_n 0, 1), (15, .getfield 68, 3), (18, .iload 4, 2), (20, .iaload, 1), (21, .iload_n 1, 1), (22, .if_icmp .ne 22, 3), (25, .aload_n 0, 1), (26, .getfield 74, 3), (29, .iload 4, 2), (31, .iaload, 1), (32, .iload_n 2, 1), (33, .if_icmp .gt 11, 3), (36, .aload_n 0, 1), (37, .getfield 71, 3), (40, .iload 4, 2), (42, .iaload, 1), (43, .istore_n 3, 1), (44, .iinc 4 1, 3), (47, .goto (-42), 3), (50, .iload_n 3, 1), (51, .ireturn, 1)] : List (Nat × Instr × Nat)), decode cX11_markOf q.1 = .ok q.2 := by decide +kernel
set_option maxHeartbeats 4000000 in
set_option maxRecDepth 20000 in
theorem s11_markOf_c5 {Y : m_Y Int} (S : m_Std Y RX11 cX11_markOf) (E : m_End Y cX11_markOf .ireturn (fun r => [m_i r])) {F : Nat} (hF : m_Rm Y F) (hFn : 0 ≤ F) (hN : Y.2.2.2.1 = 5) : ∀ (v0 v1 v2 v3 v4 : Int) (h : m_H), m_Sim Y 5 [(0, m_r v0), (1, m_i v1), (2, m_i v2), (3, m_i v3), (4, m_i v4)] [] h (t11_markOf_c5 v0 v1 v2 v3 v4 h) := by
  intro v0 v1 v2 v3 v4 h
  refine ms_all fun r e => ?_
  refine t11_markOf_c5.partial_correctness v0 v1 v2 h (motive := fun v3 v4 r => m_Sim Y 5 [(0, m_r v0), (1, m_i v1), (2, m_i v2), (3, m_i v3), (4, m_i v4)] [] h (some r)) ?_ v3 v4 r e
  intro f ih v3 v4 r e
  have ih : ∀ (v3 v4 : Int) , m_Sim Y 5 [(0, m_r v0), (1, m_i v1), (2, m_i v2), (3, m_i v3), (4, m_i v4)] [] h (f v3 v4 ) := fun v3 v4  => ms_all fun r e => ih v3 v4 r e
  refine ms_use ?_ e
  clear e r
  refine ms_iload (pc := 5) S 4 rfl (m_dec e11_markOf 4 rfl) ?_
  refine ms_aload_n (pc := 7) S 0 rfl rfl (m_dec e11_markOf 5 rfl) ?_
  refine ms_grd fun g1 => ?_
  refine ms_getf (pc := 8) S lf_X11_360 rfl (m_dec e11_markOf 6 rfl) g1 ?_
  refine ms_icmp_ge (pc := 11) S (m_dec e11_markOf 7 rfl) rfl (fun q2 => ?_) (fun q2 => ?_)
  · refine ms_aload_n (pc := 14) S 0 rfl rfl (m_dec e11_markOf 8 rfl) ?_
    refine ms_getf (pc := 15) S lf_X11_68 rfl (m_dec e11_markOf 9 rfl) g1 ?_
    refine ms_iload (pc := 18) S 4 rfl (m_dec e11_markOf 10 rfl) ?_
    refine ms_grd fun g3 => ?_
    refine ms_iald (pc := 20) S g3 (m_dec e11_markOf 11 rfl) ?_
    refine ms_iload_n (pc := 21) S 1 rfl rfl (m_dec e11_markOf 12 rfl) ?_
    refine ms_icmp_ne (pc := 22) S (m_dec e11_markOf 13 rfl) rfl (fun q4 => ?_) (fun q4 => ?_)
    · refine ms_aload_n (pc := 25) S 0 rfl rfl (m_dec e11_markOf 14 rfl) ?_
      refine ms_getf (pc := 26) S lf_X11_74 rfl (m_dec e11_markOf 15 rfl) g1 ?_
      refine ms_iload (pc := 29) S 4 rfl (m_dec e11_markOf 16 rfl) ?_
      refine ms_grd fun g5 => ?_
      refine ms_iald (pc := 31) S g5 (m_dec e11_markOf 17 rfl) ?_
      refine ms_iload_n (pc := 32) S 2 rfl rfl (m_dec e11_markOf 18 rfl) ?_
      refine ms_icmp_gt (pc := 33) S (m_dec e11_markOf 19 rfl) rfl (fun q6 => ?_) (fun q6 => ?_)
      · refine ms_iinc (pc := 44) S (L' := [(0, m_r v0), (1, m_i v1), (2, m_i v2), (3, m_i v3), (4, m_i (v4 + 1))]) 4 rfl [1, 2, 3, 4, 0] rfl (m_lt hN rfl) (m_dec e11_markOf 25 rfl) ?_
        refine ms_goto (pc := 47) S (m_dec e11_markOf 26 rfl) rfl ?_
        exact ih v3 (v4 + 1)
      · refine ms_aload_n (pc := 36) S 0 rfl rfl (m_dec e11_markOf 20 rfl) ?_
        refine ms_getf (pc := 37) S lf_X11_71 rfl (m_dec e11_markOf 21 rfl) g1 ?_
        refine ms_iload (pc := 40) S 4 rfl (m_dec e11_markOf 22 rfl) ?_
        refine ms_grd fun g7 => ?_
        refine ms_iald (pc := 42) S g7 (m_dec e11_markOf 23 rfl) ?_
        refine ms_nm (st := fun x8 => [m_i x8]) fun x8 => ?_
        refine ms_istore_n (pc := 43) S (L' := [(0, m_r v0), (1, m_i v1), (2, m_i v2), (3, m_i x8), (4, m_i v4)]) [1, 2, 3, 0, 4] rfl rfl (m_lt hN rfl) (m_dec e11_markOf 24 rfl) ?_
        refine ms_iinc (pc := 44) S (L' := [(0, m_r v0), (1, m_i v1), (2, m_i v2), (3, m_i x8), (4, m_i (v4 + 1))]) 4 rfl [1, 2, 3, 4, 0] rfl (m_lt hN rfl) (m_dec e11_markOf 25 rfl) ?_
        refine ms_goto (pc := 47) S (m_dec e11_markOf 26 rfl) rfl ?_
        exact ih x8 (v4 + 1)
    · refine ms_iinc (pc := 44) S (L' := [(0, m_r v0), (1, m_i v1), (2, m_i v2), (3, m_i v3), (4, m_i (v4 + 1))]) 4 rfl [1, 2, 3, 4, 0] rfl (m_lt hN rfl) (m_dec e11_markOf 25 rfl) ?_
      refine ms_goto (pc := 47) S (m_dec e11_markOf 26 rfl) rfl ?_
      exact ih v3 (v4 + 1)
  · refine ms_iload_n (pc := 50) S 3 rfl rfl (m_dec e11_markOf 27 rfl) ?_
    exact ms_ret (pc := 51) E (m_dec e11_markOf 28 rfl) rfl
set_option maxHeartbeats 4000000 in
set_option maxRecDepth 20000 in
theorem s11_markOf {Y : m_Y Int} (S : m_Std Y RX11 cX11_markOf) (E : m_End Y cX11_markOf .ireturn (fun r => [m_i r])) {F : Nat} (hF : m_Rm Y F) (hFn : 0 ≤ F) (hN : Y.2.2.2.1 = 5) (v0 v1 v2 : Int) (h : m_H) : m_Sim Y 0 [(0, m_r v0), (1, m_i v1), (2, m_i v2)] [] h (t11_markOf v0 v1 v2 h) := by
  unfold t11_markOf
  refine ms_iconst (pc := 0) S (m_dec e11_markOf 0 rfl) ?_
  refine ms_istore_n (pc := 1) S (L' := [(0, m_r v0), (1, m_i v1), (2, m_i v2), (3, m_i (-1))]) [1, 2, 3, 0] rfl rfl (m_lt hN rfl) (m_dec e11_markOf 1 rfl) ?_
  refine ms_iconst (pc := 2) S (m_dec e11_markOf 2 rfl) ?_
  refine ms_istore (pc := 3) S (L' := [(0, m_r v0), (1, m_i v1), (2, m_i v2), (3, m_i (-1)), (4, m_i 0)]) [1, 2, 3, 4, 0] rfl (m_lt hN rfl) (m_dec e11_markOf 3 rfl) ?_
  exact s11_markOf_c5 S E hF hFn hN v0 v1 v2 (-1) 0 h
theorem k11_markOf (l : Launch) (d : m_D) (v0 v1 v2 : Int) (h : m_H) : m_Con l d yX11_markOf cX11_markOf 5 (some .int) 0 (fun r => [m_i r]) [m_r v0, m_i v1, m_i v2] h (t11_markOf v0 v1 v2 h) :=
  m_con2 (by decide +kernel) (Nat.le_of_ble_eq_true rfl) (fun Y hN hRm hr hI S hfin => s11_markOf S (m_end_i S hr hfin) hRm (Nat.le_refl _) hN v0 v1 v2 h)
set_option maxRecDepth 100000 in
theorem e11_marked : ∀ q ∈ ([(0, .aload_n 0, 1), (1, .iload_n 1, 1), (2, .invokevirtual 271, 3), (5, .ifCond .eq 24, 3), (8, .iload_n 2, 1), (9, .i2l, 1), (10, .lconst 0, 1), (11, .ldc2_w 363, 3), (14, .invokestatic 268, 3), (17, .ifCond .eq 12, 3), (20, .aload_n 0, 1), (21, .iload_n 1, 1), (22, .iload_n 2, 1), (23, .invokevirtual 365, 3), (26, .goto 4, 3), (29, .iconst (-1), 1), (30, .ireturn, 1)] : List (Nat × Instr × Nat)), decode cX11_marked q.1 = .ok q.2 := by decide +kernel
set_option maxHeartbeats 4000000 in
set_option maxRecDepth 20000 in
theorem s11_marked {Y : m_Y Int} (S : m_Std Y RX11 cX11_marked) (E : m_End Y cX11_marked .ireturn (fun r => [m_i r])) {F : Nat} (hF : m_Rm Y F) (hFn : 2 ≤ F) (hN : Y.2.2.2.1 = 3) (v0 v1 v2 : Int) (h : m_H) : m_Sim Y 0 [(0, m_r v0), (1, m_i v1), (2, m_i v2)] [] h (t11_marked v0 v1 v2 h) := by
  unfold t11_marked
  refine ms_aload_n (pc := 0) S 0 rfl rfl (m_dec e11_marked 0 rfl) ?_
  refine ms_iload_n (pc := 1) S 1 rfl rfl (m_dec e11_marked 1 rfl) ?_
  refine ms_grd fun g1 => ?_
  refine ms_callVz (pc := 2) S hF (vals := [m_i v1]) (st := []) (hc := vw_11) (hci := by decide) (hcy := rfl) (ht := g1) (hC := (k11_isStrip _ _ v0 v1 h)) (hM := lm_X11_271) (hfr := (Nat.le_trans (by decide) hFn)) (hstk := rfl) (hcat := Nat.le_of_ble_eq_true rfl) (hd := (m_dec e11_marked 2 rfl)) (k1 := fun r3 h2 => ?_)
  refine ms_ifb_eq (pc := 5) S (m_dec e11_marked 3 rfl) rfl (fun q4 => ?_) (fun q4 => ?_)
  · refine ms_iload_n (pc := 8) S 2 rfl rfl (m_dec e11_marked 4 rfl) ?_
    refine ms_i2l (pc := 9) S (m_dec e11_marked 5 rfl) ?_
    refine ms_lconst (pc := 10) S (n := 0) rfl (m_dec e11_marked 6 rfl) ?_
    refine ms_ldc2 (pc := 11) S (n := 400) w_1906 (m_dec e11_marked 7 rfl) ?_
    refine ms_callSz (pc := 14) S hF (vals := [m_j (m_w v2), m_j 0, m_j 400]) (st := [])  (hC := (k11_in _ _ (m_w v2) 0 400 h2)) (hM := lm_X11_268) (hfr := (Nat.le_trans (by decide) hFn)) (hstk := rfl) (hcat := Nat.le_of_ble_eq_true rfl) (hd := (m_dec e11_marked 8 rfl)) (k1 := fun r6 h5 => ?_)
    refine ms_ifb_eq (pc := 17) S (m_dec e11_marked 9 rfl) rfl (fun q7 => ?_) (fun q7 => ?_)
    · refine ms_aload_n (pc := 20) S 0 rfl rfl (m_dec e11_marked 10 rfl) ?_
      refine ms_iload_n (pc := 21) S 1 rfl rfl (m_dec e11_marked 11 rfl) ?_
      refine ms_iload_n (pc := 22) S 2 rfl rfl (m_dec e11_marked 12 rfl) ?_
      refine ms_grd fun g8 => ?_
      refine ms_callVi (pc := 23) S hF (vals := [m_i v1, m_i v2]) (st := []) (hc := vw_11) (hci := by decide) (hcy := rfl) (ht := g8) (hC := (k11_markOf _ _ v0 v1 v2 h5)) (hM := lm_X11_365) (hfr := (Nat.le_trans (by decide) hFn)) (hstk := rfl) (hcat := Nat.le_of_ble_eq_true rfl) (hd := (m_dec e11_marked 13 rfl)) (k1 := fun r10 h9 => ?_)
      refine ms_goto (pc := 26) S (m_dec e11_marked 14 rfl) rfl ?_
      exact ms_ret (pc := 30) E (m_dec e11_marked 16 rfl) rfl
    · refine ms_iconst (pc := 29) S (m_dec e11_marked 15 rfl) ?_
      exact ms_ret (pc := 30) E (m_dec e11_marked 16 rfl) rfl
  · refine ms_iconst (pc := 29) S (m_dec e11_marked 15 rfl) ?_
    exact ms_ret (pc := 30) E (m_dec e11_marked 16 rfl) rfl
theorem k11_marked (l : Launch) (d : m_D) (v0 v1 v2 : Int) (h : m_H) : m_Con l d yX11_marked cX11_marked 3 (some .int) 2 (fun r => [m_i r]) [m_r v0, m_i v1, m_i v2] h (t11_marked v0 v1 v2 h) :=
  m_con2 (by decide +kernel) (Nat.le_of_ble_eq_true rfl) (fun Y hN hRm hr hI S hfin => s11_marked S (m_end_i S hr hfin) hRm (Nat.le_refl _) hN v0 v1 v2 h)
set_option maxRecDepth 100000 in
theorem e11_go : ∀ q ∈ ([(0, .iload_n 1, 1), (1, .i2l, 1), (2, .lconst 0, 1), (3, .ldc2_w 329, 3), (6, .invokestatic 268, 3), (9, .ifCond .ne 5, 3), (12, .iconst (-1), 1), (13, .ireturn, 1), (14, .aload_n 0, 1), (15, .aload_n 0, 1), (16, .getfield 285, 3), (19, .iload_n 1, 1), (20, .iadd, 1), (21, .sipush 400, 3), (24, .if_icmp .le 9, 3), (27, .sipush 400, 3), (30, .goto 9, 3), (33, .aload_n 0, 1), (34, .getfield 285, 3), (37, .iload_n 1, 1), (38, .iadd, 1), (39, .putfield 285, 3), (42, .aload_n 0, 1), (43, .getfield 285, 3), (46, .ireturn, 1)] : List (Nat × Instr × Nat)), decode cX11_go q.1 = .ok q.2 := by decide +kernel
set_option maxHeartbeats 4000000 in
set_option maxRecDepth 20000 in
theorem s11_go {Y : m_Y Int} (S : m_Std Y RX11 cX11_go) (E : m_End Y cX11_go .ireturn (fun r => [m_i r])) {F : Nat} (hF : m_Rm Y F) (hFn : 1 ≤ F) (hN : Y.2.2.2.1 = 2) (v0 v1 : Int) (h : m_H) : m_Sim Y 0 [(0, m_r v0), (1, m_i v1)] [] h (t11_go v0 v1 h) := by
  unfold t11_go
  refine ms_iload_n (pc := 0) S 1 rfl rfl (m_dec e11_go 0 rfl) ?_
  refine ms_i2l (pc := 1) S (m_dec e11_go 1 rfl) ?_
  refine ms_lconst (pc := 2) S (n := 0) rfl (m_dec e11_go 2 rfl) ?_
  refine ms_ldc2 (pc := 3) S (n := 100) w_1856 (m_dec e11_go 3 rfl) ?_
  refine ms_callSz (pc := 6) S hF (vals := [m_j (m_w v1), m_j 0, m_j 100]) (st := [])  (hC := (k11_in _ _ (m_w v1) 0 100 h)) (hM := lm_X11_268) (hfr := (Nat.le_trans (by decide) hFn)) (hstk := rfl) (hcat := Nat.le_of_ble_eq_true rfl) (hd := (m_dec e11_go 4 rfl)) (k1 := fun r2 h1 => ?_)
  refine ms_ifb_ne (pc := 9) S (m_dec e11_go 5 rfl) rfl (fun q3 => ?_) (fun q3 => ?_)
  · refine ms_aload_n (pc := 14) S 0 rfl rfl (m_dec e11_go 8 rfl) ?_
    refine ms_aload_n (pc := 15) S 0 rfl rfl (m_dec e11_go 9 rfl) ?_
    refine ms_grd fun g4 => ?_
    refine ms_getf (pc := 16) S lf_X11_285 rfl (m_dec e11_go 10 rfl) g4 ?_
    refine ms_iload_n (pc := 19) S 1 rfl rfl (m_dec e11_go 11 rfl) ?_
    refine ms_iadd (pc := 20) S (m_dec e11_go 12 rfl) ?_
    refine ms_sipush (pc := 21) S (m_dec e11_go 13 rfl) rfl ?_
    refine ms_icmp_le (pc := 24) S (m_dec e11_go 14 rfl) rfl (fun q5 => ?_) (fun q5 => ?_)
    · refine ms_sipush (pc := 27) S (m_dec e11_go 15 rfl) rfl ?_
      refine ms_goto (pc := 30) S (m_dec e11_go 16 rfl) rfl ?_
      refine ms_putf (pc := 39) S lp_X11_285 (fun z => by cases z) rfl (fun d => m_fitI d _) (m_dec e11_go 21 rfl) g4 (fun h6 => ?_)
      refine ms_aload_n (pc := 42) S 0 rfl rfl (m_dec e11_go 22 rfl) ?_
      refine ms_grd fun g7 => ?_
      refine ms_getf (pc := 43) S lf_X11_285 rfl (m_dec e11_go 23 rfl) g7 ?_
      exact ms_ret (pc := 46) E (m_dec e11_go 24 rfl) rfl
    · refine ms_aload_n (pc := 33) S 0 rfl rfl (m_dec e11_go 17 rfl) ?_
      refine ms_getf (pc := 34) S lf_X11_285 rfl (m_dec e11_go 18 rfl) g4 ?_
      refine ms_iload_n (pc := 37) S 1 rfl rfl (m_dec e11_go 19 rfl) ?_
      refine ms_iadd (pc := 38) S (m_dec e11_go 20 rfl) ?_
      refine ms_putf (pc := 39) S lp_X11_285 (fun z => by cases z) rfl (fun d => m_fitI d _) (m_dec e11_go 21 rfl) g4 (fun h8 => ?_)
      refine ms_aload_n (pc := 42) S 0 rfl rfl (m_dec e11_go 22 rfl) ?_
      refine ms_grd fun g9 => ?_
      refine ms_getf (pc := 43) S lf_X11_285 rfl (m_dec e11_go 23 rfl) g9 ?_
      exact ms_ret (pc := 46) E (m_dec e11_go 24 rfl) rfl
  · refine ms_iconst (pc := 12) S (m_dec e11_go 6 rfl) ?_
    exact ms_ret (pc := 13) E (m_dec e11_go 7 rfl) rfl
theorem k11_go (l : Launch) (d : m_D) (v0 v1 : Int) (h : m_H) : m_Con l d yX11_go cX11_go 2 (some .int) 1 (fun r => [m_i r]) [m_r v0, m_i v1] h (t11_go v0 v1 h) :=
  m_con2 (by decide +kernel) (Nat.le_of_ble_eq_true rfl) (fun Y hN hRm hr hI S hfin => s11_go S (m_end_i S hr hfin) hRm (Nat.le_refl _) hN v0 v1 h)
set_option maxRecDepth 100000 in
theorem e11_sample : ∀ q ∈ ([(0, .aload_n 0, 1), (1, .iload_n 1, 1), (2, .invokevirtual 271, 3), (5, .ifCond .eq 30, 3), (8, .iload_n 2, 1), (9, .i2l, 1), (10, .lconst 0, 1), (11, .aload_n 0, 1), (12, .getfield 23, 3), (15, .iload_n 1, 1), (16, .iaload, 1), (17, .iconst 1, 1), (18, .isub, 1), (19, .i2l, 1), (20, .invokestatic 268, 3), (23, .ifCond .eq 12, 3), (26, .aload_n 0, 1), (27, .iload_n 1, 1), (28, .iload_n 2, 1), (29, .invokevirtual 311, 3), (32, .goto 6, 3), (35, .ldc_w 368, 3), (38, .ireturn, 1)] : List (Nat × Instr × Nat)), decode cX11_sample q.1 = .ok q.2 := by decide +kernel
set_option maxHeartbeats 4000000 in
set_option maxRecDepth 20000 in
theorem s11_sample {Y : m_Y Int} (S : m_Std Y RX11 cX11_sample) (E : m_End Y cX11_sample .ireturn (fun r => [m_i r])) {F : Nat} (hF : m_Rm Y F) (hFn : 2 ≤ F) (hN : Y.2.2.2.1 = 3) (v0 v1 v2 : Int) (h : m_H) : m_Sim Y 0 [(0, m_r v0), (1, m_i v1), (2, m_i v2)] [] h (t11_sample v0 v1 v2 h) := by
  unfold t11_sample
  refine ms_aload_n (pc := 0) S 0 rfl rfl (m_dec e11_sample 0 rfl) ?_
  refine ms_iload_n (pc := 1) S 1 rfl rfl (m_dec e11_sample 1 rfl) ?_
  refine ms_grd fun g1 => ?_
  refine ms_callVz (pc := 2) S hF (vals := [m_i v1]) (st := []) (hc := vw_11) (hci := by decide) (hcy := rfl) (ht := g1) (hC := (k11_isStrip _ _ v0 v1 h)) (hM := lm_X11_271) (hfr := (Nat.le_trans (by decide) hFn)) (hstk := rfl) (hcat := Nat.le_of_ble_eq_true rfl) (hd := (m_dec e11_sample 2 rfl)) (k1 := fun r3 h2 => ?_)
  refine ms_ifb_eq (pc := 5) S (m_dec e11_sample 3 rfl) rfl (fun q4 => ?_) (fun q4 => ?_)
  · refine ms_iload_n (pc := 8) S 2 rfl rfl (m_dec e11_sample 4 rfl) ?_
    refine ms_i2l (pc := 9) S (m_dec e11_sample 5 rfl) ?_
    refine ms_lconst (pc := 10) S (n := 0) rfl (m_dec e11_sample 6 rfl) ?_
    refine ms_aload_n (pc := 11) S 0 rfl rfl (m_dec e11_sample 7 rfl) ?_
    refine ms_grd fun g5 => ?_
    refine ms_getf (pc := 12) S lf_X11_23 rfl (m_dec e11_sample 8 rfl) g5 ?_
    refine ms_iload_n (pc := 15) S 1 rfl rfl (m_dec e11_sample 9 rfl) ?_
    refine ms_grd fun g6 => ?_
    refine ms_iald (pc := 16) S g6 (m_dec e11_sample 10 rfl) ?_
    refine ms_iconst (pc := 17) S (m_dec e11_sample 11 rfl) ?_
    refine ms_isub (pc := 18) S (m_dec e11_sample 12 rfl) ?_
    refine ms_i2l (pc := 19) S (m_dec e11_sample 13 rfl) ?_
    refine ms_callSz (pc := 20) S hF (vals := [m_j (m_w v2), m_j 0, m_j (m_w ((m_g h2 (m_g h2 v0 3) (m_w v1)) - 1))]) (st := [])  (hC := (k11_in _ _ (m_w v2) 0 (m_w ((m_g h2 (m_g h2 v0 3) (m_w v1)) - 1)) h2)) (hM := lm_X11_268) (hfr := (Nat.le_trans (by decide) hFn)) (hstk := rfl) (hcat := Nat.le_of_ble_eq_true rfl) (hd := (m_dec e11_sample 14 rfl)) (k1 := fun r8 h7 => ?_)
    refine ms_ifb_eq (pc := 23) S (m_dec e11_sample 15 rfl) rfl (fun q9 => ?_) (fun q9 => ?_)
    · refine ms_aload_n (pc := 26) S 0 rfl rfl (m_dec e11_sample 16 rfl) ?_
      refine ms_iload_n (pc := 27) S 1 rfl rfl (m_dec e11_sample 17 rfl) ?_
      refine ms_iload_n (pc := 28) S 2 rfl rfl (m_dec e11_sample 18 rfl) ?_
      refine ms_grd fun g10 => ?_
      refine ms_callVi (pc := 29) S hF (vals := [m_i v1, m_i v2]) (st := []) (hc := vw_11) (hci := by decide) (hcy := rfl) (ht := g10) (hC := (k11_at _ _ v0 v1 v2 h7)) (hM := lm_X11_311) (hfr := (Nat.le_trans (by decide) hFn)) (hstk := rfl) (hcat := Nat.le_of_ble_eq_true rfl) (hd := (m_dec e11_sample 19 rfl)) (k1 := fun r12 h11 => ?_)
      refine ms_goto (pc := 32) S (m_dec e11_sample 20 rfl) rfl ?_
      exact ms_ret (pc := 38) E (m_dec e11_sample 22 rfl) rfl
    · refine ms_ldcw (pc := 35) S (n := (-2147483648)) w_1919 (m_dec e11_sample 21 rfl) ?_
      exact ms_ret (pc := 38) E (m_dec e11_sample 22 rfl) rfl
  · refine ms_ldcw (pc := 35) S (n := (-2147483648)) w_1919 (m_dec e11_sample 21 rfl) ?_
    exact ms_ret (pc := 38) E (m_dec e11_sample 22 rfl) rfl
theorem k11_sample (l : Launch) (d : m_D) (v0 v1 v2 : Int) (h : m_H) : m_Con l d yX11_sample cX11_sample 3 (some .int) 2 (fun r => [m_i r]) [m_r v0, m_i v1, m_i v2] h (t11_sample v0 v1 v2 h) :=
  m_con2 (by decide +kernel) (Nat.le_of_ble_eq_true rfl) (fun Y hN hRm hr hI S hfin => s11_sample S (m_end_i S hr hfin) hRm (Nat.le_refl _) hN v0 v1 v2 h)
set_option maxRecDepth 100000 in
theorem e11_told : ∀ q ∈ ([(0, .aload_n 0, 1), (1, .iload_n 1, 1), (2, .invokevirtual 271, 3), (5, .ifCond .ne 5, 3), (8, .iconst (-1), 1), (9, .ireturn, 1), (10, .iload_n 2, 1), (11, .tableswitch 134 0 10 #[57, 64, 71, 78, 85, 92, 99, 106, 113, 120, 127], 57), (68, .aload_n 0, 1), (69, .getfield 26, 3), (72, .iload_n 1, 1), (73, .iaload, 1), (74, .ireturn, 1), (75, .aload_n 0, 1), (76, .getfield 29, 3), (79, .iload_n 1, 1), (80, .iaload, 1), (81, .ireturn, 1), (82, .aload_n 0, 1), (83, .getfield 23, 3), (86, .iload_n 1, 1), (87, .iaload, 1), (88, .ireturn, 1), (89, .aload_n 0, 1), (90, .getfield 32, 3), (93, .iload_n 1, 1), (94, .iaload, 1), (95, .ireturn, 1), (96, .aload_n 0, 1), (97, .getfield 35, 3), (100, .iload_n 1, 1), (101, .iaload, 1), (102, .ireturn, 1), (103, .aload_n 0, 1), (104, .getfield 38, 3), (107, .iload_n 1, 1), (108, .iaload, 1), (109, .ireturn, 1), (110, .aload_n 0, 1), (111, .getfield 41, 3), (114, .iload_n 1, 1), (115, .iaload, 1), (116, .ireturn, 1), (117, .aload_n 0, 1), (118, .getfield 44, 3), (121, .iload_n 1, 1), (122, .iaload, 1), (123, .ireturn, 1), (124, .aload_n 0, 1), (125, .getfield 47, 3), (128, .iload_n 1, 1), (129, .iaload, 1), (130, .ireturn, 1), (131, .aload_n 0, 1), (132, .getfield 50, 3), (135, .iload_n 1, 1), (136, .iaload, 1), (137, .ireturn, 1), (138, .aload_n 0, 1), (139, .getfield 53, 3), (142, .iload_n 1, 1), (143, .iaload, 1), (144, .ireturn, 1), (145, .iconst (-1), 1), (146, .ireturn, 1)] : List (Nat × Instr × Nat)), decode cX11_told q.1 = .ok q.2 := by decide +kernel
set_option maxHeartbeats 4000000 in
set_option maxRecDepth 20000 in
theorem s11_told {Y : m_Y Int} (S : m_Std Y RX11 cX11_told) (E : m_End Y cX11_told .ireturn (fun r => [m_i r])) {F : Nat} (hF : m_Rm Y F) (hFn : 2 ≤ F) (hN : Y.2.2.2.1 = 3) (v0 v1 v2 : Int) (h : m_H) : m_Sim Y 0 [(0, m_r v0), (1, m_i v1), (2, m_i v2)] [] h (t11_told v0 v1 v2 h) := by
  unfold t11_told
  refine ms_aload_n (pc := 0) S 0 rfl rfl (m_dec e11_told 0 rfl) ?_
  refine ms_iload_n (pc := 1) S 1 rfl rfl (m_dec e11_told 1 rfl) ?_
  refine ms_grd fun g1 => ?_
  refine ms_callVz (pc := 2) S hF (vals := [m_i v1]) (st := []) (hc := vw_11) (hci := by decide) (hcy := rfl) (ht := g1) (hC := (k11_isStrip _ _ v0 v1 h)) (hM := lm_X11_271) (hfr := (Nat.le_trans (by decide) hFn)) (hstk := rfl) (hcat := Nat.le_of_ble_eq_true rfl) (hd := (m_dec e11_told 2 rfl)) (k1 := fun r3 h2 => ?_)
  refine ms_ifb_ne (pc := 5) S (m_dec e11_told 3 rfl) rfl (fun q4 => ?_) (fun q4 => ?_)
  · refine ms_iload_n (pc := 10) S 2 rfl rfl (m_dec e11_told 6 rfl) ?_
    refine ms_ite (fun q5 => ?_) (fun q5 => ?_)
    · refine ms_swIn (pc := 11) S (m_dec e11_told 7 rfl) 0 q5 (by decide) (by decide) rfl rfl ?_
      refine ms_aload_n (pc := 68) S 0 rfl rfl (m_dec e11_told 8 rfl) ?_
      refine ms_grd fun g6 => ?_
      refine ms_getf (pc := 69) S lf_X11_26 rfl (m_dec e11_told 9 rfl) g6 ?_
      refine ms_iload_n (pc := 72) S 1 rfl rfl (m_dec e11_told 10 rfl) ?_
      refine ms_grd fun g7 => ?_
      refine ms_iald (pc := 73) S g7 (m_dec e11_told 11 rfl) ?_
      exact ms_ret (pc := 74) E (m_dec e11_told 12 rfl) rfl
    · refine ms_ite (fun q8 => ?_) (fun q8 => ?_)
      · refine ms_swIn (pc := 11) S (m_dec e11_told 7 rfl) 1 q8 (by decide) (by decide) rfl rfl ?_
        refine ms_aload_n (pc := 75) S 0 rfl rfl (m_dec e11_told 13 rfl) ?_
        refine ms_grd fun g9 => ?_
        refine ms_getf (pc := 76) S lf_X11_29 rfl (m_dec e11_told 14 rfl) g9 ?_
        refine ms_iload_n (pc := 79) S 1 rfl rfl (m_dec e11_told 15 rfl) ?_
        refine ms_grd fun g10 => ?_
        refine ms_iald (pc := 80) S g10 (m_dec e11_told 16 rfl) ?_
        exact ms_ret (pc := 81) E (m_dec e11_told 17 rfl) rfl
      · refine ms_ite (fun q11 => ?_) (fun q11 => ?_)
        · refine ms_swIn (pc := 11) S (m_dec e11_told 7 rfl) 2 q11 (by decide) (by decide) rfl rfl ?_
          refine ms_aload_n (pc := 82) S 0 rfl rfl (m_dec e11_told 18 rfl) ?_
          refine ms_grd fun g12 => ?_
          refine ms_getf (pc := 83) S lf_X11_23 rfl (m_dec e11_told 19 rfl) g12 ?_
          refine ms_iload_n (pc := 86) S 1 rfl rfl (m_dec e11_told 20 rfl) ?_
          refine ms_grd fun g13 => ?_
          refine ms_iald (pc := 87) S g13 (m_dec e11_told 21 rfl) ?_
          exact ms_ret (pc := 88) E (m_dec e11_told 22 rfl) rfl
        · refine ms_ite (fun q14 => ?_) (fun q14 => ?_)
          · refine ms_swIn (pc := 11) S (m_dec e11_told 7 rfl) 3 q14 (by decide) (by decide) rfl rfl ?_
            refine ms_aload_n (pc := 89) S 0 rfl rfl (m_dec e11_told 23 rfl) ?_
            refine ms_grd fun g15 => ?_
            refine ms_getf (pc := 90) S lf_X11_32 rfl (m_dec e11_told 24 rfl) g15 ?_
            refine ms_iload_n (pc := 93) S 1 rfl rfl (m_dec e11_told 25 rfl) ?_
            refine ms_grd fun g16 => ?_
            refine ms_iald (pc := 94) S g16 (m_dec e11_told 26 rfl) ?_
            exact ms_ret (pc := 95) E (m_dec e11_told 27 rfl) rfl
          · refine ms_ite (fun q17 => ?_) (fun q17 => ?_)
            · refine ms_swIn (pc := 11) S (m_dec e11_told 7 rfl) 4 q17 (by decide) (by decide) rfl rfl ?_
              refine ms_aload_n (pc := 96) S 0 rfl rfl (m_dec e11_told 28 rfl) ?_
              refine ms_grd fun g18 => ?_
              refine ms_getf (pc := 97) S lf_X11_35 rfl (m_dec e11_told 29 rfl) g18 ?_
              refine ms_iload_n (pc := 100) S 1 rfl rfl (m_dec e11_told 30 rfl) ?_
              refine ms_grd fun g19 => ?_
              refine ms_iald (pc := 101) S g19 (m_dec e11_told 31 rfl) ?_
              exact ms_ret (pc := 102) E (m_dec e11_told 32 rfl) rfl
            · refine ms_ite (fun q20 => ?_) (fun q20 => ?_)
              · refine ms_swIn (pc := 11) S (m_dec e11_told 7 rfl) 5 q20 (by decide) (by decide) rfl rfl ?_
                refine ms_aload_n (pc := 103) S 0 rfl rfl (m_dec e11_told 33 rfl) ?_
                refine ms_grd fun g21 => ?_
                refine ms_getf (pc := 104) S lf_X11_38 rfl (m_dec e11_told 34 rfl) g21 ?_
                refine ms_iload_n (pc := 107) S 1 rfl rfl (m_dec e11_told 35 rfl) ?_
                refine ms_grd fun g22 => ?_
                refine ms_iald (pc := 108) S g22 (m_dec e11_told 36 rfl) ?_
                exact ms_ret (pc := 109) E (m_dec e11_told 37 rfl) rfl
              · refine ms_ite (fun q23 => ?_) (fun q23 => ?_)
                · refine ms_swIn (pc := 11) S (m_dec e11_told 7 rfl) 6 q23 (by decide) (by decide) rfl rfl ?_
                  refine ms_aload_n (pc := 110) S 0 rfl rfl (m_dec e11_told 38 rfl) ?_
                  refine ms_grd fun g24 => ?_
                  refine ms_getf (pc := 111) S lf_X11_41 rfl (m_dec e11_told 39 rfl) g24 ?_
                  refine ms_iload_n (pc := 114) S 1 rfl rfl (m_dec e11_told 40 rfl) ?_
                  refine ms_grd fun g25 => ?_
                  refine ms_iald (pc := 115) S g25 (m_dec e11_told 41 rfl) ?_
                  exact ms_ret (pc := 116) E (m_dec e11_told 42 rfl) rfl
                · refine ms_ite (fun q26 => ?_) (fun q26 => ?_)
                  · refine ms_swIn (pc := 11) S (m_dec e11_told 7 rfl) 7 q26 (by decide) (by decide) rfl rfl ?_
                    refine ms_aload_n (pc := 117) S 0 rfl rfl (m_dec e11_told 43 rfl) ?_
                    refine ms_grd fun g27 => ?_
                    refine ms_getf (pc := 118) S lf_X11_44 rfl (m_dec e11_told 44 rfl) g27 ?_
                    refine ms_iload_n (pc := 121) S 1 rfl rfl (m_dec e11_told 45 rfl) ?_
                    refine ms_grd fun g28 => ?_
                    refine ms_iald (pc := 122) S g28 (m_dec e11_told 46 rfl) ?_
                    exact ms_ret (pc := 123) E (m_dec e11_told 47 rfl) rfl
                  · refine ms_ite (fun q29 => ?_) (fun q29 => ?_)
                    · refine ms_swIn (pc := 11) S (m_dec e11_told 7 rfl) 8 q29 (by decide) (by decide) rfl rfl ?_
                      refine ms_aload_n (pc := 124) S 0 rfl rfl (m_dec e11_told 48 rfl) ?_
                      refine ms_grd fun g30 => ?_
                      refine ms_getf (pc := 125) S lf_X11_47 rfl (m_dec e11_told 49 rfl) g30 ?_
                      refine ms_iload_n (pc := 128) S 1 rfl rfl (m_dec e11_told 50 rfl) ?_
                      refine ms_grd fun g31 => ?_
                      refine ms_iald (pc := 129) S g31 (m_dec e11_told 51 rfl) ?_
                      exact ms_ret (pc := 130) E (m_dec e11_told 52 rfl) rfl
                    · refine ms_ite (fun q32 => ?_) (fun q32 => ?_)
                      · refine ms_swIn (pc := 11) S (m_dec e11_told 7 rfl) 9 q32 (by decide) (by decide) rfl rfl ?_
                        refine ms_aload_n (pc := 131) S 0 rfl rfl (m_dec e11_told 53 rfl) ?_
                        refine ms_grd fun g33 => ?_
                        refine ms_getf (pc := 132) S lf_X11_50 rfl (m_dec e11_told 54 rfl) g33 ?_
                        refine ms_iload_n (pc := 135) S 1 rfl rfl (m_dec e11_told 55 rfl) ?_
                        refine ms_grd fun g34 => ?_
                        refine ms_iald (pc := 136) S g34 (m_dec e11_told 56 rfl) ?_
                        exact ms_ret (pc := 137) E (m_dec e11_told 57 rfl) rfl
                      · refine ms_ite (fun q35 => ?_) (fun q35 => ?_)
                        · refine ms_swIn (pc := 11) S (m_dec e11_told 7 rfl) 10 q35 (by decide) (by decide) rfl rfl ?_
                          refine ms_aload_n (pc := 138) S 0 rfl rfl (m_dec e11_told 58 rfl) ?_
                          refine ms_grd fun g36 => ?_
                          refine ms_getf (pc := 139) S lf_X11_53 rfl (m_dec e11_told 59 rfl) g36 ?_
                          refine ms_iload_n (pc := 142) S 1 rfl rfl (m_dec e11_told 60 rfl) ?_
                          refine ms_grd fun g37 => ?_
                          refine ms_iald (pc := 143) S g37 (m_dec e11_told 61 rfl) ?_
                          exact ms_ret (pc := 144) E (m_dec e11_told 62 rfl) rfl
                        · refine ms_swOut (pc := 11) (a := v2) S (m_dec e11_told 7 rfl) (by omega) rfl ?_
                          refine ms_iconst (pc := 145) S (m_dec e11_told 63 rfl) ?_
                          exact ms_ret (pc := 146) E (m_dec e11_told 64 rfl) rfl
  · refine ms_iconst (pc := 8) S (m_dec e11_told 4 rfl) ?_
    exact ms_ret (pc := 9) E (m_dec e11_told 5 rfl) rfl
theorem k11_told (l : Launch) (d : m_D) (v0 v1 v2 : Int) (h : m_H) : m_Con l d yX11_told cX11_told 3 (some .int) 2 (fun r => [m_i r]) [m_r v0, m_i v1, m_i v2] h (t11_told v0 v1 v2 h) :=
  m_con2 (by decide +kernel) (Nat.le_of_ble_eq_true rfl) (fun Y hN hRm hr hI S hfin => s11_told S (m_end_i S hr hfin) hRm (Nat.le_refl _) hN v0 v1 v2 h)
set_option maxRecDepth 100000 in
theorem e11_feeds : ∀ q ∈ ([(0, .iconst 3, 1), (1, .istore_n 2, 1), (2, .iload_n 2, 1), (3, .ifCond .lt 35, 3), (6, .aload_n 0, 1), (7, .getfield 80, 3), (10, .aload_n 0, 1), (11, .getfield 369, 3), (14, .iload_n 1, 1), (15, .bipush 8, 2), (17, .iload_n 2, 1), (18, .imul, 1), (19, .iushr, 1), (20, .i2b, 1), (21, .bastore, 1), (22, .aload_n 0, 1), (23, .dup, 1), (24, .getfield 369, 3), (27, .iconst 1, 1), (28, .iadd, 1), (29, .putfield 369, 3), (32, .iinc 2 (-1), 3), (35, .goto (-33), 3), (38, .return_, 1)] : List (Nat × Instr × Nat)), decode cX11_feeds q.1 = .ok q.2 := by decide +kernel
set_option maxHeartbeats 4000000 in
set_option maxRecDepth 20000 in
theorem s11_feeds_c2 {Y : m_Y Unit} (S : m_Std Y RX11 cX11_feeds) (E : m_End Y cX11_feeds .return_ (fun _ => [])) {F : Nat} (hF : m_Rm Y F) (hFn : 0 ≤ F) (hN : Y.2.2.2.1 = 3) : ∀ (v0 v1 v2 : Int) (h : m_H), m_Sim Y 2 [(0, m_r v0), (1, m_i v1), (2, m_i v2)] [] h (t11_feeds_c2 v0 v1 v2 h) := by
  intro v0 v1 v2 h
  refine ms_all fun r e => ?_
  refine t11_feeds_c2.partial_correctness v0 v1 (motive := fun v2 h r => m_Sim Y 2 [(0, m_r v0), (1, m_i v1), (2, m_i v2)] [] h (some r)) ?_ v2 h r e
  intro f ih v2 h r e
  have ih : ∀ (v2 : Int) (h : m_H), m_Sim Y 2 [(0, m_r v0), (1, m_i v1), (2, m_i v2)] [] h (f v2 h ) := fun v2 h  => ms_all fun r e => ih v2 h r e
  refine ms_use ?_ e
  clear e r
  refine ms_iload_n (pc := 2) S 2 rfl rfl (m_dec e11_feeds 2 rfl) ?_
  refine ms_if_lt (pc := 3) S (m_dec e11_feeds 3 rfl) rfl (fun q1 => ?_) (fun q1 => ?_)
  · exact ms_ret (pc := 38) E (m_dec e11_feeds 23 rfl) rfl
  · refine ms_aload_n (pc := 6) S 0 rfl rfl (m_dec e11_feeds 4 rfl) ?_
    refine ms_grd fun g2 => ?_
    refine ms_getf (pc := 7) S lf_X11_80 rfl (m_dec e11_feeds 5 rfl) g2 ?_
    refine ms_aload_n (pc := 10) S 0 rfl rfl (m_dec e11_feeds 6 rfl) ?_
    refine ms_getf (pc := 11) S lf_X11_369 rfl (m_dec e11_feeds 7 rfl) g2 ?_
    refine ms_iload_n (pc := 14) S 1 rfl rfl (m_dec e11_feeds 8 rfl) ?_
    refine ms_bipush (pc := 15) S (m_dec e11_feeds 9 rfl) rfl ?_
    refine ms_iload_n (pc := 17) S 2 rfl rfl (m_dec e11_feeds 10 rfl) ?_
    refine ms_imul (pc := 18) S (m_dec e11_feeds 11 rfl) ?_
    refine ms_iushr (pc := 19) S (m_dec e11_feeds 12 rfl) ?_
    refine ms_i2b (pc := 20) S (m_dec e11_feeds 13 rfl) ?_
    refine ms_grd fun g3 => ?_
    refine ms_bast (pc := 21) S g3 (m_dec e11_feeds 14 rfl) (fun h4 => ?_)
    refine ms_aload_n (pc := 22) S 0 rfl rfl (m_dec e11_feeds 15 rfl) ?_
    refine ms_dup (pc := 23) S rfl (m_dec e11_feeds 16 rfl) ?_
    refine ms_grd fun g5 => ?_
    refine ms_getf (pc := 24) S lf_X11_369 rfl (m_dec e11_feeds 17 rfl) g5 ?_
    refine ms_iconst (pc := 27) S (m_dec e11_feeds 18 rfl) ?_
    refine ms_iadd (pc := 28) S (m_dec e11_feeds 19 rfl) ?_
    refine ms_putf (pc := 29) S lp_X11_369 (fun z => by cases z) rfl (fun d => m_fitI d _) (m_dec e11_feeds 20 rfl) g5 (fun h6 => ?_)
    refine ms_iinc (pc := 32) S (L' := [(0, m_r v0), (1, m_i v1), (2, m_i (v2 + (-1)))]) 2 rfl [1, 2, 0] rfl (m_lt hN rfl) (m_dec e11_feeds 21 rfl) ?_
    refine ms_goto (pc := 35) S (m_dec e11_feeds 22 rfl) rfl ?_
    exact ih (v2 + (-1)) h6
set_option maxHeartbeats 4000000 in
set_option maxRecDepth 20000 in
theorem s11_feeds {Y : m_Y Unit} (S : m_Std Y RX11 cX11_feeds) (E : m_End Y cX11_feeds .return_ (fun _ => [])) {F : Nat} (hF : m_Rm Y F) (hFn : 0 ≤ F) (hN : Y.2.2.2.1 = 3) (v0 v1 : Int) (h : m_H) : m_Sim Y 0 [(0, m_r v0), (1, m_i v1)] [] h (t11_feeds v0 v1 h) := by
  unfold t11_feeds
  refine ms_iconst (pc := 0) S (m_dec e11_feeds 0 rfl) ?_
  refine ms_istore_n (pc := 1) S (L' := [(0, m_r v0), (1, m_i v1), (2, m_i 3)]) [1, 2, 0] rfl rfl (m_lt hN rfl) (m_dec e11_feeds 1 rfl) ?_
  exact s11_feeds_c2 S E hF hFn hN v0 v1 3 h
theorem k11_feeds (l : Launch) (d : m_D) (v0 v1 : Int) (h : m_H) : m_Con l d yX11_feeds cX11_feeds 3 none 0 (fun _ => []) [m_r v0, m_i v1] h (t11_feeds v0 v1 h) :=
  m_con2 (by decide +kernel) (Nat.le_of_ble_eq_true rfl) (fun Y hN hRm hr hI S hfin => s11_feeds S (m_end_v S hr hfin) hRm (Nat.le_refl _) hN v0 v1 h)
set_option maxRecDepth 100000 in
theorem e11_feed : ∀ q ∈ ([(0, .aload_n 0, 1), (1, .getfield 369, 3), (4, .bipush 20, 2), (6, .iadd, 1), (7, .sipush 1200, 3), (10, .if_icmp .le 5, 3), (13, .iconst (-1), 1), (14, .ireturn, 1), (15, .aload_n 0, 1), (16, .iload_n 1, 1), (17, .invokevirtual 372, 3), (20, .aload_n 0, 1), (21, .iload_n 2, 1), (22, .invokevirtual 372, 3), (25, .aload_n 0, 1), (26, .iload_n 3, 1), (27, .invokevirtual 372, 3), (30, .aload_n 0, 1), (31, .iload 4, 2), (33, .invokevirtual 372, 3), (36, .aload_n 0, 1), (37, .iload 5, 2), (39, .invokevirtual 372, 3), (42, .aload_n 0, 1), (43, .getfield 369, 3), (46, .ireturn, 1)] : List (Nat × Instr × Nat)), decode cX11_feed q.1 = .ok q.2 := by decide +kernel
set_option maxHeartbeats 4000000 in
set_option maxRecDepth 20000 in
theorem s11_feed {Y : m_Y Int} (S : m_Std Y RX11 cX11_feed) (E : m_End Y cX11_feed .ireturn (fun r => [m_i r])) {F : Nat} (hF : m_Rm Y F) (hFn : 1 ≤ F) (hN : Y.2.2.2.1 = 6) (v0 v1 v2 v3 v4 v5 : Int) (h : m_H) : m_Sim Y 0 [(0, m_r v0), (1, m_i v1), (2, m_i v2), (3, m_i v3), (4, m_i v4), (5, m_i v5)] [] h (t11_feed v0 v1 v2 v3 v4 v5 h) := by
  unfold t11_feed
  refine ms_aload_n (pc := 0) S 0 rfl rfl (m_dec e11_feed 0 rfl) ?_
  refine ms_grd fun g1 => ?_
  refine ms_getf (pc := 1) S lf_X11_369 rfl (m_dec e11_feed 1 rfl) g1 ?_
  refine ms_bipush (pc := 4) S (m_dec e11_feed 2 rfl) rfl ?_
  refine ms_iadd (pc := 6) S (m_dec e11_feed 3 rfl) ?_
  refine ms_sipush (pc := 7) S (m_dec e11_feed 4 rfl) rfl ?_
  refine ms_icmp_le (pc := 10) S (m_dec e11_feed 5 rfl) rfl (fun q2 => ?_) (fun q2 => ?_)
  · refine ms_iconst (pc := 13) S (m_dec e11_feed 6 rfl) ?_
    exact ms_ret (pc := 14) E (m_dec e11_feed 7 rfl) rfl
  · refine ms_aload_n (pc := 15) S 0 rfl rfl (m_dec e11_feed 8 rfl) ?_
    refine ms_iload_n (pc := 16) S 1 rfl rfl (m_dec e11_feed 9 rfl) ?_
    refine ms_callVv (pc := 17) S hF (vals := [m_i v1]) (st := []) (hc := vw_11) (hci := by decide) (hcy := rfl) (ht := g1) (hC := (k11_feeds _ _ v0 v1 h)) (hM := lm_X11_372) (hfr := (Nat.le_trans (by decide) hFn)) (hstk := rfl) (hcat := Nat.le_of_ble_eq_true rfl) (hd := (m_dec e11_feed 10 rfl)) (k1 := fun h3 => ?_)
    refine ms_aload_n (pc := 20) S 0 rfl rfl (m_dec e11_feed 11 rfl) ?_
    refine ms_iload_n (pc := 21) S 2 rfl rfl (m_dec e11_feed 12 rfl) ?_
    refine ms_grd fun g5 => ?_
    refine ms_callVv (pc := 22) S hF (vals := [m_i v2]) (st := []) (hc := vw_11) (hci := by decide) (hcy := rfl) (ht := g5) (hC := (k11_feeds _ _ v0 v2 h3)) (hM := lm_X11_372) (hfr := (Nat.le_trans (by decide) hFn)) (hstk := rfl) (hcat := Nat.le_of_ble_eq_true rfl) (hd := (m_dec e11_feed 13 rfl)) (k1 := fun h6 => ?_)
    refine ms_aload_n (pc := 25) S 0 rfl rfl (m_dec e11_feed 14 rfl) ?_
    refine ms_iload_n (pc := 26) S 3 rfl rfl (m_dec e11_feed 15 rfl) ?_
    refine ms_grd fun g8 => ?_
    refine ms_callVv (pc := 27) S hF (vals := [m_i v3]) (st := []) (hc := vw_11) (hci := by decide) (hcy := rfl) (ht := g8) (hC := (k11_feeds _ _ v0 v3 h6)) (hM := lm_X11_372) (hfr := (Nat.le_trans (by decide) hFn)) (hstk := rfl) (hcat := Nat.le_of_ble_eq_true rfl) (hd := (m_dec e11_feed 16 rfl)) (k1 := fun h9 => ?_)
    refine ms_aload_n (pc := 30) S 0 rfl rfl (m_dec e11_feed 17 rfl) ?_
    refine ms_iload (pc := 31) S 4 rfl (m_dec e11_feed 18 rfl) ?_
    refine ms_grd fun g11 => ?_
    refine ms_callVv (pc := 33) S hF (vals := [m_i v4]) (st := []) (hc := vw_11) (hci := by decide) (hcy := rfl) (ht := g11) (hC := (k11_feeds _ _ v0 v4 h9)) (hM := lm_X11_372) (hfr := (Nat.le_trans (by decide) hFn)) (hstk := rfl) (hcat := Nat.le_of_ble_eq_true rfl) (hd := (m_dec e11_feed 19 rfl)) (k1 := fun h12 => ?_)
    refine ms_aload_n (pc := 36) S 0 rfl rfl (m_dec e11_feed 20 rfl) ?_
    refine ms_iload (pc := 37) S 5 rfl (m_dec e11_feed 21 rfl) ?_
    refine ms_grd fun g14 => ?_
    refine ms_callVv (pc := 39) S hF (vals := [m_i v5]) (st := []) (hc := vw_11) (hci := by decide) (hcy := rfl) (ht := g14) (hC := (k11_feeds _ _ v0 v5 h12)) (hM := lm_X11_372) (hfr := (Nat.le_trans (by decide) hFn)) (hstk := rfl) (hcat := Nat.le_of_ble_eq_true rfl) (hd := (m_dec e11_feed 22 rfl)) (k1 := fun h15 => ?_)
    refine ms_aload_n (pc := 42) S 0 rfl rfl (m_dec e11_feed 23 rfl) ?_
    refine ms_grd fun g17 => ?_
    refine ms_getf (pc := 43) S lf_X11_369 rfl (m_dec e11_feed 24 rfl) g17 ?_
    exact ms_ret (pc := 46) E (m_dec e11_feed 25 rfl) rfl
theorem k11_feed (l : Launch) (d : m_D) (v0 v1 v2 v3 v4 v5 : Int) (h : m_H) : m_Con l d yX11_feed cX11_feed 6 (some .int) 1 (fun r => [m_i r]) [m_r v0, m_i v1, m_i v2, m_i v3, m_i v4, m_i v5] h (t11_feed v0 v1 v2 v3 v4 v5 h) :=
  m_con2 (by decide +kernel) (Nat.le_of_ble_eq_true rfl) (fun Y hN hRm hr hI S hfin => s11_feed S (m_end_i S hr hfin) hRm (Nat.le_refl _) hN v0 v1 v2 v3 v4 v5 h)
set_option maxRecDepth 100000 in
theorem e11_end : ∀ q ∈ ([(0, .iload_n 1, 1), (1, .i2l, 1), (2, .lconst 0, 1), (3, .aload_n 0, 1), (4, .getfield 369, 3), (7, .i2l, 1), (8, .invokestatic 268, 3), (11, .ifCond .ne 5, 3), (14, .iconst 0, 1), (15, .ireturn, 1), (16, .aload_n 0, 1), (17, .iload_n 1, 1), (18, .putfield 369, 3), (21, .iconst 1, 1), (22, .ireturn, 1)] : List (Nat × Instr × Nat)), decode cX11_end q.1 = .ok q.2 := by decide +kernel
set_option maxHeartbeats 4000000 in
set_option maxRecDepth 20000 in
theorem s11_end {Y : m_Y Bool} (S : m_Std Y RX11 cX11_end) (E : m_End Y cX11_end .ireturn (fun r => [m_i (m_b2i r)])) {F : Nat} (hF : m_Rm Y F) (hFn : 1 ≤ F) (hN : Y.2.2.2.1 = 2) (v0 v1 : Int) (h : m_H) : m_Sim Y 0 [(0, m_r v0), (1, m_i v1)] [] h (t11_end v0 v1 h) := by
  unfold t11_end
  refine ms_iload_n (pc := 0) S 1 rfl rfl (m_dec e11_end 0 rfl) ?_
  refine ms_i2l (pc := 1) S (m_dec e11_end 1 rfl) ?_
  refine ms_lconst (pc := 2) S (n := 0) rfl (m_dec e11_end 2 rfl) ?_
  refine ms_aload_n (pc := 3) S 0 rfl rfl (m_dec e11_end 3 rfl) ?_
  refine ms_grd fun g1 => ?_
  refine ms_getf (pc := 4) S lf_X11_369 rfl (m_dec e11_end 4 rfl) g1 ?_
  refine ms_i2l (pc := 7) S (m_dec e11_end 5 rfl) ?_
  refine ms_callSz (pc := 8) S hF (vals := [m_j (m_w v1), m_j 0, m_j (m_w (m_g h v0 30))]) (st := [])  (hC := (k11_in _ _ (m_w v1) 0 (m_w (m_g h v0 30)) h)) (hM := lm_X11_268) (hfr := (Nat.le_trans (by decide) hFn)) (hstk := rfl) (hcat := Nat.le_of_ble_eq_true rfl) (hd := (m_dec e11_end 6 rfl)) (k1 := fun r3 h2 => ?_)
  refine ms_ifb_ne (pc := 11) S (m_dec e11_end 7 rfl) rfl (fun q4 => ?_) (fun q4 => ?_)
  · refine ms_aload_n (pc := 16) S 0 rfl rfl (m_dec e11_end 10 rfl) ?_
    refine ms_iload_n (pc := 17) S 1 rfl rfl (m_dec e11_end 11 rfl) ?_
    refine ms_grd fun g5 => ?_
    refine ms_putf (pc := 18) S lp_X11_369 (fun z => by cases z) rfl (fun d => m_fitI d _) (m_dec e11_end 12 rfl) g5 (fun h6 => ?_)
    refine ms_iconst (pc := 21) S (m_dec e11_end 13 rfl) ?_
    exact ms_ret (pc := 22) E (m_dec e11_end 14 rfl) rfl
  · refine ms_iconst (pc := 14) S (m_dec e11_end 8 rfl) ?_
    exact ms_ret (pc := 15) E (m_dec e11_end 9 rfl) rfl
theorem k11_end (l : Launch) (d : m_D) (v0 v1 : Int) (h : m_H) : m_Con l d yX11_end cX11_end 2 (some .boolean) 1 (fun r => [m_i (m_b2i r)]) [m_r v0, m_i v1] h (t11_end v0 v1 h) :=
  m_con2 (by decide +kernel) (Nat.le_of_ble_eq_true rfl) (fun Y hN hRm hr hI S hfin => s11_end S (m_end_z S hr hfin) hRm (Nat.le_refl _) hN v0 v1 h)
set_option maxRecDepth 100000 in
theorem e11_isLetter : ∀ q ∈ ([(0, .iload_n 0, 1), (1, .bipush 97, 2), (3, .if_icmp .lt 13, 3), (6, .iload_n 0, 1), (7, .bipush 122, 2), (9, .if_icmp .gt 7, 3), (12, .iconst 1, 1), (13, .goto 4, 3), (16, .iconst 0, 1), (17, .ireturn, 1)] : List (Nat × Instr × Nat)), decode cX11_isLetter q.1 = .ok q.2 := by decide +kernel
set_option maxHeartbeats 4000000 in
set_option maxRecDepth 20000 in
theorem s11_isLetter {Y : m_Y Bool} (S : m_Std Y RX11 cX11_isLetter) (E : m_End Y cX11_isLetter .ireturn (fun r => [m_i (m_b2i r)])) {F : Nat} (hF : m_Rm Y F) (hFn : 0 ≤ F) (hN : Y.2.2.2.1 = 1) (v0 : Int) (h : m_H) : m_Sim Y 0 [(0, m_i v0)] [] h (t11_isLetter v0 h) := by
  unfold t11_isLetter
  refine ms_iload_n (pc := 0) S 0 rfl rfl (m_dec e11_isLetter 0 rfl) ?_
  refine ms_bipush (pc := 1) S (m_dec e11_isLetter 1 rfl) rfl ?_
  refine ms_icmp_lt (pc := 3) S (m_dec e11_isLetter 2 rfl) rfl (fun q1 => ?_) (fun q1 => ?_)
  · refine ms_iconst (pc := 16) S (m_dec e11_isLetter 8 rfl) ?_
    exact ms_ret (pc := 17) E (m_dec e11_isLetter 9 rfl) rfl
  · refine ms_iload_n (pc := 6) S 0 rfl rfl (m_dec e11_isLetter 3 rfl) ?_
    refine ms_bipush (pc := 7) S (m_dec e11_isLetter 4 rfl) rfl ?_
    refine ms_icmp_gt (pc := 9) S (m_dec e11_isLetter 5 rfl) rfl (fun q2 => ?_) (fun q2 => ?_)
    · refine ms_iconst (pc := 16) S (m_dec e11_isLetter 8 rfl) ?_
      exact ms_ret (pc := 17) E (m_dec e11_isLetter 9 rfl) rfl
    · refine ms_iconst (pc := 12) S (m_dec e11_isLetter 6 rfl) ?_
      refine ms_goto (pc := 13) S (m_dec e11_isLetter 7 rfl) rfl ?_
      exact ms_ret (pc := 17) E (m_dec e11_isLetter 9 rfl) rfl
theorem k11_isLetter (l : Launch) (d : m_D) (v0 : Int) (h : m_H) : m_Con l d yX11_isLetter cX11_isLetter 1 (some .boolean) 0 (fun r => [m_i (m_b2i r)]) [m_i v0] h (t11_isLetter v0 h) :=
  m_con2 (by decide +kernel) (Nat.le_of_ble_eq_true rfl) (fun Y hN hRm hr hI S hfin => s11_isLetter S (m_end_z S hr hfin) hRm (Nat.le_refl _) hN v0 h)
set_option maxRecDepth 100000 in
theorem e11_isDigit : ∀ q ∈ ([(0, .iload_n 0, 1), (1, .bipush 48, 2), (3, .if_icmp .lt 13, 3), (6, .iload_n 0, 1), (7, .bipush 57, 2), (9, .if_icmp .gt 7, 3), (12, .iconst 1, 1), (13, .goto 4, 3), (16, .iconst 0, 1), (17, .ireturn, 1)] : List (Nat × Instr × Nat)), decode cX11_isDigit q.1 = .ok q.2 := by decide +kernel
set_option maxHeartbeats 4000000 in
set_option maxRecDepth 20000 in
theorem s11_isDigit {Y : m_Y Bool} (S : m_Std Y RX11 cX11_isDigit) (E : m_End Y cX11_isDigit .ireturn (fun r => [m_i (m_b2i r)])) {F : Nat} (hF : m_Rm Y F) (hFn : 0 ≤ F) (hN : Y.2.2.2.1 = 1) (v0 : Int) (h : m_H) : m_Sim Y 0 [(0, m_i v0)] [] h (t11_isDigit v0 h) := by
  unfold t11_isDigit
  refine ms_iload_n (pc := 0) S 0 rfl rfl (m_dec e11_isDigit 0 rfl) ?_
  refine ms_bipush (pc := 1) S (m_dec e11_isDigit 1 rfl) rfl ?_
  refine ms_icmp_lt (pc := 3) S (m_dec e11_isDigit 2 rfl) rfl (fun q1 => ?_) (fun q1 => ?_)
  · refine ms_iconst (pc := 16) S (m_dec e11_isDigit 8 rfl) ?_
    exact ms_ret (pc := 17) E (m_dec e11_isDigit 9 rfl) rfl
  · refine ms_iload_n (pc := 6) S 0 rfl rfl (m_dec e11_isDigit 3 rfl) ?_
    refine ms_bipush (pc := 7) S (m_dec e11_isDigit 4 rfl) rfl ?_
    refine ms_icmp_gt (pc := 9) S (m_dec e11_isDigit 5 rfl) rfl (fun q2 => ?_) (fun q2 => ?_)
    · refine ms_iconst (pc := 16) S (m_dec e11_isDigit 8 rfl) ?_
      exact ms_ret (pc := 17) E (m_dec e11_isDigit 9 rfl) rfl
    · refine ms_iconst (pc := 12) S (m_dec e11_isDigit 6 rfl) ?_
      refine ms_goto (pc := 13) S (m_dec e11_isDigit 7 rfl) rfl ?_
      exact ms_ret (pc := 17) E (m_dec e11_isDigit 9 rfl) rfl
theorem k11_isDigit (l : Launch) (d : m_D) (v0 : Int) (h : m_H) : m_Con l d yX11_isDigit cX11_isDigit 1 (some .boolean) 0 (fun r => [m_i (m_b2i r)]) [m_i v0] h (t11_isDigit v0 h) :=
  m_con2 (by decide +kernel) (Nat.le_of_ble_eq_true rfl) (fun Y hN hRm hr hI S hfin => s11_isDigit S (m_end_z S hr hfin) hRm (Nat.le_refl _) hN v0 h)
set_option maxRecDepth 100000 in
theorem e11_skips : ∀ q ∈ ([(0, .aload_n 0, 1), (1, .getfield 375, 3), (4, .aload_n 0, 1), (5, .getfield 369, 3), (8, .if_icmp .ge 44, 3), (11, .aload_n 0, 1), (12, .getfield 80, 3), (15, .aload_n 0, 1), (16, .getfield 375, 3), (19, .baload, 1), (20, .bipush 32, 2), (22, .if_icmp .eq 17, 3), (25, .aload_n 0, 1), (26, .getfield 80, 3), (29, .aload_n 0, 1), (30, .getfield 375, 3), (33, .baload, 1), (34, .bipush 10, 2), (36, .if_icmp .ne 16, 3), (39, .aload_n 0, 1), (40, .dup, 1), (41, .getfield 375, 3), (44, .iconst 1, 1), (45, .iadd, 1), (46, .putfield 375, 3), (49, .goto (-49), 3), (52, .aload_n 0, 1), (53, .aload_n 0, 1), (54, .getfield 375, 3), (57, .putfield 378, 3), (60, .aload_n 0, 1), (61, .getfield 378, 3), (64, .aload_n 0, 1), (65, .getfield 369, 3), (68, .if_icmp .ge 31, 3), (71, .aload_n 0, 1), (72, .getfield 80, 3), (75, .aload_n 0, 1), (76, .getfield 378, 3), (79, .baload, 1), (80, .invokestatic 381, 3), (83, .ifCond .eq 16, 3), (86, .aload_n 0, 1), (87, .dup, 1), (88, .getfield 378, 3), (91, .iconst 1, 1), (92, .iadd, 1), (93, .putfield 378, 3), (96, .goto (-36), 3), (99, .return_, 1)] : List (Nat × Instr × Nat)), decode cX11_skips q.1 = .ok q.2 := by decide +kernel
set_option maxHeartbeats 4000000 in
set_option maxRecDepth 20000 in
theorem s11_skips_c60 {Y : m_Y Unit} (S : m_Std Y RX11 cX11_skips) (E : m_End Y cX11_skips .return_ (fun _ => [])) {F : Nat} (hF : m_Rm Y F) (hFn : 1 ≤ F) (hN : Y.2.2.2.1 = 1) : ∀ (v0 : Int) (h : m_H), m_Sim Y 60 [(0, m_r v0)] [] h (t11_skips_c60 v0 h) := by
  intro v0 h
  refine ms_all fun r e => ?_
  refine t11_skips_c60.partial_correctness v0 (motive := fun h r => m_Sim Y 60 [(0, m_r v0)] [] h (some r)) ?_ h r e
  intro f ih h r e
  have ih : ∀ (h : m_H), m_Sim Y 60 [(0, m_r v0)] [] h (f h ) := fun h  => ms_all fun r e => ih h r e
  refine ms_use ?_ e
  clear e r
  refine ms_aload_n (pc := 60) S 0 rfl rfl (m_dec e11_skips 30 rfl) ?_
  refine ms_grd fun g1 => ?_
  refine ms_getf (pc := 61) S lf_X11_378 rfl (m_dec e11_skips 31 rfl) g1 ?_
  refine ms_aload_n (pc := 64) S 0 rfl rfl (m_dec e11_skips 32 rfl) ?_
  refine ms_getf (pc := 65) S lf_X11_369 rfl (m_dec e11_skips 33 rfl) g1 ?_
  refine ms_icmp_ge (pc := 68) S (m_dec e11_skips 34 rfl) rfl (fun q2 => ?_) (fun q2 => ?_)
  · refine ms_aload_n (pc := 71) S 0 rfl rfl (m_dec e11_skips 35 rfl) ?_
    refine ms_getf (pc := 72) S lf_X11_80 rfl (m_dec e11_skips 36 rfl) g1 ?_
    refine ms_aload_n (pc := 75) S 0 rfl rfl (m_dec e11_skips 37 rfl) ?_
    refine ms_getf (pc := 76) S lf_X11_378 rfl (m_dec e11_skips 38 rfl) g1 ?_
    refine ms_grd fun g3 => ?_
    refine ms_bald (pc := 79) S g3 (m_dec e11_skips 39 rfl) ?_
    refine ms_callSz (pc := 80) S hF (vals := [m_i (m_g h (m_g h v0 29) (m_w (m_g h v0 32)))]) (st := [])  (hC := (k11_isLetter _ _ (m_g h (m_g h v0 29) (m_w (m_g h v0 32))) h)) (hM := lm_X11_381) (hfr := (Nat.le_trans (by decide) hFn)) (hstk := rfl) (hcat := Nat.le_of_ble_eq_true rfl) (hd := (m_dec e11_skips 40 rfl)) (k1 := fun r5 h4 => ?_)
    refine ms_ifb_eq (pc := 83) S (m_dec e11_skips 41 rfl) rfl (fun q6 => ?_) (fun q6 => ?_)
    · refine ms_aload_n (pc := 86) S 0 rfl rfl (m_dec e11_skips 42 rfl) ?_
      refine ms_dup (pc := 87) S rfl (m_dec e11_skips 43 rfl) ?_
      refine ms_grd fun g7 => ?_
      refine ms_getf (pc := 88) S lf_X11_378 rfl (m_dec e11_skips 44 rfl) g7 ?_
      refine ms_iconst (pc := 91) S (m_dec e11_skips 45 rfl) ?_
      refine ms_iadd (pc := 92) S (m_dec e11_skips 46 rfl) ?_
      refine ms_putf (pc := 93) S lp_X11_378 (fun z => by cases z) rfl (fun d => m_fitI d _) (m_dec e11_skips 47 rfl) g7 (fun h8 => ?_)
      refine ms_goto (pc := 96) S (m_dec e11_skips 48 rfl) rfl ?_
      exact ih h8
    · exact ms_ret (pc := 99) E (m_dec e11_skips 49 rfl) rfl
  · exact ms_ret (pc := 99) E (m_dec e11_skips 49 rfl) rfl
set_option maxHeartbeats 4000000 in
set_option maxRecDepth 20000 in
theorem s11_skips_c52 {Y : m_Y Unit} (S : m_Std Y RX11 cX11_skips) (E : m_End Y cX11_skips .return_ (fun _ => [])) {F : Nat} (hF : m_Rm Y F) (hFn : 1 ≤ F) (hN : Y.2.2.2.1 = 1) (v0 : Int) (h : m_H) : m_Sim Y 52 [(0, m_r v0)] [] h (t11_skips_c52 v0 h) := by
  unfold t11_skips_c52
  refine ms_aload_n (pc := 52) S 0 rfl rfl (m_dec e11_skips 26 rfl) ?_
  refine ms_aload_n (pc := 53) S 0 rfl rfl (m_dec e11_skips 27 rfl) ?_
  refine ms_grd fun g1 => ?_
  refine ms_getf (pc := 54) S lf_X11_375 rfl (m_dec e11_skips 28 rfl) g1 ?_
  refine ms_putf (pc := 57) S lp_X11_378 (fun z => by cases z) rfl (fun d => m_fitI d _) (m_dec e11_skips 29 rfl) g1 (fun h2 => ?_)
  exact s11_skips_c60 S E hF hFn hN v0 h2
set_option maxHeartbeats 4000000 in
set_option maxRecDepth 20000 in
theorem s11_skips_x0 {Y : m_Y Unit} (S : m_Std Y RX11 cX11_skips) (E : m_End Y cX11_skips .return_ (fun _ => [])) {F : Nat} (hF : m_Rm Y F) (hFn : 1 ≤ F) (hN : Y.2.2.2.1 = 1) : ∀ (cc : Int) (v0 : Int) (h : m_H) (r : Unit × m_H), t11_skips_x0 cc v0 h = some r → (cc = 0 → m_Sim Y 0 [(0, m_r v0)] [] h (some r)) ∧ (cc = 39 → m_Sim Y 39 [(0, m_r v0)] [] h (some r)) := by
  intro cc v0 h r e
  refine t11_skips_x0.partial_correctness v0 (motive := fun cc h r => (cc = 0 → m_Sim Y 0 [(0, m_r v0)] [] h (some r)) ∧ (cc = 39 → m_Sim Y 39 [(0, m_r v0)] [] h (some r))) ?_ cc h r e
  intro f ih cc h r e
  have ih0 : ∀ (h : m_H), m_Sim Y 0 [(0, m_r v0)] [] h (f 0 h ) := fun h  => ms_all fun r e => (ih 0 h r e).1 rfl
  have ih39 : ∀ (h : m_H), m_Sim Y 39 [(0, m_r v0)] [] h (f 39 h ) := fun h  => ms_all fun r e => (ih 39 h r e).2 rfl
  refine ⟨?_, ?_⟩
  · intro q0
    subst q0
    rw [if_pos rfl] at e
    refine ms_use ?_ e
    clear e r
    refine ms_aload_n (pc := 0) S 0 rfl rfl (m_dec e11_skips 0 rfl) ?_
    refine ms_grd fun g1 => ?_
    refine ms_getf (pc := 1) S lf_X11_375 rfl (m_dec e11_skips 1 rfl) g1 ?_
    refine ms_aload_n (pc := 4) S 0 rfl rfl (m_dec e11_skips 2 rfl) ?_
    refine ms_getf (pc := 5) S lf_X11_369 rfl (m_dec e11_skips 3 rfl) g1 ?_
    refine ms_icmp_ge (pc := 8) S (m_dec e11_skips 4 rfl) rfl (fun q2 => ?_) (fun q2 => ?_)
    · refine ms_aload_n (pc := 11) S 0 rfl rfl (m_dec e11_skips 5 rfl) ?_
      refine ms_getf (pc := 12) S lf_X11_80 rfl (m_dec e11_skips 6 rfl) g1 ?_
      refine ms_aload_n (pc := 15) S 0 rfl rfl (m_dec e11_skips 7 rfl) ?_
      refine ms_getf (pc := 16) S lf_X11_375 rfl (m_dec e11_skips 8 rfl) g1 ?_
      refine ms_grd fun g3 => ?_
      refine ms_bald (pc := 19) S g3 (m_dec e11_skips 9 rfl) ?_
      refine ms_bipush (pc := 20) S (m_dec e11_skips 10 rfl) rfl ?_
      refine ms_icmp_eq (pc := 22) S (m_dec e11_skips 11 rfl) rfl (fun q4 => ?_) (fun q4 => ?_)
      · exact ih39 h
      · refine ms_aload_n (pc := 25) S 0 rfl rfl (m_dec e11_skips 12 rfl) ?_
        refine ms_getf (pc := 26) S lf_X11_80 rfl (m_dec e11_skips 13 rfl) g1 ?_
        refine ms_aload_n (pc := 29) S 0 rfl rfl (m_dec e11_skips 14 rfl) ?_
        refine ms_getf (pc := 30) S lf_X11_375 rfl (m_dec e11_skips 15 rfl) g1 ?_
        refine ms_bald (pc := 33) S g3 (m_dec e11_skips 16 rfl) ?_
        refine ms_bipush (pc := 34) S (m_dec e11_skips 17 rfl) rfl ?_
        refine ms_icmp_ne (pc := 36) S (m_dec e11_skips 18 rfl) rfl (fun q5 => ?_) (fun q5 => ?_)
        · exact ih39 h
        · exact s11_skips_c52 S E hF hFn hN v0 h
    · exact s11_skips_c52 S E hF hFn hN v0 h
  · intro q0
    subst q0
    rw [if_neg (by decide), if_pos rfl] at e
    refine ms_use ?_ e
    clear e r
    refine ms_aload_n (pc := 39) S 0 rfl rfl (m_dec e11_skips 19 rfl) ?_
    refine ms_dup (pc := 40) S rfl (m_dec e11_skips 20 rfl) ?_
    refine ms_grd fun g1 => ?_
    refine ms_getf (pc := 41) S lf_X11_375 rfl (m_dec e11_skips 21 rfl) g1 ?_
    refine ms_iconst (pc := 44) S (m_dec e11_skips 22 rfl) ?_
    refine ms_iadd (pc := 45) S (m_dec e11_skips 23 rfl) ?_
    refine ms_putf (pc := 46) S lp_X11_375 (fun z => by cases z) rfl (fun d => m_fitI d _) (m_dec e11_skips 24 rfl) g1 (fun h2 => ?_)
    refine ms_goto (pc := 49) S (m_dec e11_skips 25 rfl) rfl ?_
    exact ih0 h2
set_option maxHeartbeats 4000000 in
set_option maxRecDepth 20000 in
theorem s11_skips_c0 {Y : m_Y Unit} (S : m_Std Y RX11 cX11_skips) (E : m_End Y cX11_skips .return_ (fun _ => [])) {F : Nat} (hF : m_Rm Y F) (hFn : 1 ≤ F) (hN : Y.2.2.2.1 = 1) (v0 : Int) (h : m_H) : m_Sim Y 0 [(0, m_r v0)] [] h (t11_skips_x0 0 v0 h) := ms_all fun r e => (s11_skips_x0 S E hF hFn hN 0 v0 h r e).1 rfl
set_option maxHeartbeats 4000000 in
set_option maxRecDepth 20000 in
theorem s11_skips_c39 {Y : m_Y Unit} (S : m_Std Y RX11 cX11_skips) (E : m_End Y cX11_skips .return_ (fun _ => [])) {F : Nat} (hF : m_Rm Y F) (hFn : 1 ≤ F) (hN : Y.2.2.2.1 = 1) (v0 : Int) (h : m_H) : m_Sim Y 39 [(0, m_r v0)] [] h (t11_skips_x0 39 v0 h) := ms_all fun r e => (s11_skips_x0 S E hF hFn hN 39 v0 h r e).2 rfl
set_option maxHeartbeats 4000000 in
set_option maxRecDepth 20000 in
theorem s11_skips {Y : m_Y Unit} (S : m_Std Y RX11 cX11_skips) (E : m_End Y cX11_skips .return_ (fun _ => [])) {F : Nat} (hF : m_Rm Y F) (hFn : 1 ≤ F) (hN : Y.2.2.2.1 = 1) (v0 : Int) (h : m_H) : m_Sim Y 0 [(0, m_r v0)] [] h (t11_skips v0 h) := s11_skips_c0 S E hF hFn hN v0 h
theorem k11_skips (l : Launch) (d : m_D) (v0 : Int) (h : m_H) : m_Con l d yX11_skips cX11_skips 1 none 1 (fun _ => []) [m_r v0] h (t11_skips v0 h) :=
  m_con2 (by decide +kernel) (Nat.le_of_ble_eq_true rfl) (fun Y hN hRm hr hI S hfin => s11_skips S (m_end_v S hr hfin) hRm (Nat.le_refl _) hN v0 h)
set_option maxRecDepth 100000 in
theorem e11_fails : ∀ q ∈ ([(0, .aload_n 0, 1), (1, .getfield 384, 3), (4, .iconst (-1), 1), (5, .if_icmp .ne 11, 3), (8, .aload_n 0, 1), (9, .aload_n 0, 1), (10, .getfield 375, 3), (13, .putfield 384, 3), (16, .return_, 1)] : List (Nat × Instr × Nat)), decode cX11_fails q.1 = .ok q.2 := by decide +kernel
set_option maxHeartbeats 4000000 in
set_option maxRecDepth 20000 in
theorem s11_fails {Y : m_Y Unit} (S : m_Std Y RX11 cX11_fails) (E : m_End Y cX11_fails .return_ (fun _ => [])) {F : Nat} (hF : m_Rm Y F) (hFn : 0 ≤ F) (hN : Y.2.2.2.1 = 1) (v0 : Int) (h : m_H) : m_Sim Y 0 [(0, m_r v0)] [] h (t11_fails v0 h) := by
  unfold t11_fails
  refine ms_aload_n (pc := 0) S 0 rfl rfl (m_dec e11_fails 0 rfl) ?_
  refine ms_grd fun g1 => ?_
  refine ms_getf (pc := 1) S lf_X11_384 rfl (m_dec e11_fails 1 rfl) g1 ?_
  refine ms_iconst (pc := 4) S (m_dec e11_fails 2 rfl) ?_
  refine ms_icmp_ne (pc := 5) S (m_dec e11_fails 3 rfl) rfl (fun q2 => ?_) (fun q2 => ?_)
  · refine ms_aload_n (pc := 8) S 0 rfl rfl (m_dec e11_fails 4 rfl) ?_
    refine ms_aload_n (pc := 9) S 0 rfl rfl (m_dec e11_fails 5 rfl) ?_
    refine ms_getf (pc := 10) S lf_X11_375 rfl (m_dec e11_fails 6 rfl) g1 ?_
    refine ms_putf (pc := 13) S lp_X11_384 (fun z => by cases z) rfl (fun d => m_fitI d _) (m_dec e11_fails 7 rfl) g1 (fun h3 => ?_)
    exact ms_ret (pc := 16) E (m_dec e11_fails 8 rfl) rfl
  · exact ms_ret (pc := 16) E (m_dec e11_fails 8 rfl) rfl
theorem k11_fails (l : Launch) (d : m_D) (v0 : Int) (h : m_H) : m_Con l d yX11_fails cX11_fails 1 none 0 (fun _ => []) [m_r v0] h (t11_fails v0 h) :=
  m_con2 (by decide +kernel) (Nat.le_of_ble_eq_true rfl) (fun Y hN hRm hr hI S hfin => s11_fails S (m_end_v S hr hfin) hRm (Nat.le_refl _) hN v0 h)
set_option maxRecDepth 100000 in
theorem e11_isWord : ∀ q ∈ ([(0, .aload_n 0, 1), (1, .getfield 378, 3), (4, .aload_n 0, 1), (5, .getfield 375, 3), (8, .isub, 1), (9, .aload_n 1, 1), (10, .invokevirtual 387, 3), (13, .if_icmp .eq 5, 3), (16, .iconst 0, 1), (17, .ireturn, 1), (18, .iconst 0, 1), (19, .istore_n 2, 1), (20, .iload_n 2, 1), (21, .aload_n 1, 1), (22, .invokevirtual 387, 3), (25, .if_icmp .ge 30, 3), (28, .aload_n 0, 1), (29, .getfield 80, 3), (32, .aload_n 0, 1), (33, .getfield 375, 3), (36, .iload_n 2, 1), (37, .iadd, 1), (38, .baload, 1), (39, .aload_n 1, 1), (40, .iload_n 2, 1), (41, .invokevirtual 390, 3), (44, .if_icmp .eq 5, 3), (47, .iconst 0, 1), (48, .ireturn, 1), (49, .iinc 2 1, 3), (52, .goto (-32), 3), (55, .iconst 1, 1), (56, .ireturn, 1)] : List (Nat × Instr × Nat)), decode cX11_isWord q.1 = .ok q.2 := by decide +kernel
set_option maxHeartbeats 4000000 in
set_option maxRecDepth 20000 in
theorem s11_isWord_c20 {Y : m_Y Bool} (S : m_Std Y RX11 cX11_isWord) (E : m_End Y cX11_isWord .ireturn (fun r => [m_i (m_b2i r)])) {F : Nat} (hF : m_Rm Y F) (hFn : 6 ≤ F) (hN : Y.2.2.2.1 = 3) : ∀ (v0 v1 v2 : Int) (h : m_H), m_Sim Y 20 [(0, m_r v0), (1, m_r v1), (2, m_i v2)] [] h (t11_isWord_c20 v0 v1 v2 h) := by
  intro v0 v1 v2 h
  refine ms_all fun r e => ?_
  refine t11_isWord_c20.partial_correctness v0 v1 h (motive := fun v2 r => m_Sim Y 20 [(0, m_r v0), (1, m_r v1), (2, m_i v2)] [] h (some r)) ?_ v2 r e
  intro f ih v2 r e
  have ih : ∀ (v2 : Int) , m_Sim Y 20 [(0, m_r v0), (1, m_r v1), (2, m_i v2)] [] h (f v2 ) := fun v2  => ms_all fun r e => ih v2 r e
  refine ms_use ?_ e
  clear e r
  refine ms_iload_n (pc := 20) S 2 rfl rfl (m_dec e11_isWord 12 rfl) ?_
  refine ms_aload_n (pc := 21) S 1 rfl rfl (m_dec e11_isWord 13 rfl) ?_
  refine ms_grd fun g1 => ?_
  refine ms_strlen (pc := 22) S hF (Nat.le_trans (by decide) hFn) lm_X11_387 g1 (Nat.le_of_ble_eq_true rfl) (m_dec e11_isWord 14 rfl) ?_
  refine ms_icmp_ge (pc := 25) S (m_dec e11_isWord 15 rfl) rfl (fun q2 => ?_) (fun q2 => ?_)
  · refine ms_aload_n (pc := 28) S 0 rfl rfl (m_dec e11_isWord 16 rfl) ?_
    refine ms_grd fun g3 => ?_
    refine ms_getf (pc := 29) S lf_X11_80 rfl (m_dec e11_isWord 17 rfl) g3 ?_
    refine ms_aload_n (pc := 32) S 0 rfl rfl (m_dec e11_isWord 18 rfl) ?_
    refine ms_getf (pc := 33) S lf_X11_375 rfl (m_dec e11_isWord 19 rfl) g3 ?_
    refine ms_iload_n (pc := 36) S 2 rfl rfl (m_dec e11_isWord 20 rfl) ?_
    refine ms_iadd (pc := 37) S (m_dec e11_isWord 21 rfl) ?_
    refine ms_grd fun g4 => ?_
    refine ms_bald (pc := 38) S g4 (m_dec e11_isWord 22 rfl) ?_
    refine ms_aload_n (pc := 39) S 1 rfl rfl (m_dec e11_isWord 23 rfl) ?_
    refine ms_iload_n (pc := 40) S 2 rfl rfl (m_dec e11_isWord 24 rfl) ?_
    refine ms_grd fun g5 => ?_
    refine ms_strat (pc := 41) S hF (Nat.le_trans (by decide) hFn) lm_X11_390 g5 (Nat.le_of_ble_eq_true rfl) (m_dec e11_isWord 25 rfl) ?_
    refine ms_icmp_eq (pc := 44) S (m_dec e11_isWord 26 rfl) rfl (fun q6 => ?_) (fun q6 => ?_)
    · refine ms_iinc (pc := 49) S (L' := [(0, m_r v0), (1, m_r v1), (2, m_i (v2 + 1))]) 2 rfl [1, 2, 0] rfl (m_lt hN rfl) (m_dec e11_isWord 29 rfl) ?_
      refine ms_goto (pc := 52) S (m_dec e11_isWord 30 rfl) rfl ?_
      exact ih (v2 + 1)
    · refine ms_iconst (pc := 47) S (m_dec e11_isWord 27 rfl) ?_
      exact ms_ret (pc := 48) E (m_dec e11_isWord 28 rfl) rfl
  · refine ms_iconst (pc := 55) S (m_dec e11_isWord 31 rfl) ?_
    exact ms_ret (pc := 56) E (m_dec e11_isWord 32 rfl) rfl
set_option maxHeartbeats 4000000 in
set_option maxRecDepth 20000 in
theorem s11_isWord {Y : m_Y Bool} (S : m_Std Y RX11 cX11_isWord) (E : m_End Y cX11_isWord .ireturn (fun r => [m_i (m_b2i r)])) {F : Nat} (hF : m_Rm Y F) (hFn : 6 ≤ F) (hN : Y.2.2.2.1 = 3) (v0 v1 : Int) (h : m_H) : m_Sim Y 0 [(0, m_r v0), (1, m_r v1)] [] h (t11_isWord v0 v1 h) := by
  unfold t11_isWord
  refine ms_aload_n (pc := 0) S 0 rfl rfl (m_dec e11_isWord 0 rfl) ?_
  refine ms_grd fun g1 => ?_
  refine ms_getf (pc := 1) S lf_X11_378 rfl (m_dec e11_isWord 1 rfl) g1 ?_
  refine ms_aload_n (pc := 4) S 0 rfl rfl (m_dec e11_isWord 2 rfl) ?_
  refine ms_getf (pc := 5) S lf_X11_375 rfl (m_dec e11_isWord 3 rfl) g1 ?_
  refine ms_isub (pc := 8) S (m_dec e11_isWord 4 rfl) ?_
  refine ms_aload_n (pc := 9) S 1 rfl rfl (m_dec e11_isWord 5 rfl) ?_
  refine ms_grd fun g2 => ?_
  refine ms_strlen (pc := 10) S hF (Nat.le_trans (by decide) hFn) lm_X11_387 g2 (Nat.le_of_ble_eq_true rfl) (m_dec e11_isWord 6 rfl) ?_
  refine ms_icmp_eq (pc := 13) S (m_dec e11_isWord 7 rfl) rfl (fun q3 => ?_) (fun q3 => ?_)
  · refine ms_iconst (pc := 18) S (m_dec e11_isWord 10 rfl) ?_
    refine ms_istore_n (pc := 19) S (L' := [(0, m_r v0), (1, m_r v1), (2, m_i 0)]) [1, 2, 0] rfl rfl (m_lt hN rfl) (m_dec e11_isWord 11 rfl) ?_
    exact s11_isWord_c20 S E hF hFn hN v0 v1 0 h
  · refine ms_iconst (pc := 16) S (m_dec e11_isWord 8 rfl) ?_
    exact ms_ret (pc := 17) E (m_dec e11_isWord 9 rfl) rfl
theorem k11_isWord (l : Launch) (d : m_D) (v0 v1 : Int) (h : m_H) : m_Con l d yX11_isWord cX11_isWord 3 (some .boolean) 6 (fun r => [m_i (m_b2i r)]) [m_r v0, m_r v1] h (t11_isWord v0 v1 h) :=
  m_con2 (by decide +kernel) (Nat.le_of_ble_eq_true rfl) (fun Y hN hRm hr hI S hfin => s11_isWord S (m_end_z S hr hfin) hRm (Nat.le_refl _) hN v0 v1 h)
set_option maxRecDepth 100000 in
theorem e11_goesOn : ∀ q ∈ ([(0, .aload_n 0, 1), (1, .aload_n 0, 1), (2, .getfield 378, 3), (5, .putfield 375, 3), (8, .aload_n 0, 1), (9, .invokevirtual 394, 3), (12, .return_, 1)] : List (Nat × Instr × Nat)), decode cX11_goesOn q.1 = .ok q.2 := by decide +kernel
set_option maxHeartbeats 4000000 in
set_option maxRecDepth 20000 in
theorem s11_goesOn {Y : m_Y Unit} (S : m_Std Y RX11 cX11_goesOn) (E : m_End Y cX11_goesOn .return_ (fun _ => [])) {F : Nat} (hF : m_Rm Y F) (hFn : 2 ≤ F) (hN : Y.2.2.2.1 = 1) (v0 : Int) (h : m_H) : m_Sim Y 0 [(0, m_r v0)] [] h (t11_goesOn v0 h) := by
  unfold t11_goesOn
  refine ms_aload_n (pc := 0) S 0 rfl rfl (m_dec e11_goesOn 0 rfl) ?_
  refine ms_aload_n (pc := 1) S 0 rfl rfl (m_dec e11_goesOn 1 rfl) ?_
  refine ms_grd fun g1 => ?_
  refine ms_getf (pc := 2) S lf_X11_378 rfl (m_dec e11_goesOn 2 rfl) g1 ?_
  refine ms_putf (pc := 5) S lp_X11_375 (fun z => by cases z) rfl (fun d => m_fitI d _) (m_dec e11_goesOn 3 rfl) g1 (fun h2 => ?_)
  refine ms_aload_n (pc := 8) S 0 rfl rfl (m_dec e11_goesOn 4 rfl) ?_
  refine ms_grd fun g3 => ?_
  refine ms_callVv (pc := 9) S hF (vals := []) (st := []) (hc := vw_11) (hci := by decide) (hcy := rfl) (ht := g3) (hC := (k11_skips _ _ v0 h2)) (hM := lm_X11_394) (hfr := (Nat.le_trans (by decide) hFn)) (hstk := rfl) (hcat := Nat.le_of_ble_eq_true rfl) (hd := (m_dec e11_goesOn 5 rfl)) (k1 := fun h4 => ?_)
  exact ms_ret (pc := 12) E (m_dec e11_goesOn 6 rfl) rfl
theorem k11_goesOn (l : Launch) (d : m_D) (v0 : Int) (h : m_H) : m_Con l d yX11_goesOn cX11_goesOn 1 none 2 (fun _ => []) [m_r v0] h (t11_goesOn v0 h) :=
  m_con2 (by decide +kernel) (Nat.le_of_ble_eq_true rfl) (fun Y hN hRm hr hI S hfin => s11_goesOn S (m_end_v S hr hfin) hRm (Nat.le_refl _) hN v0 h)
set_option maxRecDepth 100000 in
theorem e11_word : ∀ q ∈ ([(0, .aload_n 0, 1), (1, .getfield 384, 3), (4, .iconst (-1), 1), (5, .if_icmp .eq 4, 3), (8, .return_, 1), (9, .aload_n 0, 1), (10, .aload_n 1, 1), (11, .invokevirtual 397, 3), (14, .ifCond .ne 10, 3), (17, .aload_n 0, 1), (18, .invokevirtual 401, 3), (21, .goto 7, 3), (24, .aload_n 0, 1), (25, .invokevirtual 404, 3), (28, .return_, 1)] : List (Nat × Instr × Nat)), decode cX11_word q.1 = .ok q.2 := by decide +kernel
set_option maxHeartbeats 4000000 in
set_option maxRecDepth 20000 in
theorem s11_word {Y : m_Y Unit} (S : m_Std Y RX11 cX11_word) (E : m_End Y cX11_word .return_ (fun _ => [])) {F : Nat} (hF : m_Rm Y F) (hFn : 7 ≤ F) (hN : Y.2.2.2.1 = 2) (v0 v1 : Int) (h : m_H) : m_Sim Y 0 [(0, m_r v0), (1, m_r v1)] [] h (t11_word v0 v1 h) := by
  unfold t11_word
  refine ms_aload_n (pc := 0) S 0 rfl rfl (m_dec e11_word 0 rfl) ?_
  refine ms_grd fun g1 => ?_
  refine ms_getf (pc := 1) S lf_X11_384 rfl (m_dec e11_word 1 rfl) g1 ?_
  refine ms_iconst (pc := 4) S (m_dec e11_word 2 rfl) ?_
  refine ms_icmp_eq (pc := 5) S (m_dec e11_word 3 rfl) rfl (fun q2 => ?_) (fun q2 => ?_)
  · refine ms_aload_n (pc := 9) S 0 rfl rfl (m_dec e11_word 5 rfl) ?_
    refine ms_aload_n (pc := 10) S 1 rfl rfl (m_dec e11_word 6 rfl) ?_
    refine ms_callVz (pc := 11) S hF (vals := [m_r v1]) (st := []) (hc := vw_11) (hci := by decide) (hcy := rfl) (ht := g1) (hC := (k11_isWord _ _ v0 v1 h)) (hM := lm_X11_397) (hfr := (Nat.le_trans (by decide) hFn)) (hstk := rfl) (hcat := Nat.le_of_ble_eq_true rfl) (hd := (m_dec e11_word 7 rfl)) (k1 := fun r4 h3 => ?_)
    refine ms_ifb_ne (pc := 14) S (m_dec e11_word 8 rfl) rfl (fun q5 => ?_) (fun q5 => ?_)
    · refine ms_aload_n (pc := 24) S 0 rfl rfl (m_dec e11_word 12 rfl) ?_
      refine ms_grd fun g6 => ?_
      refine ms_callVv (pc := 25) S hF (vals := []) (st := []) (hc := vw_11) (hci := by decide) (hcy := rfl) (ht := g6) (hC := (k11_goesOn _ _ v0 h3)) (hM := lm_X11_404) (hfr := (Nat.le_trans (by decide) hFn)) (hstk := rfl) (hcat := Nat.le_of_ble_eq_true rfl) (hd := (m_dec e11_word 13 rfl)) (k1 := fun h7 => ?_)
      exact ms_ret (pc := 28) E (m_dec e11_word 14 rfl) rfl
    · refine ms_aload_n (pc := 17) S 0 rfl rfl (m_dec e11_word 9 rfl) ?_
      refine ms_grd fun g9 => ?_
      refine ms_callVv (pc := 18) S hF (vals := []) (st := []) (hc := vw_11) (hci := by decide) (hcy := rfl) (ht := g9) (hC := (k11_fails _ _ v0 h3)) (hM := lm_X11_401) (hfr := (Nat.le_trans (by decide) hFn)) (hstk := rfl) (hcat := Nat.le_of_ble_eq_true rfl) (hd := (m_dec e11_word 10 rfl)) (k1 := fun h10 => ?_)
      refine ms_goto (pc := 21) S (m_dec e11_word 11 rfl) rfl ?_
      exact ms_ret (pc := 28) E (m_dec e11_word 14 rfl) rfl
  · exact ms_ret (pc := 8) E (m_dec e11_word 4 rfl) rfl
theorem k11_word (l : Launch) (d : m_D) (v0 v1 : Int) (h : m_H) : m_Con l d yX11_word cX11_word 2 none 7 (fun _ => []) [m_r v0, m_r v1] h (t11_word v0 v1 h) :=
  m_con2 (by decide +kernel) (Nat.le_of_ble_eq_true rfl) (fun Y hN hRm hr hI S hfin => s11_word S (m_end_v S hr hfin) hRm (Nat.le_refl _) hN v0 v1 h)
set_option maxRecDepth 100000 in
theorem e11_sign : ∀ q ∈ ([(0, .aload_n 0, 1), (1, .getfield 384, 3), (4, .iconst (-1), 1), (5, .if_icmp .eq 4, 3), (8, .return_, 1), (9, .aload_n 0, 1), (10, .getfield 375, 3), (13, .aload_n 0, 1), (14, .getfield 369, 3), (17, .if_icmp .eq 16, 3), (20, .aload_n 0, 1), (21, .getfield 80, 3), (24, .aload_n 0, 1), (25, .getfield 375, 3), (28, .baload, 1), (29, .iload_n 1, 1), (30, .if_icmp .eq 8, 3), (33, .aload_n 0, 1), (34, .invokevirtual 401, 3), (37, .return_, 1), (38, .aload_n 0, 1), (39, .aload_n 0, 1), (40, .getfield 375, 3), (43, .iconst 1, 1), (44, .iadd, 1), (45, .putfield 378, 3), (48, .aload_n 0, 1), (49, .invokevirtual 404, 3), (52, .return_, 1)] : List (Nat × Instr × Nat)), decode cX11_sign q.1 = .ok q.2 := by decide +kernel
set_option maxHeartbeats 4000000 in
set_option maxRecDepth 20000 in
theorem s11_sign {Y : m_Y Unit} (S : m_Std Y RX11 cX11_sign) (E : m_End Y cX11_sign .return_ (fun _ => [])) {F : Nat} (hF : m_Rm Y F) (hFn : 3 ≤ F) (hN : Y.2.2.2.1 = 2) (v0 v1 : Int) (h : m_H) : m_Sim Y 0 [(0, m_r v0), (1, m_i v1)] [] h (t11_sign v0 v1 h) := by
  unfold t11_sign
  refine ms_aload_n (pc := 0) S 0 rfl rfl (m_dec e11_sign 0 rfl) ?_
  refine ms_grd fun g1 => ?_
  refine ms_getf (pc := 1) S lf_X11_384 rfl (m_dec e11_sign 1 rfl) g1 ?_
  refine ms_iconst (pc := 4) S (m_dec e11_sign 2 rfl) ?_
  refine ms_icmp_eq (pc := 5) S (m_dec e11_sign 3 rfl) rfl (fun q2 => ?_) (fun q2 => ?_)
  · refine ms_aload_n (pc := 9) S 0 rfl rfl (m_dec e11_sign 5 rfl) ?_
    refine ms_getf (pc := 10) S lf_X11_375 rfl (m_dec e11_sign 6 rfl) g1 ?_
    refine ms_aload_n (pc := 13) S 0 rfl rfl (m_dec e11_sign 7 rfl) ?_
    refine ms_getf (pc := 14) S lf_X11_369 rfl (m_dec e11_sign 8 rfl) g1 ?_
    refine ms_icmp_eq (pc := 17) S (m_dec e11_sign 9 rfl) rfl (fun q3 => ?_) (fun q3 => ?_)
    · refine ms_aload_n (pc := 33) S 0 rfl rfl (m_dec e11_sign 17 rfl) ?_
      refine ms_callVv (pc := 34) S hF (vals := []) (st := []) (hc := vw_11) (hci := by decide) (hcy := rfl) (ht := g1) (hC := (k11_fails _ _ v0 h)) (hM := lm_X11_401) (hfr := (Nat.le_trans (by decide) hFn)) (hstk := rfl) (hcat := Nat.le_of_ble_eq_true rfl) (hd := (m_dec e11_sign 18 rfl)) (k1 := fun h4 => ?_)
      exact ms_ret (pc := 37) E (m_dec e11_sign 19 rfl) rfl
    · refine ms_aload_n (pc := 20) S 0 rfl rfl (m_dec e11_sign 10 rfl) ?_
      refine ms_getf (pc := 21) S lf_X11_80 rfl (m_dec e11_sign 11 rfl) g1 ?_
      refine ms_aload_n (pc := 24) S 0 rfl rfl (m_dec e11_sign 12 rfl) ?_
      refine ms_getf (pc := 25) S lf_X11_375 rfl (m_dec e11_sign 13 rfl) g1 ?_
      refine ms_grd fun g6 => ?_
      refine ms_bald (pc := 28) S g6 (m_dec e11_sign 14 rfl) ?_
      refine ms_iload_n (pc := 29) S 1 rfl rfl (m_dec e11_sign 15 rfl) ?_
      refine ms_icmp_eq (pc := 30) S (m_dec e11_sign 16 rfl) rfl (fun q7 => ?_) (fun q7 => ?_)
      · refine ms_aload_n (pc := 38) S 0 rfl rfl (m_dec e11_sign 20 rfl) ?_
        refine ms_aload_n (pc := 39) S 0 rfl rfl (m_dec e11_sign 21 rfl) ?_
        refine ms_getf (pc := 40) S lf_X11_375 rfl (m_dec e11_sign 22 rfl) g1 ?_
        refine ms_iconst (pc := 43) S (m_dec e11_sign 23 rfl) ?_
        refine ms_iadd (pc := 44) S (m_dec e11_sign 24 rfl) ?_
        refine ms_putf (pc := 45) S lp_X11_378 (fun z => by cases z) rfl (fun d => m_fitI d _) (m_dec e11_sign 25 rfl) g1 (fun h8 => ?_)
        refine ms_aload_n (pc := 48) S 0 rfl rfl (m_dec e11_sign 26 rfl) ?_
        refine ms_grd fun g9 => ?_
        refine ms_callVv (pc := 49) S hF (vals := []) (st := []) (hc := vw_11) (hci := by decide) (hcy := rfl) (ht := g9) (hC := (k11_goesOn _ _ v0 h8)) (hM := lm_X11_404) (hfr := (Nat.le_trans (by decide) hFn)) (hstk := rfl) (hcat := Nat.le_of_ble_eq_true rfl) (hd := (m_dec e11_sign 27 rfl)) (k1 := fun h10 => ?_)
        exact ms_ret (pc := 52) E (m_dec e11_sign 28 rfl) rfl
      · refine ms_aload_n (pc := 33) S 0 rfl rfl (m_dec e11_sign 17 rfl) ?_
        refine ms_callVv (pc := 34) S hF (vals := []) (st := []) (hc := vw_11) (hci := by decide) (hcy := rfl) (ht := g1) (hC := (k11_fails _ _ v0 h)) (hM := lm_X11_401) (hfr := (Nat.le_trans (by decide) hFn)) (hstk := rfl) (hcat := Nat.le_of_ble_eq_true rfl) (hd := (m_dec e11_sign 18 rfl)) (k1 := fun h12 => ?_)
        exact ms_ret (pc := 37) E (m_dec e11_sign 19 rfl) rfl
  · exact ms_ret (pc := 8) E (m_dec e11_sign 4 rfl) rfl
theorem k11_sign (l : Launch) (d : m_D) (v0 v1 : Int) (h : m_H) : m_Con l d yX11_sign cX11_sign 2 none 3 (fun _ => []) [m_r v0, m_i v1] h (t11_sign v0 v1 h) :=
  m_con2 (by decide +kernel) (Nat.le_of_ble_eq_true rfl) (fun Y hN hRm hr hI S hfin => s11_sign S (m_end_v S hr hfin) hRm (Nat.le_refl _) hN v0 v1 h)
set_option maxRecDepth 100000 in
theorem e11_isSign : ∀ q ∈ ([(0, .aload_n 0, 1), (1, .getfield 375, 3), (4, .aload_n 0, 1), (5, .getfield 369, 3), (8, .if_icmp .ge 20, 3), (11, .aload_n 0, 1), (12, .getfield 80, 3), (15, .aload_n 0, 1), (16, .getfield 375, 3), (19, .baload, 1), (20, .iload_n 1, 1), (21, .if_icmp .ne 7, 3), (24, .iconst 1, 1), (25, .goto 4, 3), (28, .iconst 0, 1), (29, .ireturn, 1)] : List (Nat × Instr × Nat)), decode cX11_isSign q.1 = .ok q.2 := by decide +kernel
set_option maxHeartbeats 4000000 in
set_option maxRecDepth 20000 in
theorem s11_isSign {Y : m_Y Bool} (S : m_Std Y RX11 cX11_isSign) (E : m_End Y cX11_isSign .ireturn (fun r => [m_i (m_b2i r)])) {F : Nat} (hF : m_Rm Y F) (hFn : 0 ≤ F) (hN : Y.2.2.2.1 = 2) (v0 v1 : Int) (h : m_H) : m_Sim Y 0 [(0, m_r v0), (1, m_i v1)] [] h (t11_isSign v0 v1 h) := by
  unfold t11_isSign
  refine ms_aload_n (pc := 0) S 0 rfl rfl (m_dec e11_isSign 0 rfl) ?_
  refine ms_grd fun g1 => ?_
  refine ms_getf (pc := 1) S lf_X11_375 rfl (m_dec e11_isSign 1 rfl) g1 ?_
  refine ms_aload_n (pc := 4) S 0 rfl rfl (m_dec e11_isSign 2 rfl) ?_
  refine ms_getf (pc := 5) S lf_X11_369 rfl (m_dec e11_isSign 3 rfl) g1 ?_
  refine ms_icmp_ge (pc := 8) S (m_dec e11_isSign 4 rfl) rfl (fun q2 => ?_) (fun q2 => ?_)
  · refine ms_aload_n (pc := 11) S 0 rfl rfl (m_dec e11_isSign 5 rfl) ?_
    refine ms_getf (pc := 12) S lf_X11_80 rfl (m_dec e11_isSign 6 rfl) g1 ?_
    refine ms_aload_n (pc := 15) S 0 rfl rfl (m_dec e11_isSign 7 rfl) ?_
    refine ms_getf (pc := 16) S lf_X11_375 rfl (m_dec e11_isSign 8 rfl) g1 ?_
    refine ms_grd fun g3 => ?_
    refine ms_bald (pc := 19) S g3 (m_dec e11_isSign 9 rfl) ?_
    refine ms_iload_n (pc := 20) S 1 rfl rfl (m_dec e11_isSign 10 rfl) ?_
    refine ms_icmp_ne (pc := 21) S (m_dec e11_isSign 11 rfl) rfl (fun q4 => ?_) (fun q4 => ?_)
    · refine ms_iconst (pc := 24) S (m_dec e11_isSign 12 rfl) ?_
      refine ms_goto (pc := 25) S (m_dec e11_isSign 13 rfl) rfl ?_
      exact ms_ret (pc := 29) E (m_dec e11_isSign 15 rfl) rfl
    · refine ms_iconst (pc := 28) S (m_dec e11_isSign 14 rfl) ?_
      exact ms_ret (pc := 29) E (m_dec e11_isSign 15 rfl) rfl
  · refine ms_iconst (pc := 28) S (m_dec e11_isSign 14 rfl) ?_
    exact ms_ret (pc := 29) E (m_dec e11_isSign 15 rfl) rfl
theorem k11_isSign (l : Launch) (d : m_D) (v0 v1 : Int) (h : m_H) : m_Con l d yX11_isSign cX11_isSign 2 (some .boolean) 0 (fun r => [m_i (m_b2i r)]) [m_r v0, m_i v1] h (t11_isSign v0 v1 h) :=
  m_con2 (by decide +kernel) (Nat.le_of_ble_eq_true rfl) (fun Y hN hRm hr hI S hfin => s11_isSign S (m_end_z S hr hfin) hRm (Nat.le_refl _) hN v0 v1 h)
set_option maxRecDepth 100000 in
theorem e11_number : ∀ q ∈ ([(0, .aload_n 0, 1), (1, .getfield 384, 3), (4, .iconst (-1), 1), (5, .if_icmp .eq 5, 3), (8, .iconst 0, 1), (9, .ireturn, 1), (10, .aload_n 0, 1), (11, .getfield 375, 3), (14, .istore_n 3, 1), (15, .iconst 0, 1), (16, .istore 4, 2), (18, .iload_n 3, 1), (19, .aload_n 0, 1), (20, .getfield 369, 3), (23, .if_icmp .ge 52, 3), (26, .aload_n 0, 1), (27, .getfield 80, 3), (30, .iload_n 3, 1), (31, .baload, 1), (32, .invokestatic 407, 3), (35, .ifCond .eq 40, 3), (38, .iload 4, 2), (40, .ldc_w 410, 3), (43, .if_icmp .le 9, 3), (46, .ldc_w 411, 3), (49, .goto 18, 3), (52, .bipush 10, 2), (54, .iload 4, 2), (56, .imul, 1), (57, .aload_n 0, 1), (58, .getfield 80, 3), (61, .iload_n 3, 1), (62, .baload, 1), (63, .iadd, 1), (64, .bipush 48, 2), (66, .isub, 1), (67, .istore 4, 2), (69, .iinc 3 1, 3), (72, .goto (-54), 3), (75, .iload_n 3, 1), (76, .aload_n 0, 1), (77, .getfield 375, 3), (80, .if_icmp .eq 16, 3), (83, .iload 4, 2), (85, .i2l, 1), (86, .iload_n 1, 1), (87, .i2l, 1), (88, .iload_n 2, 1), (89, .i2l, 1), (90, .invokestatic 268, 3), (93, .ifCond .ne 9, 3), (96, .aload_n 0, 1), (97, .invokevirtual 401, 3), (100, .iconst 0, 1), (101, .ireturn, 1), (102, .aload_n 0, 1), (103, .iload_n 3, 1), (104, .putfield 378, 3), (107, .aload_n 0, 1), (108, .invokevirtual 404, 3), (111, .iload 4, 2), (113, .ireturn, 1)] : List (Nat × Instr × Nat)), decode cX11_number q.1 = .ok q.2 := by decide +kernel
set_option maxHeartbeats 4000000 in
set_option maxRecDepth 20000 in
theorem s11_number_c75 {Y : m_Y Int} (S : m_Std Y RX11 cX11_number) (E : m_End Y cX11_number .ireturn (fun r => [m_i r])) {F : Nat} (hF : m_Rm Y F) (hFn : 3 ≤ F) (hN : Y.2.2.2.1 = 5) (v0 v1 v2 v3 v4 : Int) (h : m_H) : m_Sim Y 75 [(0, m_r v0), (1, m_i v1), (2, m_i v2), (3, m_i v3), (4, m_i v4)] [] h (t11_number_c75 v0 v1 v2 v3 v4 h) := by
  unfold t11_number_c75
  refine ms_iload_n (pc := 75) S 3 rfl rfl (m_dec e11_number 39 rfl) ?_
  refine ms_aload_n (pc := 76) S 0 rfl rfl (m_dec e11_number 40 rfl) ?_
  refine ms_grd fun g1 => ?_
  refine ms_getf (pc := 77) S lf_X11_375 rfl (m_dec e11_number 41 rfl) g1 ?_
  refine ms_icmp_eq (pc := 80) S (m_dec e11_number 42 rfl) rfl (fun q2 => ?_) (fun q2 => ?_)
  · refine ms_aload_n (pc := 96) S 0 rfl rfl (m_dec e11_number 51 rfl) ?_
    refine ms_callVv (pc := 97) S hF (vals := []) (st := []) (hc := vw_11) (hci := by decide) (hcy := rfl) (ht := g1) (hC := (k11_fails _ _ v0 h)) (hM := lm_X11_401) (hfr := (Nat.le_trans (by decide) hFn)) (hstk := rfl) (hcat := Nat.le_of_ble_eq_true rfl) (hd := (m_dec e11_number 52 rfl)) (k1 := fun h3 => ?_)
    refine ms_iconst (pc := 100) S (m_dec e11_number 53 rfl) ?_
    exact ms_ret (pc := 101) E (m_dec e11_number 54 rfl) rfl
  · refine ms_iload (pc := 83) S 4 rfl (m_dec e11_number 43 rfl) ?_
    refine ms_i2l (pc := 85) S (m_dec e11_number 44 rfl) ?_
    refine ms_iload_n (pc := 86) S 1 rfl rfl (m_dec e11_number 45 rfl) ?_
    refine ms_i2l (pc := 87) S (m_dec e11_number 46 rfl) ?_
    refine ms_iload_n (pc := 88) S 2 rfl rfl (m_dec e11_number 47 rfl) ?_
    refine ms_i2l (pc := 89) S (m_dec e11_number 48 rfl) ?_
    refine ms_callSz (pc := 90) S hF (vals := [m_j (m_w v4), m_j (m_w v1), m_j (m_w v2)]) (st := [])  (hC := (k11_in _ _ (m_w v4) (m_w v1) (m_w v2) h)) (hM := lm_X11_268) (hfr := (Nat.le_trans (by decide) hFn)) (hstk := rfl) (hcat := Nat.le_of_ble_eq_true rfl) (hd := (m_dec e11_number 49 rfl)) (k1 := fun r6 h5 => ?_)
    refine ms_ifb_ne (pc := 93) S (m_dec e11_number 50 rfl) rfl (fun q7 => ?_) (fun q7 => ?_)
    · refine ms_aload_n (pc := 102) S 0 rfl rfl (m_dec e11_number 55 rfl) ?_
      refine ms_iload_n (pc := 103) S 3 rfl rfl (m_dec e11_number 56 rfl) ?_
      refine ms_grd fun g8 => ?_
      refine ms_putf (pc := 104) S lp_X11_378 (fun z => by cases z) rfl (fun d => m_fitI d _) (m_dec e11_number 57 rfl) g8 (fun h9 => ?_)
      refine ms_aload_n (pc := 107) S 0 rfl rfl (m_dec e11_number 58 rfl) ?_
      refine ms_grd fun g10 => ?_
      refine ms_callVv (pc := 108) S hF (vals := []) (st := []) (hc := vw_11) (hci := by decide) (hcy := rfl) (ht := g10) (hC := (k11_goesOn _ _ v0 h9)) (hM := lm_X11_404) (hfr := (Nat.le_trans (by decide) hFn)) (hstk := rfl) (hcat := Nat.le_of_ble_eq_true rfl) (hd := (m_dec e11_number 59 rfl)) (k1 := fun h11 => ?_)
      refine ms_iload (pc := 111) S 4 rfl (m_dec e11_number 60 rfl) ?_
      exact ms_ret (pc := 113) E (m_dec e11_number 61 rfl) rfl
    · refine ms_aload_n (pc := 96) S 0 rfl rfl (m_dec e11_number 51 rfl) ?_
      refine ms_grd fun g13 => ?_
      refine ms_callVv (pc := 97) S hF (vals := []) (st := []) (hc := vw_11) (hci := by decide) (hcy := rfl) (ht := g13) (hC := (k11_fails _ _ v0 h5)) (hM := lm_X11_401) (hfr := (Nat.le_trans (by decide) hFn)) (hstk := rfl) (hcat := Nat.le_of_ble_eq_true rfl) (hd := (m_dec e11_number 52 rfl)) (k1 := fun h14 => ?_)
      refine ms_iconst (pc := 100) S (m_dec e11_number 53 rfl) ?_
      exact ms_ret (pc := 101) E (m_dec e11_number 54 rfl) rfl
set_option maxHeartbeats 4000000 in
set_option maxRecDepth 20000 in
theorem s11_number_c18 {Y : m_Y Int} (S : m_Std Y RX11 cX11_number) (E : m_End Y cX11_number .ireturn (fun r => [m_i r])) {F : Nat} (hF : m_Rm Y F) (hFn : 3 ≤ F) (hN : Y.2.2.2.1 = 5) : ∀ (v0 v1 v2 v3 v4 : Int) (h : m_H), m_Sim Y 18 [(0, m_r v0), (1, m_i v1), (2, m_i v2), (3, m_i v3), (4, m_i v4)] [] h (t11_number_c18 v0 v1 v2 v3 v4 h) := by
  intro v0 v1 v2 v3 v4 h
  refine ms_all fun r e => ?_
  refine t11_number_c18.partial_correctness v0 v1 v2 (motive := fun v3 v4 h r => m_Sim Y 18 [(0, m_r v0), (1, m_i v1), (2, m_i v2), (3, m_i v3), (4, m_i v4)] [] h (some r)) ?_ v3 v4 h r e
  intro f ih v3 v4 h r e
  have ih : ∀ (v3 v4 : Int) (h : m_H), m_Sim Y 18 [(0, m_r v0), (1, m_i v1), (2, m_i v2), (3, m_i v3), (4, m_i v4)] [] h (f v3 v4 h ) := fun v3 v4 h  => ms_all fun r e => ih v3 v4 h r e
  refine ms_use ?_ e
  clear e r
  refine ms_iload_n (pc := 18) S 3 rfl rfl (m_dec e11_number 11 rfl) ?_
  refine ms_aload_n (pc := 19) S 0 rfl rfl (m_dec e11_number 12 rfl) ?_
  refine ms_grd fun g1 => ?_
  refine ms_getf (pc := 20) S lf_X11_369 rfl (m_dec e11_number 13 rfl) g1 ?_
  refine ms_icmp_ge (pc := 23) S (m_dec e11_number 14 rfl) rfl (fun q2 => ?_) (fun q2 => ?_)
  · refine ms_aload_n (pc := 26) S 0 rfl rfl (m_dec e11_number 15 rfl) ?_
    refine ms_getf (pc := 27) S lf_X11_80 rfl (m_dec e11_number 16 rfl) g1 ?_
    refine ms_iload_n (pc := 30) S 3 rfl rfl (m_dec e11_number 17 rfl) ?_
    refine ms_grd fun g3 => ?_
    refine ms_bald (pc := 31) S g3 (m_dec e11_number 18 rfl) ?_
    refine ms_callSz (pc := 32) S hF (vals := [m_i (m_g h (m_g h v0 29) (m_w v3))]) (st := [])  (hC := (k11_isDigit _ _ (m_g h (m_g h v0 29) (m_w v3)) h)) (hM := lm_X11_407) (hfr := (Nat.le_trans (by decide) hFn)) (hstk := rfl) (hcat := Nat.le_of_ble_eq_true rfl) (hd := (m_dec e11_number 19 rfl)) (k1 := fun r5 h4 => ?_)
    refine ms_ifb_eq (pc := 35) S (m_dec e11_number 20 rfl) rfl (fun q6 => ?_) (fun q6 => ?_)
    · refine ms_iload (pc := 38) S 4 rfl (m_dec e11_number 21 rfl) ?_
      refine ms_ldcw (pc := 40) S (n := 99999) w_1988 (m_dec e11_number 22 rfl) ?_
      refine ms_icmp_le (pc := 43) S (m_dec e11_number 23 rfl) rfl (fun q7 => ?_) (fun q7 => ?_)
      · refine ms_ldcw (pc := 46) S (n := 999999) w_1989 (m_dec e11_number 24 rfl) ?_
        refine ms_goto (pc := 49) S (m_dec e11_number 25 rfl) rfl ?_
        refine ms_istore (pc := 67) S (L' := [(0, m_r v0), (1, m_i v1), (2, m_i v2), (3, m_i v3), (4, m_i 999999)]) [1, 2, 3, 4, 0] rfl (m_lt hN rfl) (m_dec e11_number 36 rfl) ?_
        refine ms_iinc (pc := 69) S (L' := [(0, m_r v0), (1, m_i v1), (2, m_i v2), (3, m_i (v3 + 1)), (4, m_i 999999)]) 3 rfl [1, 2, 3, 0, 4] rfl (m_lt hN rfl) (m_dec e11_number 37 rfl) ?_
        refine ms_goto (pc := 72) S (m_dec e11_number 38 rfl) rfl ?_
        exact ih (v3 + 1) 999999 h4
      · refine ms_bipush (pc := 52) S (m_dec e11_number 26 rfl) rfl ?_
        refine ms_iload (pc := 54) S 4 rfl (m_dec e11_number 27 rfl) ?_
        refine ms_imul (pc := 56) S (m_dec e11_number 28 rfl) ?_
        refine ms_aload_n (pc := 57) S 0 rfl rfl (m_dec e11_number 29 rfl) ?_
        refine ms_grd fun g8 => ?_
        refine ms_getf (pc := 58) S lf_X11_80 rfl (m_dec e11_number 30 rfl) g8 ?_
        refine ms_iload_n (pc := 61) S 3 rfl rfl (m_dec e11_number 31 rfl) ?_
        refine ms_grd fun g9 => ?_
        refine ms_bald (pc := 62) S g9 (m_dec e11_number 32 rfl) ?_
        refine ms_iadd (pc := 63) S (m_dec e11_number 33 rfl) ?_
        refine ms_bipush (pc := 64) S (m_dec e11_number 34 rfl) rfl ?_
        refine ms_isub (pc := 66) S (m_dec e11_number 35 rfl) ?_
        refine ms_nm (st := fun x10 => [m_i x10]) fun x10 => ?_
        refine ms_istore (pc := 67) S (L' := [(0, m_r v0), (1, m_i v1), (2, m_i v2), (3, m_i v3), (4, m_i x10)]) [1, 2, 3, 4, 0] rfl (m_lt hN rfl) (m_dec e11_number 36 rfl) ?_
        refine ms_iinc (pc := 69) S (L' := [(0, m_r v0), (1, m_i v1), (2, m_i v2), (3, m_i (v3 + 1)), (4, m_i x10)]) 3 rfl [1, 2, 3, 0, 4] rfl (m_lt hN rfl) (m_dec e11_number 37 rfl) ?_
        refine ms_goto (pc := 72) S (m_dec e11_number 38 rfl) rfl ?_
        exact ih (v3 + 1) x10 h4
    · exact s11_number_c75 S E hF hFn hN v0 v1 v2 v3 v4 h4
  · exact s11_number_c75 S E hF hFn hN v0 v1 v2 v3 v4 h
set_option maxHeartbeats 4000000 in
set_option maxRecDepth 20000 in
theorem s11_number {Y : m_Y Int} (S : m_Std Y RX11 cX11_number) (E : m_End Y cX11_number .ireturn (fun r => [m_i r])) {F : Nat} (hF : m_Rm Y F) (hFn : 3 ≤ F) (hN : Y.2.2.2.1 = 5) (v0 v1 v2 : Int) (h : m_H) : m_Sim Y 0 [(0, m_r v0), (1, m_i v1), (2, m_i v2)] [] h (t11_number v0 v1 v2 h) := by
  unfold t11_number
  refine ms_aload_n (pc := 0) S 0 rfl rfl (m_dec e11_number 0 rfl) ?_
  refine ms_grd fun g1 => ?_
  refine ms_getf (pc := 1) S lf_X11_384 rfl (m_dec e11_number 1 rfl) g1 ?_
  refine ms_iconst (pc := 4) S (m_dec e11_number 2 rfl) ?_
  refine ms_icmp_eq (pc := 5) S (m_dec e11_number 3 rfl) rfl (fun q2 => ?_) (fun q2 => ?_)
  · refine ms_aload_n (pc := 10) S 0 rfl rfl (m_dec e11_number 6 rfl) ?_
    refine ms_getf (pc := 11) S lf_X11_375 rfl (m_dec e11_number 7 rfl) g1 ?_
    refine ms_nm (st := fun x3 => [m_i x3]) fun x3 => ?_
    refine ms_istore_n (pc := 14) S (L' := [(0, m_r v0), (1, m_i v1), (2, m_i v2), (3, m_i x3)]) [1, 2, 3, 0] rfl rfl (m_lt hN rfl) (m_dec e11_number 8 rfl) ?_
    refine ms_iconst (pc := 15) S (m_dec e11_number 9 rfl) ?_
    refine ms_istore (pc := 16) S (L' := [(0, m_r v0), (1, m_i v1), (2, m_i v2), (3, m_i x3), (4, m_i 0)]) [1, 2, 3, 4, 0] rfl (m_lt hN rfl) (m_dec e11_number 10 rfl) ?_
    exact s11_number_c18 S E hF hFn hN v0 v1 v2 x3 0 h
  · refine ms_iconst (pc := 8) S (m_dec e11_number 4 rfl) ?_
    exact ms_ret (pc := 9) E (m_dec e11_number 5 rfl) rfl
theorem k11_number (l : Launch) (d : m_D) (v0 v1 v2 : Int) (h : m_H) : m_Con l d yX11_number cX11_number 5 (some .int) 3 (fun r => [m_i r]) [m_r v0, m_i v1, m_i v2] h (t11_number v0 v1 v2 h) :=
  m_con2 (by decide +kernel) (Nat.le_of_ble_eq_true rfl) (fun Y hN hRm hr hI S hfin => s11_number S (m_end_i S hr hfin) hRm (Nat.le_refl _) hN v0 v1 v2 h)
set_option maxRecDepth 100000 in
theorem e11_isBarred : ∀ q ∈ ([(0, .iconst 0, 1), (1, .istore_n 1, 1), (2, .iload_n 1, 1), (3, .aload_n 0, 1), (4, .getfield 148, 3), (7, .arraylength, 1), (8, .if_icmp .ge 24, 3), (11, .aload_n 0, 1), (12, .aload_n 0, 1), (13, .getfield 148, 3), (16, .iload_n 1, 1), (17, .aaload, 1), (18, .invokevirtual 397, 3), (21, .ifCond .eq 5, 3), (24, .iconst 1, 1), (25, .ireturn, 1), (26, .iinc 1 1, 3), (29, .goto (-27), 3), (32, .iconst 0, 1), (33, .istore_n 1, 1), (34, .iload_n 1, 1), (35, .aload_n 0, 1), (36, .getfield 175, 3), (39, .arraylength, 1), (40, .if_icmp .ge 24, 3), (43, .aload_n 0, 1), (44, .aload_n 0, 1), (45, .getfield 175, 3), (48, .iload_n 1, 1), (49, .aaload, 1), (50, .invokevirtual 397, 3), (53, .ifCond .eq 5, 3), (56, .iconst 1, 1), (57, .ireturn, 1), (58, .iinc 1 1, 3), (61, .goto (-27), 3), (64, .iconst 0, 1), (65, .ireturn, 1)] : List (Nat × Instr × Nat)), decode cX11_isBarred q.1 = .ok q.2 := by decide +kernel
set_option maxHeartbeats 4000000 in
set_option maxRecDepth 20000 in
theorem s11_isBarred_c34 {Y : m_Y Bool} (S : m_Std Y RX11 cX11_isBarred) (E : m_End Y cX11_isBarred .ireturn (fun r => [m_i (m_b2i r)])) {F : Nat} (hF : m_Rm Y F) (hFn : 7 ≤ F) (hN : Y.2.2.2.1 = 2) : ∀ (v0 v1 : Int) (h : m_H), m_Sim Y 34 [(0, m_r v0), (1, m_i v1)] [] h (t11_isBarred_c34 v0 v1 h) := by
  intro v0 v1 h
  refine ms_all fun r e => ?_
  refine t11_isBarred_c34.partial_correctness v0 (motive := fun v1 h r => m_Sim Y 34 [(0, m_r v0), (1, m_i v1)] [] h (some r)) ?_ v1 h r e
  intro f ih v1 h r e
  have ih : ∀ (v1 : Int) (h : m_H), m_Sim Y 34 [(0, m_r v0), (1, m_i v1)] [] h (f v1 h ) := fun v1 h  => ms_all fun r e => ih v1 h r e
  refine ms_use ?_ e
  clear e r
  refine ms_iload_n (pc := 34) S 1 rfl rfl (m_dec e11_isBarred 20 rfl) ?_
  refine ms_aload_n (pc := 35) S 0 rfl rfl (m_dec e11_isBarred 21 rfl) ?_
  refine ms_grd fun g1 => ?_
  refine ms_getf (pc := 36) S lf_X11_175 rfl (m_dec e11_isBarred 22 rfl) g1 ?_
  refine ms_grd fun g2 => ?_
  refine ms_alen (pc := 39) S g2 (m_dec e11_isBarred 23 rfl) ?_
  refine ms_icmp_ge (pc := 40) S (m_dec e11_isBarred 24 rfl) rfl (fun q3 => ?_) (fun q3 => ?_)
  · refine ms_aload_n (pc := 43) S 0 rfl rfl (m_dec e11_isBarred 25 rfl) ?_
    refine ms_aload_n (pc := 44) S 0 rfl rfl (m_dec e11_isBarred 26 rfl) ?_
    refine ms_getf (pc := 45) S lf_X11_175 rfl (m_dec e11_isBarred 27 rfl) g1 ?_
    refine ms_iload_n (pc := 48) S 1 rfl rfl (m_dec e11_isBarred 28 rfl) ?_
    refine ms_grd fun g4 => ?_
    refine ms_aald (pc := 49) S 28 (by decide) (fun _ => rfl) rfl g4 (m_dec e11_isBarred 29 rfl) ?_
    refine ms_callVz (pc := 50) S hF (vals := [m_r (m_g h (m_g h v0 49) (m_w v1))]) (st := []) (hc := vw_11) (hci := by decide) (hcy := rfl) (ht := g1) (hC := (k11_isWord _ _ v0 (m_g h (m_g h v0 49) (m_w v1)) h)) (hM := lm_X11_397) (hfr := (Nat.le_trans (by decide) hFn)) (hstk := rfl) (hcat := Nat.le_of_ble_eq_true rfl) (hd := (m_dec e11_isBarred 30 rfl)) (k1 := fun r6 h5 => ?_)
    refine ms_ifb_eq (pc := 53) S (m_dec e11_isBarred 31 rfl) rfl (fun q7 => ?_) (fun q7 => ?_)
    · refine ms_iconst (pc := 56) S (m_dec e11_isBarred 32 rfl) ?_
      exact ms_ret (pc := 57) E (m_dec e11_isBarred 33 rfl) rfl
    · refine ms_iinc (pc := 58) S (L' := [(0, m_r v0), (1, m_i (v1 + 1))]) 1 rfl [1, 0] rfl (m_lt hN rfl) (m_dec e11_isBarred 34 rfl) ?_
      refine ms_goto (pc := 61) S (m_dec e11_isBarred 35 rfl) rfl ?_
      exact ih (v1 + 1) h5
  · refine ms_iconst (pc := 64) S (m_dec e11_isBarred 36 rfl) ?_
    exact ms_ret (pc := 65) E (m_dec e11_isBarred 37 rfl) rfl
set_option maxHeartbeats 4000000 in
set_option maxRecDepth 20000 in
theorem s11_isBarred_c2 {Y : m_Y Bool} (S : m_Std Y RX11 cX11_isBarred) (E : m_End Y cX11_isBarred .ireturn (fun r => [m_i (m_b2i r)])) {F : Nat} (hF : m_Rm Y F) (hFn : 7 ≤ F) (hN : Y.2.2.2.1 = 2) : ∀ (v0 v1 : Int) (h : m_H), m_Sim Y 2 [(0, m_r v0), (1, m_i v1)] [] h (t11_isBarred_c2 v0 v1 h) := by
  intro v0 v1 h
  refine ms_all fun r e => ?_
  refine t11_isBarred_c2.partial_correctness v0 (motive := fun v1 h r => m_Sim Y 2 [(0, m_r v0), (1, m_i v1)] [] h (some r)) ?_ v1 h r e
  intro f ih v1 h r e
  have ih : ∀ (v1 : Int) (h : m_H), m_Sim Y 2 [(0, m_r v0), (1, m_i v1)] [] h (f v1 h ) := fun v1 h  => ms_all fun r e => ih v1 h r e
  refine ms_use ?_ e
  clear e r
  refine ms_iload_n (pc := 2) S 1 rfl rfl (m_dec e11_isBarred 2 rfl) ?_
  refine ms_aload_n (pc := 3) S 0 rfl rfl (m_dec e11_isBarred 3 rfl) ?_
  refine ms_grd fun g1 => ?_
  refine ms_getf (pc := 4) S lf_X11_148 rfl (m_dec e11_isBarred 4 rfl) g1 ?_
  refine ms_grd fun g2 => ?_
  refine ms_alen (pc := 7) S g2 (m_dec e11_isBarred 5 rfl) ?_
  refine ms_icmp_ge (pc := 8) S (m_dec e11_isBarred 6 rfl) rfl (fun q3 => ?_) (fun q3 => ?_)
  · refine ms_aload_n (pc := 11) S 0 rfl rfl (m_dec e11_isBarred 7 rfl) ?_
    refine ms_aload_n (pc := 12) S 0 rfl rfl (m_dec e11_isBarred 8 rfl) ?_
    refine ms_getf (pc := 13) S lf_X11_148 rfl (m_dec e11_isBarred 9 rfl) g1 ?_
    refine ms_iload_n (pc := 16) S 1 rfl rfl (m_dec e11_isBarred 10 rfl) ?_
    refine ms_grd fun g4 => ?_
    refine ms_aald (pc := 17) S 28 (by decide) (fun _ => rfl) rfl g4 (m_dec e11_isBarred 11 rfl) ?_
    refine ms_callVz (pc := 18) S hF (vals := [m_r (m_g h (m_g h v0 48) (m_w v1))]) (st := []) (hc := vw_11) (hci := by decide) (hcy := rfl) (ht := g1) (hC := (k11_isWord _ _ v0 (m_g h (m_g h v0 48) (m_w v1)) h)) (hM := lm_X11_397) (hfr := (Nat.le_trans (by decide) hFn)) (hstk := rfl) (hcat := Nat.le_of_ble_eq_true rfl) (hd := (m_dec e11_isBarred 12 rfl)) (k1 := fun r6 h5 => ?_)
    refine ms_ifb_eq (pc := 21) S (m_dec e11_isBarred 13 rfl) rfl (fun q7 => ?_) (fun q7 => ?_)
    · refine ms_iconst (pc := 24) S (m_dec e11_isBarred 14 rfl) ?_
      exact ms_ret (pc := 25) E (m_dec e11_isBarred 15 rfl) rfl
    · refine ms_iinc (pc := 26) S (L' := [(0, m_r v0), (1, m_i (v1 + 1))]) 1 rfl [1, 0] rfl (m_lt hN rfl) (m_dec e11_isBarred 16 rfl) ?_
      refine ms_goto (pc := 29) S (m_dec e11_isBarred 17 rfl) rfl ?_
      exact ih (v1 + 1) h5
  · refine ms_iconst (pc := 32) S (m_dec e11_isBarred 18 rfl) ?_
    refine ms_istore_n (pc := 33) S (L' := [(0, m_r v0), (1, m_i 0)]) [1, 0] rfl rfl (m_lt hN rfl) (m_dec e11_isBarred 19 rfl) ?_
    exact s11_isBarred_c34 S E hF hFn hN v0 0 h
set_option maxHeartbeats 4000000 in
set_option maxRecDepth 20000 in
theorem s11_isBarred {Y : m_Y Bool} (S : m_Std Y RX11 cX11_isBarred) (E : m_End Y cX11_isBarred .ireturn (fun r => [m_i (m_b2i r)])) {F : Nat} (hF : m_Rm Y F) (hFn : 7 ≤ F) (hN : Y.2.2.2.1 = 2) (v0 : Int) (h : m_H) : m_Sim Y 0 [(0, m_r v0)] [] h (t11_isBarred v0 h) := by
  unfold t11_isBarred
  refine ms_iconst (pc := 0) S (m_dec e11_isBarred 0 rfl) ?_
  refine ms_istore_n (pc := 1) S (L' := [(0, m_r v0), (1, m_i 0)]) [1, 0] rfl rfl (m_lt hN rfl) (m_dec e11_isBarred 1 rfl) ?_
  exact s11_isBarred_c2 S E hF hFn hN v0 0 h
theorem k11_isBarred (l : Launch) (d : m_D) (v0 : Int) (h : m_H) : m_Con l d yX11_isBarred cX11_isBarred 2 (some .boolean) 7 (fun r => [m_i (m_b2i r)]) [m_r v0] h (t11_isBarred v0 h) :=
  m_con2 (by decide +kernel) (Nat.le_of_ble_eq_true rfl) (fun Y hN hRm hr hI S hfin => s11_isBarred S (m_end_z S hr hfin) hRm (Nat.le_refl _) hN v0 h)
set_option maxRecDepth 100000 in
theorem e11_wordKnown : ∀ q ∈ ([(0, .iconst 0, 1), (1, .istore_n 1, 1), (2, .iload_n 1, 1), (3, .aload_n 0, 1), (4, .getfield 412, 3), (7, .if_icmp .ge 99, 3), (10, .aload_n 0, 1), (11, .getfield 116, 3), (14, .iload_n 1, 1), (15, .iaload, 1), (16, .aload_n 0, 1), (17, .getfield 378, 3), (20, .aload_n 0, 1), (21, .getfield 375, 3), (24, .isub, 1), (25, .if_icmp .ne 7, 3), (28, .iconst 1, 1), (29, .goto 4, 3), (32, .iconst 0, 1), (33, .istore_n 2, 1), (34, .iconst 0, 1), (35, .istore_n 3, 1), (36, .iload_n 3, 1), (37, .aload_n 0, 1), (38, .getfield 116, 3), (41, .iload_n 1, 1), (42, .iaload, 1), (43, .if_icmp .ge 46, 3), (46, .iload_n 2, 1), (47, .ifCond .eq 42, 3), (50, .aload_n 0, 1), (51, .getfield 80, 3), (54, .aload_n 0, 1), (55, .getfield 113, 3), (58, .iload_n 1, 1), (59, .iaload, 1), (60, .iload_n 3, 1), (61, .iadd, 1), (62, .baload, 1), (63, .aload_n 0, 1), (64, .getfield 80, 3), (67, .aload_n 0, 1), (68, .getfield 375, 3), (71, .iload_n 3, 1), (72, .iadd, 1), (73, .baload, 1), (74, .if_icmp .ne 7, 3), (77, .iconst 1, 1), (78, .goto 4, 3), (81, .iconst 0, 1), (82, .istore_n 2, 1), (83, .iinc 3 1, 3), (86, .goto (-50), 3), (89, .iload_n 2, 1), (90, .ifCond .eq 10, 3), (93, .aload_n 0, 1), (94, .getfield 119, 3), (97, .iload_n 1, 1), (98, .iaload, 1), (99, .ireturn, 1), (100, .iinc 1 1, 3), (103, .goto (-101), 3), (106, .iconst (-1), 1), (107, .ireturn, 1)] : List (Nat × Instr × Nat)), decode cX11_wordKnown q.1 = .ok q.2 := by decide +kernel
set_option maxHeartbeats 4000000 in
set_option maxRecDepth 20000 in
theorem s11_wordKnown_x2 {Y : m_Y Int} (S : m_Std Y RX11 cX11_wordKnown) (E : m_End Y cX11_wordKnown .ireturn (fun r => [m_i r])) {F : Nat} (hF : m_Rm Y F) (hFn : 0 ≤ F) (hN : Y.2.2.2.1 = 4) : ∀ (cc : Int) (v0 v1 v2 v3 : Int) (h : m_H) (r : Int × m_H), t11_wordKnown_x2 cc v0 v1 v2 v3 h = some r → (cc = 2 → m_Sim Y 2 [(0, m_r v0), (1, m_i v1)] [] h (some r)) ∧ (cc = 36 → m_Sim Y 36 [(0, m_r v0), (1, m_i v1), (2, m_i v2), (3, m_i v3)] [] h (some r)) ∧ (cc = 89 → m_Sim Y 89 [(0, m_r v0), (1, m_i v1), (2, m_i v2)] [] h (some r)) := by
  intro cc v0 v1 v2 v3 h r e
  refine t11_wordKnown_x2.partial_correctness v0 h (motive := fun cc v1 v2 v3 r => (cc = 2 → m_Sim Y 2 [(0, m_r v0), (1, m_i v1)] [] h (some r)) ∧ (cc = 36 → m_Sim Y 36 [(0, m_r v0), (1, m_i v1), (2, m_i v2), (3, m_i v3)] [] h (some r)) ∧ (cc = 89 → m_Sim Y 89 [(0, m_r v0), (1, m_i v1), (2, m_i v2)] [] h (some r))) ?_ cc v1 v2 v3 r e
  intro f ih cc v1 v2 v3 r e
  have ih2 : ∀ (v1 v2 v3 : Int) , m_Sim Y 2 [(0, m_r v0), (1, m_i v1)] [] h (f 2 v1 v2 v3 ) := fun v1 v2 v3  => ms_all fun r e => (ih 2 v1 v2 v3 r e).1 rfl
  have ih36 : ∀ (v1 v2 v3 : Int) , m_Sim Y 36 [(0, m_r v0), (1, m_i v1), (2, m_i v2), (3, m_i v3)] [] h (f 36 v1 v2 v3 ) := fun v1 v2 v3  => ms_all fun r e => (ih 36 v1 v2 v3 r e).2.1 rfl
  have ih89 : ∀ (v1 v2 v3 : Int) , m_Sim Y 89 [(0, m_r v0), (1, m_i v1), (2, m_i v2)] [] h (f 89 v1 v2 v3 ) := fun v1 v2 v3  => ms_all fun r e => (ih 89 v1 v2 v3 r e).2.2 rfl
  refine ⟨?_, ?_, ?_⟩
  · intro q0
    subst q0
    rw [if_pos rfl] at e
    refine ms_use ?_ e
    clear e r
    refine ms_iload_n (pc := 2) S 1 rfl rfl (m_dec e11_wordKnown 2 rfl) ?_
    refine ms_aload_n (pc := 3) S 0 rfl rfl (m_dec e11_wordKnown 3 rfl) ?_
    refine ms_grd fun g1 => ?_
    refine ms_getf (pc := 4) S lf_X11_412 rfl (m_dec e11_wordKnown 4 rfl) g1 ?_
    refine ms_icmp_ge (pc := 7) S (m_dec e11_wordKnown 5 rfl) rfl (fun q2 => ?_) (fun q2 => ?_)
    · refine ms_aload_n (pc := 10) S 0 rfl rfl (m_dec e11_wordKnown 6 rfl) ?_
      refine ms_getf (pc := 11) S lf_X11_116 rfl (m_dec e11_wordKnown 7 rfl) g1 ?_
      refine ms_iload_n (pc := 14) S 1 rfl rfl (m_dec e11_wordKnown 8 rfl) ?_
      refine ms_grd fun g3 => ?_
      refine ms_iald (pc := 15) S g3 (m_dec e11_wordKnown 9 rfl) ?_
      refine ms_aload_n (pc := 16) S 0 rfl rfl (m_dec e11_wordKnown 10 rfl) ?_
      refine ms_getf (pc := 17) S lf_X11_378 rfl (m_dec e11_wordKnown 11 rfl) g1 ?_
      refine ms_aload_n (pc := 20) S 0 rfl rfl (m_dec e11_wordKnown 12 rfl) ?_
      refine ms_getf (pc := 21) S lf_X11_375 rfl (m_dec e11_wordKnown 13 rfl) g1 ?_
      refine ms_isub (pc := 24) S (m_dec e11_wordKnown 14 rfl) ?_
      refine ms_icmp_ne (pc := 25) S (m_dec e11_wordKnown 15 rfl) rfl (fun q4 => ?_) (fun q4 => ?_)
      · refine ms_iconst (pc := 28) S (m_dec e11_wordKnown 16 rfl) ?_
        refine ms_goto (pc := 29) S (m_dec e11_wordKnown 17 rfl) rfl ?_
        refine ms_istore_n (pc := 33) S (L' := [(0, m_r v0), (1, m_i v1), (2, m_i 1)]) [1, 2, 0] rfl rfl (m_lt hN rfl) (m_dec e11_wordKnown 19 rfl) ?_
        refine ms_iconst (pc := 34) S (m_dec e11_wordKnown 20 rfl) ?_
        refine ms_istore_n (pc := 35) S (L' := [(0, m_r v0), (1, m_i v1), (2, m_i 1), (3, m_i 0)]) [1, 2, 3, 0] rfl rfl (m_lt hN rfl) (m_dec e11_wordKnown 21 rfl) ?_
        exact ih36 v1 1 0
      · refine ms_iconst (pc := 32) S (m_dec e11_wordKnown 18 rfl) ?_
        refine ms_istore_n (pc := 33) S (L' := [(0, m_r v0), (1, m_i v1), (2, m_i 0)]) [1, 2, 0] rfl rfl (m_lt hN rfl) (m_dec e11_wordKnown 19 rfl) ?_
        refine ms_iconst (pc := 34) S (m_dec e11_wordKnown 20 rfl) ?_
        refine ms_istore_n (pc := 35) S (L' := [(0, m_r v0), (1, m_i v1), (2, m_i 0), (3, m_i 0)]) [1, 2, 3, 0] rfl rfl (m_lt hN rfl) (m_dec e11_wordKnown 21 rfl) ?_
        exact ih36 v1 0 0
    · refine ms_iconst (pc := 106) S (m_dec e11_wordKnown 62 rfl) ?_
      exact ms_ret (pc := 107) E (m_dec e11_wordKnown 63 rfl) rfl
  · intro q0
    subst q0
    rw [if_neg (by decide), if_pos rfl] at e
    refine ms_use ?_ e
    clear e r
    refine ms_iload_n (pc := 36) S 3 rfl rfl (m_dec e11_wordKnown 22 rfl) ?_
    refine ms_aload_n (pc := 37) S 0 rfl rfl (m_dec e11_wordKnown 23 rfl) ?_
    refine ms_grd fun g1 => ?_
    refine ms_getf (pc := 38) S lf_X11_116 rfl (m_dec e11_wordKnown 24 rfl) g1 ?_
    refine ms_iload_n (pc := 41) S 1 rfl rfl (m_dec e11_wordKnown 25 rfl) ?_
    refine ms_grd fun g2 => ?_
    refine ms_iald (pc := 42) S g2 (m_dec e11_wordKnown 26 rfl) ?_
    refine ms_icmp_ge (pc := 43) S (m_dec e11_wordKnown 27 rfl) rfl (fun q3 => ?_) (fun q3 => ?_)
    · refine ms_iload_n (pc := 46) S 2 rfl rfl (m_dec e11_wordKnown 28 rfl) ?_
      refine ms_if_eq (pc := 47) S (m_dec e11_wordKnown 29 rfl) rfl (fun q4 => ?_) (fun q4 => ?_)
      · refine ms_sub (pc := 89) (L' := [(0, m_r v0), (1, m_i v1), (2, m_i v2)]) [0, 1, 2] rfl ?_
        exact ih89 v1 v2 0
      · refine ms_aload_n (pc := 50) S 0 rfl rfl (m_dec e11_wordKnown 30 rfl) ?_
        refine ms_getf (pc := 51) S lf_X11_80 rfl (m_dec e11_wordKnown 31 rfl) g1 ?_
        refine ms_aload_n (pc := 54) S 0 rfl rfl (m_dec e11_wordKnown 32 rfl) ?_
        refine ms_getf (pc := 55) S lf_X11_113 rfl (m_dec e11_wordKnown 33 rfl) g1 ?_
        refine ms_iload_n (pc := 58) S 1 rfl rfl (m_dec e11_wordKnown 34 rfl) ?_
        refine ms_grd fun g5 => ?_
        refine ms_iald (pc := 59) S g5 (m_dec e11_wordKnown 35 rfl) ?_
        refine ms_iload_n (pc := 60) S 3 rfl rfl (m_dec e11_wordKnown 36 rfl) ?_
        refine ms_iadd (pc := 61) S (m_dec e11_wordKnown 37 rfl) ?_
        refine ms_grd fun g6 => ?_
        refine ms_bald (pc := 62) S g6 (m_dec e11_wordKnown 38 rfl) ?_
        refine ms_aload_n (pc := 63) S 0 rfl rfl (m_dec e11_wordKnown 39 rfl) ?_
        refine ms_getf (pc := 64) S lf_X11_80 rfl (m_dec e11_wordKnown 40 rfl) g1 ?_
        refine ms_aload_n (pc := 67) S 0 rfl rfl (m_dec e11_wordKnown 41 rfl) ?_
        refine ms_getf (pc := 68) S lf_X11_375 rfl (m_dec e11_wordKnown 42 rfl) g1 ?_
        refine ms_iload_n (pc := 71) S 3 rfl rfl (m_dec e11_wordKnown 43 rfl) ?_
        refine ms_iadd (pc := 72) S (m_dec e11_wordKnown 44 rfl) ?_
        refine ms_grd fun g7 => ?_
        refine ms_bald (pc := 73) S g7 (m_dec e11_wordKnown 45 rfl) ?_
        refine ms_icmp_ne (pc := 74) S (m_dec e11_wordKnown 46 rfl) rfl (fun q8 => ?_) (fun q8 => ?_)
        · refine ms_iconst (pc := 77) S (m_dec e11_wordKnown 47 rfl) ?_
          refine ms_goto (pc := 78) S (m_dec e11_wordKnown 48 rfl) rfl ?_
          refine ms_istore_n (pc := 82) S (L' := [(0, m_r v0), (1, m_i v1), (2, m_i 1), (3, m_i v3)]) [1, 2, 0, 3] rfl rfl (m_lt hN rfl) (m_dec e11_wordKnown 50 rfl) ?_
          refine ms_iinc (pc := 83) S (L' := [(0, m_r v0), (1, m_i v1), (2, m_i 1), (3, m_i (v3 + 1))]) 3 rfl [1, 2, 3, 0] rfl (m_lt hN rfl) (m_dec e11_wordKnown 51 rfl) ?_
          refine ms_goto (pc := 86) S (m_dec e11_wordKnown 52 rfl) rfl ?_
          exact ih36 v1 1 (v3 + 1)
        · refine ms_iconst (pc := 81) S (m_dec e11_wordKnown 49 rfl) ?_
          refine ms_istore_n (pc := 82) S (L' := [(0, m_r v0), (1, m_i v1), (2, m_i 0), (3, m_i v3)]) [1, 2, 0, 3] rfl rfl (m_lt hN rfl) (m_dec e11_wordKnown 50 rfl) ?_
          refine ms_iinc (pc := 83) S (L' := [(0, m_r v0), (1, m_i v1), (2, m_i 0), (3, m_i (v3 + 1))]) 3 rfl [1, 2, 3, 0] rfl (m_lt hN rfl) (m_dec e11_wordKnown 51 rfl) ?_
          refine ms_goto (pc := 86) S (m_dec e11_wordKnown 52 rfl) rfl ?_
          exact ih36 v1 0 (v3 + 1)
    · refine ms_sub (pc := 89) (L' := [(0, m_r v0), (1, m_i v1), (2, m_i v2)]) [0, 1, 2] rfl ?_
      exact ih89 v1 v2 0
  · intro q0
    subst q0
    rw [if_neg (by decide), if_neg (by decide), if_pos rfl] at e
    refine ms_use ?_ e
    clear e r
    refine ms_iload_n (pc := 89) S 2 rfl rfl (m_dec e11_wordKnown 53 rfl) ?_
    refine ms_if_eq (pc := 90) S (m_dec e11_wordKnown 54 rfl) rfl (fun q1 => ?_) (fun q1 => ?_)
    · refine ms_iinc (pc := 100) S (L' := [(0, m_r v0), (1, m_i (v1 + 1))]) 1 rfl [1, 0] rfl (m_lt hN rfl) (m_dec e11_wordKnown 60 rfl) ?_
      refine ms_goto (pc := 103) S (m_dec e11_wordKnown 61 rfl) rfl ?_
      exact ih2 (v1 + 1) 0 0
    · refine ms_aload_n (pc := 93) S 0 rfl rfl (m_dec e11_wordKnown 55 rfl) ?_
      refine ms_grd fun g2 => ?_
      refine ms_getf (pc := 94) S lf_X11_119 rfl (m_dec e11_wordKnown 56 rfl) g2 ?_
      refine ms_iload_n (pc := 97) S 1 rfl rfl (m_dec e11_wordKnown 57 rfl) ?_
      refine ms_grd fun g3 => ?_
      refine ms_iald (pc := 98) S g3 (m_dec e11_wordKnown 58 rfl) ?_
      exact ms_ret (pc := 99) E (m_dec e11_wordKnown 59 rfl) rfl
set_option maxHeartbeats 4000000 in
set_option maxRecDepth 20000 in
theorem s11_wordKnown_c2 {Y : m_Y Int} (S : m_Std Y RX11 cX11_wordKnown) (E : m_End Y cX11_wordKnown .ireturn (fun r => [m_i r])) {F : Nat} (hF : m_Rm Y F) (hFn : 0 ≤ F) (hN : Y.2.2.2.1 = 4) (v0 v1 v2 v3 : Int) (h : m_H) : m_Sim Y 2 [(0, m_r v0), (1, m_i v1)] [] h (t11_wordKnown_x2 2 v0 v1 v2 v3 h) := ms_all fun r e => (s11_wordKnown_x2 S E hF hFn hN 2 v0 v1 v2 v3 h r e).1 rfl
set_option maxHeartbeats 4000000 in
set_option maxRecDepth 20000 in
theorem s11_wordKnown_c36 {Y : m_Y Int} (S : m_Std Y RX11 cX11_wordKnown) (E : m_End Y cX11_wordKnown .ireturn (fun r => [m_i r])) {F : Nat} (hF : m_Rm Y F) (hFn : 0 ≤ F) (hN : Y.2.2.2.1 = 4) (v0 v1 v2 v3 : Int) (h : m_H) : m_Sim Y 36 [(0, m_r v0), (1, m_i v1), (2, m_i v2), (3, m_i v3)] [] h (t11_wordKnown_x2 36 v0 v1 v2 v3 h) := ms_all fun r e => (s11_wordKnown_x2 S E hF hFn hN 36 v0 v1 v2 v3 h r e).2.1 rfl
set_option maxHeartbeats 4000000 in
set_option maxRecDepth 20000 in
theorem s11_wordKnown_c89 {Y : m_Y Int} (S : m_Std Y RX11 cX11_wordKnown) (E : m_End Y cX11_wordKnown .ireturn (fun r => [m_i r])) {F : Nat} (hF : m_Rm Y F) (hFn : 0 ≤ F) (hN : Y.2.2.2.1 = 4) (v0 v1 v2 v3 : Int) (h : m_H) : m_Sim Y 89 [(0, m_r v0), (1, m_i v1), (2, m_i v2)] [] h (t11_wordKnown_x2 89 v0 v1 v2 v3 h) := ms_all fun r e => (s11_wordKnown_x2 S E hF hFn hN 89 v0 v1 v2 v3 h r e).2.2 rfl
set_option maxHeartbeats 4000000 in
set_option maxRecDepth 20000 in
theorem s11_wordKnown {Y : m_Y Int} (S : m_Std Y RX11 cX11_wordKnown) (E : m_End Y cX11_wordKnown .ireturn (fun r => [m_i r])) {F : Nat} (hF : m_Rm Y F) (hFn : 0 ≤ F) (hN : Y.2.2.2.1 = 4) (v0 : Int) (h : m_H) : m_Sim Y 0 [(0, m_r v0)] [] h (t11_wordKnown v0 h) := by
  unfold t11_wordKnown
  refine ms_iconst (pc := 0) S (m_dec e11_wordKnown 0 rfl) ?_
  refine ms_istore_n (pc := 1) S (L' := [(0, m_r v0), (1, m_i 0)]) [1, 0] rfl rfl (m_lt hN rfl) (m_dec e11_wordKnown 1 rfl) ?_
  exact s11_wordKnown_c2 S E hF hFn hN v0 0 0 0 h
theorem k11_wordKnown (l : Launch) (d : m_D) (v0 : Int) (h : m_H) : m_Con l d yX11_wordKnown cX11_wordKnown 4 (some .int) 0 (fun r => [m_i r]) [m_r v0] h (t11_wordKnown v0 h) :=
  m_con2 (by decide +kernel) (Nat.le_of_ble_eq_true rfl) (fun Y hN hRm hr hI S hfin => s11_wordKnown S (m_end_i S hr hfin) hRm (Nat.le_refl _) hN v0 h)
set_option maxRecDepth 100000 in
theorem e11_made : ∀ q ∈ ([(0, .aload_n 0, 1), (1, .getfield 384, 3), (4, .iconst (-1), 1), (5, .if_icmp .eq 5, 3), (8, .iconst 0, 1), (9, .ireturn, 1), (10, .aload_n 0, 1), (11, .invokevirtual 415, 3), (14, .istore_n 1, 1), (15, .aload_n 0, 1), (16, .getfield 378, 3), (19, .aload_n 0, 1), (20, .getfield 375, 3), (23, .if_icmp .eq 8, 3), (26, .iload_n 1, 1), (27, .iconst (-1), 1), (28, .if_icmp .ne 9, 3), (31, .aload_n 0, 1), (32, .invokevirtual 401, 3), (35, .iconst 0, 1), (36, .ireturn, 1), (37, .aload_n 0, 1), (38, .invokevirtual 404, 3), (41, .iload_n 1, 1), (42, .ireturn, 1)] : List (Nat × Instr × Nat)), decode cX11_made q.1 = .ok q.2 := by decide +kernel
set_option maxHeartbeats 4000000 in
set_option maxRecDepth 20000 in
theorem s11_made {Y : m_Y Int} (S : m_Std Y RX11 cX11_made) (E : m_End Y cX11_made .ireturn (fun r => [m_i r])) {F : Nat} (hF : m_Rm Y F) (hFn : 3 ≤ F) (hN : Y.2.2.2.1 = 2) (v0 : Int) (h : m_H) : m_Sim Y 0 [(0, m_r v0)] [] h (t11_made v0 h) := by
  unfold t11_made
  refine ms_aload_n (pc := 0) S 0 rfl rfl (m_dec e11_made 0 rfl) ?_
  refine ms_grd fun g1 => ?_
  refine ms_getf (pc := 1) S lf_X11_384 rfl (m_dec e11_made 1 rfl) g1 ?_
  refine ms_iconst (pc := 4) S (m_dec e11_made 2 rfl) ?_
  refine ms_icmp_eq (pc := 5) S (m_dec e11_made 3 rfl) rfl (fun q2 => ?_) (fun q2 => ?_)
  · refine ms_aload_n (pc := 10) S 0 rfl rfl (m_dec e11_made 6 rfl) ?_
    refine ms_callVi (pc := 11) S hF (vals := []) (st := []) (hc := vw_11) (hci := by decide) (hcy := rfl) (ht := g1) (hC := (k11_wordKnown _ _ v0 h)) (hM := lm_X11_415) (hfr := (Nat.le_trans (by decide) hFn)) (hstk := rfl) (hcat := Nat.le_of_ble_eq_true rfl) (hd := (m_dec e11_made 7 rfl)) (k1 := fun r4 h3 => ?_)
    refine ms_istore_n (pc := 14) S (L' := [(0, m_r v0), (1, m_i r4)]) [1, 0] rfl rfl (m_lt hN rfl) (m_dec e11_made 8 rfl) ?_
    refine ms_aload_n (pc := 15) S 0 rfl rfl (m_dec e11_made 9 rfl) ?_
    refine ms_grd fun g5 => ?_
    refine ms_getf (pc := 16) S lf_X11_378 rfl (m_dec e11_made 10 rfl) g5 ?_
    refine ms_aload_n (pc := 19) S 0 rfl rfl (m_dec e11_made 11 rfl) ?_
    refine ms_getf (pc := 20) S lf_X11_375 rfl (m_dec e11_made 12 rfl) g5 ?_
    refine ms_icmp_eq (pc := 23) S (m_dec e11_made 13 rfl) rfl (fun q6 => ?_) (fun q6 => ?_)
    · refine ms_aload_n (pc := 31) S 0 rfl rfl (m_dec e11_made 17 rfl) ?_
      refine ms_callVv (pc := 32) S hF (vals := []) (st := []) (hc := vw_11) (hci := by decide) (hcy := rfl) (ht := g5) (hC := (k11_fails _ _ v0 h3)) (hM := lm_X11_401) (hfr := (Nat.le_trans (by decide) hFn)) (hstk := rfl) (hcat := Nat.le_of_ble_eq_true rfl) (hd := (m_dec e11_made 18 rfl)) (k1 := fun h7 => ?_)
      refine ms_iconst (pc := 35) S (m_dec e11_made 19 rfl) ?_
      exact ms_ret (pc := 36) E (m_dec e11_made 20 rfl) rfl
    · refine ms_iload_n (pc := 26) S 1 rfl rfl (m_dec e11_made 14 rfl) ?_
      refine ms_iconst (pc := 27) S (m_dec e11_made 15 rfl) ?_
      refine ms_icmp_ne (pc := 28) S (m_dec e11_made 16 rfl) rfl (fun q9 => ?_) (fun q9 => ?_)
      · refine ms_aload_n (pc := 31) S 0 rfl rfl (m_dec e11_made 17 rfl) ?_
        refine ms_callVv (pc := 32) S hF (vals := []) (st := []) (hc := vw_11) (hci := by decide) (hcy := rfl) (ht := g5) (hC := (k11_fails _ _ v0 h3)) (hM := lm_X11_401) (hfr := (Nat.le_trans (by decide) hFn)) (hstk := rfl) (hcat := Nat.le_of_ble_eq_true rfl) (hd := (m_dec e11_made 18 rfl)) (k1 := fun h10 => ?_)
        refine ms_iconst (pc := 35) S (m_dec e11_made 19 rfl) ?_
        exact ms_ret (pc := 36) E (m_dec e11_made 20 rfl) rfl
      · refine ms_aload_n (pc := 37) S 0 rfl rfl (m_dec e11_made 21 rfl) ?_
        refine ms_callVv (pc := 38) S hF (vals := []) (st := []) (hc := vw_11) (hci := by decide) (hcy := rfl) (ht := g5) (hC := (k11_goesOn _ _ v0 h3)) (hM := lm_X11_404) (hfr := (Nat.le_trans (by decide) hFn)) (hstk := rfl) (hcat := Nat.le_of_ble_eq_true rfl) (hd := (m_dec e11_made 22 rfl)) (k1 := fun h12 => ?_)
        refine ms_iload_n (pc := 41) S 1 rfl rfl (m_dec e11_made 23 rfl) ?_
        exact ms_ret (pc := 42) E (m_dec e11_made 24 rfl) rfl
  · refine ms_iconst (pc := 8) S (m_dec e11_made 4 rfl) ?_
    exact ms_ret (pc := 9) E (m_dec e11_made 5 rfl) rfl
theorem k11_made (l : Launch) (d : m_D) (v0 : Int) (h : m_H) : m_Con l d yX11_made cX11_made 2 (some .int) 3 (fun r => [m_i r]) [m_r v0] h (t11_made v0 h) :=
  m_con2 (by decide +kernel) (Nat.le_of_ble_eq_true rfl) (fun Y hN hRm hr hI S hfin => s11_made S (m_end_i S hr hfin) hRm (Nat.le_refl _) hN v0 h)
set_option maxRecDepth 100000 in
theorem e11_verbAt : ∀ q ∈ ([(0, .iconst 0, 1), (1, .istore_n 1, 1), (2, .iload_n 1, 1), (3, .aload_n 0, 1), (4, .getfield 148, 3), (7, .arraylength, 1), (8, .if_icmp .ge 24, 3), (11, .aload_n 0, 1), (12, .aload_n 0, 1), (13, .getfield 148, 3), (16, .iload_n 1, 1), (17, .aaload, 1), (18, .invokevirtual 397, 3), (21, .ifCond .eq 5, 3), (24, .iload_n 1, 1), (25, .ireturn, 1), (26, .iinc 1 1, 3), (29, .goto (-27), 3), (32, .iconst (-1), 1), (33, .ireturn, 1)] : List (Nat × Instr × Nat)), decode cX11_verbAt q.1 = .ok q.2 := by decide +kernel
set_option maxHeartbeats 4000000 in
set_option maxRecDepth 20000 in
theorem s11_verbAt_c2 {Y : m_Y Int} (S : m_Std Y RX11 cX11_verbAt) (E : m_End Y cX11_verbAt .ireturn (fun r => [m_i r])) {F : Nat} (hF : m_Rm Y F) (hFn : 7 ≤ F) (hN : Y.2.2.2.1 = 2) : ∀ (v0 v1 : Int) (h : m_H), m_Sim Y 2 [(0, m_r v0), (1, m_i v1)] [] h (t11_verbAt_c2 v0 v1 h) := by
  intro v0 v1 h
  refine ms_all fun r e => ?_
  refine t11_verbAt_c2.partial_correctness v0 (motive := fun v1 h r => m_Sim Y 2 [(0, m_r v0), (1, m_i v1)] [] h (some r)) ?_ v1 h r e
  intro f ih v1 h r e
  have ih : ∀ (v1 : Int) (h : m_H), m_Sim Y 2 [(0, m_r v0), (1, m_i v1)] [] h (f v1 h ) := fun v1 h  => ms_all fun r e => ih v1 h r e
  refine ms_use ?_ e
  clear e r
  refine ms_iload_n (pc := 2) S 1 rfl rfl (m_dec e11_verbAt 2 rfl) ?_
  refine ms_aload_n (pc := 3) S 0 rfl rfl (m_dec e11_verbAt 3 rfl) ?_
  refine ms_grd fun g1 => ?_
  refine ms_getf (pc := 4) S lf_X11_148 rfl (m_dec e11_verbAt 4 rfl) g1 ?_
  refine ms_grd fun g2 => ?_
  refine ms_alen (pc := 7) S g2 (m_dec e11_verbAt 5 rfl) ?_
  refine ms_icmp_ge (pc := 8) S (m_dec e11_verbAt 6 rfl) rfl (fun q3 => ?_) (fun q3 => ?_)
  · refine ms_aload_n (pc := 11) S 0 rfl rfl (m_dec e11_verbAt 7 rfl) ?_
    refine ms_aload_n (pc := 12) S 0 rfl rfl (m_dec e11_verbAt 8 rfl) ?_
    refine ms_getf (pc := 13) S lf_X11_148 rfl (m_dec e11_verbAt 9 rfl) g1 ?_
    refine ms_iload_n (pc := 16) S 1 rfl rfl (m_dec e11_verbAt 10 rfl) ?_
    refine ms_grd fun g4 => ?_
    refine ms_aald (pc := 17) S 28 (by decide) (fun _ => rfl) rfl g4 (m_dec e11_verbAt 11 rfl) ?_
    refine ms_callVz (pc := 18) S hF (vals := [m_r (m_g h (m_g h v0 48) (m_w v1))]) (st := []) (hc := vw_11) (hci := by decide) (hcy := rfl) (ht := g1) (hC := (k11_isWord _ _ v0 (m_g h (m_g h v0 48) (m_w v1)) h)) (hM := lm_X11_397) (hfr := (Nat.le_trans (by decide) hFn)) (hstk := rfl) (hcat := Nat.le_of_ble_eq_true rfl) (hd := (m_dec e11_verbAt 12 rfl)) (k1 := fun r6 h5 => ?_)
    refine ms_ifb_eq (pc := 21) S (m_dec e11_verbAt 13 rfl) rfl (fun q7 => ?_) (fun q7 => ?_)
    · refine ms_iload_n (pc := 24) S 1 rfl rfl (m_dec e11_verbAt 14 rfl) ?_
      exact ms_ret (pc := 25) E (m_dec e11_verbAt 15 rfl) rfl
    · refine ms_iinc (pc := 26) S (L' := [(0, m_r v0), (1, m_i (v1 + 1))]) 1 rfl [1, 0] rfl (m_lt hN rfl) (m_dec e11_verbAt 16 rfl) ?_
      refine ms_goto (pc := 29) S (m_dec e11_verbAt 17 rfl) rfl ?_
      exact ih (v1 + 1) h5
  · refine ms_iconst (pc := 32) S (m_dec e11_verbAt 18 rfl) ?_
    exact ms_ret (pc := 33) E (m_dec e11_verbAt 19 rfl) rfl
set_option maxHeartbeats 4000000 in
set_option maxRecDepth 20000 in
theorem s11_verbAt {Y : m_Y Int} (S : m_Std Y RX11 cX11_verbAt) (E : m_End Y cX11_verbAt .ireturn (fun r => [m_i r])) {F : Nat} (hF : m_Rm Y F) (hFn : 7 ≤ F) (hN : Y.2.2.2.1 = 2) (v0 : Int) (h : m_H) : m_Sim Y 0 [(0, m_r v0)] [] h (t11_verbAt v0 h) := by
  unfold t11_verbAt
  refine ms_iconst (pc := 0) S (m_dec e11_verbAt 0 rfl) ?_
  refine ms_istore_n (pc := 1) S (L' := [(0, m_r v0), (1, m_i 0)]) [1, 0] rfl rfl (m_lt hN rfl) (m_dec e11_verbAt 1 rfl) ?_
  exact s11_verbAt_c2 S E hF hFn hN v0 0 h
theorem k11_verbAt (l : Launch) (d : m_D) (v0 : Int) (h : m_H) : m_Con l d yX11_verbAt cX11_verbAt 2 (some .int) 7 (fun r => [m_i r]) [m_r v0] h (t11_verbAt v0 h) :=
  m_con2 (by decide +kernel) (Nat.le_of_ble_eq_true rfl) (fun Y hN hRm hr hI S hfin => s11_verbAt S (m_end_i S hr hfin) hRm (Nat.le_refl _) hN v0 h)
set_option maxRecDepth 100000 in
theorem e11_puts : ∀ q ∈ ([(0, .aload_n 0, 1), (1, .getfield 84, 3), (4, .bipush 8, 2), (6, .iaload, 1), (7, .bipush 40, 2), (9, .if_icmp .ne 7, 3), (12, .aload_n 0, 1), (13, .invokevirtual 401, 3), (16, .aload_n 0, 1), (17, .ldc 169, 2), (19, .invokevirtual 418, 3), (22, .aload_n 0, 1), (23, .getfield 84, 3), (26, .bipush 8, 2), (28, .iaload, 1), (29, .istore_n 3, 1), (30, .aload_n 0, 1), (31, .invokevirtual 422, 3), (34, .istore 4, 2), (36, .aload_n 0, 1), (37, .ldc 171, 2), (39, .invokevirtual 418, 3), (42, .aload_n 0, 1), (43, .iconst 0, 1), (44, .sipush 1500, 3), (47, .invokevirtual 425, 3), (50, .istore 5, 2), (52, .aload_n 0, 1), (53, .ldc 163, 2), (55, .invokevirtual 418, 3), (58, .aload_n 0, 1), (59, .iconst 0, 1), (60, .bipush 15, 2), (62, .invokevirtual 425, 3), (65, .istore 6, 2), (67, .aload_n 0, 1), (68, .getfield 384, 3), (71, .iconst (-1), 1), (72, .if_icmp .eq 4, 3), (75, .return_, 1), (76, .aload_n 0, 1), (77, .getfield 89, 3), (80, .bipush 8, 2), (82, .aaload, 1), (83, .iload_n 3, 1), (84, .bipush 12, 2), (86, .iastore, 1), (87, .aload_n 0, 1), (88, .getfield 92, 3), (91, .bipush 8, 2), (93, .aaload, 1), (94, .iload_n 3, 1), (95, .iload 4, 2), (97, .iastore, 1), (98, .aload_n 0, 1), (99, .getfield 95, 3), (102, .bipush 8, 2), (104, .aaload, 1), (105, .iload_n 3, 1), (106, .iconst (-1), 1), (107, .iastore, 1), (108, .aload_n 0, 1), (109, .getfield 98, 3), (112, .bipush 8, 2), (114, .aaload, 1), (115, .iload_n 3, 1), (116, .iload 5, 2), (118, .iastore, 1), (119, .aload_n 0, 1), (120, .getfield 101, 3), (123, .bipush 8, 2), (125, .aaload, 1), (126, .iload_n 3, 1), (127, .iload 6, 2), (129, .iastore, 1), (130, .aload_n 0, 1), (131, .getfield 107, 3), (134, .bipush 8, 2), (136, .aaload, 1), (137, .iload_n 3, 1), (138, .iload_n 1, 1), (139, .iastore, 1), (140, .aload_n 0, 1), (141, .getfield 110, 3), (144, .bipush 8, 2), (146, .aaload, 1), (147, .iload_n 3, 1), (148, .iload_n 2, 1), (149, .iastore, 1), (150, .aload_n 0, 1), (151, .getfield 84, 3), (154, .bipush 8, 2), (156, .dup2, 1), (157, .iaload, 1), (158, .iconst 1, 1), (159, .iadd, 1), (160, .iastore, 1), (161, .aload_n 0, 1), (162, .bipush 59, 2), (164, .invokevirtual 428, 3), (167, .return_, 1)] : List (Nat × Instr × Nat)), decode cX11_puts q.1 = .ok q.2 := by decide +kernel
set_option maxHeartbeats 4000000 in
set_option maxRecDepth 20000 in
theorem s11_puts_c16 {Y : m_Y Unit} (S : m_Std Y RX11 cX11_puts) (E : m_End Y cX11_puts .return_ (fun _ => [])) {F : Nat} (hF : m_Rm Y F) (hFn : 8 ≤ F) (hN : Y.2.2.2.1 = 7) (v0 v1 v2 : Int) (h : m_H) : m_Sim Y 16 [(0, m_r v0), (1, m_i v1), (2, m_i v2)] [] h (t11_puts_c16 v0 v1 v2 h) := by
  unfold t11_puts_c16
  refine ms_aload_n (pc := 16) S 0 rfl rfl (m_dec e11_puts 8 rfl) ?_
  refine ms_ldcS (pc := 17) S 22 rfl (m_dec e11_puts 9 rfl) ?_
  refine ms_grd fun g1 => ?_
  refine ms_callVv (pc := 19) S hF (vals := [m_r (-24)]) (st := []) (hc := vw_11) (hci := by decide) (hcy := rfl) (ht := g1) (hC := (k11_word _ _ v0 (-24) h)) (hM := lm_X11_418) (hfr := (Nat.le_trans (by decide) hFn)) (hstk := rfl) (hcat := Nat.le_of_ble_eq_true rfl) (hd := (m_dec e11_puts 10 rfl)) (k1 := fun h2 => ?_)
  refine ms_aload_n (pc := 22) S 0 rfl rfl (m_dec e11_puts 11 rfl) ?_
  refine ms_grd fun g4 => ?_
  refine ms_getf (pc := 23) S lf_X11_84 rfl (m_dec e11_puts 12 rfl) g4 ?_
  refine ms_bipush (pc := 26) S (m_dec e11_puts 13 rfl) rfl ?_
  refine ms_grd fun g5 => ?_
  refine ms_iald (pc := 28) S g5 (m_dec e11_puts 14 rfl) ?_
  refine ms_nm (st := fun x6 => [m_i x6]) fun x6 => ?_
  refine ms_istore_n (pc := 29) S (L' := [(0, m_r v0), (1, m_i v1), (2, m_i v2), (3, m_i x6)]) [1, 2, 3, 0] rfl rfl (m_lt hN rfl) (m_dec e11_puts 15 rfl) ?_
  refine ms_aload_n (pc := 30) S 0 rfl rfl (m_dec e11_puts 16 rfl) ?_
  refine ms_callVi (pc := 31) S hF (vals := []) (st := []) (hc := vw_11) (hci := by decide) (hcy := rfl) (ht := g4) (hC := (k11_made _ _ v0 h2)) (hM := lm_X11_422) (hfr := (Nat.le_trans (by decide) hFn)) (hstk := rfl) (hcat := Nat.le_of_ble_eq_true rfl) (hd := (m_dec e11_puts 17 rfl)) (k1 := fun r8 h7 => ?_)
  refine ms_istore (pc := 34) S (L' := [(0, m_r v0), (1, m_i v1), (2, m_i v2), (3, m_i x6), (4, m_i r8)]) [1, 2, 3, 4, 0] rfl (m_lt hN rfl) (m_dec e11_puts 18 rfl) ?_
  refine ms_aload_n (pc := 36) S 0 rfl rfl (m_dec e11_puts 19 rfl) ?_
  refine ms_ldcS (pc := 37) S 23 rfl (m_dec e11_puts 20 rfl) ?_
  refine ms_grd fun g9 => ?_
  refine ms_callVv (pc := 39) S hF (vals := [m_r (-25)]) (st := []) (hc := vw_11) (hci := by decide) (hcy := rfl) (ht := g9) (hC := (k11_word _ _ v0 (-25) h7)) (hM := lm_X11_418) (hfr := (Nat.le_trans (by decide) hFn)) (hstk := rfl) (hcat := Nat.le_of_ble_eq_true rfl) (hd := (m_dec e11_puts 21 rfl)) (k1 := fun h10 => ?_)
  refine ms_aload_n (pc := 42) S 0 rfl rfl (m_dec e11_puts 22 rfl) ?_
  refine ms_iconst (pc := 43) S (m_dec e11_puts 23 rfl) ?_
  refine ms_sipush (pc := 44) S (m_dec e11_puts 24 rfl) rfl ?_
  refine ms_grd fun g12 => ?_
  refine ms_callVi (pc := 47) S hF (vals := [m_i 0, m_i 1500]) (st := []) (hc := vw_11) (hci := by decide) (hcy := rfl) (ht := g12) (hC := (k11_number _ _ v0 0 1500 h10)) (hM := lm_X11_425) (hfr := (Nat.le_trans (by decide) hFn)) (hstk := rfl) (hcat := Nat.le_of_ble_eq_true rfl) (hd := (m_dec e11_puts 25 rfl)) (k1 := fun r14 h13 => ?_)
  refine ms_istore (pc := 50) S (L' := [(0, m_r v0), (1, m_i v1), (2, m_i v2), (3, m_i x6), (4, m_i r8), (5, m_i r14)]) [1, 2, 3, 4, 5, 0] rfl (m_lt hN rfl) (m_dec e11_puts 26 rfl) ?_
  refine ms_aload_n (pc := 52) S 0 rfl rfl (m_dec e11_puts 27 rfl) ?_
  refine ms_ldcS (pc := 53) S 19 rfl (m_dec e11_puts 28 rfl) ?_
  refine ms_grd fun g15 => ?_
  refine ms_callVv (pc := 55) S hF (vals := [m_r (-21)]) (st := []) (hc := vw_11) (hci := by decide) (hcy := rfl) (ht := g15) (hC := (k11_word _ _ v0 (-21) h13)) (hM := lm_X11_418) (hfr := (Nat.le_trans (by decide) hFn)) (hstk := rfl) (hcat := Nat.le_of_ble_eq_true rfl) (hd := (m_dec e11_puts 29 rfl)) (k1 := fun h16 => ?_)
  refine ms_aload_n (pc := 58) S 0 rfl rfl (m_dec e11_puts 30 rfl) ?_
  refine ms_iconst (pc := 59) S (m_dec e11_puts 31 rfl) ?_
  refine ms_bipush (pc := 60) S (m_dec e11_puts 32 rfl) rfl ?_
  refine ms_grd fun g18 => ?_
  refine ms_callVi (pc := 62) S hF (vals := [m_i 0, m_i 15]) (st := []) (hc := vw_11) (hci := by decide) (hcy := rfl) (ht := g18) (hC := (k11_number _ _ v0 0 15 h16)) (hM := lm_X11_425) (hfr := (Nat.le_trans (by decide) hFn)) (hstk := rfl) (hcat := Nat.le_of_ble_eq_true rfl) (hd := (m_dec e11_puts 33 rfl)) (k1 := fun r20 h19 => ?_)
  refine ms_istore (pc := 65) S (L' := [(0, m_r v0), (1, m_i v1), (2, m_i v2), (3, m_i x6), (4, m_i r8), (5, m_i r14), (6, m_i r20)]) [1, 2, 3, 4, 5, 6, 0] rfl (m_lt hN rfl) (m_dec e11_puts 34 rfl) ?_
  refine ms_aload_n (pc := 67) S 0 rfl rfl (m_dec e11_puts 35 rfl) ?_
  refine ms_grd fun g21 => ?_
  refine ms_getf (pc := 68) S lf_X11_384 rfl (m_dec e11_puts 36 rfl) g21 ?_
  refine ms_iconst (pc := 71) S (m_dec e11_puts 37 rfl) ?_
  refine ms_icmp_eq (pc := 72) S (m_dec e11_puts 38 rfl) rfl (fun q22 => ?_) (fun q22 => ?_)
  · refine ms_aload_n (pc := 76) S 0 rfl rfl (m_dec e11_puts 40 rfl) ?_
    refine ms_getf (pc := 77) S lf_X11_89 rfl (m_dec e11_puts 41 rfl) g21 ?_
    refine ms_bipush (pc := 80) S (m_dec e11_puts 42 rfl) rfl ?_
    refine ms_grd fun g23 => ?_
    refine ms_aald (pc := 82) S 29 (by decide) (fun _ => rfl) rfl g23 (m_dec e11_puts 43 rfl) ?_
    refine ms_iload_n (pc := 83) S 3 rfl rfl (m_dec e11_puts 44 rfl) ?_
    refine ms_bipush (pc := 84) S (m_dec e11_puts 45 rfl) rfl ?_
    refine ms_grd fun g24 => ?_
    refine ms_iast (pc := 86) S g24 (m_dec e11_puts 46 rfl) (fun h25 => ?_)
    refine ms_aload_n (pc := 87) S 0 rfl rfl (m_dec e11_puts 47 rfl) ?_
    refine ms_grd fun g26 => ?_
    refine ms_getf (pc := 88) S lf_X11_92 rfl (m_dec e11_puts 48 rfl) g26 ?_
    refine ms_bipush (pc := 91) S (m_dec e11_puts 49 rfl) rfl ?_
    refine ms_grd fun g27 => ?_
    refine ms_aald (pc := 93) S 29 (by decide) (fun _ => rfl) rfl g27 (m_dec e11_puts 50 rfl) ?_
    refine ms_iload_n (pc := 94) S 3 rfl rfl (m_dec e11_puts 51 rfl) ?_
    refine ms_iload (pc := 95) S 4 rfl (m_dec e11_puts 52 rfl) ?_
    refine ms_grd fun g28 => ?_
    refine ms_iast (pc := 97) S g28 (m_dec e11_puts 53 rfl) (fun h29 => ?_)
    refine ms_aload_n (pc := 98) S 0 rfl rfl (m_dec e11_puts 54 rfl) ?_
    refine ms_grd fun g30 => ?_
    refine ms_getf (pc := 99) S lf_X11_95 rfl (m_dec e11_puts 55 rfl) g30 ?_
    refine ms_bipush (pc := 102) S (m_dec e11_puts 56 rfl) rfl ?_
    refine ms_grd fun g31 => ?_
    refine ms_aald (pc := 104) S 29 (by decide) (fun _ => rfl) rfl g31 (m_dec e11_puts 57 rfl) ?_
    refine ms_iload_n (pc := 105) S 3 rfl rfl (m_dec e11_puts 58 rfl) ?_
    refine ms_iconst (pc := 106) S (m_dec e11_puts 59 rfl) ?_
    refine ms_grd fun g32 => ?_
    refine ms_iast (pc := 107) S g32 (m_dec e11_puts 60 rfl) (fun h33 => ?_)
    refine ms_aload_n (pc := 108) S 0 rfl rfl (m_dec e11_puts 61 rfl) ?_
    refine ms_grd fun g34 => ?_
    refine ms_getf (pc := 109) S lf_X11_98 rfl (m_dec e11_puts 62 rfl) g34 ?_
    refine ms_bipush (pc := 112) S (m_dec e11_puts 63 rfl) rfl ?_
    refine ms_grd fun g35 => ?_
    refine ms_aald (pc := 114) S 29 (by decide) (fun _ => rfl) rfl g35 (m_dec e11_puts 64 rfl) ?_
    refine ms_iload_n (pc := 115) S 3 rfl rfl (m_dec e11_puts 65 rfl) ?_
    refine ms_iload (pc := 116) S 5 rfl (m_dec e11_puts 66 rfl) ?_
    refine ms_grd fun g36 => ?_
    refine ms_iast (pc := 118) S g36 (m_dec e11_puts 67 rfl) (fun h37 => ?_)
    refine ms_aload_n (pc := 119) S 0 rfl rfl (m_dec e11_puts 68 rfl) ?_
    refine ms_grd fun g38 => ?_
    refine ms_getf (pc := 120) S lf_X11_101 rfl (m_dec e11_puts 69 rfl) g38 ?_
    refine ms_bipush (pc := 123) S (m_dec e11_puts 70 rfl) rfl ?_
    refine ms_grd fun g39 => ?_
    refine ms_aald (pc := 125) S 29 (by decide) (fun _ => rfl) rfl g39 (m_dec e11_puts 71 rfl) ?_
    refine ms_iload_n (pc := 126) S 3 rfl rfl (m_dec e11_puts 72 rfl) ?_
    refine ms_iload (pc := 127) S 6 rfl (m_dec e11_puts 73 rfl) ?_
    refine ms_grd fun g40 => ?_
    refine ms_iast (pc := 129) S g40 (m_dec e11_puts 74 rfl) (fun h41 => ?_)
    refine ms_aload_n (pc := 130) S 0 rfl rfl (m_dec e11_puts 75 rfl) ?_
    refine ms_grd fun g42 => ?_
    refine ms_getf (pc := 131) S lf_X11_107 rfl (m_dec e11_puts 76 rfl) g42 ?_
    refine ms_bipush (pc := 134) S (m_dec e11_puts 77 rfl) rfl ?_
    refine ms_grd fun g43 => ?_
    refine ms_aald (pc := 136) S 29 (by decide) (fun _ => rfl) rfl g43 (m_dec e11_puts 78 rfl) ?_
    refine ms_iload_n (pc := 137) S 3 rfl rfl (m_dec e11_puts 79 rfl) ?_
    refine ms_iload_n (pc := 138) S 1 rfl rfl (m_dec e11_puts 80 rfl) ?_
    refine ms_grd fun g44 => ?_
    refine ms_iast (pc := 139) S g44 (m_dec e11_puts 81 rfl) (fun h45 => ?_)
    refine ms_aload_n (pc := 140) S 0 rfl rfl (m_dec e11_puts 82 rfl) ?_
    refine ms_grd fun g46 => ?_
    refine ms_getf (pc := 141) S lf_X11_110 rfl (m_dec e11_puts 83 rfl) g46 ?_
    refine ms_bipush (pc := 144) S (m_dec e11_puts 84 rfl) rfl ?_
    refine ms_grd fun g47 => ?_
    refine ms_aald (pc := 146) S 29 (by decide) (fun _ => rfl) rfl g47 (m_dec e11_puts 85 rfl) ?_
    refine ms_iload_n (pc := 147) S 3 rfl rfl (m_dec e11_puts 86 rfl) ?_
    refine ms_iload_n (pc := 148) S 2 rfl rfl (m_dec e11_puts 87 rfl) ?_
    refine ms_grd fun g48 => ?_
    refine ms_iast (pc := 149) S g48 (m_dec e11_puts 88 rfl) (fun h49 => ?_)
    refine ms_aload_n (pc := 150) S 0 rfl rfl (m_dec e11_puts 89 rfl) ?_
    refine ms_grd fun g50 => ?_
    refine ms_getf (pc := 151) S lf_X11_84 rfl (m_dec e11_puts 90 rfl) g50 ?_
    refine ms_bipush (pc := 154) S (m_dec e11_puts 91 rfl) rfl ?_
    refine ms_dup2 (pc := 156) S rfl rfl (m_dec e11_puts 92 rfl) ?_
    refine ms_grd fun g51 => ?_
    refine ms_iald (pc := 157) S g51 (m_dec e11_puts 93 rfl) ?_
    refine ms_iconst (pc := 158) S (m_dec e11_puts 94 rfl) ?_
    refine ms_iadd (pc := 159) S (m_dec e11_puts 95 rfl) ?_
    refine ms_iast (pc := 160) S g51 (m_dec e11_puts 96 rfl) (fun h52 => ?_)
    refine ms_aload_n (pc := 161) S 0 rfl rfl (m_dec e11_puts 97 rfl) ?_
    refine ms_bipush (pc := 162) S (m_dec e11_puts 98 rfl) rfl ?_
    refine ms_grd fun g53 => ?_
    refine ms_callVv (pc := 164) S hF (vals := [m_i 59]) (st := []) (hc := vw_11) (hci := by decide) (hcy := rfl) (ht := g53) (hC := (k11_sign _ _ v0 59 h52)) (hM := lm_X11_428) (hfr := (Nat.le_trans (by decide) hFn)) (hstk := rfl) (hcat := Nat.le_of_ble_eq_true rfl) (hd := (m_dec e11_puts 99 rfl)) (k1 := fun h54 => ?_)
    exact ms_ret (pc := 167) E (m_dec e11_puts 100 rfl) rfl
  · exact ms_ret (pc := 75) E (m_dec e11_puts 39 rfl) rfl
set_option maxHeartbeats 4000000 in
set_option maxRecDepth 20000 in
theorem s11_puts {Y : m_Y Unit} (S : m_Std Y RX11 cX11_puts) (E : m_End Y cX11_puts .return_ (fun _ => [])) {F : Nat} (hF : m_Rm Y F) (hFn : 8 ≤ F) (hN : Y.2.2.2.1 = 7) (v0 v1 v2 : Int) (h : m_H) : m_Sim Y 0 [(0, m_r v0), (1, m_i v1), (2, m_i v2)] [] h (t11_puts v0 v1 v2 h) := by
  unfold t11_puts
  refine ms_aload_n (pc := 0) S 0 rfl rfl (m_dec e11_puts 0 rfl) ?_
  refine ms_grd fun g1 => ?_
  refine ms_getf (pc := 1) S lf_X11_84 rfl (m_dec e11_puts 1 rfl) g1 ?_
  refine ms_bipush (pc := 4) S (m_dec e11_puts 2 rfl) rfl ?_
  refine ms_grd fun g2 => ?_
  refine ms_iald (pc := 6) S g2 (m_dec e11_puts 3 rfl) ?_
  refine ms_bipush (pc := 7) S (m_dec e11_puts 4 rfl) rfl ?_
  refine ms_icmp_ne (pc := 9) S (m_dec e11_puts 5 rfl) rfl (fun q3 => ?_) (fun q3 => ?_)
  · refine ms_aload_n (pc := 12) S 0 rfl rfl (m_dec e11_puts 6 rfl) ?_
    refine ms_callVv (pc := 13) S hF (vals := []) (st := []) (hc := vw_11) (hci := by decide) (hcy := rfl) (ht := g1) (hC := (k11_fails _ _ v0 h)) (hM := lm_X11_401) (hfr := (Nat.le_trans (by decide) hFn)) (hstk := rfl) (hcat := Nat.le_of_ble_eq_true rfl) (hd := (m_dec e11_puts 7 rfl)) (k1 := fun h4 => ?_)
    exact s11_puts_c16 S E hF hFn hN v0 v1 v2 h4
  · exact s11_puts_c16 S E hF hFn hN v0 v1 v2 h
theorem k11_puts (l : Launch) (d : m_D) (v0 v1 v2 : Int) (h : m_H) : m_Con l d yX11_puts cX11_puts 7 none 8 (fun _ => []) [m_r v0, m_i v1, m_i v2] h (t11_puts v0 v1 v2 h) :=
  m_con2 (by decide +kernel) (Nat.le_of_ble_eq_true rfl) (fun Y hN hRm hr hI S hfin => s11_puts S (m_end_v S hr hfin) hRm (Nat.le_refl _) hN v0 v1 v2 h)
set_option maxRecDepth 100000 in
theorem e11_again : ∀ q ∈ ([(0, .aload_n 0, 1), (1, .ldc 173, 2), (3, .invokevirtual 418, 3), (6, .aload_n 0, 1), (7, .iconst 1, 1), (8, .bipush 9, 2), (10, .invokevirtual 425, 3), (13, .istore_n 1, 1), (14, .aload_n 0, 1), (15, .ldc 161, 2), (17, .invokevirtual 418, 3), (20, .aload_n 0, 1), (21, .iconst 0, 1), (22, .sipush 999, 3), (25, .invokevirtual 425, 3), (28, .istore_n 2, 1), (29, .aload_n 0, 1), (30, .bipush 123, 2), (32, .invokevirtual 428, 3), (35, .aload_n 0, 1), (36, .getfield 384, 3), (39, .iconst (-1), 1), (40, .if_icmp .eq 4, 3), (43, .return_, 1), (44, .aload_n 0, 1), (45, .iload_n 1, 1), (46, .iload_n 2, 1), (47, .invokevirtual 431, 3), (50, .aload_n 0, 1), (51, .getfield 384, 3), (54, .iconst (-1), 1), (55, .if_icmp .ne 21, 3), (58, .aload_n 0, 1), (59, .bipush 125, 2), (61, .invokevirtual 434, 3), (64, .ifCond .ne 12, 3), (67, .aload_n 0, 1), (68, .iload_n 1, 1), (69, .iload_n 2, 1), (70, .invokevirtual 431, 3), (73, .goto (-23), 3), (76, .aload_n 0, 1), (77, .bipush 125, 2), (79, .invokevirtual 428, 3), (82, .return_, 1)] : List (Nat × Instr × Nat)), decode cX11_again q.1 = .ok q.2 := by decide +kernel
set_option maxHeartbeats 4000000 in
set_option maxRecDepth 20000 in
theorem s11_again_c50 {Y : m_Y Unit} (S : m_Std Y RX11 cX11_again) (E : m_End Y cX11_again .return_ (fun _ => [])) {F : Nat} (hF : m_Rm Y F) (hFn : 9 ≤ F) (hN : Y.2.2.2.1 = 3) : ∀ (v0 v1 v2 : Int) (h : m_H), m_Sim Y 50 [(0, m_r v0), (1, m_i v1), (2, m_i v2)] [] h (t11_again_c50 v0 v1 v2 h) := by
  intro v0 v1 v2 h
  refine ms_all fun r e => ?_
  refine t11_again_c50.partial_correctness v0 v1 v2 (motive := fun h r => m_Sim Y 50 [(0, m_r v0), (1, m_i v1), (2, m_i v2)] [] h (some r)) ?_ h r e
  intro f ih h r e
  have ih : ∀ (h : m_H), m_Sim Y 50 [(0, m_r v0), (1, m_i v1), (2, m_i v2)] [] h (f h ) := fun h  => ms_all fun r e => ih h r e
  refine ms_use ?_ e
  clear e r
  refine ms_aload_n (pc := 50) S 0 rfl rfl (m_dec e11_again 28 rfl) ?_
  refine ms_grd fun g1 => ?_
  refine ms_getf (pc := 51) S lf_X11_384 rfl (m_dec e11_again 29 rfl) g1 ?_
  refine ms_iconst (pc := 54) S (m_dec e11_again 30 rfl) ?_
  refine ms_icmp_ne (pc := 55) S (m_dec e11_again 31 rfl) rfl (fun q2 => ?_) (fun q2 => ?_)
  · refine ms_aload_n (pc := 58) S 0 rfl rfl (m_dec e11_again 32 rfl) ?_
    refine ms_bipush (pc := 59) S (m_dec e11_again 33 rfl) rfl ?_
    refine ms_callVz (pc := 61) S hF (vals := [m_i 125]) (st := []) (hc := vw_11) (hci := by decide) (hcy := rfl) (ht := g1) (hC := (k11_isSign _ _ v0 125 h)) (hM := lm_X11_434) (hfr := (Nat.le_trans (by decide) hFn)) (hstk := rfl) (hcat := Nat.le_of_ble_eq_true rfl) (hd := (m_dec e11_again 34 rfl)) (k1 := fun r4 h3 => ?_)
    refine ms_ifb_ne (pc := 64) S (m_dec e11_again 35 rfl) rfl (fun q5 => ?_) (fun q5 => ?_)
    · refine ms_aload_n (pc := 76) S 0 rfl rfl (m_dec e11_again 41 rfl) ?_
      refine ms_bipush (pc := 77) S (m_dec e11_again 42 rfl) rfl ?_
      refine ms_grd fun g6 => ?_
      refine ms_callVv (pc := 79) S hF (vals := [m_i 125]) (st := []) (hc := vw_11) (hci := by decide) (hcy := rfl) (ht := g6) (hC := (k11_sign _ _ v0 125 h3)) (hM := lm_X11_428) (hfr := (Nat.le_trans (by decide) hFn)) (hstk := rfl) (hcat := Nat.le_of_ble_eq_true rfl) (hd := (m_dec e11_again 43 rfl)) (k1 := fun h7 => ?_)
      exact ms_ret (pc := 82) E (m_dec e11_again 44 rfl) rfl
    · refine ms_aload_n (pc := 67) S 0 rfl rfl (m_dec e11_again 36 rfl) ?_
      refine ms_iload_n (pc := 68) S 1 rfl rfl (m_dec e11_again 37 rfl) ?_
      refine ms_iload_n (pc := 69) S 2 rfl rfl (m_dec e11_again 38 rfl) ?_
      refine ms_grd fun g9 => ?_
      refine ms_callVv (pc := 70) S hF (vals := [m_i v1, m_i v2]) (st := []) (hc := vw_11) (hci := by decide) (hcy := rfl) (ht := g9) (hC := (k11_puts _ _ v0 v1 v2 h3)) (hM := lm_X11_431) (hfr := (Nat.le_trans (by decide) hFn)) (hstk := rfl) (hcat := Nat.le_of_ble_eq_true rfl) (hd := (m_dec e11_again 39 rfl)) (k1 := fun h10 => ?_)
      refine ms_goto (pc := 73) S (m_dec e11_again 40 rfl) rfl ?_
      exact ih h10
  · refine ms_aload_n (pc := 76) S 0 rfl rfl (m_dec e11_again 41 rfl) ?_
    refine ms_bipush (pc := 77) S (m_dec e11_again 42 rfl) rfl ?_
    refine ms_callVv (pc := 79) S hF (vals := [m_i 125]) (st := []) (hc := vw_11) (hci := by decide) (hcy := rfl) (ht := g1) (hC := (k11_sign _ _ v0 125 h)) (hM := lm_X11_428) (hfr := (Nat.le_trans (by decide) hFn)) (hstk := rfl) (hcat := Nat.le_of_ble_eq_true rfl) (hd := (m_dec e11_again 43 rfl)) (k1 := fun h12 => ?_)
    exact ms_ret (pc := 82) E (m_dec e11_again 44 rfl) rfl
set_option maxHeartbeats 4000000 in
set_option maxRecDepth 20000 in
theorem s11_again {Y : m_Y Unit} (S : m_Std Y RX11 cX11_again) (E : m_End Y cX11_again .return_ (fun _ => [])) {F : Nat} (hF : m_Rm Y F) (hFn : 9 ≤ F) (hN : Y.2.2.2.1 = 3) (v0 : Int) (h : m_H) : m_Sim Y 0 [(0, m_r v0)] [] h (t11_again v0 h) := by
  unfold t11_again
  refine ms_aload_n (pc := 0) S 0 rfl rfl (m_dec e11_again 0 rfl) ?_
  refine ms_ldcS (pc := 1) S 24 rfl (m_dec e11_again 1 rfl) ?_
  refine ms_grd fun g1 => ?_
  refine ms_callVv (pc := 3) S hF (vals := [m_r (-26)]) (st := []) (hc := vw_11) (hci := by decide) (hcy := rfl) (ht := g1) (hC := (k11_word _ _ v0 (-26) h)) (hM := lm_X11_418) (hfr := (Nat.le_trans (by decide) hFn)) (hstk := rfl) (hcat := Nat.le_of_ble_eq_true rfl) (hd := (m_dec e11_again 2 rfl)) (k1 := fun h2 => ?_)
  refine ms_aload_n (pc := 6) S 0 rfl rfl (m_dec e11_again 3 rfl) ?_
  refine ms_iconst (pc := 7) S (m_dec e11_again 4 rfl) ?_
  refine ms_bipush (pc := 8) S (m_dec e11_again 5 rfl) rfl ?_
  refine ms_grd fun g4 => ?_
  refine ms_callVi (pc := 10) S hF (vals := [m_i 1, m_i 9]) (st := []) (hc := vw_11) (hci := by decide) (hcy := rfl) (ht := g4) (hC := (k11_number _ _ v0 1 9 h2)) (hM := lm_X11_425) (hfr := (Nat.le_trans (by decide) hFn)) (hstk := rfl) (hcat := Nat.le_of_ble_eq_true rfl) (hd := (m_dec e11_again 6 rfl)) (k1 := fun r6 h5 => ?_)
  refine ms_istore_n (pc := 13) S (L' := [(0, m_r v0), (1, m_i r6)]) [1, 0] rfl rfl (m_lt hN rfl) (m_dec e11_again 7 rfl) ?_
  refine ms_aload_n (pc := 14) S 0 rfl rfl (m_dec e11_again 8 rfl) ?_
  refine ms_ldcS (pc := 15) S 18 rfl (m_dec e11_again 9 rfl) ?_
  refine ms_grd fun g7 => ?_
  refine ms_callVv (pc := 17) S hF (vals := [m_r (-20)]) (st := []) (hc := vw_11) (hci := by decide) (hcy := rfl) (ht := g7) (hC := (k11_word _ _ v0 (-20) h5)) (hM := lm_X11_418) (hfr := (Nat.le_trans (by decide) hFn)) (hstk := rfl) (hcat := Nat.le_of_ble_eq_true rfl) (hd := (m_dec e11_again 10 rfl)) (k1 := fun h8 => ?_)
  refine ms_aload_n (pc := 20) S 0 rfl rfl (m_dec e11_again 11 rfl) ?_
  refine ms_iconst (pc := 21) S (m_dec e11_again 12 rfl) ?_
  refine ms_sipush (pc := 22) S (m_dec e11_again 13 rfl) rfl ?_
  refine ms_grd fun g10 => ?_
  refine ms_callVi (pc := 25) S hF (vals := [m_i 0, m_i 999]) (st := []) (hc := vw_11) (hci := by decide) (hcy := rfl) (ht := g10) (hC := (k11_number _ _ v0 0 999 h8)) (hM := lm_X11_425) (hfr := (Nat.le_trans (by decide) hFn)) (hstk := rfl) (hcat := Nat.le_of_ble_eq_true rfl) (hd := (m_dec e11_again 14 rfl)) (k1 := fun r12 h11 => ?_)
  refine ms_istore_n (pc := 28) S (L' := [(0, m_r v0), (1, m_i r6), (2, m_i r12)]) [1, 2, 0] rfl rfl (m_lt hN rfl) (m_dec e11_again 15 rfl) ?_
  refine ms_aload_n (pc := 29) S 0 rfl rfl (m_dec e11_again 16 rfl) ?_
  refine ms_bipush (pc := 30) S (m_dec e11_again 17 rfl) rfl ?_
  refine ms_grd fun g13 => ?_
  refine ms_callVv (pc := 32) S hF (vals := [m_i 123]) (st := []) (hc := vw_11) (hci := by decide) (hcy := rfl) (ht := g13) (hC := (k11_sign _ _ v0 123 h11)) (hM := lm_X11_428) (hfr := (Nat.le_trans (by decide) hFn)) (hstk := rfl) (hcat := Nat.le_of_ble_eq_true rfl) (hd := (m_dec e11_again 18 rfl)) (k1 := fun h14 => ?_)
  refine ms_aload_n (pc := 35) S 0 rfl rfl (m_dec e11_again 19 rfl) ?_
  refine ms_grd fun g16 => ?_
  refine ms_getf (pc := 36) S lf_X11_384 rfl (m_dec e11_again 20 rfl) g16 ?_
  refine ms_iconst (pc := 39) S (m_dec e11_again 21 rfl) ?_
  refine ms_icmp_eq (pc := 40) S (m_dec e11_again 22 rfl) rfl (fun q17 => ?_) (fun q17 => ?_)
  · refine ms_aload_n (pc := 44) S 0 rfl rfl (m_dec e11_again 24 rfl) ?_
    refine ms_iload_n (pc := 45) S 1 rfl rfl (m_dec e11_again 25 rfl) ?_
    refine ms_iload_n (pc := 46) S 2 rfl rfl (m_dec e11_again 26 rfl) ?_
    refine ms_callVv (pc := 47) S hF (vals := [m_i r6, m_i r12]) (st := []) (hc := vw_11) (hci := by decide) (hcy := rfl) (ht := g16) (hC := (k11_puts _ _ v0 r6 r12 h14)) (hM := lm_X11_431) (hfr := (Nat.le_trans (by decide) hFn)) (hstk := rfl) (hcat := Nat.le_of_ble_eq_true rfl) (hd := (m_dec e11_again 27 rfl)) (k1 := fun h18 => ?_)
    exact s11_again_c50 S E hF hFn hN v0 r6 r12 h18
  · exact ms_ret (pc := 43) E (m_dec e11_again 23 rfl) rfl
theorem k11_again (l : Launch) (d : m_D) (v0 : Int) (h : m_H) : m_Con l d yX11_again cX11_again 3 none 9 (fun _ => []) [m_r v0] h (t11_again v0 h) :=
  m_con2 (by decide +kernel) (Nat.le_of_ble_eq_true rfl) (fun Y hN hRm hr hI S hfin => s11_again S (m_end_v S hr hfin) hRm (Nat.le_refl _) hN v0 h)
