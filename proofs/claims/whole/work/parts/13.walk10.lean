/-! the walks of the methods, 10 -/
set_option maxRecDepth 100000 in
theorem e11_plans : ∀ q ∈ ([(0, .aload_n 0, 1), (1, .iload_n 1, 1), (2, .invokevirtual 511, 3), (5, .ifCond .ne 5, 3), (8, .iconst 0, 1), (9, .ireturn, 1), (10, .aload_n 0, 1), (11, .iconst 0, 1), (12, .putfield 544, 3), (15, .iconst 0, 1), (16, .istore_n 2, 1), (17, .iload_n 2, 1), (18, .aload_n 0, 1), (19, .getfield 84, 3), (22, .iload_n 1, 1), (23, .iaload, 1), (24, .if_icmp .ge 68, 3), (27, .aload_n 0, 1), (28, .getfield 89, 3), (31, .iload_n 1, 1), (32, .aaload, 1), (33, .iload_n 2, 1), (34, .iaload, 1), (35, .iconst 1, 1), (36, .if_icmp .le 50, 3), (39, .aload_n 0, 1), (40, .getfield 89, 3), (43, .iload_n 1, 1), (44, .aaload, 1), (45, .iload_n 2, 1), (46, .iaload, 1), (47, .bipush 12, 2), (49, .if_icmp .ne 6, 3), (52, .goto 34, 3), (55, .aload_n 0, 1), (56, .getfield 544, 3), (59, .bipush 9, 2), (61, .if_icmp .ne 5, 3), (64, .iconst 0, 1), (65, .ireturn, 1), (66, .aload_n 0, 1), (67, .getfield 238, 3), (70, .aload_n 0, 1), (71, .getfield 544, 3), (74, .iload_n 2, 1), (75, .iastore, 1), (76, .aload_n 0, 1), (77, .dup, 1), (78, .getfield 544, 3), (81, .iconst 1, 1), (82, .iadd, 1), (83, .putfield 544, 3), (86, .iinc 2 1, 3), (89, .goto (-72), 3), (92, .aload_n 0, 1), (93, .getfield 544, 3), (96, .ifCond .ne 5, 3), (99, .iconst 0, 1), (100, .ireturn, 1), (101, .iconst 0, 1), (102, .istore_n 2, 1), (103, .iload_n 2, 1), (104, .aload_n 0, 1), (105, .getfield 544, 3), (108, .if_icmp .ge 54, 3), (111, .aload_n 0, 1), (112, .getfield 241, 3), (115, .iload_n 2, 1), (116, .iconst 0, 1), (117, .iastore, 1), (118, .aload_n 0, 1), (119, .iload_n 2, 1), (120, .iload_n 1, 1), (121, .aload_n 0, 1), (122, .getfield 92, 3), (125, .iload_n 1, 1), (126, .aaload, 1), (127, .aload_n 0, 1), (128, .getfield 238, 3), (131, .iload_n 2, 1), (132, .iaload, 1), (133, .iaload, 1), (134, .invokevirtual 560, 3), (137, .aload_n 0, 1), (138, .iload_n 2, 1), (139, .iload_n 1, 1), (140, .aload_n 0, 1), (141, .getfield 95, 3), (144, .iload_n 1, 1), (145, .aaload, 1), (146, .aload_n 0, 1), (147, .getfield 238, 3), (150, .iload_n 2, 1), (151, .iaload, 1), (152, .iaload, 1), (153, .invokevirtual 560, 3), (156, .iinc 2 1, 3), (159, .goto (-56), 3), (162, .iconst 0, 1), (163, .istore_n 2, 1), (164, .iload_n 2, 1), (165, .iconst 1, 1), (166, .aload_n 0, 1), (167, .getfield 544, 3), (170, .ishl, 1), (171, .if_icmp .ge 16, 3), (174, .aload_n 0, 1), (175, .getfield 244, 3), (178, .iload_n 2, 1), (179, .iconst 0, 1), (180, .iastore, 1), (181, .iinc 2 1, 3), (184, .goto (-20), 3), (187, .aload_n 0, 1), (188, .iload_n 1, 1), (189, .iconst 0, 1), (190, .invokevirtual 557, 3), (193, .sipush 1000, 3), (196, .if_icmp .lt 5, 3), (199, .iconst 0, 1), (200, .ireturn, 1), (201, .iconst 0, 1), (202, .istore_n 2, 1), (203, .iconst 0, 1), (204, .istore_n 3, 1), (205, .iload_n 2, 1), (206, .iconst 1, 1), (207, .aload_n 0, 1), (208, .getfield 544, 3), (211, .ishl, 1), (212, .iconst 1, 1), (213, .isub, 1), (214, .if_icmp .eq 98, 3), (217, .iinc 3 1, 3), (220, .iconst 1, 1), (221, .istore 4, 2), (223, .iload 4, 2), (225, .iload_n 2, 1), (226, .iand, 1), (227, .ifCond .ne 34, 3), (230, .aload_n 0, 1), (231, .iload_n 1, 1), (232, .iload 4, 2), (234, .iload_n 2, 1), (235, .invokevirtual 554, 3), (238, .ifCond .eq 23, 3), (241, .aload_n 0, 1), (242, .iload_n 1, 1), (243, .iload_n 2, 1), (244, .iload 4, 2), (246, .ior, 1), (247, .invokevirtual 557, 3), (250, .iconst 1, 1), (251, .iadd, 1), (252, .aload_n 0, 1), (253, .iload_n 1, 1), (254, .iload_n 2, 1), (255, .invokevirtual 557, 3), (258, .if_icmp .eq 9, 3), (261, .iinc 4 1, 3), (264, .goto (-41), 3), (267, .iconst 0, 1), (268, .istore 5, 2), (270, .iload 5, 2), (272, .aload_n 0, 1), (273, .getfield 544, 3), (276, .if_icmp .ge 28, 3), (279, .iload 4, 2), (281, .iload 5, 2), (283, .ishr, 1), (284, .iconst 1, 1), (285, .iand, 1), (286, .iconst 1, 1), (287, .if_icmp .ne 11, 3), (290, .aload_n 0, 1), (291, .getfield 247, 3), (294, .iload 5, 2), (296, .iload_n 3, 1), (297, .iastore, 1), (298, .iinc 5 1, 3), (301, .goto (-31), 3), (304, .iload_n 2, 1), (305, .iload 4, 2), (307, .ior, 1), (308, .istore_n 2, 1), (309, .goto (-104), 3), (312, .iconst 1, 1), (313, .ireturn, 1)] : List (Nat × Instr × Nat)), decode cX11_plans q.1 = .ok q.2 := by decide +kernel
set_option maxHeartbeats 4000000 in
set_option maxRecDepth 20000 in
theorem s11_plans_x205 {Y : m_Y Bool} (S : m_Std Y RX11 cX11_plans) (E : m_End Y cX11_plans .ireturn (fun r => [m_i (m_b2i r)])) {F : Nat} (hF : m_Rm Y F) (hFn : 16 ≤ F) (hN : Y.2.2.2.1 = 6) : ∀ (cc : Int) (v0 v1 v2 v3 v4 v5 : Int) (h : m_H) (r : Bool × m_H), t11_plans_x205 cc v0 v1 v2 v3 v4 v5 h = some r → (cc = 205 → m_Sim Y 205 [(0, m_r v0), (1, m_i v1), (2, m_i v2), (3, m_i v3)] [] h (some r)) ∧ (cc = 223 → m_Sim Y 223 [(0, m_r v0), (1, m_i v1), (2, m_i v2), (3, m_i v3), (4, m_i v4)] [] h (some r)) ∧ (cc = 270 → m_Sim Y 270 [(0, m_r v0), (1, m_i v1), (2, m_i v2), (3, m_i v3), (4, m_i v4), (5, m_i v5)] [] h (some r)) := by
  intro cc v0 v1 v2 v3 v4 v5 h r e
  refine t11_plans_x205.partial_correctness v0 v1 (motive := fun cc v2 v3 v4 v5 h r => (cc = 205 → m_Sim Y 205 [(0, m_r v0), (1, m_i v1), (2, m_i v2), (3, m_i v3)] [] h (some r)) ∧ (cc = 223 → m_Sim Y 223 [(0, m_r v0), (1, m_i v1), (2, m_i v2), (3, m_i v3), (4, m_i v4)] [] h (some r)) ∧ (cc = 270 → m_Sim Y 270 [(0, m_r v0), (1, m_i v1), (2, m_i v2), (3, m_i v3), (4, m_i v4), (5, m_i v5)] [] h (some r))) ?_ cc v2 v3 v4 v5 h r e
  intro f ih cc v2 v3 v4 v5 h r e
  have ih205 : ∀ (v2 v3 v4 v5 : Int) (h : m_H), m_Sim Y 205 [(0, m_r v0), (1, m_i v1), (2, m_i v2), (3, m_i v3)] [] h (f 205 v2 v3 v4 v5 h ) := fun v2 v3 v4 v5 h  => ms_all fun r e => (ih 205 v2 v3 v4 v5 h r e).1 rfl
  have ih223 : ∀ (v2 v3 v4 v5 : Int) (h : m_H), m_Sim Y 223 [(0, m_r v0), (1, m_i v1), (2, m_i v2), (3, m_i v3), (4, m_i v4)] [] h (f 223 v2 v3 v4 v5 h ) := fun v2 v3 v4 v5 h  => ms_all fun r e => (ih 223 v2 v3 v4 v5 h r e).2.1 rfl
  have ih270 : ∀ (v2 v3 v4 v5 : Int) (h : m_H), m_Sim Y 270 [(0, m_r v0), (1, m_i v1), (2, m_i v2), (3, m_i v3), (4, m_i v4), (5, m_i v5)] [] h (f 270 v2 v3 v4 v5 h ) := fun v2 v3 v4 v5 h  => ms_all fun r e => (ih 270 v2 v3 v4 v5 h r e).2.2 rfl
  refine ⟨?_, ?_, ?_⟩
  · intro q0
    subst q0
    rw [if_pos rfl] at e
    refine ms_use ?_ e
    clear e r
    refine ms_iload_n (pc := 205) S 2 rfl rfl (m_dec e11_plans 125 rfl) ?_
    refine ms_iconst (pc := 206) S (m_dec e11_plans 126 rfl) ?_
    refine ms_aload_n (pc := 207) S 0 rfl rfl (m_dec e11_plans 127 rfl) ?_
    refine ms_grd fun g1 => ?_
    refine ms_getf (pc := 208) S lf_X11_544 rfl (m_dec e11_plans 128 rfl) g1 ?_
    refine ms_ishl (pc := 211) S (m_dec e11_plans 129 rfl) ?_
    refine ms_iconst (pc := 212) S (m_dec e11_plans 130 rfl) ?_
    refine ms_isub (pc := 213) S (m_dec e11_plans 131 rfl) ?_
    refine ms_icmp_eq (pc := 214) S (m_dec e11_plans 132 rfl) rfl (fun q2 => ?_) (fun q2 => ?_)
    · refine ms_iconst (pc := 312) S (m_dec e11_plans 186 rfl) ?_
      exact ms_ret (pc := 313) E (m_dec e11_plans 187 rfl) rfl
    · refine ms_iinc (pc := 217) S (L' := [(0, m_r v0), (1, m_i v1), (2, m_i v2), (3, m_i (v3 + 1))]) 3 rfl [1, 2, 3, 0] rfl (m_lt hN rfl) (m_dec e11_plans 133 rfl) ?_
      refine ms_iconst (pc := 220) S (m_dec e11_plans 134 rfl) ?_
      refine ms_istore (pc := 221) S (L' := [(0, m_r v0), (1, m_i v1), (2, m_i v2), (3, m_i (v3 + 1)), (4, m_i 1)]) [1, 2, 3, 4, 0] rfl (m_lt hN rfl) (m_dec e11_plans 135 rfl) ?_
      exact ih223 v2 (v3 + 1) 1 0 h
  · intro q0
    subst q0
    rw [if_neg (by decide), if_pos rfl] at e
    refine ms_use ?_ e
    clear e r
    refine ms_iload (pc := 223) S 4 rfl (m_dec e11_plans 136 rfl) ?_
    refine ms_iload_n (pc := 225) S 2 rfl rfl (m_dec e11_plans 137 rfl) ?_
    refine ms_iand (pc := 226) S (m_dec e11_plans 138 rfl) ?_
    refine ms_if_ne (pc := 227) S (m_dec e11_plans 139 rfl) rfl (fun q1 => ?_) (fun q1 => ?_)
    · refine ms_aload_n (pc := 230) S 0 rfl rfl (m_dec e11_plans 140 rfl) ?_
      refine ms_iload_n (pc := 231) S 1 rfl rfl (m_dec e11_plans 141 rfl) ?_
      refine ms_iload (pc := 232) S 4 rfl (m_dec e11_plans 142 rfl) ?_
      refine ms_iload_n (pc := 234) S 2 rfl rfl (m_dec e11_plans 143 rfl) ?_
      refine ms_grd fun g2 => ?_
      refine ms_callVz (pc := 235) S hF (vals := [m_i v1, m_i v4, m_i v2]) (st := []) (hc := vw_11) (hci := by decide) (hcy := rfl) (ht := g2) (hC := (k11_canDo _ _ v0 v1 v4 v2 h)) (hM := lm_X11_554) (hfr := (Nat.le_trans (by decide) hFn)) (hstk := rfl) (hcat := Nat.le_of_ble_eq_true rfl) (hd := (m_dec e11_plans 144 rfl)) (k1 := fun r4 h3 => ?_)
      refine ms_ifb_eq (pc := 238) S (m_dec e11_plans 145 rfl) rfl (fun q5 => ?_) (fun q5 => ?_)
      · refine ms_aload_n (pc := 241) S 0 rfl rfl (m_dec e11_plans 146 rfl) ?_
        refine ms_iload_n (pc := 242) S 1 rfl rfl (m_dec e11_plans 147 rfl) ?_
        refine ms_iload_n (pc := 243) S 2 rfl rfl (m_dec e11_plans 148 rfl) ?_
        refine ms_iload (pc := 244) S 4 rfl (m_dec e11_plans 149 rfl) ?_
        refine ms_ior (pc := 246) S (m_dec e11_plans 150 rfl) ?_
        refine ms_grd fun g6 => ?_
        refine ms_callVi (pc := 247) S hF (vals := [m_i v1, m_i (m_or v2 v4)]) (st := []) (hc := vw_11) (hci := by decide) (hcy := rfl) (ht := g6) (hC := (k11_least _ _ v0 v1 (m_or v2 v4) h3)) (hM := lm_X11_557) (hfr := (Nat.le_trans (by decide) hFn)) (hstk := rfl) (hcat := Nat.le_of_ble_eq_true rfl) (hd := (m_dec e11_plans 151 rfl)) (k1 := fun r8 h7 => ?_)
        refine ms_iconst (pc := 250) S (m_dec e11_plans 152 rfl) ?_
        refine ms_iadd (pc := 251) S (m_dec e11_plans 153 rfl) ?_
        refine ms_aload_n (pc := 252) S 0 rfl rfl (m_dec e11_plans 154 rfl) ?_
        refine ms_iload_n (pc := 253) S 1 rfl rfl (m_dec e11_plans 155 rfl) ?_
        refine ms_iload_n (pc := 254) S 2 rfl rfl (m_dec e11_plans 156 rfl) ?_
        refine ms_grd fun g9 => ?_
        refine ms_callVi (pc := 255) S hF (vals := [m_i v1, m_i v2]) (st := [m_i (r8 + 1)]) (hc := vw_11) (hci := by decide) (hcy := rfl) (ht := g9) (hC := (k11_least _ _ v0 v1 v2 h7)) (hM := lm_X11_557) (hfr := (Nat.le_trans (by decide) hFn)) (hstk := rfl) (hcat := Nat.le_of_ble_eq_true rfl) (hd := (m_dec e11_plans 157 rfl)) (k1 := fun r11 h10 => ?_)
        refine ms_icmp_eq (pc := 258) S (m_dec e11_plans 158 rfl) rfl (fun q12 => ?_) (fun q12 => ?_)
        · refine ms_iconst (pc := 267) S (m_dec e11_plans 161 rfl) ?_
          refine ms_istore (pc := 268) S (L' := [(0, m_r v0), (1, m_i v1), (2, m_i v2), (3, m_i v3), (4, m_i v4), (5, m_i 0)]) [1, 2, 3, 4, 5, 0] rfl (m_lt hN rfl) (m_dec e11_plans 162 rfl) ?_
          exact ih270 v2 v3 v4 0 h10
        · refine ms_iinc (pc := 261) S (L' := [(0, m_r v0), (1, m_i v1), (2, m_i v2), (3, m_i v3), (4, m_i (v4 + 1))]) 4 rfl [1, 2, 3, 4, 0] rfl (m_lt hN rfl) (m_dec e11_plans 159 rfl) ?_
          refine ms_goto (pc := 264) S (m_dec e11_plans 160 rfl) rfl ?_
          exact ih223 v2 v3 (v4 + 1) 0 h10
      · refine ms_iinc (pc := 261) S (L' := [(0, m_r v0), (1, m_i v1), (2, m_i v2), (3, m_i v3), (4, m_i (v4 + 1))]) 4 rfl [1, 2, 3, 4, 0] rfl (m_lt hN rfl) (m_dec e11_plans 159 rfl) ?_
        refine ms_goto (pc := 264) S (m_dec e11_plans 160 rfl) rfl ?_
        exact ih223 v2 v3 (v4 + 1) 0 h3
    · refine ms_iinc (pc := 261) S (L' := [(0, m_r v0), (1, m_i v1), (2, m_i v2), (3, m_i v3), (4, m_i (v4 + 1))]) 4 rfl [1, 2, 3, 4, 0] rfl (m_lt hN rfl) (m_dec e11_plans 159 rfl) ?_
      refine ms_goto (pc := 264) S (m_dec e11_plans 160 rfl) rfl ?_
      exact ih223 v2 v3 (v4 + 1) 0 h
  · intro q0
    subst q0
    rw [if_neg (by decide), if_neg (by decide), if_pos rfl] at e
    refine ms_use ?_ e
    clear e r
    refine ms_iload (pc := 270) S 5 rfl (m_dec e11_plans 163 rfl) ?_
    refine ms_aload_n (pc := 272) S 0 rfl rfl (m_dec e11_plans 164 rfl) ?_
    refine ms_grd fun g1 => ?_
    refine ms_getf (pc := 273) S lf_X11_544 rfl (m_dec e11_plans 165 rfl) g1 ?_
    refine ms_icmp_ge (pc := 276) S (m_dec e11_plans 166 rfl) rfl (fun q2 => ?_) (fun q2 => ?_)
    · refine ms_iload (pc := 279) S 4 rfl (m_dec e11_plans 167 rfl) ?_
      refine ms_iload (pc := 281) S 5 rfl (m_dec e11_plans 168 rfl) ?_
      refine ms_ishr (pc := 283) S (m_dec e11_plans 169 rfl) ?_
      refine ms_iconst (pc := 284) S (m_dec e11_plans 170 rfl) ?_
      refine ms_iand (pc := 285) S (m_dec e11_plans 171 rfl) ?_
      refine ms_iconst (pc := 286) S (m_dec e11_plans 172 rfl) ?_
      refine ms_icmp_ne (pc := 287) S (m_dec e11_plans 173 rfl) rfl (fun q3 => ?_) (fun q3 => ?_)
      · refine ms_aload_n (pc := 290) S 0 rfl rfl (m_dec e11_plans 174 rfl) ?_
        refine ms_getf (pc := 291) S lf_X11_247 rfl (m_dec e11_plans 175 rfl) g1 ?_
        refine ms_iload (pc := 294) S 5 rfl (m_dec e11_plans 176 rfl) ?_
        refine ms_iload_n (pc := 296) S 3 rfl rfl (m_dec e11_plans 177 rfl) ?_
        refine ms_grd fun g4 => ?_
        refine ms_iast (pc := 297) S g4 (m_dec e11_plans 178 rfl) (fun h5 => ?_)
        refine ms_iinc (pc := 298) S (L' := [(0, m_r v0), (1, m_i v1), (2, m_i v2), (3, m_i v3), (4, m_i v4), (5, m_i (v5 + 1))]) 5 rfl [1, 2, 3, 4, 5, 0] rfl (m_lt hN rfl) (m_dec e11_plans 179 rfl) ?_
        refine ms_goto (pc := 301) S (m_dec e11_plans 180 rfl) rfl ?_
        exact ih270 v2 v3 v4 (v5 + 1) h5
      · refine ms_iinc (pc := 298) S (L' := [(0, m_r v0), (1, m_i v1), (2, m_i v2), (3, m_i v3), (4, m_i v4), (5, m_i (v5 + 1))]) 5 rfl [1, 2, 3, 4, 5, 0] rfl (m_lt hN rfl) (m_dec e11_plans 179 rfl) ?_
        refine ms_goto (pc := 301) S (m_dec e11_plans 180 rfl) rfl ?_
        exact ih270 v2 v3 v4 (v5 + 1) h
    · refine ms_iload_n (pc := 304) S 2 rfl rfl (m_dec e11_plans 181 rfl) ?_
      refine ms_iload (pc := 305) S 4 rfl (m_dec e11_plans 182 rfl) ?_
      refine ms_ior (pc := 307) S (m_dec e11_plans 183 rfl) ?_
      refine ms_nm (st := fun x6 => [m_i x6]) fun x6 => ?_
      refine ms_istore_n (pc := 308) S (L' := [(0, m_r v0), (1, m_i v1), (2, m_i x6), (3, m_i v3)]) [1, 2, 0, 3] rfl rfl (m_lt hN rfl) (m_dec e11_plans 184 rfl) ?_
      refine ms_goto (pc := 309) S (m_dec e11_plans 185 rfl) rfl ?_
      exact ih205 x6 v3 0 0 h
set_option maxHeartbeats 4000000 in
set_option maxRecDepth 20000 in
theorem s11_plans_c205 {Y : m_Y Bool} (S : m_Std Y RX11 cX11_plans) (E : m_End Y cX11_plans .ireturn (fun r => [m_i (m_b2i r)])) {F : Nat} (hF : m_Rm Y F) (hFn : 16 ≤ F) (hN : Y.2.2.2.1 = 6) (v0 v1 v2 v3 v4 v5 : Int) (h : m_H) : m_Sim Y 205 [(0, m_r v0), (1, m_i v1), (2, m_i v2), (3, m_i v3)] [] h (t11_plans_x205 205 v0 v1 v2 v3 v4 v5 h) := ms_all fun r e => (s11_plans_x205 S E hF hFn hN 205 v0 v1 v2 v3 v4 v5 h r e).1 rfl
set_option maxHeartbeats 4000000 in
set_option maxRecDepth 20000 in
theorem s11_plans_c223 {Y : m_Y Bool} (S : m_Std Y RX11 cX11_plans) (E : m_End Y cX11_plans .ireturn (fun r => [m_i (m_b2i r)])) {F : Nat} (hF : m_Rm Y F) (hFn : 16 ≤ F) (hN : Y.2.2.2.1 = 6) (v0 v1 v2 v3 v4 v5 : Int) (h : m_H) : m_Sim Y 223 [(0, m_r v0), (1, m_i v1), (2, m_i v2), (3, m_i v3), (4, m_i v4)] [] h (t11_plans_x205 223 v0 v1 v2 v3 v4 v5 h) := ms_all fun r e => (s11_plans_x205 S E hF hFn hN 223 v0 v1 v2 v3 v4 v5 h r e).2.1 rfl
set_option maxHeartbeats 4000000 in
set_option maxRecDepth 20000 in
theorem s11_plans_c270 {Y : m_Y Bool} (S : m_Std Y RX11 cX11_plans) (E : m_End Y cX11_plans .ireturn (fun r => [m_i (m_b2i r)])) {F : Nat} (hF : m_Rm Y F) (hFn : 16 ≤ F) (hN : Y.2.2.2.1 = 6) (v0 v1 v2 v3 v4 v5 : Int) (h : m_H) : m_Sim Y 270 [(0, m_r v0), (1, m_i v1), (2, m_i v2), (3, m_i v3), (4, m_i v4), (5, m_i v5)] [] h (t11_plans_x205 270 v0 v1 v2 v3 v4 v5 h) := ms_all fun r e => (s11_plans_x205 S E hF hFn hN 270 v0 v1 v2 v3 v4 v5 h r e).2.2 rfl
set_option maxHeartbeats 4000000 in
set_option maxRecDepth 20000 in
theorem s11_plans_c164 {Y : m_Y Bool} (S : m_Std Y RX11 cX11_plans) (E : m_End Y cX11_plans .ireturn (fun r => [m_i (m_b2i r)])) {F : Nat} (hF : m_Rm Y F) (hFn : 16 ≤ F) (hN : Y.2.2.2.1 = 6) : ∀ (v0 v1 v2 : Int) (h : m_H), m_Sim Y 164 [(0, m_r v0), (1, m_i v1), (2, m_i v2)] [] h (t11_plans_c164 v0 v1 v2 h) := by
  intro v0 v1 v2 h
  refine ms_all fun r e => ?_
  refine t11_plans_c164.partial_correctness v0 v1 (motive := fun v2 h r => m_Sim Y 164 [(0, m_r v0), (1, m_i v1), (2, m_i v2)] [] h (some r)) ?_ v2 h r e
  intro f ih v2 h r e
  have ih : ∀ (v2 : Int) (h : m_H), m_Sim Y 164 [(0, m_r v0), (1, m_i v1), (2, m_i v2)] [] h (f v2 h ) := fun v2 h  => ms_all fun r e => ih v2 h r e
  refine ms_use ?_ e
  clear e r
  refine ms_iload_n (pc := 164) S 2 rfl rfl (m_dec e11_plans 100 rfl) ?_
  refine ms_iconst (pc := 165) S (m_dec e11_plans 101 rfl) ?_
  refine ms_aload_n (pc := 166) S 0 rfl rfl (m_dec e11_plans 102 rfl) ?_
  refine ms_grd fun g1 => ?_
  refine ms_getf (pc := 167) S lf_X11_544 rfl (m_dec e11_plans 103 rfl) g1 ?_
  refine ms_ishl (pc := 170) S (m_dec e11_plans 104 rfl) ?_
  refine ms_icmp_ge (pc := 171) S (m_dec e11_plans 105 rfl) rfl (fun q2 => ?_) (fun q2 => ?_)
  · refine ms_aload_n (pc := 174) S 0 rfl rfl (m_dec e11_plans 106 rfl) ?_
    refine ms_getf (pc := 175) S lf_X11_244 rfl (m_dec e11_plans 107 rfl) g1 ?_
    refine ms_iload_n (pc := 178) S 2 rfl rfl (m_dec e11_plans 108 rfl) ?_
    refine ms_iconst (pc := 179) S (m_dec e11_plans 109 rfl) ?_
    refine ms_grd fun g3 => ?_
    refine ms_iast (pc := 180) S g3 (m_dec e11_plans 110 rfl) (fun h4 => ?_)
    refine ms_iinc (pc := 181) S (L' := [(0, m_r v0), (1, m_i v1), (2, m_i (v2 + 1))]) 2 rfl [1, 2, 0] rfl (m_lt hN rfl) (m_dec e11_plans 111 rfl) ?_
    refine ms_goto (pc := 184) S (m_dec e11_plans 112 rfl) rfl ?_
    exact ih (v2 + 1) h4
  · refine ms_aload_n (pc := 187) S 0 rfl rfl (m_dec e11_plans 113 rfl) ?_
    refine ms_iload_n (pc := 188) S 1 rfl rfl (m_dec e11_plans 114 rfl) ?_
    refine ms_iconst (pc := 189) S (m_dec e11_plans 115 rfl) ?_
    refine ms_callVi (pc := 190) S hF (vals := [m_i v1, m_i 0]) (st := []) (hc := vw_11) (hci := by decide) (hcy := rfl) (ht := g1) (hC := (k11_least _ _ v0 v1 0 h)) (hM := lm_X11_557) (hfr := (Nat.le_trans (by decide) hFn)) (hstk := rfl) (hcat := Nat.le_of_ble_eq_true rfl) (hd := (m_dec e11_plans 116 rfl)) (k1 := fun r6 h5 => ?_)
    refine ms_sipush (pc := 193) S (m_dec e11_plans 117 rfl) rfl ?_
    refine ms_icmp_lt (pc := 196) S (m_dec e11_plans 118 rfl) rfl (fun q7 => ?_) (fun q7 => ?_)
    · refine ms_iconst (pc := 201) S (m_dec e11_plans 121 rfl) ?_
      refine ms_istore_n (pc := 202) S (L' := [(0, m_r v0), (1, m_i v1), (2, m_i 0)]) [1, 2, 0] rfl rfl (m_lt hN rfl) (m_dec e11_plans 122 rfl) ?_
      refine ms_iconst (pc := 203) S (m_dec e11_plans 123 rfl) ?_
      refine ms_istore_n (pc := 204) S (L' := [(0, m_r v0), (1, m_i v1), (2, m_i 0), (3, m_i 0)]) [1, 2, 3, 0] rfl rfl (m_lt hN rfl) (m_dec e11_plans 124 rfl) ?_
      exact s11_plans_c205 S E hF hFn hN v0 v1 0 0 0 0 h5
    · refine ms_iconst (pc := 199) S (m_dec e11_plans 119 rfl) ?_
      exact ms_ret (pc := 200) E (m_dec e11_plans 120 rfl) rfl
set_option maxHeartbeats 4000000 in
set_option maxRecDepth 20000 in
theorem s11_plans_c103 {Y : m_Y Bool} (S : m_Std Y RX11 cX11_plans) (E : m_End Y cX11_plans .ireturn (fun r => [m_i (m_b2i r)])) {F : Nat} (hF : m_Rm Y F) (hFn : 16 ≤ F) (hN : Y.2.2.2.1 = 6) : ∀ (v0 v1 v2 : Int) (h : m_H), m_Sim Y 103 [(0, m_r v0), (1, m_i v1), (2, m_i v2)] [] h (t11_plans_c103 v0 v1 v2 h) := by
  intro v0 v1 v2 h
  refine ms_all fun r e => ?_
  refine t11_plans_c103.partial_correctness v0 v1 (motive := fun v2 h r => m_Sim Y 103 [(0, m_r v0), (1, m_i v1), (2, m_i v2)] [] h (some r)) ?_ v2 h r e
  intro f ih v2 h r e
  have ih : ∀ (v2 : Int) (h : m_H), m_Sim Y 103 [(0, m_r v0), (1, m_i v1), (2, m_i v2)] [] h (f v2 h ) := fun v2 h  => ms_all fun r e => ih v2 h r e
  refine ms_use ?_ e
  clear e r
  refine ms_iload_n (pc := 103) S 2 rfl rfl (m_dec e11_plans 61 rfl) ?_
  refine ms_aload_n (pc := 104) S 0 rfl rfl (m_dec e11_plans 62 rfl) ?_
  refine ms_grd fun g1 => ?_
  refine ms_getf (pc := 105) S lf_X11_544 rfl (m_dec e11_plans 63 rfl) g1 ?_
  refine ms_icmp_ge (pc := 108) S (m_dec e11_plans 64 rfl) rfl (fun q2 => ?_) (fun q2 => ?_)
  · refine ms_aload_n (pc := 111) S 0 rfl rfl (m_dec e11_plans 65 rfl) ?_
    refine ms_getf (pc := 112) S lf_X11_241 rfl (m_dec e11_plans 66 rfl) g1 ?_
    refine ms_iload_n (pc := 115) S 2 rfl rfl (m_dec e11_plans 67 rfl) ?_
    refine ms_iconst (pc := 116) S (m_dec e11_plans 68 rfl) ?_
    refine ms_grd fun g3 => ?_
    refine ms_iast (pc := 117) S g3 (m_dec e11_plans 69 rfl) (fun h4 => ?_)
    refine ms_aload_n (pc := 118) S 0 rfl rfl (m_dec e11_plans 70 rfl) ?_
    refine ms_iload_n (pc := 119) S 2 rfl rfl (m_dec e11_plans 71 rfl) ?_
    refine ms_iload_n (pc := 120) S 1 rfl rfl (m_dec e11_plans 72 rfl) ?_
    refine ms_aload_n (pc := 121) S 0 rfl rfl (m_dec e11_plans 73 rfl) ?_
    refine ms_grd fun g5 => ?_
    refine ms_getf (pc := 122) S lf_X11_92 rfl (m_dec e11_plans 74 rfl) g5 ?_
    refine ms_iload_n (pc := 125) S 1 rfl rfl (m_dec e11_plans 75 rfl) ?_
    refine ms_grd fun g6 => ?_
    refine ms_aald (pc := 126) S 29 (by decide) (fun _ => rfl) rfl g6 (m_dec e11_plans 76 rfl) ?_
    refine ms_aload_n (pc := 127) S 0 rfl rfl (m_dec e11_plans 77 rfl) ?_
    refine ms_getf (pc := 128) S lf_X11_238 rfl (m_dec e11_plans 78 rfl) g5 ?_
    refine ms_iload_n (pc := 131) S 2 rfl rfl (m_dec e11_plans 79 rfl) ?_
    refine ms_grd fun g7 => ?_
    refine ms_iald (pc := 132) S g7 (m_dec e11_plans 80 rfl) ?_
    refine ms_grd fun g8 => ?_
    refine ms_iald (pc := 133) S g8 (m_dec e11_plans 81 rfl) ?_
    refine ms_callVv (pc := 134) S hF (vals := [m_i v2, m_i v1, m_i (m_g h4 (m_g h4 (m_g h4 v0 36) (m_w v1)) (m_w (m_g h4 (m_g h4 v0 75) (m_w v2))))]) (st := []) (hc := vw_11) (hci := by decide) (hcy := rfl) (ht := g5) (hC := (k11_need _ _ v0 v2 v1 (m_g h4 (m_g h4 (m_g h4 v0 36) (m_w v1)) (m_w (m_g h4 (m_g h4 v0 75) (m_w v2)))) h4)) (hM := lm_X11_560) (hfr := (Nat.le_trans (by decide) hFn)) (hstk := rfl) (hcat := Nat.le_of_ble_eq_true rfl) (hd := (m_dec e11_plans 82 rfl)) (k1 := fun h9 => ?_)
    refine ms_aload_n (pc := 137) S 0 rfl rfl (m_dec e11_plans 83 rfl) ?_
    refine ms_iload_n (pc := 138) S 2 rfl rfl (m_dec e11_plans 84 rfl) ?_
    refine ms_iload_n (pc := 139) S 1 rfl rfl (m_dec e11_plans 85 rfl) ?_
    refine ms_aload_n (pc := 140) S 0 rfl rfl (m_dec e11_plans 86 rfl) ?_
    refine ms_grd fun g11 => ?_
    refine ms_getf (pc := 141) S lf_X11_95 rfl (m_dec e11_plans 87 rfl) g11 ?_
    refine ms_iload_n (pc := 144) S 1 rfl rfl (m_dec e11_plans 88 rfl) ?_
    refine ms_grd fun g12 => ?_
    refine ms_aald (pc := 145) S 29 (by decide) (fun _ => rfl) rfl g12 (m_dec e11_plans 89 rfl) ?_
    refine ms_aload_n (pc := 146) S 0 rfl rfl (m_dec e11_plans 90 rfl) ?_
    refine ms_getf (pc := 147) S lf_X11_238 rfl (m_dec e11_plans 91 rfl) g11 ?_
    refine ms_iload_n (pc := 150) S 2 rfl rfl (m_dec e11_plans 92 rfl) ?_
    refine ms_grd fun g13 => ?_
    refine ms_iald (pc := 151) S g13 (m_dec e11_plans 93 rfl) ?_
    refine ms_grd fun g14 => ?_
    refine ms_iald (pc := 152) S g14 (m_dec e11_plans 94 rfl) ?_
    refine ms_callVv (pc := 153) S hF (vals := [m_i v2, m_i v1, m_i (m_g h9 (m_g h9 (m_g h9 v0 37) (m_w v1)) (m_w (m_g h9 (m_g h9 v0 75) (m_w v2))))]) (st := []) (hc := vw_11) (hci := by decide) (hcy := rfl) (ht := g11) (hC := (k11_need _ _ v0 v2 v1 (m_g h9 (m_g h9 (m_g h9 v0 37) (m_w v1)) (m_w (m_g h9 (m_g h9 v0 75) (m_w v2)))) h9)) (hM := lm_X11_560) (hfr := (Nat.le_trans (by decide) hFn)) (hstk := rfl) (hcat := Nat.le_of_ble_eq_true rfl) (hd := (m_dec e11_plans 95 rfl)) (k1 := fun h15 => ?_)
    refine ms_iinc (pc := 156) S (L' := [(0, m_r v0), (1, m_i v1), (2, m_i (v2 + 1))]) 2 rfl [1, 2, 0] rfl (m_lt hN rfl) (m_dec e11_plans 96 rfl) ?_
    refine ms_goto (pc := 159) S (m_dec e11_plans 97 rfl) rfl ?_
    exact ih (v2 + 1) h15
  · refine ms_iconst (pc := 162) S (m_dec e11_plans 98 rfl) ?_
    refine ms_istore_n (pc := 163) S (L' := [(0, m_r v0), (1, m_i v1), (2, m_i 0)]) [1, 2, 0] rfl rfl (m_lt hN rfl) (m_dec e11_plans 99 rfl) ?_
    exact s11_plans_c164 S E hF hFn hN v0 v1 0 h
set_option maxHeartbeats 4000000 in
set_option maxRecDepth 20000 in
theorem s11_plans_c17 {Y : m_Y Bool} (S : m_Std Y RX11 cX11_plans) (E : m_End Y cX11_plans .ireturn (fun r => [m_i (m_b2i r)])) {F : Nat} (hF : m_Rm Y F) (hFn : 16 ≤ F) (hN : Y.2.2.2.1 = 6) : ∀ (v0 v1 v2 : Int) (h : m_H), m_Sim Y 17 [(0, m_r v0), (1, m_i v1), (2, m_i v2)] [] h (t11_plans_c17 v0 v1 v2 h) := by
  intro v0 v1 v2 h
  refine ms_all fun r e => ?_
  refine t11_plans_c17.partial_correctness v0 v1 (motive := fun v2 h r => m_Sim Y 17 [(0, m_r v0), (1, m_i v1), (2, m_i v2)] [] h (some r)) ?_ v2 h r e
  intro f ih v2 h r e
  have ih : ∀ (v2 : Int) (h : m_H), m_Sim Y 17 [(0, m_r v0), (1, m_i v1), (2, m_i v2)] [] h (f v2 h ) := fun v2 h  => ms_all fun r e => ih v2 h r e
  refine ms_use ?_ e
  clear e r
  refine ms_iload_n (pc := 17) S 2 rfl rfl (m_dec e11_plans 11 rfl) ?_
  refine ms_aload_n (pc := 18) S 0 rfl rfl (m_dec e11_plans 12 rfl) ?_
  refine ms_grd fun g1 => ?_
  refine ms_getf (pc := 19) S lf_X11_84 rfl (m_dec e11_plans 13 rfl) g1 ?_
  refine ms_iload_n (pc := 22) S 1 rfl rfl (m_dec e11_plans 14 rfl) ?_
  refine ms_grd fun g2 => ?_
  refine ms_iald (pc := 23) S g2 (m_dec e11_plans 15 rfl) ?_
  refine ms_icmp_ge (pc := 24) S (m_dec e11_plans 16 rfl) rfl (fun q3 => ?_) (fun q3 => ?_)
  · refine ms_aload_n (pc := 27) S 0 rfl rfl (m_dec e11_plans 17 rfl) ?_
    refine ms_getf (pc := 28) S lf_X11_89 rfl (m_dec e11_plans 18 rfl) g1 ?_
    refine ms_iload_n (pc := 31) S 1 rfl rfl (m_dec e11_plans 19 rfl) ?_
    refine ms_grd fun g4 => ?_
    refine ms_aald (pc := 32) S 29 (by decide) (fun _ => rfl) rfl g4 (m_dec e11_plans 20 rfl) ?_
    refine ms_iload_n (pc := 33) S 2 rfl rfl (m_dec e11_plans 21 rfl) ?_
    refine ms_grd fun g5 => ?_
    refine ms_iald (pc := 34) S g5 (m_dec e11_plans 22 rfl) ?_
    refine ms_iconst (pc := 35) S (m_dec e11_plans 23 rfl) ?_
    refine ms_icmp_le (pc := 36) S (m_dec e11_plans 24 rfl) rfl (fun q6 => ?_) (fun q6 => ?_)
    · refine ms_aload_n (pc := 39) S 0 rfl rfl (m_dec e11_plans 25 rfl) ?_
      refine ms_getf (pc := 40) S lf_X11_89 rfl (m_dec e11_plans 26 rfl) g1 ?_
      refine ms_iload_n (pc := 43) S 1 rfl rfl (m_dec e11_plans 27 rfl) ?_
      refine ms_aald (pc := 44) S 29 (by decide) (fun _ => rfl) rfl g4 (m_dec e11_plans 28 rfl) ?_
      refine ms_iload_n (pc := 45) S 2 rfl rfl (m_dec e11_plans 29 rfl) ?_
      refine ms_iald (pc := 46) S g5 (m_dec e11_plans 30 rfl) ?_
      refine ms_bipush (pc := 47) S (m_dec e11_plans 31 rfl) rfl ?_
      refine ms_icmp_ne (pc := 49) S (m_dec e11_plans 32 rfl) rfl (fun q7 => ?_) (fun q7 => ?_)
      · refine ms_goto (pc := 52) S (m_dec e11_plans 33 rfl) rfl ?_
        refine ms_iinc (pc := 86) S (L' := [(0, m_r v0), (1, m_i v1), (2, m_i (v2 + 1))]) 2 rfl [1, 2, 0] rfl (m_lt hN rfl) (m_dec e11_plans 52 rfl) ?_
        refine ms_goto (pc := 89) S (m_dec e11_plans 53 rfl) rfl ?_
        exact ih (v2 + 1) h
      · refine ms_aload_n (pc := 55) S 0 rfl rfl (m_dec e11_plans 34 rfl) ?_
        refine ms_getf (pc := 56) S lf_X11_544 rfl (m_dec e11_plans 35 rfl) g1 ?_
        refine ms_bipush (pc := 59) S (m_dec e11_plans 36 rfl) rfl ?_
        refine ms_icmp_ne (pc := 61) S (m_dec e11_plans 37 rfl) rfl (fun q8 => ?_) (fun q8 => ?_)
        · refine ms_iconst (pc := 64) S (m_dec e11_plans 38 rfl) ?_
          exact ms_ret (pc := 65) E (m_dec e11_plans 39 rfl) rfl
        · refine ms_aload_n (pc := 66) S 0 rfl rfl (m_dec e11_plans 40 rfl) ?_
          refine ms_getf (pc := 67) S lf_X11_238 rfl (m_dec e11_plans 41 rfl) g1 ?_
          refine ms_aload_n (pc := 70) S 0 rfl rfl (m_dec e11_plans 42 rfl) ?_
          refine ms_getf (pc := 71) S lf_X11_544 rfl (m_dec e11_plans 43 rfl) g1 ?_
          refine ms_iload_n (pc := 74) S 2 rfl rfl (m_dec e11_plans 44 rfl) ?_
          refine ms_grd fun g9 => ?_
          refine ms_iast (pc := 75) S g9 (m_dec e11_plans 45 rfl) (fun h10 => ?_)
          refine ms_aload_n (pc := 76) S 0 rfl rfl (m_dec e11_plans 46 rfl) ?_
          refine ms_dup (pc := 77) S rfl (m_dec e11_plans 47 rfl) ?_
          refine ms_grd fun g11 => ?_
          refine ms_getf (pc := 78) S lf_X11_544 rfl (m_dec e11_plans 48 rfl) g11 ?_
          refine ms_iconst (pc := 81) S (m_dec e11_plans 49 rfl) ?_
          refine ms_iadd (pc := 82) S (m_dec e11_plans 50 rfl) ?_
          refine ms_putf (pc := 83) S lp_X11_544 (fun z => by cases z) rfl (fun d => m_fitI d _) (m_dec e11_plans 51 rfl) g11 (fun h12 => ?_)
          refine ms_iinc (pc := 86) S (L' := [(0, m_r v0), (1, m_i v1), (2, m_i (v2 + 1))]) 2 rfl [1, 2, 0] rfl (m_lt hN rfl) (m_dec e11_plans 52 rfl) ?_
          refine ms_goto (pc := 89) S (m_dec e11_plans 53 rfl) rfl ?_
          exact ih (v2 + 1) h12
    · refine ms_iinc (pc := 86) S (L' := [(0, m_r v0), (1, m_i v1), (2, m_i (v2 + 1))]) 2 rfl [1, 2, 0] rfl (m_lt hN rfl) (m_dec e11_plans 52 rfl) ?_
      refine ms_goto (pc := 89) S (m_dec e11_plans 53 rfl) rfl ?_
      exact ih (v2 + 1) h
  · refine ms_aload_n (pc := 92) S 0 rfl rfl (m_dec e11_plans 54 rfl) ?_
    refine ms_getf (pc := 93) S lf_X11_544 rfl (m_dec e11_plans 55 rfl) g1 ?_
    refine ms_if_ne (pc := 96) S (m_dec e11_plans 56 rfl) rfl (fun q13 => ?_) (fun q13 => ?_)
    · refine ms_iconst (pc := 99) S (m_dec e11_plans 57 rfl) ?_
      exact ms_ret (pc := 100) E (m_dec e11_plans 58 rfl) rfl
    · refine ms_iconst (pc := 101) S (m_dec e11_plans 59 rfl) ?_
      refine ms_istore_n (pc := 102) S (L' := [(0, m_r v0), (1, m_i v1), (2, m_i 0)]) [1, 2, 0] rfl rfl (m_lt hN rfl) (m_dec e11_plans 60 rfl) ?_
      exact s11_plans_c103 S E hF hFn hN v0 v1 0 h
set_option maxHeartbeats 4000000 in
set_option maxRecDepth 20000 in
theorem s11_plans {Y : m_Y Bool} (S : m_Std Y RX11 cX11_plans) (E : m_End Y cX11_plans .ireturn (fun r => [m_i (m_b2i r)])) {F : Nat} (hF : m_Rm Y F) (hFn : 16 ≤ F) (hN : Y.2.2.2.1 = 6) (v0 v1 : Int) (h : m_H) : m_Sim Y 0 [(0, m_r v0), (1, m_i v1)] [] h (t11_plans v0 v1 h) := by
  unfold t11_plans
  refine ms_aload_n (pc := 0) S 0 rfl rfl (m_dec e11_plans 0 rfl) ?_
  refine ms_iload_n (pc := 1) S 1 rfl rfl (m_dec e11_plans 1 rfl) ?_
  refine ms_grd fun g1 => ?_
  refine ms_callVz (pc := 2) S hF (vals := [m_i v1]) (st := []) (hc := vw_11) (hci := by decide) (hcy := rfl) (ht := g1) (hC := (k11_isScore _ _ v0 v1 h)) (hM := lm_X11_511) (hfr := (Nat.le_trans (by decide) hFn)) (hstk := rfl) (hcat := Nat.le_of_ble_eq_true rfl) (hd := (m_dec e11_plans 2 rfl)) (k1 := fun r3 h2 => ?_)
  refine ms_ifb_ne (pc := 5) S (m_dec e11_plans 3 rfl) rfl (fun q4 => ?_) (fun q4 => ?_)
  · refine ms_aload_n (pc := 10) S 0 rfl rfl (m_dec e11_plans 6 rfl) ?_
    refine ms_iconst (pc := 11) S (m_dec e11_plans 7 rfl) ?_
    refine ms_grd fun g5 => ?_
    refine ms_putf (pc := 12) S lp_X11_544 (fun z => by cases z) rfl (fun d => m_fitI d _) (m_dec e11_plans 8 rfl) g5 (fun h6 => ?_)
    refine ms_iconst (pc := 15) S (m_dec e11_plans 9 rfl) ?_
    refine ms_istore_n (pc := 16) S (L' := [(0, m_r v0), (1, m_i v1), (2, m_i 0)]) [1, 2, 0] rfl rfl (m_lt hN rfl) (m_dec e11_plans 10 rfl) ?_
    exact s11_plans_c17 S E hF hFn hN v0 v1 0 h6
  · refine ms_iconst (pc := 8) S (m_dec e11_plans 4 rfl) ?_
    exact ms_ret (pc := 9) E (m_dec e11_plans 5 rfl) rfl
theorem k11_plans (l : Launch) (d : m_D) (v0 v1 : Int) (h : m_H) : m_Con l d yX11_plans cX11_plans 6 (some .boolean) 16 (fun r => [m_i (m_b2i r)]) [m_r v0, m_i v1] h (t11_plans v0 v1 h) :=
  m_con2 (by decide +kernel) (Nat.le_of_ble_eq_true rfl) (fun Y hN hRm hr hI S hfin => s11_plans S (m_end_z S hr hfin) hRm (Nat.le_refl _) hN v0 v1 h)
set_option maxRecDepth 100000 in
theorem e11_turns : ∀ q ∈ ([(0, .aload_n 0, 1), (1, .iload_n 1, 1), (2, .invokevirtual 562, 3), (5, .ifCond .eq 12, 3), (8, .aload_n 0, 1), (9, .iload_n 1, 1), (10, .iconst 0, 1), (11, .invokevirtual 557, 3), (14, .goto 4, 3), (17, .iconst (-1), 1), (18, .ireturn, 1)] : List (Nat × Instr × Nat)), decode cX11_turns q.1 = .ok q.2 := by decide +kernel
set_option maxHeartbeats 4000000 in
set_option maxRecDepth 20000 in
theorem s11_turns {Y : m_Y Int} (S : m_Std Y RX11 cX11_turns) (E : m_End Y cX11_turns .ireturn (fun r => [m_i r])) {F : Nat} (hF : m_Rm Y F) (hFn : 17 ≤ F) (hN : Y.2.2.2.1 = 2) (v0 v1 : Int) (h : m_H) : m_Sim Y 0 [(0, m_r v0), (1, m_i v1)] [] h (t11_turns v0 v1 h) := by
  unfold t11_turns
  refine ms_aload_n (pc := 0) S 0 rfl rfl (m_dec e11_turns 0 rfl) ?_
  refine ms_iload_n (pc := 1) S 1 rfl rfl (m_dec e11_turns 1 rfl) ?_
  refine ms_grd fun g1 => ?_
  refine ms_callVz (pc := 2) S hF (vals := [m_i v1]) (st := []) (hc := vw_11) (hci := by decide) (hcy := rfl) (ht := g1) (hC := (k11_plans _ _ v0 v1 h)) (hM := lm_X11_562) (hfr := (Nat.le_trans (by decide) hFn)) (hstk := rfl) (hcat := Nat.le_of_ble_eq_true rfl) (hd := (m_dec e11_turns 2 rfl)) (k1 := fun r3 h2 => ?_)
  refine ms_ifb_eq (pc := 5) S (m_dec e11_turns 3 rfl) rfl (fun q4 => ?_) (fun q4 => ?_)
  · refine ms_aload_n (pc := 8) S 0 rfl rfl (m_dec e11_turns 4 rfl) ?_
    refine ms_iload_n (pc := 9) S 1 rfl rfl (m_dec e11_turns 5 rfl) ?_
    refine ms_iconst (pc := 10) S (m_dec e11_turns 6 rfl) ?_
    refine ms_grd fun g5 => ?_
    refine ms_callVi (pc := 11) S hF (vals := [m_i v1, m_i 0]) (st := []) (hc := vw_11) (hci := by decide) (hcy := rfl) (ht := g5) (hC := (k11_least _ _ v0 v1 0 h2)) (hM := lm_X11_557) (hfr := (Nat.le_trans (by decide) hFn)) (hstk := rfl) (hcat := Nat.le_of_ble_eq_true rfl) (hd := (m_dec e11_turns 7 rfl)) (k1 := fun r7 h6 => ?_)
    refine ms_goto (pc := 14) S (m_dec e11_turns 8 rfl) rfl ?_
    exact ms_ret (pc := 18) E (m_dec e11_turns 10 rfl) rfl
  · refine ms_iconst (pc := 17) S (m_dec e11_turns 9 rfl) ?_
    exact ms_ret (pc := 18) E (m_dec e11_turns 10 rfl) rfl
theorem k11_turns (l : Launch) (d : m_D) (v0 v1 : Int) (h : m_H) : m_Con l d yX11_turns cX11_turns 2 (some .int) 17 (fun r => [m_i r]) [m_r v0, m_i v1] h (t11_turns v0 v1 h) :=
  m_con2 (by decide +kernel) (Nat.le_of_ble_eq_true rfl) (fun Y hN hRm hr hI S hfin => s11_turns S (m_end_i S hr hfin) hRm (Nat.le_refl _) hN v0 v1 h)
set_option maxRecDepth 100000 in
theorem e11_turnOf : ∀ q ∈ ([(0, .aload_n 0, 1), (1, .iload_n 1, 1), (2, .invokevirtual 562, 3), (5, .ifCond .eq 25, 3), (8, .aload_n 0, 1), (9, .iload_n 2, 1), (10, .invokevirtual 547, 3), (13, .iconst (-1), 1), (14, .if_icmp .eq 16, 3), (17, .aload_n 0, 1), (18, .getfield 247, 3), (21, .aload_n 0, 1), (22, .iload_n 2, 1), (23, .invokevirtual 547, 3), (26, .iaload, 1), (27, .goto 4, 3), (30, .iconst (-1), 1), (31, .ireturn, 1)] : List (Nat × Instr × Nat)), decode cX11_turnOf q.1 = .ok q.2 := by decide +kernel
set_option maxHeartbeats 4000000 in
set_option maxRecDepth 20000 in
theorem s11_turnOf {Y : m_Y Int} (S : m_Std Y RX11 cX11_turnOf) (E : m_End Y cX11_turnOf .ireturn (fun r => [m_i r])) {F : Nat} (hF : m_Rm Y F) (hFn : 17 ≤ F) (hN : Y.2.2.2.1 = 3) (v0 v1 v2 : Int) (h : m_H) : m_Sim Y 0 [(0, m_r v0), (1, m_i v1), (2, m_i v2)] [] h (t11_turnOf v0 v1 v2 h) := by
  unfold t11_turnOf
  refine ms_aload_n (pc := 0) S 0 rfl rfl (m_dec e11_turnOf 0 rfl) ?_
  refine ms_iload_n (pc := 1) S 1 rfl rfl (m_dec e11_turnOf 1 rfl) ?_
  refine ms_grd fun g1 => ?_
  refine ms_callVz (pc := 2) S hF (vals := [m_i v1]) (st := []) (hc := vw_11) (hci := by decide) (hcy := rfl) (ht := g1) (hC := (k11_plans _ _ v0 v1 h)) (hM := lm_X11_562) (hfr := (Nat.le_trans (by decide) hFn)) (hstk := rfl) (hcat := Nat.le_of_ble_eq_true rfl) (hd := (m_dec e11_turnOf 2 rfl)) (k1 := fun r3 h2 => ?_)
  refine ms_ifb_eq (pc := 5) S (m_dec e11_turnOf 3 rfl) rfl (fun q4 => ?_) (fun q4 => ?_)
  · refine ms_aload_n (pc := 8) S 0 rfl rfl (m_dec e11_turnOf 4 rfl) ?_
    refine ms_iload_n (pc := 9) S 2 rfl rfl (m_dec e11_turnOf 5 rfl) ?_
    refine ms_grd fun g5 => ?_
    refine ms_callVi (pc := 10) S hF (vals := [m_i v2]) (st := []) (hc := vw_11) (hci := by decide) (hcy := rfl) (ht := g5) (hC := (k11_stepOf _ _ v0 v2 h2)) (hM := lm_X11_547) (hfr := (Nat.le_trans (by decide) hFn)) (hstk := rfl) (hcat := Nat.le_of_ble_eq_true rfl) (hd := (m_dec e11_turnOf 6 rfl)) (k1 := fun r7 h6 => ?_)
    refine ms_iconst (pc := 13) S (m_dec e11_turnOf 7 rfl) ?_
    refine ms_icmp_eq (pc := 14) S (m_dec e11_turnOf 8 rfl) rfl (fun q8 => ?_) (fun q8 => ?_)
    · refine ms_iconst (pc := 30) S (m_dec e11_turnOf 16 rfl) ?_
      exact ms_ret (pc := 31) E (m_dec e11_turnOf 17 rfl) rfl
    · refine ms_aload_n (pc := 17) S 0 rfl rfl (m_dec e11_turnOf 9 rfl) ?_
      refine ms_grd fun g9 => ?_
      refine ms_getf (pc := 18) S lf_X11_247 rfl (m_dec e11_turnOf 10 rfl) g9 ?_
      refine ms_aload_n (pc := 21) S 0 rfl rfl (m_dec e11_turnOf 11 rfl) ?_
      refine ms_iload_n (pc := 22) S 2 rfl rfl (m_dec e11_turnOf 12 rfl) ?_
      refine ms_callVi (pc := 23) S hF (vals := [m_i v2]) (st := [m_r (m_g h6 v0 78)]) (hc := vw_11) (hci := by decide) (hcy := rfl) (ht := g9) (hC := (k11_stepOf _ _ v0 v2 h6)) (hM := lm_X11_547) (hfr := (Nat.le_trans (by decide) hFn)) (hstk := rfl) (hcat := Nat.le_of_ble_eq_true rfl) (hd := (m_dec e11_turnOf 13 rfl)) (k1 := fun r11 h10 => ?_)
      refine ms_grd fun g12 => ?_
      refine ms_iald (pc := 26) S g12 (m_dec e11_turnOf 14 rfl) ?_
      refine ms_goto (pc := 27) S (m_dec e11_turnOf 15 rfl) rfl ?_
      exact ms_ret (pc := 31) E (m_dec e11_turnOf 17 rfl) rfl
  · refine ms_iconst (pc := 30) S (m_dec e11_turnOf 16 rfl) ?_
    exact ms_ret (pc := 31) E (m_dec e11_turnOf 17 rfl) rfl
theorem k11_turnOf (l : Launch) (d : m_D) (v0 v1 v2 : Int) (h : m_H) : m_Con l d yX11_turnOf cX11_turnOf 3 (some .int) 17 (fun r => [m_i r]) [m_r v0, m_i v1, m_i v2] h (t11_turnOf v0 v1 v2 h) :=
  m_con2 (by decide +kernel) (Nat.le_of_ble_eq_true rfl) (fun Y hN hRm hr hI S hfin => s11_turnOf S (m_end_i S hr hfin) hRm (Nat.le_refl _) hN v0 v1 v2 h)
set_option maxRecDepth 100000 in
theorem e11_deep : ∀ q ∈ ([(0, .aload_n 0, 1), (1, .iload_n 1, 1), (2, .invokevirtual 511, 3), (5, .ifCond .ne 5, 3), (8, .iconst (-1), 1), (9, .ireturn, 1), (10, .iconst (-1), 1), (11, .istore_n 2, 1), (12, .iconst 0, 1), (13, .istore_n 3, 1), (14, .iload_n 3, 1), (15, .aload_n 0, 1), (16, .getfield 84, 3), (19, .iload_n 1, 1), (20, .iaload, 1), (21, .if_icmp .ge 176, 3), (24, .aload_n 0, 1), (25, .getfield 89, 3), (28, .iload_n 1, 1), (29, .aaload, 1), (30, .iload_n 3, 1), (31, .iaload, 1), (32, .istore 4, 2), (34, .iconst 0, 1), (35, .istore 5, 2), (37, .iload 4, 2), (39, .iconst 1, 1), (40, .if_icmp .gt 37, 3), (43, .aload_n 0, 1), (44, .iload_n 1, 1), (45, .iload_n 3, 1), (46, .aload_n 0, 1), (47, .getfield 285, 3), (50, .invokevirtual 460, 3), (53, .istore 6, 2), (55, .iload 6, 2), (57, .iconst (-1), 1), (58, .if_icmp .ne 7, 3), (61, .iconst 0, 1), (62, .goto 10, 3), (65, .aload_n 0, 1), (66, .getfield 32, 3), (69, .iload 6, 2), (71, .iaload, 1), (72, .istore 5, 2), (74, .goto 63, 3), (77, .aload_n 0, 1), (78, .getfield 250, 3), (81, .aload_n 0, 1), (82, .getfield 92, 3), (85, .iload_n 1, 1), (86, .aaload, 1), (87, .iload_n 3, 1), (88, .iaload, 1), (89, .iaload, 1), (90, .istore 5, 2), (92, .aload_n 0, 1), (93, .getfield 95, 3), (96, .iload_n 1, 1), (97, .aaload, 1), (98, .iload_n 3, 1), (99, .iaload, 1), (100, .iconst (-1), 1), (101, .if_icmp .eq 36, 3), (104, .aload_n 0, 1), (105, .getfield 250, 3), (108, .aload_n 0, 1), (109, .getfield 95, 3), (112, .iload_n 1, 1), (113, .aaload, 1), (114, .iload_n 3, 1), (115, .iaload, 1), (116, .iaload, 1), (117, .iload 5, 2), (119, .if_icmp .le 18, 3), (122, .aload_n 0, 1), (123, .getfield 250, 3), (126, .aload_n 0, 1), (127, .getfield 95, 3), (130, .iload_n 1, 1), (131, .aaload, 1), (132, .iload_n 3, 1), (133, .iaload, 1), (134, .iaload, 1), (135, .istore 5, 2), (137, .iload 4, 2), (139, .iconst 4, 1), (140, .if_icmp .eq 24, 3), (143, .iload 4, 2), (145, .bipush 8, 2), (147, .if_icmp .eq 17, 3), (150, .iload 4, 2), (152, .bipush 7, 2), (154, .if_icmp .eq 10, 3), (157, .iload 4, 2), (159, .bipush 9, 2), (161, .if_icmp .ne 6, 3), (164, .iinc 5 1, 3), (167, .aload_n 0, 1), (168, .getfield 250, 3), (171, .iload_n 3, 1), (172, .iload 5, 2), (174, .iastore, 1), (175, .iload 4, 2), (177, .bipush 12, 2), (179, .if_icmp .ne 12, 3), (182, .iload 5, 2), (184, .iload_n 2, 1), (185, .if_icmp .le 6, 3), (188, .iload 5, 2), (190, .istore_n 2, 1), (191, .iinc 3 1, 3), (194, .goto (-180), 3), (197, .iload_n 2, 1), (198, .ireturn, 1)] : List (Nat × Instr × Nat)), decode cX11_deep q.1 = .ok q.2 := by decide +kernel
set_option maxHeartbeats 4000000 in
set_option maxRecDepth 20000 in
theorem s11_deep_x14 {Y : m_Y Int} (S : m_Std Y RX11 cX11_deep) (E : m_End Y cX11_deep .ireturn (fun r => [m_i r])) {F : Nat} (hF : m_Rm Y F) (hFn : 4 ≤ F) (hN : Y.2.2.2.1 = 7) : ∀ (cc : Int) (v0 v1 v2 v3 v4 v5 : Int) (h : m_H) (r : Int × m_H), t11_deep_x14 cc v0 v1 v2 v3 v4 v5 h = some r → (cc = 14 → m_Sim Y 14 [(0, m_r v0), (1, m_i v1), (2, m_i v2), (3, m_i v3)] [] h (some r)) ∧ (cc = 137 → m_Sim Y 137 [(0, m_r v0), (1, m_i v1), (2, m_i v2), (3, m_i v3), (4, m_i v4), (5, m_i v5)] [] h (some r)) ∧ (cc = 164 → m_Sim Y 164 [(0, m_r v0), (1, m_i v1), (2, m_i v2), (3, m_i v3), (4, m_i v4), (5, m_i v5)] [] h (some r)) ∧ (cc = 167 → m_Sim Y 167 [(0, m_r v0), (1, m_i v1), (2, m_i v2), (3, m_i v3), (4, m_i v4), (5, m_i v5)] [] h (some r)) := by
  intro cc v0 v1 v2 v3 v4 v5 h r e
  refine t11_deep_x14.partial_correctness v0 v1 (motive := fun cc v2 v3 v4 v5 h r => (cc = 14 → m_Sim Y 14 [(0, m_r v0), (1, m_i v1), (2, m_i v2), (3, m_i v3)] [] h (some r)) ∧ (cc = 137 → m_Sim Y 137 [(0, m_r v0), (1, m_i v1), (2, m_i v2), (3, m_i v3), (4, m_i v4), (5, m_i v5)] [] h (some r)) ∧ (cc = 164 → m_Sim Y 164 [(0, m_r v0), (1, m_i v1), (2, m_i v2), (3, m_i v3), (4, m_i v4), (5, m_i v5)] [] h (some r)) ∧ (cc = 167 → m_Sim Y 167 [(0, m_r v0), (1, m_i v1), (2, m_i v2), (3, m_i v3), (4, m_i v4), (5, m_i v5)] [] h (some r))) ?_ cc v2 v3 v4 v5 h r e
  intro f ih cc v2 v3 v4 v5 h r e
  have ih14 : ∀ (v2 v3 v4 v5 : Int) (h : m_H), m_Sim Y 14 [(0, m_r v0), (1, m_i v1), (2, m_i v2), (3, m_i v3)] [] h (f 14 v2 v3 v4 v5 h ) := fun v2 v3 v4 v5 h  => ms_all fun r e => (ih 14 v2 v3 v4 v5 h r e).1 rfl
  have ih137 : ∀ (v2 v3 v4 v5 : Int) (h : m_H), m_Sim Y 137 [(0, m_r v0), (1, m_i v1), (2, m_i v2), (3, m_i v3), (4, m_i v4), (5, m_i v5)] [] h (f 137 v2 v3 v4 v5 h ) := fun v2 v3 v4 v5 h  => ms_all fun r e => (ih 137 v2 v3 v4 v5 h r e).2.1 rfl
  have ih164 : ∀ (v2 v3 v4 v5 : Int) (h : m_H), m_Sim Y 164 [(0, m_r v0), (1, m_i v1), (2, m_i v2), (3, m_i v3), (4, m_i v4), (5, m_i v5)] [] h (f 164 v2 v3 v4 v5 h ) := fun v2 v3 v4 v5 h  => ms_all fun r e => (ih 164 v2 v3 v4 v5 h r e).2.2.1 rfl
  have ih167 : ∀ (v2 v3 v4 v5 : Int) (h : m_H), m_Sim Y 167 [(0, m_r v0), (1, m_i v1), (2, m_i v2), (3, m_i v3), (4, m_i v4), (5, m_i v5)] [] h (f 167 v2 v3 v4 v5 h ) := fun v2 v3 v4 v5 h  => ms_all fun r e => (ih 167 v2 v3 v4 v5 h r e).2.2.2 rfl
  refine ⟨?_, ?_, ?_, ?_⟩
  · intro q0
    subst q0
    rw [if_pos rfl] at e
    refine ms_use ?_ e
    clear e r
    refine ms_iload_n (pc := 14) S 3 rfl rfl (m_dec e11_deep 10 rfl) ?_
    refine ms_aload_n (pc := 15) S 0 rfl rfl (m_dec e11_deep 11 rfl) ?_
    refine ms_grd fun g1 => ?_
    refine ms_getf (pc := 16) S lf_X11_84 rfl (m_dec e11_deep 12 rfl) g1 ?_
    refine ms_iload_n (pc := 19) S 1 rfl rfl (m_dec e11_deep 13 rfl) ?_
    refine ms_grd fun g2 => ?_
    refine ms_iald (pc := 20) S g2 (m_dec e11_deep 14 rfl) ?_
    refine ms_icmp_ge (pc := 21) S (m_dec e11_deep 15 rfl) rfl (fun q3 => ?_) (fun q3 => ?_)
    · refine ms_aload_n (pc := 24) S 0 rfl rfl (m_dec e11_deep 16 rfl) ?_
      refine ms_getf (pc := 25) S lf_X11_89 rfl (m_dec e11_deep 17 rfl) g1 ?_
      refine ms_iload_n (pc := 28) S 1 rfl rfl (m_dec e11_deep 18 rfl) ?_
      refine ms_grd fun g4 => ?_
      refine ms_aald (pc := 29) S 29 (by decide) (fun _ => rfl) rfl g4 (m_dec e11_deep 19 rfl) ?_
      refine ms_iload_n (pc := 30) S 3 rfl rfl (m_dec e11_deep 20 rfl) ?_
      refine ms_grd fun g5 => ?_
      refine ms_iald (pc := 31) S g5 (m_dec e11_deep 21 rfl) ?_
      refine ms_nm (st := fun x6 => [m_i x6]) fun x6 => ?_
      refine ms_istore (pc := 32) S (L' := [(0, m_r v0), (1, m_i v1), (2, m_i v2), (3, m_i v3), (4, m_i x6)]) [1, 2, 3, 4, 0] rfl (m_lt hN rfl) (m_dec e11_deep 22 rfl) ?_
      refine ms_iconst (pc := 34) S (m_dec e11_deep 23 rfl) ?_
      refine ms_istore (pc := 35) S (L' := [(0, m_r v0), (1, m_i v1), (2, m_i v2), (3, m_i v3), (4, m_i x6)]) [1, 2, 3, 4, 5] rfl (m_lt hN rfl) (m_dec e11_deep 24 rfl) ?_
      refine ms_iload (pc := 37) S 4 rfl (m_dec e11_deep 25 rfl) ?_
      refine ms_iconst (pc := 39) S (m_dec e11_deep 26 rfl) ?_
      refine ms_icmp_gt (pc := 40) S (m_dec e11_deep 27 rfl) rfl (fun q7 => ?_) (fun q7 => ?_)
      · refine ms_aload_n (pc := 77) S 0 rfl rfl (m_dec e11_deep 46 rfl) ?_
        refine ms_getf (pc := 78) S lf_X11_250 rfl (m_dec e11_deep 47 rfl) g1 ?_
        refine ms_aload_n (pc := 81) S 0 rfl rfl (m_dec e11_deep 48 rfl) ?_
        refine ms_getf (pc := 82) S lf_X11_92 rfl (m_dec e11_deep 49 rfl) g1 ?_
        refine ms_iload_n (pc := 85) S 1 rfl rfl (m_dec e11_deep 50 rfl) ?_
        refine ms_grd fun g8 => ?_
        refine ms_aald (pc := 86) S 29 (by decide) (fun _ => rfl) rfl g8 (m_dec e11_deep 51 rfl) ?_
        refine ms_iload_n (pc := 87) S 3 rfl rfl (m_dec e11_deep 52 rfl) ?_
        refine ms_grd fun g9 => ?_
        refine ms_iald (pc := 88) S g9 (m_dec e11_deep 53 rfl) ?_
        refine ms_grd fun g10 => ?_
        refine ms_iald (pc := 89) S g10 (m_dec e11_deep 54 rfl) ?_
        refine ms_nm (st := fun x11 => [m_i x11]) fun x11 => ?_
        refine ms_istore (pc := 90) S (L' := [(0, m_r v0), (1, m_i v1), (2, m_i v2), (3, m_i v3), (4, m_i x6), (5, m_i x11)]) [1, 2, 3, 4, 5, 0] rfl (m_lt hN rfl) (m_dec e11_deep 55 rfl) ?_
        refine ms_aload_n (pc := 92) S 0 rfl rfl (m_dec e11_deep 56 rfl) ?_
        refine ms_getf (pc := 93) S lf_X11_95 rfl (m_dec e11_deep 57 rfl) g1 ?_
        refine ms_iload_n (pc := 96) S 1 rfl rfl (m_dec e11_deep 58 rfl) ?_
        refine ms_grd fun g12 => ?_
        refine ms_aald (pc := 97) S 29 (by decide) (fun _ => rfl) rfl g12 (m_dec e11_deep 59 rfl) ?_
        refine ms_iload_n (pc := 98) S 3 rfl rfl (m_dec e11_deep 60 rfl) ?_
        refine ms_grd fun g13 => ?_
        refine ms_iald (pc := 99) S g13 (m_dec e11_deep 61 rfl) ?_
        refine ms_iconst (pc := 100) S (m_dec e11_deep 62 rfl) ?_
        refine ms_icmp_eq (pc := 101) S (m_dec e11_deep 63 rfl) rfl (fun q14 => ?_) (fun q14 => ?_)
        · exact ih137 v2 v3 x6 x11 h
        · refine ms_aload_n (pc := 104) S 0 rfl rfl (m_dec e11_deep 64 rfl) ?_
          refine ms_getf (pc := 105) S lf_X11_250 rfl (m_dec e11_deep 65 rfl) g1 ?_
          refine ms_aload_n (pc := 108) S 0 rfl rfl (m_dec e11_deep 66 rfl) ?_
          refine ms_getf (pc := 109) S lf_X11_95 rfl (m_dec e11_deep 67 rfl) g1 ?_
          refine ms_iload_n (pc := 112) S 1 rfl rfl (m_dec e11_deep 68 rfl) ?_
          refine ms_aald (pc := 113) S 29 (by decide) (fun _ => rfl) rfl g12 (m_dec e11_deep 69 rfl) ?_
          refine ms_iload_n (pc := 114) S 3 rfl rfl (m_dec e11_deep 70 rfl) ?_
          refine ms_iald (pc := 115) S g13 (m_dec e11_deep 71 rfl) ?_
          refine ms_grd fun g15 => ?_
          refine ms_iald (pc := 116) S g15 (m_dec e11_deep 72 rfl) ?_
          refine ms_iload (pc := 117) S 5 rfl (m_dec e11_deep 73 rfl) ?_
          refine ms_icmp_le (pc := 119) S (m_dec e11_deep 74 rfl) rfl (fun q16 => ?_) (fun q16 => ?_)
          · refine ms_aload_n (pc := 122) S 0 rfl rfl (m_dec e11_deep 75 rfl) ?_
            refine ms_getf (pc := 123) S lf_X11_250 rfl (m_dec e11_deep 76 rfl) g1 ?_
            refine ms_aload_n (pc := 126) S 0 rfl rfl (m_dec e11_deep 77 rfl) ?_
            refine ms_getf (pc := 127) S lf_X11_95 rfl (m_dec e11_deep 78 rfl) g1 ?_
            refine ms_iload_n (pc := 130) S 1 rfl rfl (m_dec e11_deep 79 rfl) ?_
            refine ms_aald (pc := 131) S 29 (by decide) (fun _ => rfl) rfl g12 (m_dec e11_deep 80 rfl) ?_
            refine ms_iload_n (pc := 132) S 3 rfl rfl (m_dec e11_deep 81 rfl) ?_
            refine ms_iald (pc := 133) S g13 (m_dec e11_deep 82 rfl) ?_
            refine ms_iald (pc := 134) S g15 (m_dec e11_deep 83 rfl) ?_
            refine ms_nm (st := fun x17 => [m_i x17]) fun x17 => ?_
            refine ms_istore (pc := 135) S (L' := [(0, m_r v0), (1, m_i v1), (2, m_i v2), (3, m_i v3), (4, m_i x6), (5, m_i x17)]) [1, 2, 3, 4, 5, 0] rfl (m_lt hN rfl) (m_dec e11_deep 84 rfl) ?_
            exact ih137 v2 v3 x6 x17 h
          · exact ih137 v2 v3 x6 x11 h
      · refine ms_aload_n (pc := 43) S 0 rfl rfl (m_dec e11_deep 28 rfl) ?_
        refine ms_iload_n (pc := 44) S 1 rfl rfl (m_dec e11_deep 29 rfl) ?_
        refine ms_iload_n (pc := 45) S 3 rfl rfl (m_dec e11_deep 30 rfl) ?_
        refine ms_aload_n (pc := 46) S 0 rfl rfl (m_dec e11_deep 31 rfl) ?_
        refine ms_getf (pc := 47) S lf_X11_285 rfl (m_dec e11_deep 32 rfl) g1 ?_
        refine ms_callVi (pc := 50) S hF (vals := [m_i v1, m_i v3, m_i (m_g h v0 18)]) (st := []) (hc := vw_11) (hci := by decide) (hcy := rfl) (ht := g1) (hC := (k11_stripOf _ _ v0 v1 v3 (m_g h v0 18) h)) (hM := lm_X11_460) (hfr := (Nat.le_trans (by decide) hFn)) (hstk := rfl) (hcat := Nat.le_of_ble_eq_true rfl) (hd := (m_dec e11_deep 33 rfl)) (k1 := fun r19 h18 => ?_)
        refine ms_istore (pc := 53) S (L' := [(0, m_r v0), (1, m_i v1), (2, m_i v2), (3, m_i v3), (4, m_i x6), (6, m_i r19)]) [1, 2, 3, 4, 5, 0] rfl (m_lt hN rfl) (m_dec e11_deep 34 rfl) ?_
        refine ms_iload (pc := 55) S 5 rfl (m_dec e11_deep 35 rfl) ?_
        refine ms_iconst (pc := 57) S (m_dec e11_deep 36 rfl) ?_
        refine ms_icmp_ne (pc := 58) S (m_dec e11_deep 37 rfl) rfl (fun q20 => ?_) (fun q20 => ?_)
        · refine ms_iconst (pc := 61) S (m_dec e11_deep 38 rfl) ?_
          refine ms_goto (pc := 62) S (m_dec e11_deep 39 rfl) rfl ?_
          refine ms_istore (pc := 72) S (L' := [(0, m_r v0), (1, m_i v1), (2, m_i v2), (3, m_i v3), (4, m_i x6), (5, m_i 0)]) [1, 2, 3, 4, 5, 0] rfl (m_lt hN rfl) (m_dec e11_deep 44 rfl) ?_
          refine ms_goto (pc := 74) S (m_dec e11_deep 45 rfl) rfl ?_
          exact ih137 v2 v3 x6 0 h18
        · refine ms_aload_n (pc := 65) S 0 rfl rfl (m_dec e11_deep 40 rfl) ?_
          refine ms_grd fun g21 => ?_
          refine ms_getf (pc := 66) S lf_X11_32 rfl (m_dec e11_deep 41 rfl) g21 ?_
          refine ms_iload (pc := 69) S 5 rfl (m_dec e11_deep 42 rfl) ?_
          refine ms_grd fun g22 => ?_
          refine ms_iald (pc := 71) S g22 (m_dec e11_deep 43 rfl) ?_
          refine ms_nm (st := fun x23 => [m_i x23]) fun x23 => ?_
          refine ms_istore (pc := 72) S (L' := [(0, m_r v0), (1, m_i v1), (2, m_i v2), (3, m_i v3), (4, m_i x6), (5, m_i x23)]) [1, 2, 3, 4, 5, 0] rfl (m_lt hN rfl) (m_dec e11_deep 44 rfl) ?_
          refine ms_goto (pc := 74) S (m_dec e11_deep 45 rfl) rfl ?_
          exact ih137 v2 v3 x6 x23 h18
    · refine ms_iload_n (pc := 197) S 2 rfl rfl (m_dec e11_deep 113 rfl) ?_
      exact ms_ret (pc := 198) E (m_dec e11_deep 114 rfl) rfl
  · intro q0
    subst q0
    rw [if_neg (by decide), if_pos rfl] at e
    refine ms_use ?_ e
    clear e r
    refine ms_iload (pc := 137) S 4 rfl (m_dec e11_deep 85 rfl) ?_
    refine ms_iconst (pc := 139) S (m_dec e11_deep 86 rfl) ?_
    refine ms_icmp_eq (pc := 140) S (m_dec e11_deep 87 rfl) rfl (fun q1 => ?_) (fun q1 => ?_)
    · exact ih164 v2 v3 v4 v5 h
    · refine ms_iload (pc := 143) S 4 rfl (m_dec e11_deep 88 rfl) ?_
      refine ms_bipush (pc := 145) S (m_dec e11_deep 89 rfl) rfl ?_
      refine ms_icmp_eq (pc := 147) S (m_dec e11_deep 90 rfl) rfl (fun q2 => ?_) (fun q2 => ?_)
      · exact ih164 v2 v3 v4 v5 h
      · refine ms_iload (pc := 150) S 4 rfl (m_dec e11_deep 91 rfl) ?_
        refine ms_bipush (pc := 152) S (m_dec e11_deep 92 rfl) rfl ?_
        refine ms_icmp_eq (pc := 154) S (m_dec e11_deep 93 rfl) rfl (fun q3 => ?_) (fun q3 => ?_)
        · exact ih164 v2 v3 v4 v5 h
        · refine ms_iload (pc := 157) S 4 rfl (m_dec e11_deep 94 rfl) ?_
          refine ms_bipush (pc := 159) S (m_dec e11_deep 95 rfl) rfl ?_
          refine ms_icmp_ne (pc := 161) S (m_dec e11_deep 96 rfl) rfl (fun q4 => ?_) (fun q4 => ?_)
          · exact ih164 v2 v3 v4 v5 h
          · exact ih167 v2 v3 v4 v5 h
  · intro q0
    subst q0
    rw [if_neg (by decide), if_neg (by decide), if_pos rfl] at e
    refine ms_use ?_ e
    clear e r
    refine ms_iinc (pc := 164) S (L' := [(0, m_r v0), (1, m_i v1), (2, m_i v2), (3, m_i v3), (4, m_i v4), (5, m_i (v5 + 1))]) 5 rfl [1, 2, 3, 4, 5, 0] rfl (m_lt hN rfl) (m_dec e11_deep 97 rfl) ?_
    exact ih167 v2 v3 v4 (v5 + 1) h
  · intro q0
    subst q0
    rw [if_neg (by decide), if_neg (by decide), if_neg (by decide), if_pos rfl] at e
    refine ms_use ?_ e
    clear e r
    refine ms_aload_n (pc := 167) S 0 rfl rfl (m_dec e11_deep 98 rfl) ?_
    refine ms_grd fun g1 => ?_
    refine ms_getf (pc := 168) S lf_X11_250 rfl (m_dec e11_deep 99 rfl) g1 ?_
    refine ms_iload_n (pc := 171) S 3 rfl rfl (m_dec e11_deep 100 rfl) ?_
    refine ms_iload (pc := 172) S 5 rfl (m_dec e11_deep 101 rfl) ?_
    refine ms_grd fun g2 => ?_
    refine ms_iast (pc := 174) S g2 (m_dec e11_deep 102 rfl) (fun h3 => ?_)
    refine ms_iload (pc := 175) S 4 rfl (m_dec e11_deep 103 rfl) ?_
    refine ms_bipush (pc := 177) S (m_dec e11_deep 104 rfl) rfl ?_
    refine ms_icmp_ne (pc := 179) S (m_dec e11_deep 105 rfl) rfl (fun q4 => ?_) (fun q4 => ?_)
    · refine ms_iload (pc := 182) S 5 rfl (m_dec e11_deep 106 rfl) ?_
      refine ms_iload_n (pc := 184) S 2 rfl rfl (m_dec e11_deep 107 rfl) ?_
      refine ms_icmp_le (pc := 185) S (m_dec e11_deep 108 rfl) rfl (fun q5 => ?_) (fun q5 => ?_)
      · refine ms_iload (pc := 188) S 5 rfl (m_dec e11_deep 109 rfl) ?_
        refine ms_istore_n (pc := 190) S (L' := [(0, m_r v0), (1, m_i v1), (2, m_i v5), (3, m_i v3)]) [1, 2, 0, 3] rfl rfl (m_lt hN rfl) (m_dec e11_deep 110 rfl) ?_
        refine ms_iinc (pc := 191) S (L' := [(0, m_r v0), (1, m_i v1), (2, m_i v5), (3, m_i (v3 + 1))]) 3 rfl [1, 2, 3, 0] rfl (m_lt hN rfl) (m_dec e11_deep 111 rfl) ?_
        refine ms_goto (pc := 194) S (m_dec e11_deep 112 rfl) rfl ?_
        exact ih14 v5 (v3 + 1) 0 0 h3
      · refine ms_iinc (pc := 191) S (L' := [(0, m_r v0), (1, m_i v1), (2, m_i v2), (3, m_i (v3 + 1))]) 3 rfl [1, 2, 3, 0] rfl (m_lt hN rfl) (m_dec e11_deep 111 rfl) ?_
        refine ms_goto (pc := 194) S (m_dec e11_deep 112 rfl) rfl ?_
        exact ih14 v2 (v3 + 1) 0 0 h3
    · refine ms_iinc (pc := 191) S (L' := [(0, m_r v0), (1, m_i v1), (2, m_i v2), (3, m_i (v3 + 1))]) 3 rfl [1, 2, 3, 0] rfl (m_lt hN rfl) (m_dec e11_deep 111 rfl) ?_
      refine ms_goto (pc := 194) S (m_dec e11_deep 112 rfl) rfl ?_
      exact ih14 v2 (v3 + 1) 0 0 h3
set_option maxHeartbeats 4000000 in
set_option maxRecDepth 20000 in
theorem s11_deep_c14 {Y : m_Y Int} (S : m_Std Y RX11 cX11_deep) (E : m_End Y cX11_deep .ireturn (fun r => [m_i r])) {F : Nat} (hF : m_Rm Y F) (hFn : 4 ≤ F) (hN : Y.2.2.2.1 = 7) (v0 v1 v2 v3 v4 v5 : Int) (h : m_H) : m_Sim Y 14 [(0, m_r v0), (1, m_i v1), (2, m_i v2), (3, m_i v3)] [] h (t11_deep_x14 14 v0 v1 v2 v3 v4 v5 h) := ms_all fun r e => (s11_deep_x14 S E hF hFn hN 14 v0 v1 v2 v3 v4 v5 h r e).1 rfl
set_option maxHeartbeats 4000000 in
set_option maxRecDepth 20000 in
theorem s11_deep_c137 {Y : m_Y Int} (S : m_Std Y RX11 cX11_deep) (E : m_End Y cX11_deep .ireturn (fun r => [m_i r])) {F : Nat} (hF : m_Rm Y F) (hFn : 4 ≤ F) (hN : Y.2.2.2.1 = 7) (v0 v1 v2 v3 v4 v5 : Int) (h : m_H) : m_Sim Y 137 [(0, m_r v0), (1, m_i v1), (2, m_i v2), (3, m_i v3), (4, m_i v4), (5, m_i v5)] [] h (t11_deep_x14 137 v0 v1 v2 v3 v4 v5 h) := ms_all fun r e => (s11_deep_x14 S E hF hFn hN 137 v0 v1 v2 v3 v4 v5 h r e).2.1 rfl
set_option maxHeartbeats 4000000 in
set_option maxRecDepth 20000 in
theorem s11_deep_c164 {Y : m_Y Int} (S : m_Std Y RX11 cX11_deep) (E : m_End Y cX11_deep .ireturn (fun r => [m_i r])) {F : Nat} (hF : m_Rm Y F) (hFn : 4 ≤ F) (hN : Y.2.2.2.1 = 7) (v0 v1 v2 v3 v4 v5 : Int) (h : m_H) : m_Sim Y 164 [(0, m_r v0), (1, m_i v1), (2, m_i v2), (3, m_i v3), (4, m_i v4), (5, m_i v5)] [] h (t11_deep_x14 164 v0 v1 v2 v3 v4 v5 h) := ms_all fun r e => (s11_deep_x14 S E hF hFn hN 164 v0 v1 v2 v3 v4 v5 h r e).2.2.1 rfl
set_option maxHeartbeats 4000000 in
set_option maxRecDepth 20000 in
theorem s11_deep_c167 {Y : m_Y Int} (S : m_Std Y RX11 cX11_deep) (E : m_End Y cX11_deep .ireturn (fun r => [m_i r])) {F : Nat} (hF : m_Rm Y F) (hFn : 4 ≤ F) (hN : Y.2.2.2.1 = 7) (v0 v1 v2 v3 v4 v5 : Int) (h : m_H) : m_Sim Y 167 [(0, m_r v0), (1, m_i v1), (2, m_i v2), (3, m_i v3), (4, m_i v4), (5, m_i v5)] [] h (t11_deep_x14 167 v0 v1 v2 v3 v4 v5 h) := ms_all fun r e => (s11_deep_x14 S E hF hFn hN 167 v0 v1 v2 v3 v4 v5 h r e).2.2.2 rfl
set_option maxHeartbeats 4000000 in
set_option maxRecDepth 20000 in
theorem s11_deep {Y : m_Y Int} (S : m_Std Y RX11 cX11_deep) (E : m_End Y cX11_deep .ireturn (fun r => [m_i r])) {F : Nat} (hF : m_Rm Y F) (hFn : 4 ≤ F) (hN : Y.2.2.2.1 = 7) (v0 v1 : Int) (h : m_H) : m_Sim Y 0 [(0, m_r v0), (1, m_i v1)] [] h (t11_deep v0 v1 h) := by
  unfold t11_deep
  refine ms_aload_n (pc := 0) S 0 rfl rfl (m_dec e11_deep 0 rfl) ?_
  refine ms_iload_n (pc := 1) S 1 rfl rfl (m_dec e11_deep 1 rfl) ?_
  refine ms_grd fun g1 => ?_
  refine ms_callVz (pc := 2) S hF (vals := [m_i v1]) (st := []) (hc := vw_11) (hci := by decide) (hcy := rfl) (ht := g1) (hC := (k11_isScore _ _ v0 v1 h)) (hM := lm_X11_511) (hfr := (Nat.le_trans (by decide) hFn)) (hstk := rfl) (hcat := Nat.le_of_ble_eq_true rfl) (hd := (m_dec e11_deep 2 rfl)) (k1 := fun r3 h2 => ?_)
  refine ms_ifb_ne (pc := 5) S (m_dec e11_deep 3 rfl) rfl (fun q4 => ?_) (fun q4 => ?_)
  · refine ms_iconst (pc := 10) S (m_dec e11_deep 6 rfl) ?_
    refine ms_istore_n (pc := 11) S (L' := [(0, m_r v0), (1, m_i v1), (2, m_i (-1))]) [1, 2, 0] rfl rfl (m_lt hN rfl) (m_dec e11_deep 7 rfl) ?_
    refine ms_iconst (pc := 12) S (m_dec e11_deep 8 rfl) ?_
    refine ms_istore_n (pc := 13) S (L' := [(0, m_r v0), (1, m_i v1), (2, m_i (-1)), (3, m_i 0)]) [1, 2, 3, 0] rfl rfl (m_lt hN rfl) (m_dec e11_deep 9 rfl) ?_
    exact s11_deep_c14 S E hF hFn hN v0 v1 (-1) 0 0 0 h2
  · refine ms_iconst (pc := 8) S (m_dec e11_deep 4 rfl) ?_
    exact ms_ret (pc := 9) E (m_dec e11_deep 5 rfl) rfl
theorem k11_deep (l : Launch) (d : m_D) (v0 v1 : Int) (h : m_H) : m_Con l d yX11_deep cX11_deep 7 (some .int) 4 (fun r => [m_i r]) [m_r v0, m_i v1] h (t11_deep v0 v1 h) :=
  m_con2 (by decide +kernel) (Nat.le_of_ble_eq_true rfl) (fun Y hN hRm hr hI S hfin => s11_deep S (m_end_i S hr hfin) hRm (Nat.le_refl _) hN v0 v1 h)
set_option maxRecDepth 100000 in
theorem e11_tape : ∀ q ∈ ([(0, .iload_n 1, 1), (1, .i2l, 1), (2, .lconst 1, 1), (3, .aload_n 0, 1), (4, .getfield 275, 3), (7, .i2l, 1), (8, .invokestatic 268, 3), (11, .ifCond .eq 15, 3), (14, .aload_n 0, 1), (15, .getfield 565, 3), (18, .iload_n 1, 1), (19, .iadd, 1), (20, .sipush 1000, 3), (23, .if_icmp .le 5, 3), (26, .iconst (-1), 1), (27, .ireturn, 1), (28, .iconst 0, 1), (29, .istore_n 2, 1), (30, .iload_n 2, 1), (31, .iload_n 1, 1), (32, .if_icmp .ge 26, 3), (35, .aload_n 0, 1), (36, .getfield 253, 3), (39, .aload_n 0, 1), (40, .getfield 565, 3), (43, .iload_n 2, 1), (44, .iadd, 1), (45, .aload_n 0, 1), (46, .getfield 17, 3), (49, .iload_n 2, 1), (50, .iaload, 1), (51, .iastore, 1), (52, .iinc 2 1, 3), (55, .goto (-25), 3), (58, .aload_n 0, 1), (59, .dup, 1), (60, .getfield 565, 3), (63, .iload_n 1, 1), (64, .iadd, 1), (65, .putfield 565, 3), (68, .aload_n 0, 1), (69, .iload_n 1, 1), (70, .invokevirtual 300, 3), (73, .aload_n 0, 1), (74, .getfield 565, 3), (77, .ireturn, 1)] : List (Nat × Instr × Nat)), decode cX11_tape q.1 = .ok q.2 := by decide +kernel
set_option maxHeartbeats 4000000 in
set_option maxRecDepth 20000 in
theorem s11_tape_c30 {Y : m_Y Int} (S : m_Std Y RX11 cX11_tape) (E : m_End Y cX11_tape .ireturn (fun r => [m_i r])) {F : Nat} (hF : m_Rm Y F) (hFn : 1 ≤ F) (hN : Y.2.2.2.1 = 3) : ∀ (v0 v1 v2 : Int) (h : m_H), m_Sim Y 30 [(0, m_r v0), (1, m_i v1), (2, m_i v2)] [] h (t11_tape_c30 v0 v1 v2 h) := by
  intro v0 v1 v2 h
  refine ms_all fun r e => ?_
  refine t11_tape_c30.partial_correctness v0 v1 (motive := fun v2 h r => m_Sim Y 30 [(0, m_r v0), (1, m_i v1), (2, m_i v2)] [] h (some r)) ?_ v2 h r e
  intro f ih v2 h r e
  have ih : ∀ (v2 : Int) (h : m_H), m_Sim Y 30 [(0, m_r v0), (1, m_i v1), (2, m_i v2)] [] h (f v2 h ) := fun v2 h  => ms_all fun r e => ih v2 h r e
  refine ms_use ?_ e
  clear e r
  refine ms_iload_n (pc := 30) S 2 rfl rfl (m_dec e11_tape 18 rfl) ?_
  refine ms_iload_n (pc := 31) S 1 rfl rfl (m_dec e11_tape 19 rfl) ?_
  refine ms_icmp_ge (pc := 32) S (m_dec e11_tape 20 rfl) rfl (fun q1 => ?_) (fun q1 => ?_)
  · refine ms_aload_n (pc := 35) S 0 rfl rfl (m_dec e11_tape 21 rfl) ?_
    refine ms_grd fun g2 => ?_
    refine ms_getf (pc := 36) S lf_X11_253 rfl (m_dec e11_tape 22 rfl) g2 ?_
    refine ms_aload_n (pc := 39) S 0 rfl rfl (m_dec e11_tape 23 rfl) ?_
    refine ms_getf (pc := 40) S lf_X11_565 rfl (m_dec e11_tape 24 rfl) g2 ?_
    refine ms_iload_n (pc := 43) S 2 rfl rfl (m_dec e11_tape 25 rfl) ?_
    refine ms_iadd (pc := 44) S (m_dec e11_tape 26 rfl) ?_
    refine ms_aload_n (pc := 45) S 0 rfl rfl (m_dec e11_tape 27 rfl) ?_
    refine ms_getf (pc := 46) S lf_X11_17 rfl (m_dec e11_tape 28 rfl) g2 ?_
    refine ms_iload_n (pc := 49) S 2 rfl rfl (m_dec e11_tape 29 rfl) ?_
    refine ms_grd fun g3 => ?_
    refine ms_iald (pc := 50) S g3 (m_dec e11_tape 30 rfl) ?_
    refine ms_grd fun g4 => ?_
    refine ms_iast (pc := 51) S g4 (m_dec e11_tape 31 rfl) (fun h5 => ?_)
    refine ms_iinc (pc := 52) S (L' := [(0, m_r v0), (1, m_i v1), (2, m_i (v2 + 1))]) 2 rfl [1, 2, 0] rfl (m_lt hN rfl) (m_dec e11_tape 32 rfl) ?_
    refine ms_goto (pc := 55) S (m_dec e11_tape 33 rfl) rfl ?_
    exact ih (v2 + 1) h5
  · refine ms_aload_n (pc := 58) S 0 rfl rfl (m_dec e11_tape 34 rfl) ?_
    refine ms_dup (pc := 59) S rfl (m_dec e11_tape 35 rfl) ?_
    refine ms_grd fun g6 => ?_
    refine ms_getf (pc := 60) S lf_X11_565 rfl (m_dec e11_tape 36 rfl) g6 ?_
    refine ms_iload_n (pc := 63) S 1 rfl rfl (m_dec e11_tape 37 rfl) ?_
    refine ms_iadd (pc := 64) S (m_dec e11_tape 38 rfl) ?_
    refine ms_putf (pc := 65) S lp_X11_565 (fun z => by cases z) rfl (fun d => m_fitI d _) (m_dec e11_tape 39 rfl) g6 (fun h7 => ?_)
    refine ms_aload_n (pc := 68) S 0 rfl rfl (m_dec e11_tape 40 rfl) ?_
    refine ms_iload_n (pc := 69) S 1 rfl rfl (m_dec e11_tape 41 rfl) ?_
    refine ms_grd fun g8 => ?_
    refine ms_callVv (pc := 70) S hF (vals := [m_i v1]) (st := []) (hc := vw_11) (hci := by decide) (hcy := rfl) (ht := g8) (hC := (k11_handLoses _ _ v0 v1 h7)) (hM := lm_X11_300) (hfr := (Nat.le_trans (by decide) hFn)) (hstk := rfl) (hcat := Nat.le_of_ble_eq_true rfl) (hd := (m_dec e11_tape 42 rfl)) (k1 := fun h9 => ?_)
    refine ms_aload_n (pc := 73) S 0 rfl rfl (m_dec e11_tape 43 rfl) ?_
    refine ms_grd fun g11 => ?_
    refine ms_getf (pc := 74) S lf_X11_565 rfl (m_dec e11_tape 44 rfl) g11 ?_
    exact ms_ret (pc := 77) E (m_dec e11_tape 45 rfl) rfl
set_option maxHeartbeats 4000000 in
set_option maxRecDepth 20000 in
theorem s11_tape {Y : m_Y Int} (S : m_Std Y RX11 cX11_tape) (E : m_End Y cX11_tape .ireturn (fun r => [m_i r])) {F : Nat} (hF : m_Rm Y F) (hFn : 1 ≤ F) (hN : Y.2.2.2.1 = 3) (v0 v1 : Int) (h : m_H) : m_Sim Y 0 [(0, m_r v0), (1, m_i v1)] [] h (t11_tape v0 v1 h) := by
  unfold t11_tape
  refine ms_iload_n (pc := 0) S 1 rfl rfl (m_dec e11_tape 0 rfl) ?_
  refine ms_i2l (pc := 1) S (m_dec e11_tape 1 rfl) ?_
  refine ms_lconst (pc := 2) S (n := 1) rfl (m_dec e11_tape 2 rfl) ?_
  refine ms_aload_n (pc := 3) S 0 rfl rfl (m_dec e11_tape 3 rfl) ?_
  refine ms_grd fun g1 => ?_
  refine ms_getf (pc := 4) S lf_X11_275 rfl (m_dec e11_tape 4 rfl) g1 ?_
  refine ms_i2l (pc := 7) S (m_dec e11_tape 5 rfl) ?_
  refine ms_callSz (pc := 8) S hF (vals := [m_j (m_w v1), m_j 1, m_j (m_w (m_g h v0 16))]) (st := [])  (hC := (k11_in _ _ (m_w v1) 1 (m_w (m_g h v0 16)) h)) (hM := lm_X11_268) (hfr := (Nat.le_trans (by decide) hFn)) (hstk := rfl) (hcat := Nat.le_of_ble_eq_true rfl) (hd := (m_dec e11_tape 6 rfl)) (k1 := fun r3 h2 => ?_)
  refine ms_ifb_eq (pc := 11) S (m_dec e11_tape 7 rfl) rfl (fun q4 => ?_) (fun q4 => ?_)
  · refine ms_aload_n (pc := 14) S 0 rfl rfl (m_dec e11_tape 8 rfl) ?_
    refine ms_grd fun g5 => ?_
    refine ms_getf (pc := 15) S lf_X11_565 rfl (m_dec e11_tape 9 rfl) g5 ?_
    refine ms_iload_n (pc := 18) S 1 rfl rfl (m_dec e11_tape 10 rfl) ?_
    refine ms_iadd (pc := 19) S (m_dec e11_tape 11 rfl) ?_
    refine ms_sipush (pc := 20) S (m_dec e11_tape 12 rfl) rfl ?_
    refine ms_icmp_le (pc := 23) S (m_dec e11_tape 13 rfl) rfl (fun q6 => ?_) (fun q6 => ?_)
    · refine ms_iconst (pc := 26) S (m_dec e11_tape 14 rfl) ?_
      exact ms_ret (pc := 27) E (m_dec e11_tape 15 rfl) rfl
    · refine ms_iconst (pc := 28) S (m_dec e11_tape 16 rfl) ?_
      refine ms_istore_n (pc := 29) S (L' := [(0, m_r v0), (1, m_i v1), (2, m_i 0)]) [1, 2, 0] rfl rfl (m_lt hN rfl) (m_dec e11_tape 17 rfl) ?_
      exact s11_tape_c30 S E hF hFn hN v0 v1 0 h2
  · refine ms_iconst (pc := 26) S (m_dec e11_tape 14 rfl) ?_
    exact ms_ret (pc := 27) E (m_dec e11_tape 15 rfl) rfl
theorem k11_tape (l : Launch) (d : m_D) (v0 v1 : Int) (h : m_H) : m_Con l d yX11_tape cX11_tape 3 (some .int) 1 (fun r => [m_i r]) [m_r v0, m_i v1] h (t11_tape v0 v1 h) :=
  m_con2 (by decide +kernel) (Nat.le_of_ble_eq_true rfl) (fun Y hN hRm hr hI S hfin => s11_tape S (m_end_i S hr hfin) hRm (Nat.le_refl _) hN v0 v1 h)
set_option maxRecDepth 100000 in
theorem e11_wipe : ∀ q ∈ ([(0, .aload_n 0, 1), (1, .getfield 565, 3), (4, .istore_n 1, 1), (5, .aload_n 0, 1), (6, .iconst 0, 1), (7, .putfield 565, 3), (10, .iload_n 1, 1), (11, .ireturn, 1)] : List (Nat × Instr × Nat)), decode cX11_wipe q.1 = .ok q.2 := by decide +kernel
set_option maxHeartbeats 4000000 in
set_option maxRecDepth 20000 in
theorem s11_wipe {Y : m_Y Int} (S : m_Std Y RX11 cX11_wipe) (E : m_End Y cX11_wipe .ireturn (fun r => [m_i r])) {F : Nat} (hF : m_Rm Y F) (hFn : 0 ≤ F) (hN : Y.2.2.2.1 = 2) (v0 : Int) (h : m_H) : m_Sim Y 0 [(0, m_r v0)] [] h (t11_wipe v0 h) := by
  unfold t11_wipe
  refine ms_aload_n (pc := 0) S 0 rfl rfl (m_dec e11_wipe 0 rfl) ?_
  refine ms_grd fun g1 => ?_
  refine ms_getf (pc := 1) S lf_X11_565 rfl (m_dec e11_wipe 1 rfl) g1 ?_
  refine ms_nm (st := fun x2 => [m_i x2]) fun x2 => ?_
  refine ms_istore_n (pc := 4) S (L' := [(0, m_r v0), (1, m_i x2)]) [1, 0] rfl rfl (m_lt hN rfl) (m_dec e11_wipe 2 rfl) ?_
  refine ms_aload_n (pc := 5) S 0 rfl rfl (m_dec e11_wipe 3 rfl) ?_
  refine ms_iconst (pc := 6) S (m_dec e11_wipe 4 rfl) ?_
  refine ms_putf (pc := 7) S lp_X11_565 (fun z => by cases z) rfl (fun d => m_fitI d _) (m_dec e11_wipe 5 rfl) g1 (fun h3 => ?_)
  refine ms_iload_n (pc := 10) S 1 rfl rfl (m_dec e11_wipe 6 rfl) ?_
  exact ms_ret (pc := 11) E (m_dec e11_wipe 7 rfl) rfl
theorem k11_wipe (l : Launch) (d : m_D) (v0 : Int) (h : m_H) : m_Con l d yX11_wipe cX11_wipe 2 (some .int) 0 (fun r => [m_i r]) [m_r v0] h (t11_wipe v0 h) :=
  m_con2 (by decide +kernel) (Nat.le_of_ble_eq_true rfl) (fun Y hN hRm hr hI S hfin => s11_wipe S (m_end_i S hr hfin) hRm (Nat.le_refl _) hN v0 h)
set_option maxRecDepth 100000 in
theorem e11_gives : ∀ q ∈ ([(0, .iconst 0, 1), (1, .istore_n 3, 1), (2, .iload_n 3, 1), (3, .aload_n 0, 1), (4, .getfield 23, 3), (7, .iload_n 1, 1), (8, .iaload, 1), (9, .if_icmp .ge 21, 3), (12, .aload_n 0, 1), (13, .getfield 77, 3), (16, .iload_n 3, 1), (17, .aload_n 0, 1), (18, .iload_n 1, 1), (19, .iload_n 3, 1), (20, .invokevirtual 311, 3), (23, .iastore, 1), (24, .iinc 3 1, 3), (27, .goto (-25), 3), (30, .iload_n 2, 1), (31, .iconst 2, 1), (32, .if_icmp .ne 7, 3), (35, .iconst 1, 1), (36, .goto 13, 3), (39, .iload_n 2, 1), (40, .iconst 3, 1), (41, .if_icmp .ne 7, 3), (44, .iconst 2, 1), (45, .goto 4, 3), (48, .iconst 1, 1), (49, .istore_n 3, 1), (50, .iload_n 2, 1), (51, .iconst 2, 1), (52, .if_icmp .ne 7, 3), (55, .iconst 2, 1), (56, .goto 4, 3), (59, .iconst 1, 1), (60, .istore 4, 2), (62, .aload_n 0, 1), (63, .aload_n 0, 1), (64, .getfield 23, 3), (67, .iload_n 1, 1), (68, .iaload, 1), (69, .iload_n 3, 1), (70, .iload 4, 2), (72, .invokestatic 339, 3), (75, .putfield 568, 3), (78, .iconst 0, 1), (79, .istore 5, 2), (81, .iload 5, 2), (83, .aload_n 0, 1), (84, .getfield 568, 3), (87, .if_icmp .ge 55, 3), (90, .aload_n 0, 1), (91, .getfield 256, 3), (94, .iload 5, 2), (96, .iload_n 2, 1), (97, .iconst 1, 1), (98, .if_icmp .ne 22, 3), (101, .aload_n 0, 1), (102, .getfield 77, 3), (105, .aload_n 0, 1), (106, .getfield 23, 3), (109, .iload_n 1, 1), (110, .iaload, 1), (111, .iconst 1, 1), (112, .isub, 1), (113, .iload 5, 2), (115, .isub, 1), (116, .iaload, 1), (117, .goto 18, 3), (120, .aload_n 0, 1), (121, .aload_n 0, 1), (122, .getfield 23, 3), (125, .iload_n 1, 1), (126, .iaload, 1), (127, .iload 5, 2), (129, .iload_n 3, 1), (130, .iload 4, 2), (132, .invokevirtual 343, 3), (135, .iastore, 1), (136, .iinc 5 1, 3), (139, .goto (-58), 3), (142, .return_, 1)] : List (Nat × Instr × Nat)), decode cX11_gives q.1 = .ok q.2 := by decide +kernel
set_option maxHeartbeats 4000000 in
set_option maxRecDepth 20000 in
theorem s11_gives_c81 {Y : m_Y Unit} (S : m_Std Y RX11 cX11_gives) (E : m_End Y cX11_gives .return_ (fun _ => [])) {F : Nat} (hF : m_Rm Y F) (hFn : 2 ≤ F) (hN : Y.2.2.2.1 = 6) : ∀ (v0 v1 v2 v3 v4 v5 : Int) (h : m_H), m_Sim Y 81 [(0, m_r v0), (1, m_i v1), (2, m_i v2), (3, m_i v3), (4, m_i v4), (5, m_i v5)] [] h (t11_gives_c81 v0 v1 v2 v3 v4 v5 h) := by
  intro v0 v1 v2 v3 v4 v5 h
  refine ms_all fun r e => ?_
  refine t11_gives_c81.partial_correctness v0 v1 v2 v3 v4 (motive := fun v5 h r => m_Sim Y 81 [(0, m_r v0), (1, m_i v1), (2, m_i v2), (3, m_i v3), (4, m_i v4), (5, m_i v5)] [] h (some r)) ?_ v5 h r e
  intro f ih v5 h r e
  have ih : ∀ (v5 : Int) (h : m_H), m_Sim Y 81 [(0, m_r v0), (1, m_i v1), (2, m_i v2), (3, m_i v3), (4, m_i v4), (5, m_i v5)] [] h (f v5 h ) := fun v5 h  => ms_all fun r e => ih v5 h r e
  refine ms_use ?_ e
  clear e r
  refine ms_iload (pc := 81) S 5 rfl (m_dec e11_gives 48 rfl) ?_
  refine ms_aload_n (pc := 83) S 0 rfl rfl (m_dec e11_gives 49 rfl) ?_
  refine ms_grd fun g1 => ?_
  refine ms_getf (pc := 84) S lf_X11_568 rfl (m_dec e11_gives 50 rfl) g1 ?_
  refine ms_icmp_ge (pc := 87) S (m_dec e11_gives 51 rfl) rfl (fun q2 => ?_) (fun q2 => ?_)
  · refine ms_aload_n (pc := 90) S 0 rfl rfl (m_dec e11_gives 52 rfl) ?_
    refine ms_getf (pc := 91) S lf_X11_256 rfl (m_dec e11_gives 53 rfl) g1 ?_
    refine ms_iload (pc := 94) S 5 rfl (m_dec e11_gives 54 rfl) ?_
    refine ms_iload_n (pc := 96) S 2 rfl rfl (m_dec e11_gives 55 rfl) ?_
    refine ms_iconst (pc := 97) S (m_dec e11_gives 56 rfl) ?_
    refine ms_icmp_ne (pc := 98) S (m_dec e11_gives 57 rfl) rfl (fun q3 => ?_) (fun q3 => ?_)
    · refine ms_aload_n (pc := 101) S 0 rfl rfl (m_dec e11_gives 58 rfl) ?_
      refine ms_getf (pc := 102) S lf_X11_77 rfl (m_dec e11_gives 59 rfl) g1 ?_
      refine ms_aload_n (pc := 105) S 0 rfl rfl (m_dec e11_gives 60 rfl) ?_
      refine ms_getf (pc := 106) S lf_X11_23 rfl (m_dec e11_gives 61 rfl) g1 ?_
      refine ms_iload_n (pc := 109) S 1 rfl rfl (m_dec e11_gives 62 rfl) ?_
      refine ms_grd fun g4 => ?_
      refine ms_iald (pc := 110) S g4 (m_dec e11_gives 63 rfl) ?_
      refine ms_iconst (pc := 111) S (m_dec e11_gives 64 rfl) ?_
      refine ms_isub (pc := 112) S (m_dec e11_gives 65 rfl) ?_
      refine ms_iload (pc := 113) S 5 rfl (m_dec e11_gives 66 rfl) ?_
      refine ms_isub (pc := 115) S (m_dec e11_gives 67 rfl) ?_
      refine ms_grd fun g5 => ?_
      refine ms_iald (pc := 116) S g5 (m_dec e11_gives 68 rfl) ?_
      refine ms_goto (pc := 117) S (m_dec e11_gives 69 rfl) rfl ?_
      refine ms_grd fun g6 => ?_
      refine ms_iast (pc := 135) S g6 (m_dec e11_gives 79 rfl) (fun h7 => ?_)
      refine ms_iinc (pc := 136) S (L' := [(0, m_r v0), (1, m_i v1), (2, m_i v2), (3, m_i v3), (4, m_i v4), (5, m_i (v5 + 1))]) 5 rfl [1, 2, 3, 4, 5, 0] rfl (m_lt hN rfl) (m_dec e11_gives 80 rfl) ?_
      refine ms_goto (pc := 139) S (m_dec e11_gives 81 rfl) rfl ?_
      exact ih (v5 + 1) h7
    · refine ms_aload_n (pc := 120) S 0 rfl rfl (m_dec e11_gives 70 rfl) ?_
      refine ms_aload_n (pc := 121) S 0 rfl rfl (m_dec e11_gives 71 rfl) ?_
      refine ms_getf (pc := 122) S lf_X11_23 rfl (m_dec e11_gives 72 rfl) g1 ?_
      refine ms_iload_n (pc := 125) S 1 rfl rfl (m_dec e11_gives 73 rfl) ?_
      refine ms_grd fun g8 => ?_
      refine ms_iald (pc := 126) S g8 (m_dec e11_gives 74 rfl) ?_
      refine ms_iload (pc := 127) S 5 rfl (m_dec e11_gives 75 rfl) ?_
      refine ms_iload_n (pc := 129) S 3 rfl rfl (m_dec e11_gives 76 rfl) ?_
      refine ms_iload (pc := 130) S 4 rfl (m_dec e11_gives 77 rfl) ?_
      refine ms_callVi (pc := 132) S hF (vals := [m_i (m_g h (m_g h v0 3) (m_w v1)), m_i v5, m_i v3, m_i v4]) (st := [m_i v5, m_r (m_g h v0 82)]) (hc := vw_11) (hci := by decide) (hcy := rfl) (ht := g1) (hC := (k11_sampleAt _ _ v0 (m_g h (m_g h v0 3) (m_w v1)) v5 v3 v4 h)) (hM := lm_X11_343) (hfr := (Nat.le_trans (by decide) hFn)) (hstk := rfl) (hcat := Nat.le_of_ble_eq_true rfl) (hd := (m_dec e11_gives 78 rfl)) (k1 := fun r10 h9 => ?_)
      refine ms_grd fun g11 => ?_
      refine ms_iast (pc := 135) S g11 (m_dec e11_gives 79 rfl) (fun h12 => ?_)
      refine ms_iinc (pc := 136) S (L' := [(0, m_r v0), (1, m_i v1), (2, m_i v2), (3, m_i v3), (4, m_i v4), (5, m_i (v5 + 1))]) 5 rfl [1, 2, 3, 4, 5, 0] rfl (m_lt hN rfl) (m_dec e11_gives 80 rfl) ?_
      refine ms_goto (pc := 139) S (m_dec e11_gives 81 rfl) rfl ?_
      exact ih (v5 + 1) h12
  · exact ms_ret (pc := 142) E (m_dec e11_gives 82 rfl) rfl
set_option maxHeartbeats 4000000 in
set_option maxRecDepth 20000 in
theorem s11_gives_c60 {Y : m_Y Unit} (S : m_Std Y RX11 cX11_gives) (E : m_End Y cX11_gives .return_ (fun _ => [])) {F : Nat} (hF : m_Rm Y F) (hFn : 2 ≤ F) (hN : Y.2.2.2.1 = 6) (v0 v1 v2 v3 s0 : Int) (h : m_H) : m_Sim Y 60 [(0, m_r v0), (1, m_i v1), (2, m_i v2), (3, m_i v3)] [m_i s0] h (t11_gives_c60 v0 v1 v2 v3 s0 h) := by
  unfold t11_gives_c60
  refine ms_istore (pc := 60) S (L' := [(0, m_r v0), (1, m_i v1), (2, m_i v2), (3, m_i v3), (4, m_i s0)]) [1, 2, 3, 4, 0] rfl (m_lt hN rfl) (m_dec e11_gives 36 rfl) ?_
  refine ms_aload_n (pc := 62) S 0 rfl rfl (m_dec e11_gives 37 rfl) ?_
  refine ms_aload_n (pc := 63) S 0 rfl rfl (m_dec e11_gives 38 rfl) ?_
  refine ms_grd fun g1 => ?_
  refine ms_getf (pc := 64) S lf_X11_23 rfl (m_dec e11_gives 39 rfl) g1 ?_
  refine ms_iload_n (pc := 67) S 1 rfl rfl (m_dec e11_gives 40 rfl) ?_
  refine ms_grd fun g2 => ?_
  refine ms_iald (pc := 68) S g2 (m_dec e11_gives 41 rfl) ?_
  refine ms_iload_n (pc := 69) S 3 rfl rfl (m_dec e11_gives 42 rfl) ?_
  refine ms_iload (pc := 70) S 4 rfl (m_dec e11_gives 43 rfl) ?_
  refine ms_callSi (pc := 72) S hF (vals := [m_i (m_g h (m_g h v0 3) (m_w v1)), m_i v3, m_i s0]) (st := [m_r v0])  (hC := (k11_longAt _ _ (m_g h (m_g h v0 3) (m_w v1)) v3 s0 h)) (hM := lm_X11_339) (hfr := (Nat.le_trans (by decide) hFn)) (hstk := rfl) (hcat := Nat.le_of_ble_eq_true rfl) (hd := (m_dec e11_gives 44 rfl)) (k1 := fun r4 h3 => ?_)
  refine ms_grd fun g5 => ?_
  refine ms_putf (pc := 75) S lp_X11_568 (fun z => by cases z) rfl (fun d => m_fitI d _) (m_dec e11_gives 45 rfl) g5 (fun h6 => ?_)
  refine ms_iconst (pc := 78) S (m_dec e11_gives 46 rfl) ?_
  refine ms_istore (pc := 79) S (L' := [(0, m_r v0), (1, m_i v1), (2, m_i v2), (3, m_i v3), (4, m_i s0), (5, m_i 0)]) [1, 2, 3, 4, 5, 0] rfl (m_lt hN rfl) (m_dec e11_gives 47 rfl) ?_
  exact s11_gives_c81 S E hF hFn hN v0 v1 v2 v3 s0 0 h6
set_option maxHeartbeats 4000000 in
set_option maxRecDepth 20000 in
theorem s11_gives_c49 {Y : m_Y Unit} (S : m_Std Y RX11 cX11_gives) (E : m_End Y cX11_gives .return_ (fun _ => [])) {F : Nat} (hF : m_Rm Y F) (hFn : 2 ≤ F) (hN : Y.2.2.2.1 = 6) (v0 v1 v2 s0 : Int) (h : m_H) : m_Sim Y 49 [(0, m_r v0), (1, m_i v1), (2, m_i v2)] [m_i s0] h (t11_gives_c49 v0 v1 v2 s0 h) := by
  unfold t11_gives_c49
  refine ms_istore_n (pc := 49) S (L' := [(0, m_r v0), (1, m_i v1), (2, m_i v2), (3, m_i s0)]) [1, 2, 3, 0] rfl rfl (m_lt hN rfl) (m_dec e11_gives 29 rfl) ?_
  refine ms_iload_n (pc := 50) S 2 rfl rfl (m_dec e11_gives 30 rfl) ?_
  refine ms_iconst (pc := 51) S (m_dec e11_gives 31 rfl) ?_
  refine ms_icmp_ne (pc := 52) S (m_dec e11_gives 32 rfl) rfl (fun q1 => ?_) (fun q1 => ?_)
  · refine ms_iconst (pc := 55) S (m_dec e11_gives 33 rfl) ?_
    refine ms_goto (pc := 56) S (m_dec e11_gives 34 rfl) rfl ?_
    exact s11_gives_c60 S E hF hFn hN v0 v1 v2 s0 2 h
  · refine ms_iconst (pc := 59) S (m_dec e11_gives 35 rfl) ?_
    exact s11_gives_c60 S E hF hFn hN v0 v1 v2 s0 1 h
set_option maxHeartbeats 4000000 in
set_option maxRecDepth 20000 in
theorem s11_gives_c2 {Y : m_Y Unit} (S : m_Std Y RX11 cX11_gives) (E : m_End Y cX11_gives .return_ (fun _ => [])) {F : Nat} (hF : m_Rm Y F) (hFn : 2 ≤ F) (hN : Y.2.2.2.1 = 6) : ∀ (v0 v1 v2 v3 : Int) (h : m_H), m_Sim Y 2 [(0, m_r v0), (1, m_i v1), (2, m_i v2), (3, m_i v3)] [] h (t11_gives_c2 v0 v1 v2 v3 h) := by
  intro v0 v1 v2 v3 h
  refine ms_all fun r e => ?_
  refine t11_gives_c2.partial_correctness v0 v1 v2 (motive := fun v3 h r => m_Sim Y 2 [(0, m_r v0), (1, m_i v1), (2, m_i v2), (3, m_i v3)] [] h (some r)) ?_ v3 h r e
  intro f ih v3 h r e
  have ih : ∀ (v3 : Int) (h : m_H), m_Sim Y 2 [(0, m_r v0), (1, m_i v1), (2, m_i v2), (3, m_i v3)] [] h (f v3 h ) := fun v3 h  => ms_all fun r e => ih v3 h r e
  refine ms_use ?_ e
  clear e r
  refine ms_iload_n (pc := 2) S 3 rfl rfl (m_dec e11_gives 2 rfl) ?_
  refine ms_aload_n (pc := 3) S 0 rfl rfl (m_dec e11_gives 3 rfl) ?_
  refine ms_grd fun g1 => ?_
  refine ms_getf (pc := 4) S lf_X11_23 rfl (m_dec e11_gives 4 rfl) g1 ?_
  refine ms_iload_n (pc := 7) S 1 rfl rfl (m_dec e11_gives 5 rfl) ?_
  refine ms_grd fun g2 => ?_
  refine ms_iald (pc := 8) S g2 (m_dec e11_gives 6 rfl) ?_
  refine ms_icmp_ge (pc := 9) S (m_dec e11_gives 7 rfl) rfl (fun q3 => ?_) (fun q3 => ?_)
  · refine ms_aload_n (pc := 12) S 0 rfl rfl (m_dec e11_gives 8 rfl) ?_
    refine ms_getf (pc := 13) S lf_X11_77 rfl (m_dec e11_gives 9 rfl) g1 ?_
    refine ms_iload_n (pc := 16) S 3 rfl rfl (m_dec e11_gives 10 rfl) ?_
    refine ms_aload_n (pc := 17) S 0 rfl rfl (m_dec e11_gives 11 rfl) ?_
    refine ms_iload_n (pc := 18) S 1 rfl rfl (m_dec e11_gives 12 rfl) ?_
    refine ms_iload_n (pc := 19) S 3 rfl rfl (m_dec e11_gives 13 rfl) ?_
    refine ms_callVi (pc := 20) S hF (vals := [m_i v1, m_i v3]) (st := [m_i v3, m_r (m_g h v0 28)]) (hc := vw_11) (hci := by decide) (hcy := rfl) (ht := g1) (hC := (k11_at _ _ v0 v1 v3 h)) (hM := lm_X11_311) (hfr := (Nat.le_trans (by decide) hFn)) (hstk := rfl) (hcat := Nat.le_of_ble_eq_true rfl) (hd := (m_dec e11_gives 14 rfl)) (k1 := fun r5 h4 => ?_)
    refine ms_grd fun g6 => ?_
    refine ms_iast (pc := 23) S g6 (m_dec e11_gives 15 rfl) (fun h7 => ?_)
    refine ms_iinc (pc := 24) S (L' := [(0, m_r v0), (1, m_i v1), (2, m_i v2), (3, m_i (v3 + 1))]) 3 rfl [1, 2, 3, 0] rfl (m_lt hN rfl) (m_dec e11_gives 16 rfl) ?_
    refine ms_goto (pc := 27) S (m_dec e11_gives 17 rfl) rfl ?_
    exact ih (v3 + 1) h7
  · refine ms_iload_n (pc := 30) S 2 rfl rfl (m_dec e11_gives 18 rfl) ?_
    refine ms_iconst (pc := 31) S (m_dec e11_gives 19 rfl) ?_
    refine ms_icmp_ne (pc := 32) S (m_dec e11_gives 20 rfl) rfl (fun q8 => ?_) (fun q8 => ?_)
    · refine ms_iconst (pc := 35) S (m_dec e11_gives 21 rfl) ?_
      refine ms_goto (pc := 36) S (m_dec e11_gives 22 rfl) rfl ?_
      refine ms_sub (pc := 49) (L' := [(0, m_r v0), (1, m_i v1), (2, m_i v2)]) [0, 1, 2] rfl ?_
      exact s11_gives_c49 S E hF hFn hN v0 v1 v2 1 h
    · refine ms_iload_n (pc := 39) S 2 rfl rfl (m_dec e11_gives 23 rfl) ?_
      refine ms_iconst (pc := 40) S (m_dec e11_gives 24 rfl) ?_
      refine ms_icmp_ne (pc := 41) S (m_dec e11_gives 25 rfl) rfl (fun q9 => ?_) (fun q9 => ?_)
      · refine ms_iconst (pc := 44) S (m_dec e11_gives 26 rfl) ?_
        refine ms_goto (pc := 45) S (m_dec e11_gives 27 rfl) rfl ?_
        refine ms_sub (pc := 49) (L' := [(0, m_r v0), (1, m_i v1), (2, m_i v2)]) [0, 1, 2] rfl ?_
        exact s11_gives_c49 S E hF hFn hN v0 v1 v2 2 h
      · refine ms_iconst (pc := 48) S (m_dec e11_gives 28 rfl) ?_
        refine ms_sub (pc := 49) (L' := [(0, m_r v0), (1, m_i v1), (2, m_i v2)]) [0, 1, 2] rfl ?_
        exact s11_gives_c49 S E hF hFn hN v0 v1 v2 1 h
set_option maxHeartbeats 4000000 in
set_option maxRecDepth 20000 in
theorem s11_gives {Y : m_Y Unit} (S : m_Std Y RX11 cX11_gives) (E : m_End Y cX11_gives .return_ (fun _ => [])) {F : Nat} (hF : m_Rm Y F) (hFn : 2 ≤ F) (hN : Y.2.2.2.1 = 6) (v0 v1 v2 : Int) (h : m_H) : m_Sim Y 0 [(0, m_r v0), (1, m_i v1), (2, m_i v2)] [] h (t11_gives v0 v1 v2 h) := by
  unfold t11_gives
  refine ms_iconst (pc := 0) S (m_dec e11_gives 0 rfl) ?_
  refine ms_istore_n (pc := 1) S (L' := [(0, m_r v0), (1, m_i v1), (2, m_i v2), (3, m_i 0)]) [1, 2, 3, 0] rfl rfl (m_lt hN rfl) (m_dec e11_gives 1 rfl) ?_
  exact s11_gives_c2 S E hF hFn hN v0 v1 v2 0 h
theorem k11_gives (l : Launch) (d : m_D) (v0 v1 v2 : Int) (h : m_H) : m_Con l d yX11_gives cX11_gives 6 none 2 (fun _ => []) [m_r v0, m_i v1, m_i v2] h (t11_gives v0 v1 v2 h) :=
  m_con2 (by decide +kernel) (Nat.le_of_ble_eq_true rfl) (fun Y hN hRm hr hI S hfin => s11_gives S (m_end_v S hr hfin) hRm (Nat.le_refl _) hN v0 v1 v2 h)
set_option maxRecDepth 100000 in
theorem e11_isLaid : ∀ q ∈ ([(0, .aload_n 0, 1), (1, .getfield 29, 3), (4, .iload_n 1, 1), (5, .iaload, 1), (6, .iconst 2, 1), (7, .if_icmp .ge 7, 3), (10, .iconst 1, 1), (11, .goto 4, 3), (14, .iconst 0, 1), (15, .ireturn, 1)] : List (Nat × Instr × Nat)), decode cX11_isLaid q.1 = .ok q.2 := by decide +kernel
set_option maxHeartbeats 4000000 in
set_option maxRecDepth 20000 in
theorem s11_isLaid {Y : m_Y Bool} (S : m_Std Y RX11 cX11_isLaid) (E : m_End Y cX11_isLaid .ireturn (fun r => [m_i (m_b2i r)])) {F : Nat} (hF : m_Rm Y F) (hFn : 0 ≤ F) (hN : Y.2.2.2.1 = 2) (v0 v1 : Int) (h : m_H) : m_Sim Y 0 [(0, m_r v0), (1, m_i v1)] [] h (t11_isLaid v0 v1 h) := by
  unfold t11_isLaid
  refine ms_aload_n (pc := 0) S 0 rfl rfl (m_dec e11_isLaid 0 rfl) ?_
  refine ms_grd fun g1 => ?_
  refine ms_getf (pc := 1) S lf_X11_29 rfl (m_dec e11_isLaid 1 rfl) g1 ?_
  refine ms_iload_n (pc := 4) S 1 rfl rfl (m_dec e11_isLaid 2 rfl) ?_
  refine ms_grd fun g2 => ?_
  refine ms_iald (pc := 5) S g2 (m_dec e11_isLaid 3 rfl) ?_
  refine ms_iconst (pc := 6) S (m_dec e11_isLaid 4 rfl) ?_
  refine ms_icmp_ge (pc := 7) S (m_dec e11_isLaid 5 rfl) rfl (fun q3 => ?_) (fun q3 => ?_)
  · refine ms_iconst (pc := 10) S (m_dec e11_isLaid 6 rfl) ?_
    refine ms_goto (pc := 11) S (m_dec e11_isLaid 7 rfl) rfl ?_
    exact ms_ret (pc := 15) E (m_dec e11_isLaid 9 rfl) rfl
  · refine ms_iconst (pc := 14) S (m_dec e11_isLaid 8 rfl) ?_
    exact ms_ret (pc := 15) E (m_dec e11_isLaid 9 rfl) rfl
theorem k11_isLaid (l : Launch) (d : m_D) (v0 v1 : Int) (h : m_H) : m_Con l d yX11_isLaid cX11_isLaid 2 (some .boolean) 0 (fun r => [m_i (m_b2i r)]) [m_r v0, m_i v1] h (t11_isLaid v0 v1 h) :=
  m_con2 (by decide +kernel) (Nat.le_of_ble_eq_true rfl) (fun Y hN hRm hr hI S hfin => s11_isLaid S (m_end_z S hr hfin) hRm (Nat.le_refl _) hN v0 v1 h)
set_option maxRecDepth 100000 in
theorem e11_differs : ∀ q ∈ ([(0, .iload_n 0, 1), (1, .iload_n 1, 1), (2, .if_icmp .ge 9, 3), (5, .iload_n 1, 1), (6, .iload_n 0, 1), (7, .isub, 1), (8, .goto 6, 3), (11, .iload_n 0, 1), (12, .iload_n 1, 1), (13, .isub, 1), (14, .ireturn, 1)] : List (Nat × Instr × Nat)), decode cX11_differs q.1 = .ok q.2 := by decide +kernel
set_option maxHeartbeats 4000000 in
set_option maxRecDepth 20000 in
theorem s11_differs {Y : m_Y Int} (S : m_Std Y RX11 cX11_differs) (E : m_End Y cX11_differs .ireturn (fun r => [m_i r])) {F : Nat} (hF : m_Rm Y F) (hFn : 0 ≤ F) (hN : Y.2.2.2.1 = 2) (v0 v1 : Int) (h : m_H) : m_Sim Y 0 [(0, m_i v0), (1, m_i v1)] [] h (t11_differs v0 v1 h) := by
  unfold t11_differs
  refine ms_iload_n (pc := 0) S 0 rfl rfl (m_dec e11_differs 0 rfl) ?_
  refine ms_iload_n (pc := 1) S 1 rfl rfl (m_dec e11_differs 1 rfl) ?_
  refine ms_icmp_ge (pc := 2) S (m_dec e11_differs 2 rfl) rfl (fun q1 => ?_) (fun q1 => ?_)
  · refine ms_iload_n (pc := 5) S 1 rfl rfl (m_dec e11_differs 3 rfl) ?_
    refine ms_iload_n (pc := 6) S 0 rfl rfl (m_dec e11_differs 4 rfl) ?_
    refine ms_isub (pc := 7) S (m_dec e11_differs 5 rfl) ?_
    refine ms_goto (pc := 8) S (m_dec e11_differs 6 rfl) rfl ?_
    exact ms_ret (pc := 14) E (m_dec e11_differs 10 rfl) rfl
  · refine ms_iload_n (pc := 11) S 0 rfl rfl (m_dec e11_differs 7 rfl) ?_
    refine ms_iload_n (pc := 12) S 1 rfl rfl (m_dec e11_differs 8 rfl) ?_
    refine ms_isub (pc := 13) S (m_dec e11_differs 9 rfl) ?_
    exact ms_ret (pc := 14) E (m_dec e11_differs 10 rfl) rfl
theorem k11_differs (l : Launch) (d : m_D) (v0 v1 : Int) (h : m_H) : m_Con l d yX11_differs cX11_differs 2 (some .int) 0 (fun r => [m_i r]) [m_i v0, m_i v1] h (t11_differs v0 v1 h) :=
  m_con2 (by decide +kernel) (Nat.le_of_ble_eq_true rfl) (fun Y hN hRm hr hI S hfin => s11_differs S (m_end_i S hr hfin) hRm (Nat.le_refl _) hN v0 v1 h)
set_option maxRecDepth 100000 in
theorem e11_canAsk : ∀ q ∈ ([(0, .iload_n 0, 1), (1, .i2l, 1), (2, .lconst 1, 1), (3, .ldc2_w 329, 3), (6, .invokestatic 268, 3), (9, .ifCond .eq 19, 3), (12, .iload_n 1, 1), (13, .i2l, 1), (14, .lconst 0, 1), (15, .ldc2_w 571, 3), (18, .invokestatic 268, 3), (21, .ifCond .eq 7, 3), (24, .iconst 1, 1), (25, .goto 4, 3), (28, .iconst 0, 1), (29, .ireturn, 1)] : List (Nat × Instr × Nat)), decode cX11_canAsk q.1 = .ok q.2 := by decide +kernel
set_option maxHeartbeats 4000000 in
set_option maxRecDepth 20000 in
theorem s11_canAsk {Y : m_Y Bool} (S : m_Std Y RX11 cX11_canAsk) (E : m_End Y cX11_canAsk .ireturn (fun r => [m_i (m_b2i r)])) {F : Nat} (hF : m_Rm Y F) (hFn : 1 ≤ F) (hN : Y.2.2.2.1 = 2) (v0 v1 : Int) (h : m_H) : m_Sim Y 0 [(0, m_i v0), (1, m_i v1)] [] h (t11_canAsk v0 v1 h) := by
  unfold t11_canAsk
  refine ms_iload_n (pc := 0) S 0 rfl rfl (m_dec e11_canAsk 0 rfl) ?_
  refine ms_i2l (pc := 1) S (m_dec e11_canAsk 1 rfl) ?_
  refine ms_lconst (pc := 2) S (n := 1) rfl (m_dec e11_canAsk 2 rfl) ?_
  refine ms_ldc2 (pc := 3) S (n := 100) w_1856 (m_dec e11_canAsk 3 rfl) ?_
  refine ms_callSz (pc := 6) S hF (vals := [m_j (m_w v0), m_j 1, m_j 100]) (st := [])  (hC := (k11_in _ _ (m_w v0) 1 100 h)) (hM := lm_X11_268) (hfr := (Nat.le_trans (by decide) hFn)) (hstk := rfl) (hcat := Nat.le_of_ble_eq_true rfl) (hd := (m_dec e11_canAsk 4 rfl)) (k1 := fun r2 h1 => ?_)
  refine ms_ifb_eq (pc := 9) S (m_dec e11_canAsk 5 rfl) rfl (fun q3 => ?_) (fun q3 => ?_)
  · refine ms_iload_n (pc := 12) S 1 rfl rfl (m_dec e11_canAsk 6 rfl) ?_
    refine ms_i2l (pc := 13) S (m_dec e11_canAsk 7 rfl) ?_
    refine ms_lconst (pc := 14) S (n := 0) rfl (m_dec e11_canAsk 8 rfl) ?_
    refine ms_ldc2 (pc := 15) S (n := 65535) w_2183 (m_dec e11_canAsk 9 rfl) ?_
    refine ms_callSz (pc := 18) S hF (vals := [m_j (m_w v1), m_j 0, m_j 65535]) (st := [])  (hC := (k11_in _ _ (m_w v1) 0 65535 h1)) (hM := lm_X11_268) (hfr := (Nat.le_trans (by decide) hFn)) (hstk := rfl) (hcat := Nat.le_of_ble_eq_true rfl) (hd := (m_dec e11_canAsk 10 rfl)) (k1 := fun r5 h4 => ?_)
    refine ms_ifb_eq (pc := 21) S (m_dec e11_canAsk 11 rfl) rfl (fun q6 => ?_) (fun q6 => ?_)
    · refine ms_iconst (pc := 24) S (m_dec e11_canAsk 12 rfl) ?_
      refine ms_goto (pc := 25) S (m_dec e11_canAsk 13 rfl) rfl ?_
      exact ms_ret (pc := 29) E (m_dec e11_canAsk 15 rfl) rfl
    · refine ms_iconst (pc := 28) S (m_dec e11_canAsk 14 rfl) ?_
      exact ms_ret (pc := 29) E (m_dec e11_canAsk 15 rfl) rfl
  · refine ms_iconst (pc := 28) S (m_dec e11_canAsk 14 rfl) ?_
    exact ms_ret (pc := 29) E (m_dec e11_canAsk 15 rfl) rfl
theorem k11_canAsk (l : Launch) (d : m_D) (v0 v1 : Int) (h : m_H) : m_Con l d yX11_canAsk cX11_canAsk 2 (some .boolean) 1 (fun r => [m_i (m_b2i r)]) [m_i v0, m_i v1] h (t11_canAsk v0 v1 h) :=
  m_con2 (by decide +kernel) (Nat.le_of_ble_eq_true rfl) (fun Y hN hRm hr hI S hfin => s11_canAsk S (m_end_z S hr hfin) hRm (Nat.le_refl _) hN v0 v1 h)
set_option maxRecDepth 100000 in
theorem e11_sumAt : ∀ q ∈ ([(0, .iconst 0, 1), (1, .istore 5, 2), (3, .iconst 0, 1), (4, .istore 6, 2), (6, .iload 6, 2), (8, .iload_n 3, 1), (9, .if_icmp .ge 48, 3), (12, .aload_n 0, 1), (13, .getfield 253, 3), (16, .iload_n 1, 1), (17, .iload 6, 2), (19, .iadd, 1), (20, .iaload, 1), (21, .aload_n 0, 1), (22, .getfield 256, 3), (25, .iload_n 2, 1), (26, .iload 6, 2), (28, .iadd, 1), (29, .iaload, 1), (30, .invokestatic 573, 3), (33, .istore 7, 2), (35, .iload 7, 2), (37, .iload 4, 2), (39, .if_icmp .le 5, 3), (42, .iconst (-1), 1), (43, .ireturn, 1), (44, .iload 5, 2), (46, .iload 7, 2), (48, .iadd, 1), (49, .istore 5, 2), (51, .iinc 6 1, 3), (54, .goto (-48), 3), (57, .iload 5, 2), (59, .ireturn, 1)] : List (Nat × Instr × Nat)), decode cX11_sumAt q.1 = .ok q.2 := by decide +kernel
set_option maxHeartbeats 4000000 in
set_option maxRecDepth 20000 in
theorem s11_sumAt_c6 {Y : m_Y Int} (S : m_Std Y RX11 cX11_sumAt) (E : m_End Y cX11_sumAt .ireturn (fun r => [m_i r])) {F : Nat} (hF : m_Rm Y F) (hFn : 1 ≤ F) (hN : Y.2.2.2.1 = 8) : ∀ (v0 v1 v2 v3 v4 v5 v6 : Int) (h : m_H), m_Sim Y 6 [(0, m_r v0), (1, m_i v1), (2, m_i v2), (3, m_i v3), (4, m_i v4), (5, m_i v5), (6, m_i v6)] [] h (t11_sumAt_c6 v0 v1 v2 v3 v4 v5 v6 h) := by
  intro v0 v1 v2 v3 v4 v5 v6 h
  refine ms_all fun r e => ?_
  refine t11_sumAt_c6.partial_correctness v0 v1 v2 v3 v4 (motive := fun v5 v6 h r => m_Sim Y 6 [(0, m_r v0), (1, m_i v1), (2, m_i v2), (3, m_i v3), (4, m_i v4), (5, m_i v5), (6, m_i v6)] [] h (some r)) ?_ v5 v6 h r e
  intro f ih v5 v6 h r e
  have ih : ∀ (v5 v6 : Int) (h : m_H), m_Sim Y 6 [(0, m_r v0), (1, m_i v1), (2, m_i v2), (3, m_i v3), (4, m_i v4), (5, m_i v5), (6, m_i v6)] [] h (f v5 v6 h ) := fun v5 v6 h  => ms_all fun r e => ih v5 v6 h r e
  refine ms_use ?_ e
  clear e r
  refine ms_iload (pc := 6) S 6 rfl (m_dec e11_sumAt 4 rfl) ?_
  refine ms_iload_n (pc := 8) S 3 rfl rfl (m_dec e11_sumAt 5 rfl) ?_
  refine ms_icmp_ge (pc := 9) S (m_dec e11_sumAt 6 rfl) rfl (fun q1 => ?_) (fun q1 => ?_)
  · refine ms_aload_n (pc := 12) S 0 rfl rfl (m_dec e11_sumAt 7 rfl) ?_
    refine ms_grd fun g2 => ?_
    refine ms_getf (pc := 13) S lf_X11_253 rfl (m_dec e11_sumAt 8 rfl) g2 ?_
    refine ms_iload_n (pc := 16) S 1 rfl rfl (m_dec e11_sumAt 9 rfl) ?_
    refine ms_iload (pc := 17) S 6 rfl (m_dec e11_sumAt 10 rfl) ?_
    refine ms_iadd (pc := 19) S (m_dec e11_sumAt 11 rfl) ?_
    refine ms_grd fun g3 => ?_
    refine ms_iald (pc := 20) S g3 (m_dec e11_sumAt 12 rfl) ?_
    refine ms_aload_n (pc := 21) S 0 rfl rfl (m_dec e11_sumAt 13 rfl) ?_
    refine ms_getf (pc := 22) S lf_X11_256 rfl (m_dec e11_sumAt 14 rfl) g2 ?_
    refine ms_iload_n (pc := 25) S 2 rfl rfl (m_dec e11_sumAt 15 rfl) ?_
    refine ms_iload (pc := 26) S 6 rfl (m_dec e11_sumAt 16 rfl) ?_
    refine ms_iadd (pc := 28) S (m_dec e11_sumAt 17 rfl) ?_
    refine ms_grd fun g4 => ?_
    refine ms_iald (pc := 29) S g4 (m_dec e11_sumAt 18 rfl) ?_
    refine ms_callSi (pc := 30) S hF (vals := [m_i (m_g h (m_g h v0 81) (m_w (v1 + v6))), m_i (m_g h (m_g h v0 82) (m_w (v2 + v6)))]) (st := [])  (hC := (k11_differs _ _ (m_g h (m_g h v0 81) (m_w (v1 + v6))) (m_g h (m_g h v0 82) (m_w (v2 + v6))) h)) (hM := lm_X11_573) (hfr := (Nat.le_trans (by decide) hFn)) (hstk := rfl) (hcat := Nat.le_of_ble_eq_true rfl) (hd := (m_dec e11_sumAt 19 rfl)) (k1 := fun r6 h5 => ?_)
    refine ms_istore (pc := 33) S (L' := [(0, m_r v0), (1, m_i v1), (2, m_i v2), (3, m_i v3), (4, m_i v4), (5, m_i v5), (6, m_i v6), (7, m_i r6)]) [1, 2, 3, 4, 5, 6, 7, 0] rfl (m_lt hN rfl) (m_dec e11_sumAt 20 rfl) ?_
    refine ms_iload (pc := 35) S 7 rfl (m_dec e11_sumAt 21 rfl) ?_
    refine ms_iload (pc := 37) S 4 rfl (m_dec e11_sumAt 22 rfl) ?_
    refine ms_icmp_le (pc := 39) S (m_dec e11_sumAt 23 rfl) rfl (fun q7 => ?_) (fun q7 => ?_)
    · refine ms_iconst (pc := 42) S (m_dec e11_sumAt 24 rfl) ?_
      exact ms_ret (pc := 43) E (m_dec e11_sumAt 25 rfl) rfl
    · refine ms_iload (pc := 44) S 5 rfl (m_dec e11_sumAt 26 rfl) ?_
      refine ms_iload (pc := 46) S 7 rfl (m_dec e11_sumAt 27 rfl) ?_
      refine ms_iadd (pc := 48) S (m_dec e11_sumAt 28 rfl) ?_
      refine ms_nm (st := fun x8 => [m_i x8]) fun x8 => ?_
      refine ms_istore (pc := 49) S (L' := [(0, m_r v0), (1, m_i v1), (2, m_i v2), (3, m_i v3), (4, m_i v4), (5, m_i x8), (6, m_i v6)]) [1, 2, 3, 4, 5, 0, 6] rfl (m_lt hN rfl) (m_dec e11_sumAt 29 rfl) ?_
      refine ms_iinc (pc := 51) S (L' := [(0, m_r v0), (1, m_i v1), (2, m_i v2), (3, m_i v3), (4, m_i v4), (5, m_i x8), (6, m_i (v6 + 1))]) 6 rfl [1, 2, 3, 4, 5, 6, 0] rfl (m_lt hN rfl) (m_dec e11_sumAt 30 rfl) ?_
      refine ms_goto (pc := 54) S (m_dec e11_sumAt 31 rfl) rfl ?_
      exact ih x8 (v6 + 1) h5
  · refine ms_iload (pc := 57) S 5 rfl (m_dec e11_sumAt 32 rfl) ?_
    exact ms_ret (pc := 59) E (m_dec e11_sumAt 33 rfl) rfl
set_option maxHeartbeats 4000000 in
set_option maxRecDepth 20000 in
theorem s11_sumAt {Y : m_Y Int} (S : m_Std Y RX11 cX11_sumAt) (E : m_End Y cX11_sumAt .ireturn (fun r => [m_i r])) {F : Nat} (hF : m_Rm Y F) (hFn : 1 ≤ F) (hN : Y.2.2.2.1 = 8) (v0 v1 v2 v3 v4 : Int) (h : m_H) : m_Sim Y 0 [(0, m_r v0), (1, m_i v1), (2, m_i v2), (3, m_i v3), (4, m_i v4)] [] h (t11_sumAt v0 v1 v2 v3 v4 h) := by
  unfold t11_sumAt
  refine ms_iconst (pc := 0) S (m_dec e11_sumAt 0 rfl) ?_
  refine ms_istore (pc := 1) S (L' := [(0, m_r v0), (1, m_i v1), (2, m_i v2), (3, m_i v3), (4, m_i v4), (5, m_i 0)]) [1, 2, 3, 4, 5, 0] rfl (m_lt hN rfl) (m_dec e11_sumAt 1 rfl) ?_
  refine ms_iconst (pc := 3) S (m_dec e11_sumAt 2 rfl) ?_
  refine ms_istore (pc := 4) S (L' := [(0, m_r v0), (1, m_i v1), (2, m_i v2), (3, m_i v3), (4, m_i v4), (5, m_i 0), (6, m_i 0)]) [1, 2, 3, 4, 5, 6, 0] rfl (m_lt hN rfl) (m_dec e11_sumAt 3 rfl) ?_
  exact s11_sumAt_c6 S E hF hFn hN v0 v1 v2 v3 v4 0 0 h
theorem k11_sumAt (l : Launch) (d : m_D) (v0 v1 v2 v3 v4 : Int) (h : m_H) : m_Con l d yX11_sumAt cX11_sumAt 8 (some .int) 1 (fun r => [m_i r]) [m_r v0, m_i v1, m_i v2, m_i v3, m_i v4] h (t11_sumAt v0 v1 v2 v3 v4 h) :=
  m_con2 (by decide +kernel) (Nat.le_of_ble_eq_true rfl) (fun Y hN hRm hr hI S hfin => s11_sumAt S (m_end_i S hr hfin) hRm (Nat.le_refl _) hN v0 v1 v2 v3 v4 h)
set_option maxRecDepth 100000 in
theorem e11_nears : ∀ q ∈ ([(0, .iload_n 2, 1), (1, .iload_n 3, 1), (2, .invokestatic 576, 3), (5, .ifCond .eq 17, 3), (8, .iload_n 1, 1), (9, .ifCond .lt 13, 3), (12, .iload_n 1, 1), (13, .aload_n 0, 1), (14, .getfield 565, 3), (17, .iload_n 2, 1), (18, .isub, 1), (19, .if_icmp .le 5, 3), (22, .iconst 0, 1), (23, .ireturn, 1), (24, .aload_n 0, 1), (25, .iconst 0, 1), (26, .putfield 579, 3), (29, .iconst 0, 1), (30, .istore 4, 2), (32, .iload 4, 2), (34, .aload_n 0, 1), (35, .getfield 265, 3), (38, .if_icmp .ge 135, 3), (41, .iconst 0, 1), (42, .istore 5, 2), (44, .iload 5, 2), (46, .iconst 4, 1), (47, .if_icmp .ge 120, 3), (50, .aload_n 0, 1), (51, .iload 4, 2), (53, .invokevirtual 582, 3), (56, .ifCond .eq 111, 3), (59, .aload_n 0, 1), (60, .iload 4, 2), (62, .iload 5, 2), (64, .invokevirtual 585, 3), (67, .iconst 0, 1), (68, .istore 6, 2), (70, .iload 6, 2), (72, .iload_n 2, 1), (73, .iadd, 1), (74, .aload_n 0, 1), (75, .getfield 568, 3), (78, .if_icmp .gt 83, 3), (81, .aload_n 0, 1), (82, .iload_n 1, 1), (83, .iload 6, 2), (85, .iload_n 2, 1), (86, .iload_n 3, 1), (87, .invokevirtual 588, 3), (90, .istore 7, 2), (92, .iload 7, 2), (94, .iconst (-1), 1), (95, .if_icmp .ne 6, 3), (98, .goto 57, 3), (101, .aload_n 0, 1), (102, .dup, 1), (103, .getfield 579, 3), (106, .iconst 1, 1), (107, .iadd, 1), (108, .putfield 579, 3), (111, .aload_n 0, 1), (112, .getfield 579, 3), (115, .iconst 1, 1), (116, .if_icmp .le 15, 3), (119, .iload 7, 2), (121, .aload_n 0, 1), (122, .getfield 591, 3), (125, .if_icmp .lt 6, 3), (128, .goto 27, 3), (131, .aload_n 0, 1), (132, .iload 4, 2), (134, .putfield 594, 3), (137, .aload_n 0, 1), (138, .iload 5, 2), (140, .putfield 597, 3), (143, .aload_n 0, 1), (144, .iload 6, 2), (146, .putfield 600, 3), (149, .aload_n 0, 1), (150, .iload 7, 2), (152, .putfield 591, 3), (155, .iinc 6 1, 3), (158, .goto (-88), 3), (161, .iinc 5 1, 3), (164, .goto (-120), 3), (167, .iinc 4 1, 3), (170, .goto (-138), 3), (173, .aload_n 0, 1), (174, .getfield 579, 3), (177, .ifCond .le 7, 3), (180, .iconst 1, 1), (181, .goto 4, 3), (184, .iconst 0, 1), (185, .ireturn, 1)] : List (Nat × Instr × Nat)), decode cX11_nears q.1 = .ok q.2 := by decide +kernel
set_option maxHeartbeats 4000000 in
set_option maxRecDepth 20000 in
theorem s11_nears_x32 {Y : m_Y Bool} (S : m_Std Y RX11 cX11_nears) (E : m_End Y cX11_nears .ireturn (fun r => [m_i (m_b2i r)])) {F : Nat} (hF : m_Rm Y F) (hFn : 3 ≤ F) (hN : Y.2.2.2.1 = 8) : ∀ (cc : Int) (v0 v1 v2 v3 v4 v5 v6 v7 : Int) (h : m_H) (r : Bool × m_H), t11_nears_x32 cc v0 v1 v2 v3 v4 v5 v6 v7 h = some r → (cc = 32 → m_Sim Y 32 [(0, m_r v0), (1, m_i v1), (2, m_i v2), (3, m_i v3), (4, m_i v4)] [] h (some r)) ∧ (cc = 44 → m_Sim Y 44 [(0, m_r v0), (1, m_i v1), (2, m_i v2), (3, m_i v3), (4, m_i v4), (5, m_i v5)] [] h (some r)) ∧ (cc = 70 → m_Sim Y 70 [(0, m_r v0), (1, m_i v1), (2, m_i v2), (3, m_i v3), (4, m_i v4), (5, m_i v5), (6, m_i v6)] [] h (some r)) ∧ (cc = 131 → m_Sim Y 131 [(0, m_r v0), (1, m_i v1), (2, m_i v2), (3, m_i v3), (4, m_i v4), (5, m_i v5), (6, m_i v6), (7, m_i v7)] [] h (some r)) := by
  intro cc v0 v1 v2 v3 v4 v5 v6 v7 h r e
  refine t11_nears_x32.partial_correctness v0 v1 v2 v3 (motive := fun cc v4 v5 v6 v7 h r => (cc = 32 → m_Sim Y 32 [(0, m_r v0), (1, m_i v1), (2, m_i v2), (3, m_i v3), (4, m_i v4)] [] h (some r)) ∧ (cc = 44 → m_Sim Y 44 [(0, m_r v0), (1, m_i v1), (2, m_i v2), (3, m_i v3), (4, m_i v4), (5, m_i v5)] [] h (some r)) ∧ (cc = 70 → m_Sim Y 70 [(0, m_r v0), (1, m_i v1), (2, m_i v2), (3, m_i v3), (4, m_i v4), (5, m_i v5), (6, m_i v6)] [] h (some r)) ∧ (cc = 131 → m_Sim Y 131 [(0, m_r v0), (1, m_i v1), (2, m_i v2), (3, m_i v3), (4, m_i v4), (5, m_i v5), (6, m_i v6), (7, m_i v7)] [] h (some r))) ?_ cc v4 v5 v6 v7 h r e
  intro f ih cc v4 v5 v6 v7 h r e
  have ih32 : ∀ (v4 v5 v6 v7 : Int) (h : m_H), m_Sim Y 32 [(0, m_r v0), (1, m_i v1), (2, m_i v2), (3, m_i v3), (4, m_i v4)] [] h (f 32 v4 v5 v6 v7 h ) := fun v4 v5 v6 v7 h  => ms_all fun r e => (ih 32 v4 v5 v6 v7 h r e).1 rfl
  have ih44 : ∀ (v4 v5 v6 v7 : Int) (h : m_H), m_Sim Y 44 [(0, m_r v0), (1, m_i v1), (2, m_i v2), (3, m_i v3), (4, m_i v4), (5, m_i v5)] [] h (f 44 v4 v5 v6 v7 h ) := fun v4 v5 v6 v7 h  => ms_all fun r e => (ih 44 v4 v5 v6 v7 h r e).2.1 rfl
  have ih70 : ∀ (v4 v5 v6 v7 : Int) (h : m_H), m_Sim Y 70 [(0, m_r v0), (1, m_i v1), (2, m_i v2), (3, m_i v3), (4, m_i v4), (5, m_i v5), (6, m_i v6)] [] h (f 70 v4 v5 v6 v7 h ) := fun v4 v5 v6 v7 h  => ms_all fun r e => (ih 70 v4 v5 v6 v7 h r e).2.2.1 rfl
  have ih131 : ∀ (v4 v5 v6 v7 : Int) (h : m_H), m_Sim Y 131 [(0, m_r v0), (1, m_i v1), (2, m_i v2), (3, m_i v3), (4, m_i v4), (5, m_i v5), (6, m_i v6), (7, m_i v7)] [] h (f 131 v4 v5 v6 v7 h ) := fun v4 v5 v6 v7 h  => ms_all fun r e => (ih 131 v4 v5 v6 v7 h r e).2.2.2 rfl
  refine ⟨?_, ?_, ?_, ?_⟩
  · intro q0
    subst q0
    rw [if_pos rfl] at e
    refine ms_use ?_ e
    clear e r
    refine ms_iload (pc := 32) S 4 rfl (m_dec e11_nears 19 rfl) ?_
    refine ms_aload_n (pc := 34) S 0 rfl rfl (m_dec e11_nears 20 rfl) ?_
    refine ms_grd fun g1 => ?_
    refine ms_getf (pc := 35) S lf_X11_265 rfl (m_dec e11_nears 21 rfl) g1 ?_
    refine ms_icmp_ge (pc := 38) S (m_dec e11_nears 22 rfl) rfl (fun q2 => ?_) (fun q2 => ?_)
    · refine ms_iconst (pc := 41) S (m_dec e11_nears 23 rfl) ?_
      refine ms_istore (pc := 42) S (L' := [(0, m_r v0), (1, m_i v1), (2, m_i v2), (3, m_i v3), (4, m_i v4), (5, m_i 0)]) [1, 2, 3, 4, 5, 0] rfl (m_lt hN rfl) (m_dec e11_nears 24 rfl) ?_
      exact ih44 v4 0 0 0 h
    · refine ms_aload_n (pc := 173) S 0 rfl rfl (m_dec e11_nears 88 rfl) ?_
      refine ms_getf (pc := 174) S lf_X11_579 rfl (m_dec e11_nears 89 rfl) g1 ?_
      refine ms_if_le (pc := 177) S (m_dec e11_nears 90 rfl) rfl (fun q3 => ?_) (fun q3 => ?_)
      · refine ms_iconst (pc := 180) S (m_dec e11_nears 91 rfl) ?_
        refine ms_goto (pc := 181) S (m_dec e11_nears 92 rfl) rfl ?_
        exact ms_ret (pc := 185) E (m_dec e11_nears 94 rfl) rfl
      · refine ms_iconst (pc := 184) S (m_dec e11_nears 93 rfl) ?_
        exact ms_ret (pc := 185) E (m_dec e11_nears 94 rfl) rfl
  · intro q0
    subst q0
    rw [if_neg (by decide), if_pos rfl] at e
    refine ms_use ?_ e
    clear e r
    refine ms_iload (pc := 44) S 5 rfl (m_dec e11_nears 25 rfl) ?_
    refine ms_iconst (pc := 46) S (m_dec e11_nears 26 rfl) ?_
    refine ms_icmp_ge (pc := 47) S (m_dec e11_nears 27 rfl) rfl (fun q1 => ?_) (fun q1 => ?_)
    · refine ms_aload_n (pc := 50) S 0 rfl rfl (m_dec e11_nears 28 rfl) ?_
      refine ms_iload (pc := 51) S 4 rfl (m_dec e11_nears 29 rfl) ?_
      refine ms_grd fun g2 => ?_
      refine ms_callVz (pc := 53) S hF (vals := [m_i v4]) (st := []) (hc := vw_11) (hci := by decide) (hcy := rfl) (ht := g2) (hC := (k11_isLaid _ _ v0 v4 h)) (hM := lm_X11_582) (hfr := (Nat.le_trans (by decide) hFn)) (hstk := rfl) (hcat := Nat.le_of_ble_eq_true rfl) (hd := (m_dec e11_nears 30 rfl)) (k1 := fun r4 h3 => ?_)
      refine ms_ifb_eq (pc := 56) S (m_dec e11_nears 31 rfl) rfl (fun q5 => ?_) (fun q5 => ?_)
      · refine ms_aload_n (pc := 59) S 0 rfl rfl (m_dec e11_nears 32 rfl) ?_
        refine ms_iload (pc := 60) S 4 rfl (m_dec e11_nears 33 rfl) ?_
        refine ms_iload (pc := 62) S 5 rfl (m_dec e11_nears 34 rfl) ?_
        refine ms_grd fun g6 => ?_
        refine ms_callVv (pc := 64) S hF (vals := [m_i v4, m_i v5]) (st := []) (hc := vw_11) (hci := by decide) (hcy := rfl) (ht := g6) (hC := (k11_gives _ _ v0 v4 v5 h3)) (hM := lm_X11_585) (hfr := (Nat.le_trans (by decide) hFn)) (hstk := rfl) (hcat := Nat.le_of_ble_eq_true rfl) (hd := (m_dec e11_nears 35 rfl)) (k1 := fun h7 => ?_)
        refine ms_iconst (pc := 67) S (m_dec e11_nears 36 rfl) ?_
        refine ms_istore (pc := 68) S (L' := [(0, m_r v0), (1, m_i v1), (2, m_i v2), (3, m_i v3), (4, m_i v4), (5, m_i v5), (6, m_i 0)]) [1, 2, 3, 4, 5, 6, 0] rfl (m_lt hN rfl) (m_dec e11_nears 37 rfl) ?_
        exact ih70 v4 v5 0 0 h7
      · refine ms_iinc (pc := 167) S (L' := [(0, m_r v0), (1, m_i v1), (2, m_i v2), (3, m_i v3), (4, m_i (v4 + 1))]) 4 rfl [1, 2, 3, 4, 0] rfl (m_lt hN rfl) (m_dec e11_nears 86 rfl) ?_
        refine ms_goto (pc := 170) S (m_dec e11_nears 87 rfl) rfl ?_
        exact ih32 (v4 + 1) 0 0 0 h3
    · refine ms_iinc (pc := 167) S (L' := [(0, m_r v0), (1, m_i v1), (2, m_i v2), (3, m_i v3), (4, m_i (v4 + 1))]) 4 rfl [1, 2, 3, 4, 0] rfl (m_lt hN rfl) (m_dec e11_nears 86 rfl) ?_
      refine ms_goto (pc := 170) S (m_dec e11_nears 87 rfl) rfl ?_
      exact ih32 (v4 + 1) 0 0 0 h
  · intro q0
    subst q0
    rw [if_neg (by decide), if_neg (by decide), if_pos rfl] at e
    refine ms_use ?_ e
    clear e r
    refine ms_iload (pc := 70) S 6 rfl (m_dec e11_nears 38 rfl) ?_
    refine ms_iload_n (pc := 72) S 2 rfl rfl (m_dec e11_nears 39 rfl) ?_
    refine ms_iadd (pc := 73) S (m_dec e11_nears 40 rfl) ?_
    refine ms_aload_n (pc := 74) S 0 rfl rfl (m_dec e11_nears 41 rfl) ?_
    refine ms_grd fun g1 => ?_
    refine ms_getf (pc := 75) S lf_X11_568 rfl (m_dec e11_nears 42 rfl) g1 ?_
    refine ms_icmp_gt (pc := 78) S (m_dec e11_nears 43 rfl) rfl (fun q2 => ?_) (fun q2 => ?_)
    · refine ms_iinc (pc := 161) S (L' := [(0, m_r v0), (1, m_i v1), (2, m_i v2), (3, m_i v3), (4, m_i v4), (5, m_i (v5 + 1))]) 5 rfl [1, 2, 3, 4, 5, 0] rfl (m_lt hN rfl) (m_dec e11_nears 84 rfl) ?_
      refine ms_goto (pc := 164) S (m_dec e11_nears 85 rfl) rfl ?_
      exact ih44 v4 (v5 + 1) 0 0 h
    · refine ms_aload_n (pc := 81) S 0 rfl rfl (m_dec e11_nears 44 rfl) ?_
      refine ms_iload_n (pc := 82) S 1 rfl rfl (m_dec e11_nears 45 rfl) ?_
      refine ms_iload (pc := 83) S 6 rfl (m_dec e11_nears 46 rfl) ?_
      refine ms_iload_n (pc := 85) S 2 rfl rfl (m_dec e11_nears 47 rfl) ?_
      refine ms_iload_n (pc := 86) S 3 rfl rfl (m_dec e11_nears 48 rfl) ?_
      refine ms_callVi (pc := 87) S hF (vals := [m_i v1, m_i v6, m_i v2, m_i v3]) (st := []) (hc := vw_11) (hci := by decide) (hcy := rfl) (ht := g1) (hC := (k11_sumAt _ _ v0 v1 v6 v2 v3 h)) (hM := lm_X11_588) (hfr := (Nat.le_trans (by decide) hFn)) (hstk := rfl) (hcat := Nat.le_of_ble_eq_true rfl) (hd := (m_dec e11_nears 49 rfl)) (k1 := fun r4 h3 => ?_)
      refine ms_istore (pc := 90) S (L' := [(0, m_r v0), (1, m_i v1), (2, m_i v2), (3, m_i v3), (4, m_i v4), (5, m_i v5), (6, m_i v6), (7, m_i r4)]) [1, 2, 3, 4, 5, 6, 7, 0] rfl (m_lt hN rfl) (m_dec e11_nears 50 rfl) ?_
      refine ms_iload (pc := 92) S 7 rfl (m_dec e11_nears 51 rfl) ?_
      refine ms_iconst (pc := 94) S (m_dec e11_nears 52 rfl) ?_
      refine ms_icmp_ne (pc := 95) S (m_dec e11_nears 53 rfl) rfl (fun q5 => ?_) (fun q5 => ?_)
      · refine ms_goto (pc := 98) S (m_dec e11_nears 54 rfl) rfl ?_
        refine ms_iinc (pc := 155) S (L' := [(0, m_r v0), (1, m_i v1), (2, m_i v2), (3, m_i v3), (4, m_i v4), (5, m_i v5), (6, m_i (v6 + 1))]) 6 rfl [1, 2, 3, 4, 5, 6, 0] rfl (m_lt hN rfl) (m_dec e11_nears 82 rfl) ?_
        refine ms_goto (pc := 158) S (m_dec e11_nears 83 rfl) rfl ?_
        exact ih70 v4 v5 (v6 + 1) 0 h3
      · refine ms_aload_n (pc := 101) S 0 rfl rfl (m_dec e11_nears 55 rfl) ?_
        refine ms_dup (pc := 102) S rfl (m_dec e11_nears 56 rfl) ?_
        refine ms_grd fun g6 => ?_
        refine ms_getf (pc := 103) S lf_X11_579 rfl (m_dec e11_nears 57 rfl) g6 ?_
        refine ms_iconst (pc := 106) S (m_dec e11_nears 58 rfl) ?_
        refine ms_iadd (pc := 107) S (m_dec e11_nears 59 rfl) ?_
        refine ms_putf (pc := 108) S lp_X11_579 (fun z => by cases z) rfl (fun d => m_fitI d _) (m_dec e11_nears 60 rfl) g6 (fun h7 => ?_)
        refine ms_aload_n (pc := 111) S 0 rfl rfl (m_dec e11_nears 61 rfl) ?_
        refine ms_grd fun g8 => ?_
        refine ms_getf (pc := 112) S lf_X11_579 rfl (m_dec e11_nears 62 rfl) g8 ?_
        refine ms_iconst (pc := 115) S (m_dec e11_nears 63 rfl) ?_
        refine ms_icmp_le (pc := 116) S (m_dec e11_nears 64 rfl) rfl (fun q9 => ?_) (fun q9 => ?_)
        · refine ms_iload (pc := 119) S 7 rfl (m_dec e11_nears 65 rfl) ?_
          refine ms_aload_n (pc := 121) S 0 rfl rfl (m_dec e11_nears 66 rfl) ?_
          refine ms_getf (pc := 122) S lf_X11_591 rfl (m_dec e11_nears 67 rfl) g8 ?_
          refine ms_icmp_lt (pc := 125) S (m_dec e11_nears 68 rfl) rfl (fun q10 => ?_) (fun q10 => ?_)
          · exact ih131 v4 v5 v6 r4 h7
          · refine ms_goto (pc := 128) S (m_dec e11_nears 69 rfl) rfl ?_
            refine ms_iinc (pc := 155) S (L' := [(0, m_r v0), (1, m_i v1), (2, m_i v2), (3, m_i v3), (4, m_i v4), (5, m_i v5), (6, m_i (v6 + 1))]) 6 rfl [1, 2, 3, 4, 5, 6, 0] rfl (m_lt hN rfl) (m_dec e11_nears 82 rfl) ?_
            refine ms_goto (pc := 158) S (m_dec e11_nears 83 rfl) rfl ?_
            exact ih70 v4 v5 (v6 + 1) 0 h7
        · exact ih131 v4 v5 v6 r4 h7
  · intro q0
    subst q0
    rw [if_neg (by decide), if_neg (by decide), if_neg (by decide), if_pos rfl] at e
    refine ms_use ?_ e
    clear e r
    refine ms_aload_n (pc := 131) S 0 rfl rfl (m_dec e11_nears 70 rfl) ?_
    refine ms_iload (pc := 132) S 4 rfl (m_dec e11_nears 71 rfl) ?_
    refine ms_grd fun g1 => ?_
    refine ms_putf (pc := 134) S lp_X11_594 (fun z => by cases z) rfl (fun d => m_fitI d _) (m_dec e11_nears 72 rfl) g1 (fun h2 => ?_)
    refine ms_aload_n (pc := 137) S 0 rfl rfl (m_dec e11_nears 73 rfl) ?_
    refine ms_iload (pc := 138) S 5 rfl (m_dec e11_nears 74 rfl) ?_
    refine ms_grd fun g3 => ?_
    refine ms_putf (pc := 140) S lp_X11_597 (fun z => by cases z) rfl (fun d => m_fitI d _) (m_dec e11_nears 75 rfl) g3 (fun h4 => ?_)
    refine ms_aload_n (pc := 143) S 0 rfl rfl (m_dec e11_nears 76 rfl) ?_
    refine ms_iload (pc := 144) S 6 rfl (m_dec e11_nears 77 rfl) ?_
    refine ms_grd fun g5 => ?_
    refine ms_putf (pc := 146) S lp_X11_600 (fun z => by cases z) rfl (fun d => m_fitI d _) (m_dec e11_nears 78 rfl) g5 (fun h6 => ?_)
    refine ms_aload_n (pc := 149) S 0 rfl rfl (m_dec e11_nears 79 rfl) ?_
    refine ms_iload (pc := 150) S 7 rfl (m_dec e11_nears 80 rfl) ?_
    refine ms_grd fun g7 => ?_
    refine ms_putf (pc := 152) S lp_X11_591 (fun z => by cases z) rfl (fun d => m_fitI d _) (m_dec e11_nears 81 rfl) g7 (fun h8 => ?_)
    refine ms_iinc (pc := 155) S (L' := [(0, m_r v0), (1, m_i v1), (2, m_i v2), (3, m_i v3), (4, m_i v4), (5, m_i v5), (6, m_i (v6 + 1))]) 6 rfl [1, 2, 3, 4, 5, 6, 0] rfl (m_lt hN rfl) (m_dec e11_nears 82 rfl) ?_
    refine ms_goto (pc := 158) S (m_dec e11_nears 83 rfl) rfl ?_
    exact ih70 v4 v5 (v6 + 1) 0 h8
set_option maxHeartbeats 4000000 in
set_option maxRecDepth 20000 in
theorem s11_nears_c32 {Y : m_Y Bool} (S : m_Std Y RX11 cX11_nears) (E : m_End Y cX11_nears .ireturn (fun r => [m_i (m_b2i r)])) {F : Nat} (hF : m_Rm Y F) (hFn : 3 ≤ F) (hN : Y.2.2.2.1 = 8) (v0 v1 v2 v3 v4 v5 v6 v7 : Int) (h : m_H) : m_Sim Y 32 [(0, m_r v0), (1, m_i v1), (2, m_i v2), (3, m_i v3), (4, m_i v4)] [] h (t11_nears_x32 32 v0 v1 v2 v3 v4 v5 v6 v7 h) := ms_all fun r e => (s11_nears_x32 S E hF hFn hN 32 v0 v1 v2 v3 v4 v5 v6 v7 h r e).1 rfl
set_option maxHeartbeats 4000000 in
set_option maxRecDepth 20000 in
theorem s11_nears_c44 {Y : m_Y Bool} (S : m_Std Y RX11 cX11_nears) (E : m_End Y cX11_nears .ireturn (fun r => [m_i (m_b2i r)])) {F : Nat} (hF : m_Rm Y F) (hFn : 3 ≤ F) (hN : Y.2.2.2.1 = 8) (v0 v1 v2 v3 v4 v5 v6 v7 : Int) (h : m_H) : m_Sim Y 44 [(0, m_r v0), (1, m_i v1), (2, m_i v2), (3, m_i v3), (4, m_i v4), (5, m_i v5)] [] h (t11_nears_x32 44 v0 v1 v2 v3 v4 v5 v6 v7 h) := ms_all fun r e => (s11_nears_x32 S E hF hFn hN 44 v0 v1 v2 v3 v4 v5 v6 v7 h r e).2.1 rfl
set_option maxHeartbeats 4000000 in
set_option maxRecDepth 20000 in
theorem s11_nears_c70 {Y : m_Y Bool} (S : m_Std Y RX11 cX11_nears) (E : m_End Y cX11_nears .ireturn (fun r => [m_i (m_b2i r)])) {F : Nat} (hF : m_Rm Y F) (hFn : 3 ≤ F) (hN : Y.2.2.2.1 = 8) (v0 v1 v2 v3 v4 v5 v6 v7 : Int) (h : m_H) : m_Sim Y 70 [(0, m_r v0), (1, m_i v1), (2, m_i v2), (3, m_i v3), (4, m_i v4), (5, m_i v5), (6, m_i v6)] [] h (t11_nears_x32 70 v0 v1 v2 v3 v4 v5 v6 v7 h) := ms_all fun r e => (s11_nears_x32 S E hF hFn hN 70 v0 v1 v2 v3 v4 v5 v6 v7 h r e).2.2.1 rfl
set_option maxHeartbeats 4000000 in
set_option maxRecDepth 20000 in
theorem s11_nears_c131 {Y : m_Y Bool} (S : m_Std Y RX11 cX11_nears) (E : m_End Y cX11_nears .ireturn (fun r => [m_i (m_b2i r)])) {F : Nat} (hF : m_Rm Y F) (hFn : 3 ≤ F) (hN : Y.2.2.2.1 = 8) (v0 v1 v2 v3 v4 v5 v6 v7 : Int) (h : m_H) : m_Sim Y 131 [(0, m_r v0), (1, m_i v1), (2, m_i v2), (3, m_i v3), (4, m_i v4), (5, m_i v5), (6, m_i v6), (7, m_i v7)] [] h (t11_nears_x32 131 v0 v1 v2 v3 v4 v5 v6 v7 h) := ms_all fun r e => (s11_nears_x32 S E hF hFn hN 131 v0 v1 v2 v3 v4 v5 v6 v7 h r e).2.2.2 rfl
set_option maxHeartbeats 4000000 in
set_option maxRecDepth 20000 in
theorem s11_nears {Y : m_Y Bool} (S : m_Std Y RX11 cX11_nears) (E : m_End Y cX11_nears .ireturn (fun r => [m_i (m_b2i r)])) {F : Nat} (hF : m_Rm Y F) (hFn : 3 ≤ F) (hN : Y.2.2.2.1 = 8) (v0 v1 v2 v3 : Int) (h : m_H) : m_Sim Y 0 [(0, m_r v0), (1, m_i v1), (2, m_i v2), (3, m_i v3)] [] h (t11_nears v0 v1 v2 v3 h) := by
  unfold t11_nears
  refine ms_iload_n (pc := 0) S 2 rfl rfl (m_dec e11_nears 0 rfl) ?_
  refine ms_iload_n (pc := 1) S 3 rfl rfl (m_dec e11_nears 1 rfl) ?_
  refine ms_callSz (pc := 2) S hF (vals := [m_i v2, m_i v3]) (st := [])  (hC := (k11_canAsk _ _ v2 v3 h)) (hM := lm_X11_576) (hfr := (Nat.le_trans (by decide) hFn)) (hstk := rfl) (hcat := Nat.le_of_ble_eq_true rfl) (hd := (m_dec e11_nears 2 rfl)) (k1 := fun r2 h1 => ?_)
  refine ms_ifb_eq (pc := 5) S (m_dec e11_nears 3 rfl) rfl (fun q3 => ?_) (fun q3 => ?_)
  · refine ms_iload_n (pc := 8) S 1 rfl rfl (m_dec e11_nears 4 rfl) ?_
    refine ms_if_lt (pc := 9) S (m_dec e11_nears 5 rfl) rfl (fun q4 => ?_) (fun q4 => ?_)
    · refine ms_iconst (pc := 22) S (m_dec e11_nears 12 rfl) ?_
      exact ms_ret (pc := 23) E (m_dec e11_nears 13 rfl) rfl
    · refine ms_iload_n (pc := 12) S 1 rfl rfl (m_dec e11_nears 6 rfl) ?_
      refine ms_aload_n (pc := 13) S 0 rfl rfl (m_dec e11_nears 7 rfl) ?_
      refine ms_grd fun g5 => ?_
      refine ms_getf (pc := 14) S lf_X11_565 rfl (m_dec e11_nears 8 rfl) g5 ?_
      refine ms_iload_n (pc := 17) S 2 rfl rfl (m_dec e11_nears 9 rfl) ?_
      refine ms_isub (pc := 18) S (m_dec e11_nears 10 rfl) ?_
      refine ms_icmp_le (pc := 19) S (m_dec e11_nears 11 rfl) rfl (fun q6 => ?_) (fun q6 => ?_)
      · refine ms_iconst (pc := 22) S (m_dec e11_nears 12 rfl) ?_
        exact ms_ret (pc := 23) E (m_dec e11_nears 13 rfl) rfl
      · refine ms_aload_n (pc := 24) S 0 rfl rfl (m_dec e11_nears 14 rfl) ?_
        refine ms_iconst (pc := 25) S (m_dec e11_nears 15 rfl) ?_
        refine ms_putf (pc := 26) S lp_X11_579 (fun z => by cases z) rfl (fun d => m_fitI d _) (m_dec e11_nears 16 rfl) g5 (fun h7 => ?_)
        refine ms_iconst (pc := 29) S (m_dec e11_nears 17 rfl) ?_
        refine ms_istore (pc := 30) S (L' := [(0, m_r v0), (1, m_i v1), (2, m_i v2), (3, m_i v3), (4, m_i 0)]) [1, 2, 3, 4, 0] rfl (m_lt hN rfl) (m_dec e11_nears 18 rfl) ?_
        exact s11_nears_c32 S E hF hFn hN v0 v1 v2 v3 0 0 0 0 h7
  · refine ms_iconst (pc := 22) S (m_dec e11_nears 12 rfl) ?_
    exact ms_ret (pc := 23) E (m_dec e11_nears 13 rfl) rfl
theorem k11_nears (l : Launch) (d : m_D) (v0 v1 v2 v3 : Int) (h : m_H) : m_Con l d yX11_nears cX11_nears 8 (some .boolean) 3 (fun r => [m_i (m_b2i r)]) [m_r v0, m_i v1, m_i v2, m_i v3] h (t11_nears v0 v1 v2 v3 h) :=
  m_con2 (by decide +kernel) (Nat.le_of_ble_eq_true rfl) (fun Y hN hRm hr hI S hfin => s11_nears S (m_end_z S hr hfin) hRm (Nat.le_refl _) hN v0 v1 v2 v3 h)
set_option maxRecDepth 100000 in
theorem e11_near : ∀ q ∈ ([(0, .iload 4, 2), (2, .i2l, 1), (3, .lconst 0, 1), (4, .ldc2_w 603, 3), (7, .invokestatic 268, 3), (10, .ifCond .eq 13, 3), (13, .aload_n 0, 1), (14, .iload_n 1, 1), (15, .iload_n 2, 1), (16, .iload_n 3, 1), (17, .invokevirtual 605, 3), (20, .ifCond .ne 5, 3), (23, .iconst (-1), 1), (24, .ireturn, 1), (25, .iload 4, 2), (27, .ifCond .ne 10, 3), (30, .aload_n 0, 1), (31, .getfield 594, 3), (34, .goto 33, 3), (37, .iload 4, 2), (39, .iconst 1, 1), (40, .if_icmp .ne 10, 3), (43, .aload_n 0, 1), (44, .getfield 597, 3), (47, .goto 20, 3), (50, .iload 4, 2), (52, .iconst 2, 1), (53, .if_icmp .ne 10, 3), (56, .aload_n 0, 1), (57, .getfield 600, 3), (60, .goto 7, 3), (63, .aload_n 0, 1), (64, .getfield 591, 3), (67, .ireturn, 1)] : List (Nat × Instr × Nat)), decode cX11_near q.1 = .ok q.2 := by decide +kernel
set_option maxHeartbeats 4000000 in
set_option maxRecDepth 20000 in
theorem s11_near {Y : m_Y Int} (S : m_Std Y RX11 cX11_near) (E : m_End Y cX11_near .ireturn (fun r => [m_i r])) {F : Nat} (hF : m_Rm Y F) (hFn : 4 ≤ F) (hN : Y.2.2.2.1 = 5) (v0 v1 v2 v3 v4 : Int) (h : m_H) : m_Sim Y 0 [(0, m_r v0), (1, m_i v1), (2, m_i v2), (3, m_i v3), (4, m_i v4)] [] h (t11_near v0 v1 v2 v3 v4 h) := by
  unfold t11_near
  refine ms_iload (pc := 0) S 4 rfl (m_dec e11_near 0 rfl) ?_
  refine ms_i2l (pc := 2) S (m_dec e11_near 1 rfl) ?_
  refine ms_lconst (pc := 3) S (n := 0) rfl (m_dec e11_near 2 rfl) ?_
  refine ms_ldc2 (pc := 4) S (n := 3) w_2175 (m_dec e11_near 3 rfl) ?_
  refine ms_callSz (pc := 7) S hF (vals := [m_j (m_w v4), m_j 0, m_j 3]) (st := [])  (hC := (k11_in _ _ (m_w v4) 0 3 h)) (hM := lm_X11_268) (hfr := (Nat.le_trans (by decide) hFn)) (hstk := rfl) (hcat := Nat.le_of_ble_eq_true rfl) (hd := (m_dec e11_near 4 rfl)) (k1 := fun r2 h1 => ?_)
  refine ms_ifb_eq (pc := 10) S (m_dec e11_near 5 rfl) rfl (fun q3 => ?_) (fun q3 => ?_)
  · refine ms_aload_n (pc := 13) S 0 rfl rfl (m_dec e11_near 6 rfl) ?_
    refine ms_iload_n (pc := 14) S 1 rfl rfl (m_dec e11_near 7 rfl) ?_
    refine ms_iload_n (pc := 15) S 2 rfl rfl (m_dec e11_near 8 rfl) ?_
    refine ms_iload_n (pc := 16) S 3 rfl rfl (m_dec e11_near 9 rfl) ?_
    refine ms_grd fun g4 => ?_
    refine ms_callVz (pc := 17) S hF (vals := [m_i v1, m_i v2, m_i v3]) (st := []) (hc := vw_11) (hci := by decide) (hcy := rfl) (ht := g4) (hC := (k11_nears _ _ v0 v1 v2 v3 h1)) (hM := lm_X11_605) (hfr := (Nat.le_trans (by decide) hFn)) (hstk := rfl) (hcat := Nat.le_of_ble_eq_true rfl) (hd := (m_dec e11_near 10 rfl)) (k1 := fun r6 h5 => ?_)
    refine ms_ifb_ne (pc := 20) S (m_dec e11_near 11 rfl) rfl (fun q7 => ?_) (fun q7 => ?_)
    · refine ms_iload (pc := 25) S 4 rfl (m_dec e11_near 14 rfl) ?_
      refine ms_if_ne (pc := 27) S (m_dec e11_near 15 rfl) rfl (fun q8 => ?_) (fun q8 => ?_)
      · refine ms_aload_n (pc := 30) S 0 rfl rfl (m_dec e11_near 16 rfl) ?_
        refine ms_grd fun g9 => ?_
        refine ms_getf (pc := 31) S lf_X11_594 rfl (m_dec e11_near 17 rfl) g9 ?_
        refine ms_goto (pc := 34) S (m_dec e11_near 18 rfl) rfl ?_
        exact ms_ret (pc := 67) E (m_dec e11_near 33 rfl) rfl
      · refine ms_iload (pc := 37) S 4 rfl (m_dec e11_near 19 rfl) ?_
        refine ms_iconst (pc := 39) S (m_dec e11_near 20 rfl) ?_
        refine ms_icmp_ne (pc := 40) S (m_dec e11_near 21 rfl) rfl (fun q10 => ?_) (fun q10 => ?_)
        · refine ms_aload_n (pc := 43) S 0 rfl rfl (m_dec e11_near 22 rfl) ?_
          refine ms_grd fun g11 => ?_
          refine ms_getf (pc := 44) S lf_X11_597 rfl (m_dec e11_near 23 rfl) g11 ?_
          refine ms_goto (pc := 47) S (m_dec e11_near 24 rfl) rfl ?_
          exact ms_ret (pc := 67) E (m_dec e11_near 33 rfl) rfl
        · refine ms_iload (pc := 50) S 4 rfl (m_dec e11_near 25 rfl) ?_
          refine ms_iconst (pc := 52) S (m_dec e11_near 26 rfl) ?_
          refine ms_icmp_ne (pc := 53) S (m_dec e11_near 27 rfl) rfl (fun q12 => ?_) (fun q12 => ?_)
          · refine ms_aload_n (pc := 56) S 0 rfl rfl (m_dec e11_near 28 rfl) ?_
            refine ms_grd fun g13 => ?_
            refine ms_getf (pc := 57) S lf_X11_600 rfl (m_dec e11_near 29 rfl) g13 ?_
            refine ms_goto (pc := 60) S (m_dec e11_near 30 rfl) rfl ?_
            exact ms_ret (pc := 67) E (m_dec e11_near 33 rfl) rfl
          · refine ms_aload_n (pc := 63) S 0 rfl rfl (m_dec e11_near 31 rfl) ?_
            refine ms_grd fun g14 => ?_
            refine ms_getf (pc := 64) S lf_X11_591 rfl (m_dec e11_near 32 rfl) g14 ?_
            exact ms_ret (pc := 67) E (m_dec e11_near 33 rfl) rfl
    · refine ms_iconst (pc := 23) S (m_dec e11_near 12 rfl) ?_
      exact ms_ret (pc := 24) E (m_dec e11_near 13 rfl) rfl
  · refine ms_iconst (pc := 23) S (m_dec e11_near 12 rfl) ?_
    exact ms_ret (pc := 24) E (m_dec e11_near 13 rfl) rfl
theorem k11_near (l : Launch) (d : m_D) (v0 v1 v2 v3 v4 : Int) (h : m_H) : m_Con l d yX11_near cX11_near 5 (some .int) 4 (fun r => [m_i r]) [m_r v0, m_i v1, m_i v2, m_i v3, m_i v4] h (t11_near v0 v1 v2 v3 v4 h) :=
  m_con2 (by decide +kernel) (Nat.le_of_ble_eq_true rfl) (fun Y hN hRm hr hI S hfin => s11_near S (m_end_i S hr hfin) hRm (Nat.le_refl _) hN v0 v1 v2 v3 v4 h)
set_option maxRecDepth 100000 in
theorem e11_rivals : ∀ q ∈ ([(0, .aload_n 0, 1), (1, .iload_n 1, 1), (2, .iload_n 2, 1), (3, .iload_n 3, 1), (4, .invokevirtual 605, 3), (7, .ifCond .eq 12, 3), (10, .aload_n 0, 1), (11, .getfield 579, 3), (14, .iconst 1, 1), (15, .isub, 1), (16, .goto 4, 3), (19, .iconst (-1), 1), (20, .ireturn, 1)] : List (Nat × Instr × Nat)), decode cX11_rivals q.1 = .ok q.2 := by decide +kernel
set_option maxHeartbeats 4000000 in
set_option maxRecDepth 20000 in
theorem s11_rivals {Y : m_Y Int} (S : m_Std Y RX11 cX11_rivals) (E : m_End Y cX11_rivals .ireturn (fun r => [m_i r])) {F : Nat} (hF : m_Rm Y F) (hFn : 4 ≤ F) (hN : Y.2.2.2.1 = 4) (v0 v1 v2 v3 : Int) (h : m_H) : m_Sim Y 0 [(0, m_r v0), (1, m_i v1), (2, m_i v2), (3, m_i v3)] [] h (t11_rivals v0 v1 v2 v3 h) := by
  unfold t11_rivals
  refine ms_aload_n (pc := 0) S 0 rfl rfl (m_dec e11_rivals 0 rfl) ?_
  refine ms_iload_n (pc := 1) S 1 rfl rfl (m_dec e11_rivals 1 rfl) ?_
  refine ms_iload_n (pc := 2) S 2 rfl rfl (m_dec e11_rivals 2 rfl) ?_
  refine ms_iload_n (pc := 3) S 3 rfl rfl (m_dec e11_rivals 3 rfl) ?_
  refine ms_grd fun g1 => ?_
  refine ms_callVz (pc := 4) S hF (vals := [m_i v1, m_i v2, m_i v3]) (st := []) (hc := vw_11) (hci := by decide) (hcy := rfl) (ht := g1) (hC := (k11_nears _ _ v0 v1 v2 v3 h)) (hM := lm_X11_605) (hfr := (Nat.le_trans (by decide) hFn)) (hstk := rfl) (hcat := Nat.le_of_ble_eq_true rfl) (hd := (m_dec e11_rivals 4 rfl)) (k1 := fun r3 h2 => ?_)
  refine ms_ifb_eq (pc := 7) S (m_dec e11_rivals 5 rfl) rfl (fun q4 => ?_) (fun q4 => ?_)
  · refine ms_aload_n (pc := 10) S 0 rfl rfl (m_dec e11_rivals 6 rfl) ?_
    refine ms_grd fun g5 => ?_
    refine ms_getf (pc := 11) S lf_X11_579 rfl (m_dec e11_rivals 7 rfl) g5 ?_
    refine ms_iconst (pc := 14) S (m_dec e11_rivals 8 rfl) ?_
    refine ms_isub (pc := 15) S (m_dec e11_rivals 9 rfl) ?_
    refine ms_goto (pc := 16) S (m_dec e11_rivals 10 rfl) rfl ?_
    exact ms_ret (pc := 20) E (m_dec e11_rivals 12 rfl) rfl
  · refine ms_iconst (pc := 19) S (m_dec e11_rivals 11 rfl) ?_
    exact ms_ret (pc := 20) E (m_dec e11_rivals 12 rfl) rfl
theorem k11_rivals (l : Launch) (d : m_D) (v0 v1 v2 v3 : Int) (h : m_H) : m_Con l d yX11_rivals cX11_rivals 4 (some .int) 4 (fun r => [m_i r]) [m_r v0, m_i v1, m_i v2, m_i v3] h (t11_rivals v0 v1 v2 v3 h) :=
  m_con2 (by decide +kernel) (Nat.le_of_ble_eq_true rfl) (fun Y hN hRm hr hI S hfin => s11_rivals S (m_end_i S hr hfin) hRm (Nat.le_refl _) hN v0 v1 v2 v3 h)
set_option maxRecDepth 100000 in
theorem e11_better : ∀ q ∈ ([(0, .iload_n 2, 1), (1, .aload_n 0, 1), (2, .getfield 259, 3), (5, .iload_n 1, 1), (6, .iaload, 1), (7, .if_icmp .le 10, 3), (10, .aload_n 0, 1), (11, .getfield 259, 3), (14, .iload_n 1, 1), (15, .iload_n 2, 1), (16, .iastore, 1), (17, .return_, 1)] : List (Nat × Instr × Nat)), decode cX11_better q.1 = .ok q.2 := by decide +kernel
set_option maxHeartbeats 4000000 in
set_option maxRecDepth 20000 in
theorem s11_better {Y : m_Y Unit} (S : m_Std Y RX11 cX11_better) (E : m_End Y cX11_better .return_ (fun _ => [])) {F : Nat} (hF : m_Rm Y F) (hFn : 0 ≤ F) (hN : Y.2.2.2.1 = 3) (v0 v1 v2 : Int) (h : m_H) : m_Sim Y 0 [(0, m_r v0), (1, m_i v1), (2, m_i v2)] [] h (t11_better v0 v1 v2 h) := by
  unfold t11_better
  refine ms_iload_n (pc := 0) S 2 rfl rfl (m_dec e11_better 0 rfl) ?_
  refine ms_aload_n (pc := 1) S 0 rfl rfl (m_dec e11_better 1 rfl) ?_
  refine ms_grd fun g1 => ?_
  refine ms_getf (pc := 2) S lf_X11_259 rfl (m_dec e11_better 2 rfl) g1 ?_
  refine ms_iload_n (pc := 5) S 1 rfl rfl (m_dec e11_better 3 rfl) ?_
  refine ms_grd fun g2 => ?_
  refine ms_iald (pc := 6) S g2 (m_dec e11_better 4 rfl) ?_
  refine ms_icmp_le (pc := 7) S (m_dec e11_better 5 rfl) rfl (fun q3 => ?_) (fun q3 => ?_)
  · refine ms_aload_n (pc := 10) S 0 rfl rfl (m_dec e11_better 6 rfl) ?_
    refine ms_getf (pc := 11) S lf_X11_259 rfl (m_dec e11_better 7 rfl) g1 ?_
    refine ms_iload_n (pc := 14) S 1 rfl rfl (m_dec e11_better 8 rfl) ?_
    refine ms_iload_n (pc := 15) S 2 rfl rfl (m_dec e11_better 9 rfl) ?_
    refine ms_iast (pc := 16) S g2 (m_dec e11_better 10 rfl) (fun h4 => ?_)
    exact ms_ret (pc := 17) E (m_dec e11_better 11 rfl) rfl
  · exact ms_ret (pc := 17) E (m_dec e11_better 11 rfl) rfl
theorem k11_better (l : Launch) (d : m_D) (v0 v1 v2 : Int) (h : m_H) : m_Con l d yX11_better cX11_better 3 none 0 (fun _ => []) [m_r v0, m_i v1, m_i v2] h (t11_better v0 v1 v2 h) :=
  m_con2 (by decide +kernel) (Nat.le_of_ble_eq_true rfl) (fun Y hN hRm hr hI S hfin => s11_better S (m_end_v S hr hfin) hRm (Nat.le_refl _) hN v0 v1 v2 h)
set_option maxRecDepth 100000 in
theorem e11_longest : ∀ q ∈ ([(0, .iconst 0, 1), (1, .istore_n 2, 1), (2, .iload_n 2, 1), (3, .aload_n 0, 1), (4, .getfield 565, 3), (7, .if_icmp .gt 16, 3), (10, .aload_n 0, 1), (11, .getfield 259, 3), (14, .iload_n 2, 1), (15, .iconst 0, 1), (16, .iastore, 1), (17, .iinc 2 1, 3), (20, .goto (-18), 3), (23, .iconst 0, 1), (24, .istore_n 2, 1), (25, .iload_n 2, 1), (26, .aload_n 0, 1), (27, .getfield 265, 3), (30, .if_icmp .ge 160, 3), (33, .iconst 0, 1), (34, .istore_n 3, 1), (35, .iload_n 3, 1), (36, .iconst 4, 1), (37, .if_icmp .ge 147, 3), (40, .aload_n 0, 1), (41, .iload_n 2, 1), (42, .invokevirtual 582, 3), (45, .ifCond .eq 139, 3), (48, .aload_n 0, 1), (49, .iload_n 2, 1), (50, .iload_n 3, 1), (51, .invokevirtual 585, 3), (54, .iconst 1, 1), (55, .aload_n 0, 1), (56, .getfield 568, 3), (59, .isub, 1), (60, .istore 4, 2), (62, .iload 4, 2), (64, .aload_n 0, 1), (65, .getfield 565, 3), (68, .if_icmp .ge 110, 3), (71, .iconst 0, 1), (72, .istore 5, 2), (74, .aload_n 0, 1), (75, .getfield 565, 3), (78, .iconst 1, 1), (79, .isub, 1), (80, .iload 4, 2), (82, .aload_n 0, 1), (83, .getfield 568, 3), (86, .iadd, 1), (87, .iconst 1, 1), (88, .isub, 1), (89, .if_icmp .ge 12, 3), (92, .aload_n 0, 1), (93, .getfield 565, 3), (96, .iconst 1, 1), (97, .isub, 1), (98, .goto 12, 3), (101, .iload 4, 2), (103, .aload_n 0, 1), (104, .getfield 568, 3), (107, .iadd, 1), (108, .iconst 1, 1), (109, .isub, 1), (110, .istore 6, 2), (112, .iload 6, 2), (114, .ifCond .lt 58, 3), (117, .iload 6, 2), (119, .iload 4, 2), (121, .if_icmp .lt 51, 3), (124, .aload_n 0, 1), (125, .getfield 253, 3), (128, .iload 6, 2), (130, .iaload, 1), (131, .aload_n 0, 1), (132, .getfield 256, 3), (135, .iload 6, 2), (137, .iload 4, 2), (139, .isub, 1), (140, .iaload, 1), (141, .invokestatic 573, 3), (144, .iload_n 1, 1), (145, .if_icmp .gt 10, 3), (148, .iload 5, 2), (150, .iconst 1, 1), (151, .iadd, 1), (152, .goto 4, 3), (155, .iconst 0, 1), (156, .istore 5, 2), (158, .aload_n 0, 1), (159, .iload 6, 2), (161, .iload 5, 2), (163, .invokevirtual 608, 3), (166, .iinc 6 (-1), 3), (169, .goto (-57), 3), (172, .iinc 4 1, 3), (175, .goto (-113), 3), (178, .iinc 3 1, 3), (181, .goto (-146), 3), (184, .iinc 2 1, 3), (187, .goto (-162), 3), (190, .return_, 1)] : List (Nat × Instr × Nat)), decode cX11_longest q.1 = .ok q.2 := by decide +kernel
set_option maxHeartbeats 4000000 in
set_option maxRecDepth 20000 in
theorem s11_longest_x25 {Y : m_Y Unit} (S : m_Std Y RX11 cX11_longest) (E : m_End Y cX11_longest .return_ (fun _ => [])) {F : Nat} (hF : m_Rm Y F) (hFn : 3 ≤ F) (hN : Y.2.2.2.1 = 7) : ∀ (cc : Int) (v0 v1 v2 v3 v4 v5 v6 : Int) (h : m_H) (r : Unit × m_H), t11_longest_x25 cc v0 v1 v2 v3 v4 v5 v6 h = some r → (cc = 25 → m_Sim Y 25 [(0, m_r v0), (1, m_i v1), (2, m_i v2)] [] h (some r)) ∧ (cc = 35 → m_Sim Y 35 [(0, m_r v0), (1, m_i v1), (2, m_i v2), (3, m_i v3)] [] h (some r)) ∧ (cc = 62 → m_Sim Y 62 [(0, m_r v0), (1, m_i v1), (2, m_i v2), (3, m_i v3), (4, m_i v4)] [] h (some r)) ∧ (cc = 112 → m_Sim Y 112 [(0, m_r v0), (1, m_i v1), (2, m_i v2), (3, m_i v3), (4, m_i v4), (5, m_i v5), (6, m_i v6)] [] h (some r)) := by
  intro cc v0 v1 v2 v3 v4 v5 v6 h r e
  refine t11_longest_x25.partial_correctness v0 v1 (motive := fun cc v2 v3 v4 v5 v6 h r => (cc = 25 → m_Sim Y 25 [(0, m_r v0), (1, m_i v1), (2, m_i v2)] [] h (some r)) ∧ (cc = 35 → m_Sim Y 35 [(0, m_r v0), (1, m_i v1), (2, m_i v2), (3, m_i v3)] [] h (some r)) ∧ (cc = 62 → m_Sim Y 62 [(0, m_r v0), (1, m_i v1), (2, m_i v2), (3, m_i v3), (4, m_i v4)] [] h (some r)) ∧ (cc = 112 → m_Sim Y 112 [(0, m_r v0), (1, m_i v1), (2, m_i v2), (3, m_i v3), (4, m_i v4), (5, m_i v5), (6, m_i v6)] [] h (some r))) ?_ cc v2 v3 v4 v5 v6 h r e
  intro f ih cc v2 v3 v4 v5 v6 h r e
  have ih25 : ∀ (v2 v3 v4 v5 v6 : Int) (h : m_H), m_Sim Y 25 [(0, m_r v0), (1, m_i v1), (2, m_i v2)] [] h (f 25 v2 v3 v4 v5 v6 h ) := fun v2 v3 v4 v5 v6 h  => ms_all fun r e => (ih 25 v2 v3 v4 v5 v6 h r e).1 rfl
  have ih35 : ∀ (v2 v3 v4 v5 v6 : Int) (h : m_H), m_Sim Y 35 [(0, m_r v0), (1, m_i v1), (2, m_i v2), (3, m_i v3)] [] h (f 35 v2 v3 v4 v5 v6 h ) := fun v2 v3 v4 v5 v6 h  => ms_all fun r e => (ih 35 v2 v3 v4 v5 v6 h r e).2.1 rfl
  have ih62 : ∀ (v2 v3 v4 v5 v6 : Int) (h : m_H), m_Sim Y 62 [(0, m_r v0), (1, m_i v1), (2, m_i v2), (3, m_i v3), (4, m_i v4)] [] h (f 62 v2 v3 v4 v5 v6 h ) := fun v2 v3 v4 v5 v6 h  => ms_all fun r e => (ih 62 v2 v3 v4 v5 v6 h r e).2.2.1 rfl
  have ih112 : ∀ (v2 v3 v4 v5 v6 : Int) (h : m_H), m_Sim Y 112 [(0, m_r v0), (1, m_i v1), (2, m_i v2), (3, m_i v3), (4, m_i v4), (5, m_i v5), (6, m_i v6)] [] h (f 112 v2 v3 v4 v5 v6 h ) := fun v2 v3 v4 v5 v6 h  => ms_all fun r e => (ih 112 v2 v3 v4 v5 v6 h r e).2.2.2 rfl
  refine ⟨?_, ?_, ?_, ?_⟩
  · intro q0
    subst q0
    rw [if_pos rfl] at e
    refine ms_use ?_ e
    clear e r
    refine ms_iload_n (pc := 25) S 2 rfl rfl (m_dec e11_longest 15 rfl) ?_
    refine ms_aload_n (pc := 26) S 0 rfl rfl (m_dec e11_longest 16 rfl) ?_
    refine ms_grd fun g1 => ?_
    refine ms_getf (pc := 27) S lf_X11_265 rfl (m_dec e11_longest 17 rfl) g1 ?_
    refine ms_icmp_ge (pc := 30) S (m_dec e11_longest 18 rfl) rfl (fun q2 => ?_) (fun q2 => ?_)
    · refine ms_iconst (pc := 33) S (m_dec e11_longest 19 rfl) ?_
      refine ms_istore_n (pc := 34) S (L' := [(0, m_r v0), (1, m_i v1), (2, m_i v2), (3, m_i 0)]) [1, 2, 3, 0] rfl rfl (m_lt hN rfl) (m_dec e11_longest 20 rfl) ?_
      exact ih35 v2 0 0 0 0 h
    · exact ms_ret (pc := 190) E (m_dec e11_longest 102 rfl) rfl
  · intro q0
    subst q0
    rw [if_neg (by decide), if_pos rfl] at e
    refine ms_use ?_ e
    clear e r
    refine ms_iload_n (pc := 35) S 3 rfl rfl (m_dec e11_longest 21 rfl) ?_
    refine ms_iconst (pc := 36) S (m_dec e11_longest 22 rfl) ?_
    refine ms_icmp_ge (pc := 37) S (m_dec e11_longest 23 rfl) rfl (fun q1 => ?_) (fun q1 => ?_)
    · refine ms_aload_n (pc := 40) S 0 rfl rfl (m_dec e11_longest 24 rfl) ?_
      refine ms_iload_n (pc := 41) S 2 rfl rfl (m_dec e11_longest 25 rfl) ?_
      refine ms_grd fun g2 => ?_
      refine ms_callVz (pc := 42) S hF (vals := [m_i v2]) (st := []) (hc := vw_11) (hci := by decide) (hcy := rfl) (ht := g2) (hC := (k11_isLaid _ _ v0 v2 h)) (hM := lm_X11_582) (hfr := (Nat.le_trans (by decide) hFn)) (hstk := rfl) (hcat := Nat.le_of_ble_eq_true rfl) (hd := (m_dec e11_longest 26 rfl)) (k1 := fun r4 h3 => ?_)
      refine ms_ifb_eq (pc := 45) S (m_dec e11_longest 27 rfl) rfl (fun q5 => ?_) (fun q5 => ?_)
      · refine ms_aload_n (pc := 48) S 0 rfl rfl (m_dec e11_longest 28 rfl) ?_
        refine ms_iload_n (pc := 49) S 2 rfl rfl (m_dec e11_longest 29 rfl) ?_
        refine ms_iload_n (pc := 50) S 3 rfl rfl (m_dec e11_longest 30 rfl) ?_
        refine ms_grd fun g6 => ?_
        refine ms_callVv (pc := 51) S hF (vals := [m_i v2, m_i v3]) (st := []) (hc := vw_11) (hci := by decide) (hcy := rfl) (ht := g6) (hC := (k11_gives _ _ v0 v2 v3 h3)) (hM := lm_X11_585) (hfr := (Nat.le_trans (by decide) hFn)) (hstk := rfl) (hcat := Nat.le_of_ble_eq_true rfl) (hd := (m_dec e11_longest 31 rfl)) (k1 := fun h7 => ?_)
        refine ms_iconst (pc := 54) S (m_dec e11_longest 32 rfl) ?_
        refine ms_aload_n (pc := 55) S 0 rfl rfl (m_dec e11_longest 33 rfl) ?_
        refine ms_grd fun g9 => ?_
        refine ms_getf (pc := 56) S lf_X11_568 rfl (m_dec e11_longest 34 rfl) g9 ?_
        refine ms_isub (pc := 59) S (m_dec e11_longest 35 rfl) ?_
        refine ms_nm (st := fun x10 => [m_i x10]) fun x10 => ?_
        refine ms_istore (pc := 60) S (L' := [(0, m_r v0), (1, m_i v1), (2, m_i v2), (3, m_i v3), (4, m_i x10)]) [1, 2, 3, 4, 0] rfl (m_lt hN rfl) (m_dec e11_longest 36 rfl) ?_
        exact ih62 v2 v3 x10 0 0 h7
      · refine ms_iinc (pc := 184) S (L' := [(0, m_r v0), (1, m_i v1), (2, m_i (v2 + 1))]) 2 rfl [1, 2, 0] rfl (m_lt hN rfl) (m_dec e11_longest 100 rfl) ?_
        refine ms_goto (pc := 187) S (m_dec e11_longest 101 rfl) rfl ?_
        exact ih25 (v2 + 1) 0 0 0 0 h3
    · refine ms_iinc (pc := 184) S (L' := [(0, m_r v0), (1, m_i v1), (2, m_i (v2 + 1))]) 2 rfl [1, 2, 0] rfl (m_lt hN rfl) (m_dec e11_longest 100 rfl) ?_
      refine ms_goto (pc := 187) S (m_dec e11_longest 101 rfl) rfl ?_
      exact ih25 (v2 + 1) 0 0 0 0 h
  · intro q0
    subst q0
    rw [if_neg (by decide), if_neg (by decide), if_pos rfl] at e
    refine ms_use ?_ e
    clear e r
    refine ms_iload (pc := 62) S 4 rfl (m_dec e11_longest 37 rfl) ?_
    refine ms_aload_n (pc := 64) S 0 rfl rfl (m_dec e11_longest 38 rfl) ?_
    refine ms_grd fun g1 => ?_
    refine ms_getf (pc := 65) S lf_X11_565 rfl (m_dec e11_longest 39 rfl) g1 ?_
    refine ms_icmp_ge (pc := 68) S (m_dec e11_longest 40 rfl) rfl (fun q2 => ?_) (fun q2 => ?_)
    · refine ms_iconst (pc := 71) S (m_dec e11_longest 41 rfl) ?_
      refine ms_istore (pc := 72) S (L' := [(0, m_r v0), (1, m_i v1), (2, m_i v2), (3, m_i v3), (4, m_i v4), (5, m_i 0)]) [1, 2, 3, 4, 5, 0] rfl (m_lt hN rfl) (m_dec e11_longest 42 rfl) ?_
      refine ms_aload_n (pc := 74) S 0 rfl rfl (m_dec e11_longest 43 rfl) ?_
      refine ms_getf (pc := 75) S lf_X11_565 rfl (m_dec e11_longest 44 rfl) g1 ?_
      refine ms_iconst (pc := 78) S (m_dec e11_longest 45 rfl) ?_
      refine ms_isub (pc := 79) S (m_dec e11_longest 46 rfl) ?_
      refine ms_iload (pc := 80) S 4 rfl (m_dec e11_longest 47 rfl) ?_
      refine ms_aload_n (pc := 82) S 0 rfl rfl (m_dec e11_longest 48 rfl) ?_
      refine ms_getf (pc := 83) S lf_X11_568 rfl (m_dec e11_longest 49 rfl) g1 ?_
      refine ms_iadd (pc := 86) S (m_dec e11_longest 50 rfl) ?_
      refine ms_iconst (pc := 87) S (m_dec e11_longest 51 rfl) ?_
      refine ms_isub (pc := 88) S (m_dec e11_longest 52 rfl) ?_
      refine ms_icmp_ge (pc := 89) S (m_dec e11_longest 53 rfl) rfl (fun q3 => ?_) (fun q3 => ?_)
      · refine ms_aload_n (pc := 92) S 0 rfl rfl (m_dec e11_longest 54 rfl) ?_
        refine ms_getf (pc := 93) S lf_X11_565 rfl (m_dec e11_longest 55 rfl) g1 ?_
        refine ms_iconst (pc := 96) S (m_dec e11_longest 56 rfl) ?_
        refine ms_isub (pc := 97) S (m_dec e11_longest 57 rfl) ?_
        refine ms_goto (pc := 98) S (m_dec e11_longest 58 rfl) rfl ?_
        refine ms_nm (st := fun x4 => [m_i x4]) fun x4 => ?_
        refine ms_istore (pc := 110) S (L' := [(0, m_r v0), (1, m_i v1), (2, m_i v2), (3, m_i v3), (4, m_i v4), (5, m_i 0), (6, m_i x4)]) [1, 2, 3, 4, 5, 6, 0] rfl (m_lt hN rfl) (m_dec e11_longest 65 rfl) ?_
        exact ih112 v2 v3 v4 0 x4 h
      · refine ms_iload (pc := 101) S 4 rfl (m_dec e11_longest 59 rfl) ?_
        refine ms_aload_n (pc := 103) S 0 rfl rfl (m_dec e11_longest 60 rfl) ?_
        refine ms_getf (pc := 104) S lf_X11_568 rfl (m_dec e11_longest 61 rfl) g1 ?_
        refine ms_iadd (pc := 107) S (m_dec e11_longest 62 rfl) ?_
        refine ms_iconst (pc := 108) S (m_dec e11_longest 63 rfl) ?_
        refine ms_isub (pc := 109) S (m_dec e11_longest 64 rfl) ?_
        refine ms_nm (st := fun x5 => [m_i x5]) fun x5 => ?_
        refine ms_istore (pc := 110) S (L' := [(0, m_r v0), (1, m_i v1), (2, m_i v2), (3, m_i v3), (4, m_i v4), (5, m_i 0), (6, m_i x5)]) [1, 2, 3, 4, 5, 6, 0] rfl (m_lt hN rfl) (m_dec e11_longest 65 rfl) ?_
        exact ih112 v2 v3 v4 0 x5 h
    · refine ms_iinc (pc := 178) S (L' := [(0, m_r v0), (1, m_i v1), (2, m_i v2), (3, m_i (v3 + 1))]) 3 rfl [1, 2, 3, 0] rfl (m_lt hN rfl) (m_dec e11_longest 98 rfl) ?_
      refine ms_goto (pc := 181) S (m_dec e11_longest 99 rfl) rfl ?_
      exact ih35 v2 (v3 + 1) 0 0 0 h
  · intro q0
    subst q0
    rw [if_neg (by decide), if_neg (by decide), if_neg (by decide), if_pos rfl] at e
    refine ms_use ?_ e
    clear e r
    refine ms_iload (pc := 112) S 6 rfl (m_dec e11_longest 66 rfl) ?_
    refine ms_if_lt (pc := 114) S (m_dec e11_longest 67 rfl) rfl (fun q1 => ?_) (fun q1 => ?_)
    · refine ms_iinc (pc := 172) S (L' := [(0, m_r v0), (1, m_i v1), (2, m_i v2), (3, m_i v3), (4, m_i (v4 + 1))]) 4 rfl [1, 2, 3, 4, 0] rfl (m_lt hN rfl) (m_dec e11_longest 96 rfl) ?_
      refine ms_goto (pc := 175) S (m_dec e11_longest 97 rfl) rfl ?_
      exact ih62 v2 v3 (v4 + 1) 0 0 h
    · refine ms_iload (pc := 117) S 6 rfl (m_dec e11_longest 68 rfl) ?_
      refine ms_iload (pc := 119) S 4 rfl (m_dec e11_longest 69 rfl) ?_
      refine ms_icmp_lt (pc := 121) S (m_dec e11_longest 70 rfl) rfl (fun q2 => ?_) (fun q2 => ?_)
      · refine ms_iinc (pc := 172) S (L' := [(0, m_r v0), (1, m_i v1), (2, m_i v2), (3, m_i v3), (4, m_i (v4 + 1))]) 4 rfl [1, 2, 3, 4, 0] rfl (m_lt hN rfl) (m_dec e11_longest 96 rfl) ?_
        refine ms_goto (pc := 175) S (m_dec e11_longest 97 rfl) rfl ?_
        exact ih62 v2 v3 (v4 + 1) 0 0 h
      · refine ms_aload_n (pc := 124) S 0 rfl rfl (m_dec e11_longest 71 rfl) ?_
        refine ms_grd fun g3 => ?_
        refine ms_getf (pc := 125) S lf_X11_253 rfl (m_dec e11_longest 72 rfl) g3 ?_
        refine ms_iload (pc := 128) S 6 rfl (m_dec e11_longest 73 rfl) ?_
        refine ms_grd fun g4 => ?_
        refine ms_iald (pc := 130) S g4 (m_dec e11_longest 74 rfl) ?_
        refine ms_aload_n (pc := 131) S 0 rfl rfl (m_dec e11_longest 75 rfl) ?_
        refine ms_getf (pc := 132) S lf_X11_256 rfl (m_dec e11_longest 76 rfl) g3 ?_
        refine ms_iload (pc := 135) S 6 rfl (m_dec e11_longest 77 rfl) ?_
        refine ms_iload (pc := 137) S 4 rfl (m_dec e11_longest 78 rfl) ?_
        refine ms_isub (pc := 139) S (m_dec e11_longest 79 rfl) ?_
        refine ms_grd fun g5 => ?_
        refine ms_iald (pc := 140) S g5 (m_dec e11_longest 80 rfl) ?_
        refine ms_callSi (pc := 141) S hF (vals := [m_i (m_g h (m_g h v0 81) (m_w v6)), m_i (m_g h (m_g h v0 82) (m_w (v6 - v4)))]) (st := [])  (hC := (k11_differs _ _ (m_g h (m_g h v0 81) (m_w v6)) (m_g h (m_g h v0 82) (m_w (v6 - v4))) h)) (hM := lm_X11_573) (hfr := (Nat.le_trans (by decide) hFn)) (hstk := rfl) (hcat := Nat.le_of_ble_eq_true rfl) (hd := (m_dec e11_longest 81 rfl)) (k1 := fun r7 h6 => ?_)
        refine ms_iload_n (pc := 144) S 1 rfl rfl (m_dec e11_longest 82 rfl) ?_
        refine ms_icmp_gt (pc := 145) S (m_dec e11_longest 83 rfl) rfl (fun q8 => ?_) (fun q8 => ?_)
        · refine ms_iconst (pc := 155) S (m_dec e11_longest 88 rfl) ?_
          refine ms_istore (pc := 156) S (L' := [(0, m_r v0), (1, m_i v1), (2, m_i v2), (3, m_i v3), (4, m_i v4), (5, m_i 0), (6, m_i v6)]) [1, 2, 3, 4, 5, 0, 6] rfl (m_lt hN rfl) (m_dec e11_longest 89 rfl) ?_
          refine ms_aload_n (pc := 158) S 0 rfl rfl (m_dec e11_longest 90 rfl) ?_
          refine ms_iload (pc := 159) S 6 rfl (m_dec e11_longest 91 rfl) ?_
          refine ms_iload (pc := 161) S 5 rfl (m_dec e11_longest 92 rfl) ?_
          refine ms_grd fun g9 => ?_
          refine ms_callVv (pc := 163) S hF (vals := [m_i v6, m_i 0]) (st := []) (hc := vw_11) (hci := by decide) (hcy := rfl) (ht := g9) (hC := (k11_better _ _ v0 v6 0 h6)) (hM := lm_X11_608) (hfr := (Nat.le_trans (by decide) hFn)) (hstk := rfl) (hcat := Nat.le_of_ble_eq_true rfl) (hd := (m_dec e11_longest 93 rfl)) (k1 := fun h10 => ?_)
          refine ms_iinc (pc := 166) S (L' := [(0, m_r v0), (1, m_i v1), (2, m_i v2), (3, m_i v3), (4, m_i v4), (5, m_i 0), (6, m_i (v6 + (-1)))]) 6 rfl [1, 2, 3, 4, 5, 6, 0] rfl (m_lt hN rfl) (m_dec e11_longest 94 rfl) ?_
          refine ms_goto (pc := 169) S (m_dec e11_longest 95 rfl) rfl ?_
          exact ih112 v2 v3 v4 0 (v6 + (-1)) h10
        · refine ms_iload (pc := 148) S 5 rfl (m_dec e11_longest 84 rfl) ?_
          refine ms_iconst (pc := 150) S (m_dec e11_longest 85 rfl) ?_
          refine ms_iadd (pc := 151) S (m_dec e11_longest 86 rfl) ?_
          refine ms_goto (pc := 152) S (m_dec e11_longest 87 rfl) rfl ?_
          refine ms_nm (st := fun x12 => [m_i x12]) fun x12 => ?_
          refine ms_istore (pc := 156) S (L' := [(0, m_r v0), (1, m_i v1), (2, m_i v2), (3, m_i v3), (4, m_i v4), (5, m_i x12), (6, m_i v6)]) [1, 2, 3, 4, 5, 0, 6] rfl (m_lt hN rfl) (m_dec e11_longest 89 rfl) ?_
          refine ms_aload_n (pc := 158) S 0 rfl rfl (m_dec e11_longest 90 rfl) ?_
          refine ms_iload (pc := 159) S 6 rfl (m_dec e11_longest 91 rfl) ?_
          refine ms_iload (pc := 161) S 5 rfl (m_dec e11_longest 92 rfl) ?_
          refine ms_grd fun g13 => ?_
          refine ms_callVv (pc := 163) S hF (vals := [m_i v6, m_i x12]) (st := []) (hc := vw_11) (hci := by decide) (hcy := rfl) (ht := g13) (hC := (k11_better _ _ v0 v6 x12 h6)) (hM := lm_X11_608) (hfr := (Nat.le_trans (by decide) hFn)) (hstk := rfl) (hcat := Nat.le_of_ble_eq_true rfl) (hd := (m_dec e11_longest 93 rfl)) (k1 := fun h14 => ?_)
          refine ms_iinc (pc := 166) S (L' := [(0, m_r v0), (1, m_i v1), (2, m_i v2), (3, m_i v3), (4, m_i v4), (5, m_i x12), (6, m_i (v6 + (-1)))]) 6 rfl [1, 2, 3, 4, 5, 6, 0] rfl (m_lt hN rfl) (m_dec e11_longest 94 rfl) ?_
          refine ms_goto (pc := 169) S (m_dec e11_longest 95 rfl) rfl ?_
          exact ih112 v2 v3 v4 x12 (v6 + (-1)) h14
set_option maxHeartbeats 4000000 in
set_option maxRecDepth 20000 in
theorem s11_longest_c25 {Y : m_Y Unit} (S : m_Std Y RX11 cX11_longest) (E : m_End Y cX11_longest .return_ (fun _ => [])) {F : Nat} (hF : m_Rm Y F) (hFn : 3 ≤ F) (hN : Y.2.2.2.1 = 7) (v0 v1 v2 v3 v4 v5 v6 : Int) (h : m_H) : m_Sim Y 25 [(0, m_r v0), (1, m_i v1), (2, m_i v2)] [] h (t11_longest_x25 25 v0 v1 v2 v3 v4 v5 v6 h) := ms_all fun r e => (s11_longest_x25 S E hF hFn hN 25 v0 v1 v2 v3 v4 v5 v6 h r e).1 rfl
set_option maxHeartbeats 4000000 in
set_option maxRecDepth 20000 in
theorem s11_longest_c35 {Y : m_Y Unit} (S : m_Std Y RX11 cX11_longest) (E : m_End Y cX11_longest .return_ (fun _ => [])) {F : Nat} (hF : m_Rm Y F) (hFn : 3 ≤ F) (hN : Y.2.2.2.1 = 7) (v0 v1 v2 v3 v4 v5 v6 : Int) (h : m_H) : m_Sim Y 35 [(0, m_r v0), (1, m_i v1), (2, m_i v2), (3, m_i v3)] [] h (t11_longest_x25 35 v0 v1 v2 v3 v4 v5 v6 h) := ms_all fun r e => (s11_longest_x25 S E hF hFn hN 35 v0 v1 v2 v3 v4 v5 v6 h r e).2.1 rfl
set_option maxHeartbeats 4000000 in
set_option maxRecDepth 20000 in
theorem s11_longest_c62 {Y : m_Y Unit} (S : m_Std Y RX11 cX11_longest) (E : m_End Y cX11_longest .return_ (fun _ => [])) {F : Nat} (hF : m_Rm Y F) (hFn : 3 ≤ F) (hN : Y.2.2.2.1 = 7) (v0 v1 v2 v3 v4 v5 v6 : Int) (h : m_H) : m_Sim Y 62 [(0, m_r v0), (1, m_i v1), (2, m_i v2), (3, m_i v3), (4, m_i v4)] [] h (t11_longest_x25 62 v0 v1 v2 v3 v4 v5 v6 h) := ms_all fun r e => (s11_longest_x25 S E hF hFn hN 62 v0 v1 v2 v3 v4 v5 v6 h r e).2.2.1 rfl
set_option maxHeartbeats 4000000 in
set_option maxRecDepth 20000 in
theorem s11_longest_c112 {Y : m_Y Unit} (S : m_Std Y RX11 cX11_longest) (E : m_End Y cX11_longest .return_ (fun _ => [])) {F : Nat} (hF : m_Rm Y F) (hFn : 3 ≤ F) (hN : Y.2.2.2.1 = 7) (v0 v1 v2 v3 v4 v5 v6 : Int) (h : m_H) : m_Sim Y 112 [(0, m_r v0), (1, m_i v1), (2, m_i v2), (3, m_i v3), (4, m_i v4), (5, m_i v5), (6, m_i v6)] [] h (t11_longest_x25 112 v0 v1 v2 v3 v4 v5 v6 h) := ms_all fun r e => (s11_longest_x25 S E hF hFn hN 112 v0 v1 v2 v3 v4 v5 v6 h r e).2.2.2 rfl
set_option maxHeartbeats 4000000 in
set_option maxRecDepth 20000 in
theorem s11_longest_c2 {Y : m_Y Unit} (S : m_Std Y RX11 cX11_longest) (E : m_End Y cX11_longest .return_ (fun _ => [])) {F : Nat} (hF : m_Rm Y F) (hFn : 3 ≤ F) (hN : Y.2.2.2.1 = 7) : ∀ (v0 v1 v2 : Int) (h : m_H), m_Sim Y 2 [(0, m_r v0), (1, m_i v1), (2, m_i v2)] [] h (t11_longest_c2 v0 v1 v2 h) := by
  intro v0 v1 v2 h
  refine ms_all fun r e => ?_
  refine t11_longest_c2.partial_correctness v0 v1 (motive := fun v2 h r => m_Sim Y 2 [(0, m_r v0), (1, m_i v1), (2, m_i v2)] [] h (some r)) ?_ v2 h r e
  intro f ih v2 h r e
  have ih : ∀ (v2 : Int) (h : m_H), m_Sim Y 2 [(0, m_r v0), (1, m_i v1), (2, m_i v2)] [] h (f v2 h ) := fun v2 h  => ms_all fun r e => ih v2 h r e
  refine ms_use ?_ e
  clear e r
  refine ms_iload_n (pc := 2) S 2 rfl rfl (m_dec e11_longest 2 rfl) ?_
  refine ms_aload_n (pc := 3) S 0 rfl rfl (m_dec e11_longest 3 rfl) ?_
  refine ms_grd fun g1 => ?_
  refine ms_getf (pc := 4) S lf_X11_565 rfl (m_dec e11_longest 4 rfl) g1 ?_
  refine ms_icmp_gt (pc := 7) S (m_dec e11_longest 5 rfl) rfl (fun q2 => ?_) (fun q2 => ?_)
  · refine ms_iconst (pc := 23) S (m_dec e11_longest 13 rfl) ?_
    refine ms_istore_n (pc := 24) S (L' := [(0, m_r v0), (1, m_i v1), (2, m_i 0)]) [1, 2, 0] rfl rfl (m_lt hN rfl) (m_dec e11_longest 14 rfl) ?_
    exact s11_longest_c25 S E hF hFn hN v0 v1 0 0 0 0 0 h
  · refine ms_aload_n (pc := 10) S 0 rfl rfl (m_dec e11_longest 6 rfl) ?_
    refine ms_getf (pc := 11) S lf_X11_259 rfl (m_dec e11_longest 7 rfl) g1 ?_
    refine ms_iload_n (pc := 14) S 2 rfl rfl (m_dec e11_longest 8 rfl) ?_
    refine ms_iconst (pc := 15) S (m_dec e11_longest 9 rfl) ?_
    refine ms_grd fun g3 => ?_
    refine ms_iast (pc := 16) S g3 (m_dec e11_longest 10 rfl) (fun h4 => ?_)
    refine ms_iinc (pc := 17) S (L' := [(0, m_r v0), (1, m_i v1), (2, m_i (v2 + 1))]) 2 rfl [1, 2, 0] rfl (m_lt hN rfl) (m_dec e11_longest 11 rfl) ?_
    refine ms_goto (pc := 20) S (m_dec e11_longest 12 rfl) rfl ?_
    exact ih (v2 + 1) h4
set_option maxHeartbeats 4000000 in
set_option maxRecDepth 20000 in
theorem s11_longest {Y : m_Y Unit} (S : m_Std Y RX11 cX11_longest) (E : m_End Y cX11_longest .return_ (fun _ => [])) {F : Nat} (hF : m_Rm Y F) (hFn : 3 ≤ F) (hN : Y.2.2.2.1 = 7) (v0 v1 : Int) (h : m_H) : m_Sim Y 0 [(0, m_r v0), (1, m_i v1)] [] h (t11_longest v0 v1 h) := by
  unfold t11_longest
  refine ms_iconst (pc := 0) S (m_dec e11_longest 0 rfl) ?_
  refine ms_istore_n (pc := 1) S (L' := [(0, m_r v0), (1, m_i v1), (2, m_i 0)]) [1, 2, 0] rfl rfl (m_lt hN rfl) (m_dec e11_longest 1 rfl) ?_
  exact s11_longest_c2 S E hF hFn hN v0 v1 0 h
theorem k11_longest (l : Launch) (d : m_D) (v0 v1 : Int) (h : m_H) : m_Con l d yX11_longest cX11_longest 7 none 3 (fun _ => []) [m_r v0, m_i v1] h (t11_longest v0 v1 h) :=
  m_con2 (by decide +kernel) (Nat.le_of_ble_eq_true rfl) (fun Y hN hRm hr hI S hfin => s11_longest S (m_end_v S hr hfin) hRm (Nat.le_refl _) hN v0 v1 h)
set_option maxRecDepth 100000 in
theorem e11_covers : ∀ q ∈ ([(0, .iload_n 1, 1), (1, .iload_n 2, 1), (2, .invokestatic 576, 3), (5, .ifCond .ne 5, 3), (8, .iconst 0, 1), (9, .ireturn, 1), (10, .aload_n 0, 1), (11, .iload_n 2, 1), (12, .invokevirtual 611, 3), (15, .aload_n 0, 1), (16, .getfield 262, 3), (19, .aload_n 0, 1), (20, .getfield 565, 3), (23, .iconst 0, 1), (24, .iastore, 1), (25, .aload_n 0, 1), (26, .getfield 565, 3), (29, .iconst 1, 1), (30, .isub, 1), (31, .istore_n 3, 1), (32, .iload_n 3, 1), (33, .ifCond .lt 75, 3), (36, .aload_n 0, 1), (37, .getfield 262, 3), (40, .iload_n 3, 1), (41, .sipush 1001, 3), (44, .iastore, 1), (45, .iload_n 1, 1), (46, .istore 4, 2), (48, .iload 4, 2), (50, .aload_n 0, 1), (51, .getfield 259, 3), (54, .iload_n 3, 1), (55, .iaload, 1), (56, .if_icmp .gt 46, 3), (59, .aload_n 0, 1), (60, .getfield 262, 3), (63, .iload_n 3, 1), (64, .iload 4, 2), (66, .iadd, 1), (67, .iaload, 1), (68, .iconst 1, 1), (69, .iadd, 1), (70, .aload_n 0, 1), (71, .getfield 262, 3), (74, .iload_n 3, 1), (75, .iaload, 1), (76, .if_icmp .ge 20, 3), (79, .aload_n 0, 1), (80, .getfield 262, 3), (83, .iload_n 3, 1), (84, .aload_n 0, 1), (85, .getfield 262, 3), (88, .iload_n 3, 1), (89, .iload 4, 2), (91, .iadd, 1), (92, .iaload, 1), (93, .iconst 1, 1), (94, .iadd, 1), (95, .iastore, 1), (96, .iinc 4 1, 3), (99, .goto (-51), 3), (102, .iinc 3 (-1), 3), (105, .goto (-73), 3), (108, .aload_n 0, 1), (109, .getfield 262, 3), (112, .iconst 0, 1), (113, .iaload, 1), (114, .sipush 1000, 3), (117, .if_icmp .gt 7, 3), (120, .iconst 1, 1), (121, .goto 4, 3), (124, .iconst 0, 1), (125, .ireturn, 1)] : List (Nat × Instr × Nat)), decode cX11_covers q.1 = .ok q.2 := by decide +kernel
set_option maxHeartbeats 4000000 in
set_option maxRecDepth 20000 in
theorem s11_covers_x32 {Y : m_Y Bool} (S : m_Std Y RX11 cX11_covers) (E : m_End Y cX11_covers .ireturn (fun r => [m_i (m_b2i r)])) {F : Nat} (hF : m_Rm Y F) (hFn : 4 ≤ F) (hN : Y.2.2.2.1 = 5) : ∀ (cc : Int) (v0 v1 v3 v4 : Int) (h : m_H) (r : Bool × m_H), t11_covers_x32 cc v0 v1 v3 v4 h = some r → (cc = 32 → m_Sim Y 32 [(0, m_r v0), (1, m_i v1), (3, m_i v3)] [] h (some r)) ∧ (cc = 48 → m_Sim Y 48 [(0, m_r v0), (1, m_i v1), (3, m_i v3), (4, m_i v4)] [] h (some r)) := by
  intro cc v0 v1 v3 v4 h r e
  refine t11_covers_x32.partial_correctness v0 v1 (motive := fun cc v3 v4 h r => (cc = 32 → m_Sim Y 32 [(0, m_r v0), (1, m_i v1), (3, m_i v3)] [] h (some r)) ∧ (cc = 48 → m_Sim Y 48 [(0, m_r v0), (1, m_i v1), (3, m_i v3), (4, m_i v4)] [] h (some r))) ?_ cc v3 v4 h r e
  intro f ih cc v3 v4 h r e
  have ih32 : ∀ (v3 v4 : Int) (h : m_H), m_Sim Y 32 [(0, m_r v0), (1, m_i v1), (3, m_i v3)] [] h (f 32 v3 v4 h ) := fun v3 v4 h  => ms_all fun r e => (ih 32 v3 v4 h r e).1 rfl
  have ih48 : ∀ (v3 v4 : Int) (h : m_H), m_Sim Y 48 [(0, m_r v0), (1, m_i v1), (3, m_i v3), (4, m_i v4)] [] h (f 48 v3 v4 h ) := fun v3 v4 h  => ms_all fun r e => (ih 48 v3 v4 h r e).2 rfl
  refine ⟨?_, ?_⟩
  · intro q0
    subst q0
    rw [if_pos rfl] at e
    refine ms_use ?_ e
    clear e r
    refine ms_iload_n (pc := 32) S 2 rfl rfl (m_dec e11_covers 20 rfl) ?_
    refine ms_if_lt (pc := 33) S (m_dec e11_covers 21 rfl) rfl (fun q1 => ?_) (fun q1 => ?_)
    · refine ms_aload_n (pc := 108) S 0 rfl rfl (m_dec e11_covers 64 rfl) ?_
      refine ms_grd fun g2 => ?_
      refine ms_getf (pc := 109) S lf_X11_262 rfl (m_dec e11_covers 65 rfl) g2 ?_
      refine ms_iconst (pc := 112) S (m_dec e11_covers 66 rfl) ?_
      refine ms_grd fun g3 => ?_
      refine ms_iald (pc := 113) S g3 (m_dec e11_covers 67 rfl) ?_
      refine ms_sipush (pc := 114) S (m_dec e11_covers 68 rfl) rfl ?_
      refine ms_icmp_gt (pc := 117) S (m_dec e11_covers 69 rfl) rfl (fun q4 => ?_) (fun q4 => ?_)
      · refine ms_iconst (pc := 124) S (m_dec e11_covers 72 rfl) ?_
        exact ms_ret (pc := 125) E (m_dec e11_covers 73 rfl) rfl
      · refine ms_iconst (pc := 120) S (m_dec e11_covers 70 rfl) ?_
        refine ms_goto (pc := 121) S (m_dec e11_covers 71 rfl) rfl ?_
        exact ms_ret (pc := 125) E (m_dec e11_covers 73 rfl) rfl
    · refine ms_aload_n (pc := 36) S 0 rfl rfl (m_dec e11_covers 22 rfl) ?_
      refine ms_grd fun g5 => ?_
      refine ms_getf (pc := 37) S lf_X11_262 rfl (m_dec e11_covers 23 rfl) g5 ?_
      refine ms_iload_n (pc := 40) S 2 rfl rfl (m_dec e11_covers 24 rfl) ?_
      refine ms_sipush (pc := 41) S (m_dec e11_covers 25 rfl) rfl ?_
      refine ms_grd fun g6 => ?_
      refine ms_iast (pc := 44) S g6 (m_dec e11_covers 26 rfl) (fun h7 => ?_)
      refine ms_iload_n (pc := 45) S 1 rfl rfl (m_dec e11_covers 27 rfl) ?_
      refine ms_istore (pc := 46) S (L' := [(0, m_r v0), (1, m_i v1), (3, m_i v3), (4, m_i v1)]) [1, 2, 3, 0] rfl (m_lt hN rfl) (m_dec e11_covers 28 rfl) ?_
      exact ih48 v3 v1 h7
  · intro q0
    subst q0
    rw [if_neg (by decide), if_pos rfl] at e
    refine ms_use ?_ e
    clear e r
    refine ms_iload (pc := 48) S 3 rfl (m_dec e11_covers 29 rfl) ?_
    refine ms_aload_n (pc := 50) S 0 rfl rfl (m_dec e11_covers 30 rfl) ?_
    refine ms_grd fun g1 => ?_
    refine ms_getf (pc := 51) S lf_X11_259 rfl (m_dec e11_covers 31 rfl) g1 ?_
    refine ms_iload_n (pc := 54) S 2 rfl rfl (m_dec e11_covers 32 rfl) ?_
    refine ms_grd fun g2 => ?_
    refine ms_iald (pc := 55) S g2 (m_dec e11_covers 33 rfl) ?_
    refine ms_icmp_gt (pc := 56) S (m_dec e11_covers 34 rfl) rfl (fun q3 => ?_) (fun q3 => ?_)
    · refine ms_iinc (pc := 102) S (L' := [(0, m_r v0), (1, m_i v1), (3, m_i (v3 + (-1)))]) 2 rfl [1, 2, 0] rfl (m_lt hN rfl) (m_dec e11_covers 62 rfl) ?_
      refine ms_goto (pc := 105) S (m_dec e11_covers 63 rfl) rfl ?_
      exact ih32 (v3 + (-1)) 0 h
    · refine ms_aload_n (pc := 59) S 0 rfl rfl (m_dec e11_covers 35 rfl) ?_
      refine ms_getf (pc := 60) S lf_X11_262 rfl (m_dec e11_covers 36 rfl) g1 ?_
      refine ms_iload_n (pc := 63) S 2 rfl rfl (m_dec e11_covers 37 rfl) ?_
      refine ms_iload (pc := 64) S 3 rfl (m_dec e11_covers 38 rfl) ?_
      refine ms_iadd (pc := 66) S (m_dec e11_covers 39 rfl) ?_
      refine ms_grd fun g4 => ?_
      refine ms_iald (pc := 67) S g4 (m_dec e11_covers 40 rfl) ?_
      refine ms_iconst (pc := 68) S (m_dec e11_covers 41 rfl) ?_
      refine ms_iadd (pc := 69) S (m_dec e11_covers 42 rfl) ?_
      refine ms_aload_n (pc := 70) S 0 rfl rfl (m_dec e11_covers 43 rfl) ?_
      refine ms_getf (pc := 71) S lf_X11_262 rfl (m_dec e11_covers 44 rfl) g1 ?_
      refine ms_iload_n (pc := 74) S 2 rfl rfl (m_dec e11_covers 45 rfl) ?_
      refine ms_grd fun g5 => ?_
      refine ms_iald (pc := 75) S g5 (m_dec e11_covers 46 rfl) ?_
      refine ms_icmp_ge (pc := 76) S (m_dec e11_covers 47 rfl) rfl (fun q6 => ?_) (fun q6 => ?_)
      · refine ms_aload_n (pc := 79) S 0 rfl rfl (m_dec e11_covers 48 rfl) ?_
        refine ms_getf (pc := 80) S lf_X11_262 rfl (m_dec e11_covers 49 rfl) g1 ?_
        refine ms_iload_n (pc := 83) S 2 rfl rfl (m_dec e11_covers 50 rfl) ?_
        refine ms_aload_n (pc := 84) S 0 rfl rfl (m_dec e11_covers 51 rfl) ?_
        refine ms_getf (pc := 85) S lf_X11_262 rfl (m_dec e11_covers 52 rfl) g1 ?_
        refine ms_iload_n (pc := 88) S 2 rfl rfl (m_dec e11_covers 53 rfl) ?_
        refine ms_iload (pc := 89) S 3 rfl (m_dec e11_covers 54 rfl) ?_
        refine ms_iadd (pc := 91) S (m_dec e11_covers 55 rfl) ?_
        refine ms_iald (pc := 92) S g4 (m_dec e11_covers 56 rfl) ?_
        refine ms_iconst (pc := 93) S (m_dec e11_covers 57 rfl) ?_
        refine ms_iadd (pc := 94) S (m_dec e11_covers 58 rfl) ?_
        refine ms_iast (pc := 95) S g5 (m_dec e11_covers 59 rfl) (fun h7 => ?_)
        refine ms_iinc (pc := 96) S (L' := [(0, m_r v0), (1, m_i v1), (3, m_i v3), (4, m_i (v4 + 1))]) 3 rfl [1, 2, 3, 0] rfl (m_lt hN rfl) (m_dec e11_covers 60 rfl) ?_
        refine ms_goto (pc := 99) S (m_dec e11_covers 61 rfl) rfl ?_
        exact ih48 v3 (v4 + 1) h7
      · refine ms_iinc (pc := 96) S (L' := [(0, m_r v0), (1, m_i v1), (3, m_i v3), (4, m_i (v4 + 1))]) 3 rfl [1, 2, 3, 0] rfl (m_lt hN rfl) (m_dec e11_covers 60 rfl) ?_
        refine ms_goto (pc := 99) S (m_dec e11_covers 61 rfl) rfl ?_
        exact ih48 v3 (v4 + 1) h
set_option maxHeartbeats 4000000 in
set_option maxRecDepth 20000 in
theorem s11_covers_c32 {Y : m_Y Bool} (S : m_Std Y RX11 cX11_covers) (E : m_End Y cX11_covers .ireturn (fun r => [m_i (m_b2i r)])) {F : Nat} (hF : m_Rm Y F) (hFn : 4 ≤ F) (hN : Y.2.2.2.1 = 5) (v0 v1 v3 v4 : Int) (h : m_H) : m_Sim Y 32 [(0, m_r v0), (1, m_i v1), (3, m_i v3)] [] h (t11_covers_x32 32 v0 v1 v3 v4 h) := ms_all fun r e => (s11_covers_x32 S E hF hFn hN 32 v0 v1 v3 v4 h r e).1 rfl
set_option maxHeartbeats 4000000 in
set_option maxRecDepth 20000 in
theorem s11_covers_c48 {Y : m_Y Bool} (S : m_Std Y RX11 cX11_covers) (E : m_End Y cX11_covers .ireturn (fun r => [m_i (m_b2i r)])) {F : Nat} (hF : m_Rm Y F) (hFn : 4 ≤ F) (hN : Y.2.2.2.1 = 5) (v0 v1 v3 v4 : Int) (h : m_H) : m_Sim Y 48 [(0, m_r v0), (1, m_i v1), (3, m_i v3), (4, m_i v4)] [] h (t11_covers_x32 48 v0 v1 v3 v4 h) := ms_all fun r e => (s11_covers_x32 S E hF hFn hN 48 v0 v1 v3 v4 h r e).2 rfl
set_option maxHeartbeats 4000000 in
set_option maxRecDepth 20000 in
theorem s11_covers {Y : m_Y Bool} (S : m_Std Y RX11 cX11_covers) (E : m_End Y cX11_covers .ireturn (fun r => [m_i (m_b2i r)])) {F : Nat} (hF : m_Rm Y F) (hFn : 4 ≤ F) (hN : Y.2.2.2.1 = 5) (v0 v1 v2 : Int) (h : m_H) : m_Sim Y 0 [(0, m_r v0), (1, m_i v1), (2, m_i v2)] [] h (t11_covers v0 v1 v2 h) := by
  unfold t11_covers
  refine ms_iload_n (pc := 0) S 1 rfl rfl (m_dec e11_covers 0 rfl) ?_
  refine ms_iload_n (pc := 1) S 2 rfl rfl (m_dec e11_covers 1 rfl) ?_
  refine ms_callSz (pc := 2) S hF (vals := [m_i v1, m_i v2]) (st := [])  (hC := (k11_canAsk _ _ v1 v2 h)) (hM := lm_X11_576) (hfr := (Nat.le_trans (by decide) hFn)) (hstk := rfl) (hcat := Nat.le_of_ble_eq_true rfl) (hd := (m_dec e11_covers 2 rfl)) (k1 := fun r2 h1 => ?_)
  refine ms_ifb_ne (pc := 5) S (m_dec e11_covers 3 rfl) rfl (fun q3 => ?_) (fun q3 => ?_)
  · refine ms_aload_n (pc := 10) S 0 rfl rfl (m_dec e11_covers 6 rfl) ?_
    refine ms_iload_n (pc := 11) S 2 rfl rfl (m_dec e11_covers 7 rfl) ?_
    refine ms_grd fun g4 => ?_
    refine ms_callVv (pc := 12) S hF (vals := [m_i v2]) (st := []) (hc := vw_11) (hci := by decide) (hcy := rfl) (ht := g4) (hC := (k11_longest _ _ v0 v2 h1)) (hM := lm_X11_611) (hfr := (Nat.le_trans (by decide) hFn)) (hstk := rfl) (hcat := Nat.le_of_ble_eq_true rfl) (hd := (m_dec e11_covers 8 rfl)) (k1 := fun h5 => ?_)
    refine ms_aload_n (pc := 15) S 0 rfl rfl (m_dec e11_covers 9 rfl) ?_
    refine ms_grd fun g7 => ?_
    refine ms_getf (pc := 16) S lf_X11_262 rfl (m_dec e11_covers 10 rfl) g7 ?_
    refine ms_aload_n (pc := 19) S 0 rfl rfl (m_dec e11_covers 11 rfl) ?_
    refine ms_getf (pc := 20) S lf_X11_565 rfl (m_dec e11_covers 12 rfl) g7 ?_
    refine ms_iconst (pc := 23) S (m_dec e11_covers 13 rfl) ?_
    refine ms_grd fun g8 => ?_
    refine ms_iast (pc := 24) S g8 (m_dec e11_covers 14 rfl) (fun h9 => ?_)
    refine ms_aload_n (pc := 25) S 0 rfl rfl (m_dec e11_covers 15 rfl) ?_
    refine ms_grd fun g10 => ?_
    refine ms_getf (pc := 26) S lf_X11_565 rfl (m_dec e11_covers 16 rfl) g10 ?_
    refine ms_iconst (pc := 29) S (m_dec e11_covers 17 rfl) ?_
    refine ms_isub (pc := 30) S (m_dec e11_covers 18 rfl) ?_
    refine ms_nm (st := fun x11 => [m_i x11]) fun x11 => ?_
    refine ms_istore_n (pc := 31) S (L' := [(0, m_r v0), (1, m_i v1), (3, m_i x11)]) [1, 2, 0] rfl rfl (m_lt hN rfl) (m_dec e11_covers 19 rfl) ?_
    exact s11_covers_c32 S E hF hFn hN v0 v1 x11 0 h9
  · refine ms_iconst (pc := 8) S (m_dec e11_covers 4 rfl) ?_
    exact ms_ret (pc := 9) E (m_dec e11_covers 5 rfl) rfl
theorem k11_covers (l : Launch) (d : m_D) (v0 v1 v2 : Int) (h : m_H) : m_Con l d yX11_covers cX11_covers 5 (some .boolean) 4 (fun r => [m_i (m_b2i r)]) [m_r v0, m_i v1, m_i v2] h (t11_covers v0 v1 v2 h) :=
  m_con2 (by decide +kernel) (Nat.le_of_ble_eq_true rfl) (fun Y hN hRm hr hI S hfin => s11_covers S (m_end_z S hr hfin) hRm (Nat.le_refl _) hN v0 v1 v2 h)
set_option maxRecDepth 100000 in
theorem e11_remade : ∀ q ∈ ([(0, .aload_n 0, 1), (1, .iload_n 1, 1), (2, .iload_n 2, 1), (3, .invokevirtual 614, 3), (6, .ifCond .eq 12, 3), (9, .aload_n 0, 1), (10, .getfield 262, 3), (13, .iconst 0, 1), (14, .iaload, 1), (15, .goto 4, 3), (18, .iconst (-1), 1), (19, .ireturn, 1)] : List (Nat × Instr × Nat)), decode cX11_remade q.1 = .ok q.2 := by decide +kernel
set_option maxHeartbeats 4000000 in
set_option maxRecDepth 20000 in
theorem s11_remade {Y : m_Y Int} (S : m_Std Y RX11 cX11_remade) (E : m_End Y cX11_remade .ireturn (fun r => [m_i r])) {F : Nat} (hF : m_Rm Y F) (hFn : 5 ≤ F) (hN : Y.2.2.2.1 = 3) (v0 v1 v2 : Int) (h : m_H) : m_Sim Y 0 [(0, m_r v0), (1, m_i v1), (2, m_i v2)] [] h (t11_remade v0 v1 v2 h) := by
  unfold t11_remade
  refine ms_aload_n (pc := 0) S 0 rfl rfl (m_dec e11_remade 0 rfl) ?_
  refine ms_iload_n (pc := 1) S 1 rfl rfl (m_dec e11_remade 1 rfl) ?_
  refine ms_iload_n (pc := 2) S 2 rfl rfl (m_dec e11_remade 2 rfl) ?_
  refine ms_grd fun g1 => ?_
  refine ms_callVz (pc := 3) S hF (vals := [m_i v1, m_i v2]) (st := []) (hc := vw_11) (hci := by decide) (hcy := rfl) (ht := g1) (hC := (k11_covers _ _ v0 v1 v2 h)) (hM := lm_X11_614) (hfr := (Nat.le_trans (by decide) hFn)) (hstk := rfl) (hcat := Nat.le_of_ble_eq_true rfl) (hd := (m_dec e11_remade 3 rfl)) (k1 := fun r3 h2 => ?_)
  refine ms_ifb_eq (pc := 6) S (m_dec e11_remade 4 rfl) rfl (fun q4 => ?_) (fun q4 => ?_)
  · refine ms_aload_n (pc := 9) S 0 rfl rfl (m_dec e11_remade 5 rfl) ?_
    refine ms_grd fun g5 => ?_
    refine ms_getf (pc := 10) S lf_X11_262 rfl (m_dec e11_remade 6 rfl) g5 ?_
    refine ms_iconst (pc := 13) S (m_dec e11_remade 7 rfl) ?_
    refine ms_grd fun g6 => ?_
    refine ms_iald (pc := 14) S g6 (m_dec e11_remade 8 rfl) ?_
    refine ms_goto (pc := 15) S (m_dec e11_remade 9 rfl) rfl ?_
    exact ms_ret (pc := 19) E (m_dec e11_remade 11 rfl) rfl
  · refine ms_iconst (pc := 18) S (m_dec e11_remade 10 rfl) ?_
    exact ms_ret (pc := 19) E (m_dec e11_remade 11 rfl) rfl
theorem k11_remade (l : Launch) (d : m_D) (v0 v1 v2 : Int) (h : m_H) : m_Con l d yX11_remade cX11_remade 3 (some .int) 5 (fun r => [m_i r]) [m_r v0, m_i v1, m_i v2] h (t11_remade v0 v1 v2 h) :=
  m_con2 (by decide +kernel) (Nat.le_of_ble_eq_true rfl) (fun Y hN hRm hr hI S hfin => s11_remade S (m_end_i S hr hfin) hRm (Nat.le_refl _) hN v0 v1 v2 h)
set_option maxRecDepth 100000 in
theorem e11_stretch : ∀ q ∈ ([(0, .aload_n 0, 1), (1, .iload_n 1, 1), (2, .iload_n 2, 1), (3, .invokevirtual 614, 3), (6, .ifCond .eq 21, 3), (9, .iload_n 3, 1), (10, .i2l, 1), (11, .lconst 0, 1), (12, .aload_n 0, 1), (13, .getfield 262, 3), (16, .iconst 0, 1), (17, .iaload, 1), (18, .iconst 1, 1), (19, .isub, 1), (20, .i2l, 1), (21, .invokestatic 268, 3), (24, .ifCond .ne 5, 3), (27, .iconst (-1), 1), (28, .ireturn, 1), (29, .iconst 0, 1), (30, .istore 4, 2), (32, .iconst 0, 1), (33, .istore 5, 2), (35, .iload 5, 2), (37, .iload_n 3, 1), (38, .if_icmp .ge 53, 3), (41, .aload_n 0, 1), (42, .getfield 259, 3), (45, .iload 4, 2), (47, .iaload, 1), (48, .istore 6, 2), (50, .aload_n 0, 1), (51, .getfield 262, 3), (54, .iload 4, 2), (56, .iload 6, 2), (58, .iadd, 1), (59, .iaload, 1), (60, .iconst 1, 1), (61, .iadd, 1), (62, .aload_n 0, 1), (63, .getfield 262, 3), (66, .iload 4, 2), (68, .iaload, 1), (69, .if_icmp .eq 9, 3), (72, .iinc 6 (-1), 3), (75, .goto (-25), 3), (78, .iload 4, 2), (80, .iload 6, 2), (82, .iadd, 1), (83, .istore 4, 2), (85, .iinc 5 1, 3), (88, .goto (-53), 3), (91, .iload 4, 2), (93, .ireturn, 1)] : List (Nat × Instr × Nat)), decode cX11_stretch q.1 = .ok q.2 := by decide +kernel
set_option maxHeartbeats 4000000 in
set_option maxRecDepth 20000 in
theorem s11_stretch_x35 {Y : m_Y Int} (S : m_Std Y RX11 cX11_stretch) (E : m_End Y cX11_stretch .ireturn (fun r => [m_i r])) {F : Nat} (hF : m_Rm Y F) (hFn : 5 ≤ F) (hN : Y.2.2.2.1 = 7) : ∀ (cc : Int) (v0 v3 v4 v5 v6 : Int) (h : m_H) (r : Int × m_H), t11_stretch_x35 cc v0 v3 v4 v5 v6 h = some r → (cc = 35 → m_Sim Y 35 [(0, m_r v0), (3, m_i v3), (4, m_i v4), (5, m_i v5)] [] h (some r)) ∧ (cc = 50 → m_Sim Y 50 [(0, m_r v0), (3, m_i v3), (4, m_i v4), (5, m_i v5), (6, m_i v6)] [] h (some r)) := by
  intro cc v0 v3 v4 v5 v6 h r e
  refine t11_stretch_x35.partial_correctness v0 v3 h (motive := fun cc v4 v5 v6 r => (cc = 35 → m_Sim Y 35 [(0, m_r v0), (3, m_i v3), (4, m_i v4), (5, m_i v5)] [] h (some r)) ∧ (cc = 50 → m_Sim Y 50 [(0, m_r v0), (3, m_i v3), (4, m_i v4), (5, m_i v5), (6, m_i v6)] [] h (some r))) ?_ cc v4 v5 v6 r e
  intro f ih cc v4 v5 v6 r e
  have ih35 : ∀ (v4 v5 v6 : Int) , m_Sim Y 35 [(0, m_r v0), (3, m_i v3), (4, m_i v4), (5, m_i v5)] [] h (f 35 v4 v5 v6 ) := fun v4 v5 v6  => ms_all fun r e => (ih 35 v4 v5 v6 r e).1 rfl
  have ih50 : ∀ (v4 v5 v6 : Int) , m_Sim Y 50 [(0, m_r v0), (3, m_i v3), (4, m_i v4), (5, m_i v5), (6, m_i v6)] [] h (f 50 v4 v5 v6 ) := fun v4 v5 v6  => ms_all fun r e => (ih 50 v4 v5 v6 r e).2 rfl
  refine ⟨?_, ?_⟩
  · intro q0
    subst q0
    rw [if_pos rfl] at e
    refine ms_use ?_ e
    clear e r
    refine ms_iload (pc := 35) S 3 rfl (m_dec e11_stretch 23 rfl) ?_
    refine ms_iload_n (pc := 37) S 1 rfl rfl (m_dec e11_stretch 24 rfl) ?_
    refine ms_icmp_ge (pc := 38) S (m_dec e11_stretch 25 rfl) rfl (fun q1 => ?_) (fun q1 => ?_)
    · refine ms_aload_n (pc := 41) S 0 rfl rfl (m_dec e11_stretch 26 rfl) ?_
      refine ms_grd fun g2 => ?_
      refine ms_getf (pc := 42) S lf_X11_259 rfl (m_dec e11_stretch 27 rfl) g2 ?_
      refine ms_iload (pc := 45) S 2 rfl (m_dec e11_stretch 28 rfl) ?_
      refine ms_grd fun g3 => ?_
      refine ms_iald (pc := 47) S g3 (m_dec e11_stretch 29 rfl) ?_
      refine ms_nm (st := fun x4 => [m_i x4]) fun x4 => ?_
      refine ms_istore (pc := 48) S (L' := [(0, m_r v0), (3, m_i v3), (4, m_i v4), (5, m_i v5), (6, m_i x4)]) [1, 2, 3, 4, 0] rfl (m_lt hN rfl) (m_dec e11_stretch 30 rfl) ?_
      exact ih50 v4 v5 x4
    · refine ms_iload (pc := 91) S 2 rfl (m_dec e11_stretch 52 rfl) ?_
      exact ms_ret (pc := 93) E (m_dec e11_stretch 53 rfl) rfl
  · intro q0
    subst q0
    rw [if_neg (by decide), if_pos rfl] at e
    refine ms_use ?_ e
    clear e r
    refine ms_aload_n (pc := 50) S 0 rfl rfl (m_dec e11_stretch 31 rfl) ?_
    refine ms_grd fun g1 => ?_
    refine ms_getf (pc := 51) S lf_X11_262 rfl (m_dec e11_stretch 32 rfl) g1 ?_
    refine ms_iload (pc := 54) S 2 rfl (m_dec e11_stretch 33 rfl) ?_
    refine ms_iload (pc := 56) S 4 rfl (m_dec e11_stretch 34 rfl) ?_
    refine ms_iadd (pc := 58) S (m_dec e11_stretch 35 rfl) ?_
    refine ms_grd fun g2 => ?_
    refine ms_iald (pc := 59) S g2 (m_dec e11_stretch 36 rfl) ?_
    refine ms_iconst (pc := 60) S (m_dec e11_stretch 37 rfl) ?_
    refine ms_iadd (pc := 61) S (m_dec e11_stretch 38 rfl) ?_
    refine ms_aload_n (pc := 62) S 0 rfl rfl (m_dec e11_stretch 39 rfl) ?_
    refine ms_getf (pc := 63) S lf_X11_262 rfl (m_dec e11_stretch 40 rfl) g1 ?_
    refine ms_iload (pc := 66) S 2 rfl (m_dec e11_stretch 41 rfl) ?_
    refine ms_grd fun g3 => ?_
    refine ms_iald (pc := 68) S g3 (m_dec e11_stretch 42 rfl) ?_
    refine ms_icmp_eq (pc := 69) S (m_dec e11_stretch 43 rfl) rfl (fun q4 => ?_) (fun q4 => ?_)
    · refine ms_iload (pc := 78) S 2 rfl (m_dec e11_stretch 46 rfl) ?_
      refine ms_iload (pc := 80) S 4 rfl (m_dec e11_stretch 47 rfl) ?_
      refine ms_iadd (pc := 82) S (m_dec e11_stretch 48 rfl) ?_
      refine ms_nm (st := fun x5 => [m_i x5]) fun x5 => ?_
      refine ms_istore (pc := 83) S (L' := [(0, m_r v0), (3, m_i v3), (4, m_i x5), (5, m_i v5)]) [1, 2, 0, 3] rfl (m_lt hN rfl) (m_dec e11_stretch 49 rfl) ?_
      refine ms_iinc (pc := 85) S (L' := [(0, m_r v0), (3, m_i v3), (4, m_i x5), (5, m_i (v5 + 1))]) 3 rfl [1, 2, 3, 0] rfl (m_lt hN rfl) (m_dec e11_stretch 50 rfl) ?_
      refine ms_goto (pc := 88) S (m_dec e11_stretch 51 rfl) rfl ?_
      exact ih35 x5 (v5 + 1) 0
    · refine ms_iinc (pc := 72) S (L' := [(0, m_r v0), (3, m_i v3), (4, m_i v4), (5, m_i v5), (6, m_i (v6 + (-1)))]) 4 rfl [1, 2, 3, 4, 0] rfl (m_lt hN rfl) (m_dec e11_stretch 44 rfl) ?_
      refine ms_goto (pc := 75) S (m_dec e11_stretch 45 rfl) rfl ?_
      exact ih50 v4 v5 (v6 + (-1))
set_option maxHeartbeats 4000000 in
set_option maxRecDepth 20000 in
theorem s11_stretch_c35 {Y : m_Y Int} (S : m_Std Y RX11 cX11_stretch) (E : m_End Y cX11_stretch .ireturn (fun r => [m_i r])) {F : Nat} (hF : m_Rm Y F) (hFn : 5 ≤ F) (hN : Y.2.2.2.1 = 7) (v0 v3 v4 v5 v6 : Int) (h : m_H) : m_Sim Y 35 [(0, m_r v0), (3, m_i v3), (4, m_i v4), (5, m_i v5)] [] h (t11_stretch_x35 35 v0 v3 v4 v5 v6 h) := ms_all fun r e => (s11_stretch_x35 S E hF hFn hN 35 v0 v3 v4 v5 v6 h r e).1 rfl
set_option maxHeartbeats 4000000 in
set_option maxRecDepth 20000 in
theorem s11_stretch_c50 {Y : m_Y Int} (S : m_Std Y RX11 cX11_stretch) (E : m_End Y cX11_stretch .ireturn (fun r => [m_i r])) {F : Nat} (hF : m_Rm Y F) (hFn : 5 ≤ F) (hN : Y.2.2.2.1 = 7) (v0 v3 v4 v5 v6 : Int) (h : m_H) : m_Sim Y 50 [(0, m_r v0), (3, m_i v3), (4, m_i v4), (5, m_i v5), (6, m_i v6)] [] h (t11_stretch_x35 50 v0 v3 v4 v5 v6 h) := ms_all fun r e => (s11_stretch_x35 S E hF hFn hN 50 v0 v3 v4 v5 v6 h r e).2 rfl
set_option maxHeartbeats 4000000 in
set_option maxRecDepth 20000 in
theorem s11_stretch {Y : m_Y Int} (S : m_Std Y RX11 cX11_stretch) (E : m_End Y cX11_stretch .ireturn (fun r => [m_i r])) {F : Nat} (hF : m_Rm Y F) (hFn : 5 ≤ F) (hN : Y.2.2.2.1 = 7) (v0 v1 v2 v3 : Int) (h : m_H) : m_Sim Y 0 [(0, m_r v0), (1, m_i v1), (2, m_i v2), (3, m_i v3)] [] h (t11_stretch v0 v1 v2 v3 h) := by
  unfold t11_stretch
  refine ms_aload_n (pc := 0) S 0 rfl rfl (m_dec e11_stretch 0 rfl) ?_
  refine ms_iload_n (pc := 1) S 1 rfl rfl (m_dec e11_stretch 1 rfl) ?_
  refine ms_iload_n (pc := 2) S 2 rfl rfl (m_dec e11_stretch 2 rfl) ?_
  refine ms_grd fun g1 => ?_
  refine ms_callVz (pc := 3) S hF (vals := [m_i v1, m_i v2]) (st := []) (hc := vw_11) (hci := by decide) (hcy := rfl) (ht := g1) (hC := (k11_covers _ _ v0 v1 v2 h)) (hM := lm_X11_614) (hfr := (Nat.le_trans (by decide) hFn)) (hstk := rfl) (hcat := Nat.le_of_ble_eq_true rfl) (hd := (m_dec e11_stretch 3 rfl)) (k1 := fun r3 h2 => ?_)
  refine ms_ifb_eq (pc := 6) S (m_dec e11_stretch 4 rfl) rfl (fun q4 => ?_) (fun q4 => ?_)
  · refine ms_iload_n (pc := 9) S 3 rfl rfl (m_dec e11_stretch 5 rfl) ?_
    refine ms_i2l (pc := 10) S (m_dec e11_stretch 6 rfl) ?_
    refine ms_lconst (pc := 11) S (n := 0) rfl (m_dec e11_stretch 7 rfl) ?_
    refine ms_aload_n (pc := 12) S 0 rfl rfl (m_dec e11_stretch 8 rfl) ?_
    refine ms_grd fun g5 => ?_
    refine ms_getf (pc := 13) S lf_X11_262 rfl (m_dec e11_stretch 9 rfl) g5 ?_
    refine ms_iconst (pc := 16) S (m_dec e11_stretch 10 rfl) ?_
    refine ms_grd fun g6 => ?_
    refine ms_iald (pc := 17) S g6 (m_dec e11_stretch 11 rfl) ?_
    refine ms_iconst (pc := 18) S (m_dec e11_stretch 12 rfl) ?_
    refine ms_isub (pc := 19) S (m_dec e11_stretch 13 rfl) ?_
    refine ms_i2l (pc := 20) S (m_dec e11_stretch 14 rfl) ?_
    refine ms_callSz (pc := 21) S hF (vals := [m_j (m_w v3), m_j 0, m_j (m_w ((m_g h2 (m_g h2 v0 84) 0) - 1))]) (st := [])  (hC := (k11_in _ _ (m_w v3) 0 (m_w ((m_g h2 (m_g h2 v0 84) 0) - 1)) h2)) (hM := lm_X11_268) (hfr := (Nat.le_trans (by decide) hFn)) (hstk := rfl) (hcat := Nat.le_of_ble_eq_true rfl) (hd := (m_dec e11_stretch 15 rfl)) (k1 := fun r8 h7 => ?_)
    refine ms_ifb_ne (pc := 24) S (m_dec e11_stretch 16 rfl) rfl (fun q9 => ?_) (fun q9 => ?_)
    · refine ms_iconst (pc := 29) S (m_dec e11_stretch 19 rfl) ?_
      refine ms_istore (pc := 30) S (L' := [(0, m_r v0), (3, m_i v3), (4, m_i 0)]) [1, 4, 0] rfl (m_lt hN rfl) (m_dec e11_stretch 20 rfl) ?_
      refine ms_iconst (pc := 32) S (m_dec e11_stretch 21 rfl) ?_
      refine ms_istore (pc := 33) S (L' := [(0, m_r v0), (3, m_i v3), (4, m_i 0), (5, m_i 0)]) [1, 2, 3, 0] rfl (m_lt hN rfl) (m_dec e11_stretch 22 rfl) ?_
      exact s11_stretch_c35 S E hF hFn hN v0 v3 0 0 0 h7
    · refine ms_iconst (pc := 27) S (m_dec e11_stretch 17 rfl) ?_
      exact ms_ret (pc := 28) E (m_dec e11_stretch 18 rfl) rfl
  · refine ms_iconst (pc := 27) S (m_dec e11_stretch 17 rfl) ?_
    exact ms_ret (pc := 28) E (m_dec e11_stretch 18 rfl) rfl
theorem k11_stretch (l : Launch) (d : m_D) (v0 v1 v2 v3 : Int) (h : m_H) : m_Con l d yX11_stretch cX11_stretch 7 (some .int) 5 (fun r => [m_i r]) [m_r v0, m_i v1, m_i v2, m_i v3] h (t11_stretch v0 v1 v2 v3 h) :=
  m_con2 (by decide +kernel) (Nat.le_of_ble_eq_true rfl) (fun Y hN hRm hr hI S hfin => s11_stretch S (m_end_i S hr hfin) hRm (Nat.le_refl _) hN v0 v1 v2 v3 h)
set_option maxRecDepth 100000 in
theorem e11_unfound : ∀ q ∈ ([(0, .iload_n 1, 1), (1, .iload_n 2, 1), (2, .invokestatic 576, 3), (5, .ifCond .ne 5, 3), (8, .iconst (-1), 1), (9, .ireturn, 1), (10, .aload_n 0, 1), (11, .iload_n 2, 1), (12, .invokevirtual 611, 3), (15, .iconst 0, 1), (16, .istore_n 3, 1), (17, .iconst 0, 1), (18, .istore 4, 2), (20, .iload 4, 2), (22, .aload_n 0, 1), (23, .getfield 565, 3), (26, .if_icmp .ge 54, 3), (29, .aload_n 0, 1), (30, .getfield 259, 3), (33, .iload 4, 2), (35, .iaload, 1), (36, .iload_n 1, 1), (37, .if_icmp .lt 28, 3), (40, .iload 4, 2), (42, .aload_n 0, 1), (43, .getfield 259, 3), (46, .iload 4, 2), (48, .iaload, 1), (49, .iadd, 1), (50, .iload_n 3, 1), (51, .if_icmp .le 14, 3), (54, .iload 4, 2), (56, .aload_n 0, 1), (57, .getfield 259, 3), (60, .iload 4, 2), (62, .iaload, 1), (63, .iadd, 1), (64, .istore_n 3, 1), (65, .iload_n 3, 1), (66, .iload 4, 2), (68, .if_icmp .gt 6, 3), (71, .iload 4, 2), (73, .ireturn, 1), (74, .iinc 4 1, 3), (77, .goto (-57), 3), (80, .iconst (-1), 1), (81, .ireturn, 1)] : List (Nat × Instr × Nat)), decode cX11_unfound q.1 = .ok q.2 := by decide +kernel
set_option maxHeartbeats 4000000 in
set_option maxRecDepth 20000 in
theorem s11_unfound_x20 {Y : m_Y Int} (S : m_Std Y RX11 cX11_unfound) (E : m_End Y cX11_unfound .ireturn (fun r => [m_i r])) {F : Nat} (hF : m_Rm Y F) (hFn : 4 ≤ F) (hN : Y.2.2.2.1 = 5) : ∀ (cc : Int) (v0 v1 v3 v4 : Int) (h : m_H) (r : Int × m_H), t11_unfound_x20 cc v0 v1 v3 v4 h = some r → (cc = 20 → m_Sim Y 20 [(0, m_r v0), (1, m_i v1), (3, m_i v3), (4, m_i v4)] [] h (some r)) ∧ (cc = 65 → m_Sim Y 65 [(0, m_r v0), (1, m_i v1), (3, m_i v3), (4, m_i v4)] [] h (some r)) := by
  intro cc v0 v1 v3 v4 h r e
  refine t11_unfound_x20.partial_correctness v0 v1 h (motive := fun cc v3 v4 r => (cc = 20 → m_Sim Y 20 [(0, m_r v0), (1, m_i v1), (3, m_i v3), (4, m_i v4)] [] h (some r)) ∧ (cc = 65 → m_Sim Y 65 [(0, m_r v0), (1, m_i v1), (3, m_i v3), (4, m_i v4)] [] h (some r))) ?_ cc v3 v4 r e
  intro f ih cc v3 v4 r e
  have ih20 : ∀ (v3 v4 : Int) , m_Sim Y 20 [(0, m_r v0), (1, m_i v1), (3, m_i v3), (4, m_i v4)] [] h (f 20 v3 v4 ) := fun v3 v4  => ms_all fun r e => (ih 20 v3 v4 r e).1 rfl
  have ih65 : ∀ (v3 v4 : Int) , m_Sim Y 65 [(0, m_r v0), (1, m_i v1), (3, m_i v3), (4, m_i v4)] [] h (f 65 v3 v4 ) := fun v3 v4  => ms_all fun r e => (ih 65 v3 v4 r e).2 rfl
  refine ⟨?_, ?_⟩
  · intro q0
    subst q0
    rw [if_pos rfl] at e
    refine ms_use ?_ e
    clear e r
    refine ms_iload (pc := 20) S 3 rfl (m_dec e11_unfound 13 rfl) ?_
    refine ms_aload_n (pc := 22) S 0 rfl rfl (m_dec e11_unfound 14 rfl) ?_
    refine ms_grd fun g1 => ?_
    refine ms_getf (pc := 23) S lf_X11_565 rfl (m_dec e11_unfound 15 rfl) g1 ?_
    refine ms_icmp_ge (pc := 26) S (m_dec e11_unfound 16 rfl) rfl (fun q2 => ?_) (fun q2 => ?_)
    · refine ms_aload_n (pc := 29) S 0 rfl rfl (m_dec e11_unfound 17 rfl) ?_
      refine ms_getf (pc := 30) S lf_X11_259 rfl (m_dec e11_unfound 18 rfl) g1 ?_
      refine ms_iload (pc := 33) S 3 rfl (m_dec e11_unfound 19 rfl) ?_
      refine ms_grd fun g3 => ?_
      refine ms_iald (pc := 35) S g3 (m_dec e11_unfound 20 rfl) ?_
      refine ms_iload_n (pc := 36) S 1 rfl rfl (m_dec e11_unfound 21 rfl) ?_
      refine ms_icmp_lt (pc := 37) S (m_dec e11_unfound 22 rfl) rfl (fun q4 => ?_) (fun q4 => ?_)
      · exact ih65 v3 v4
      · refine ms_iload (pc := 40) S 3 rfl (m_dec e11_unfound 23 rfl) ?_
        refine ms_aload_n (pc := 42) S 0 rfl rfl (m_dec e11_unfound 24 rfl) ?_
        refine ms_getf (pc := 43) S lf_X11_259 rfl (m_dec e11_unfound 25 rfl) g1 ?_
        refine ms_iload (pc := 46) S 3 rfl (m_dec e11_unfound 26 rfl) ?_
        refine ms_iald (pc := 48) S g3 (m_dec e11_unfound 27 rfl) ?_
        refine ms_iadd (pc := 49) S (m_dec e11_unfound 28 rfl) ?_
        refine ms_iload_n (pc := 50) S 2 rfl rfl (m_dec e11_unfound 29 rfl) ?_
        refine ms_icmp_le (pc := 51) S (m_dec e11_unfound 30 rfl) rfl (fun q5 => ?_) (fun q5 => ?_)
        · refine ms_iload (pc := 54) S 3 rfl (m_dec e11_unfound 31 rfl) ?_
          refine ms_aload_n (pc := 56) S 0 rfl rfl (m_dec e11_unfound 32 rfl) ?_
          refine ms_getf (pc := 57) S lf_X11_259 rfl (m_dec e11_unfound 33 rfl) g1 ?_
          refine ms_iload (pc := 60) S 3 rfl (m_dec e11_unfound 34 rfl) ?_
          refine ms_iald (pc := 62) S g3 (m_dec e11_unfound 35 rfl) ?_
          refine ms_iadd (pc := 63) S (m_dec e11_unfound 36 rfl) ?_
          refine ms_nm (st := fun x6 => [m_i x6]) fun x6 => ?_
          refine ms_istore_n (pc := 64) S (L' := [(0, m_r v0), (1, m_i v1), (3, m_i x6), (4, m_i v4)]) [1, 2, 0, 3] rfl rfl (m_lt hN rfl) (m_dec e11_unfound 37 rfl) ?_
          exact ih65 x6 v4
        · exact ih65 v3 v4
    · refine ms_iconst (pc := 80) S (m_dec e11_unfound 45 rfl) ?_
      exact ms_ret (pc := 81) E (m_dec e11_unfound 46 rfl) rfl
  · intro q0
    subst q0
    rw [if_neg (by decide), if_pos rfl] at e
    refine ms_use ?_ e
    clear e r
    refine ms_iload_n (pc := 65) S 2 rfl rfl (m_dec e11_unfound 38 rfl) ?_
    refine ms_iload (pc := 66) S 3 rfl (m_dec e11_unfound 39 rfl) ?_
    refine ms_icmp_gt (pc := 68) S (m_dec e11_unfound 40 rfl) rfl (fun q1 => ?_) (fun q1 => ?_)
    · refine ms_iinc (pc := 74) S (L' := [(0, m_r v0), (1, m_i v1), (3, m_i v3), (4, m_i (v4 + 1))]) 3 rfl [1, 2, 3, 0] rfl (m_lt hN rfl) (m_dec e11_unfound 43 rfl) ?_
      refine ms_goto (pc := 77) S (m_dec e11_unfound 44 rfl) rfl ?_
      exact ih20 v3 (v4 + 1)
    · refine ms_iload (pc := 71) S 3 rfl (m_dec e11_unfound 41 rfl) ?_
      exact ms_ret (pc := 73) E (m_dec e11_unfound 42 rfl) rfl
set_option maxHeartbeats 4000000 in
set_option maxRecDepth 20000 in
theorem s11_unfound_c20 {Y : m_Y Int} (S : m_Std Y RX11 cX11_unfound) (E : m_End Y cX11_unfound .ireturn (fun r => [m_i r])) {F : Nat} (hF : m_Rm Y F) (hFn : 4 ≤ F) (hN : Y.2.2.2.1 = 5) (v0 v1 v3 v4 : Int) (h : m_H) : m_Sim Y 20 [(0, m_r v0), (1, m_i v1), (3, m_i v3), (4, m_i v4)] [] h (t11_unfound_x20 20 v0 v1 v3 v4 h) := ms_all fun r e => (s11_unfound_x20 S E hF hFn hN 20 v0 v1 v3 v4 h r e).1 rfl
set_option maxHeartbeats 4000000 in
set_option maxRecDepth 20000 in
theorem s11_unfound_c65 {Y : m_Y Int} (S : m_Std Y RX11 cX11_unfound) (E : m_End Y cX11_unfound .ireturn (fun r => [m_i r])) {F : Nat} (hF : m_Rm Y F) (hFn : 4 ≤ F) (hN : Y.2.2.2.1 = 5) (v0 v1 v3 v4 : Int) (h : m_H) : m_Sim Y 65 [(0, m_r v0), (1, m_i v1), (3, m_i v3), (4, m_i v4)] [] h (t11_unfound_x20 65 v0 v1 v3 v4 h) := ms_all fun r e => (s11_unfound_x20 S E hF hFn hN 65 v0 v1 v3 v4 h r e).2 rfl
set_option maxHeartbeats 4000000 in
set_option maxRecDepth 20000 in
theorem s11_unfound {Y : m_Y Int} (S : m_Std Y RX11 cX11_unfound) (E : m_End Y cX11_unfound .ireturn (fun r => [m_i r])) {F : Nat} (hF : m_Rm Y F) (hFn : 4 ≤ F) (hN : Y.2.2.2.1 = 5) (v0 v1 v2 : Int) (h : m_H) : m_Sim Y 0 [(0, m_r v0), (1, m_i v1), (2, m_i v2)] [] h (t11_unfound v0 v1 v2 h) := by
  unfold t11_unfound
  refine ms_iload_n (pc := 0) S 1 rfl rfl (m_dec e11_unfound 0 rfl) ?_
  refine ms_iload_n (pc := 1) S 2 rfl rfl (m_dec e11_unfound 1 rfl) ?_
  refine ms_callSz (pc := 2) S hF (vals := [m_i v1, m_i v2]) (st := [])  (hC := (k11_canAsk _ _ v1 v2 h)) (hM := lm_X11_576) (hfr := (Nat.le_trans (by decide) hFn)) (hstk := rfl) (hcat := Nat.le_of_ble_eq_true rfl) (hd := (m_dec e11_unfound 2 rfl)) (k1 := fun r2 h1 => ?_)
  refine ms_ifb_ne (pc := 5) S (m_dec e11_unfound 3 rfl) rfl (fun q3 => ?_) (fun q3 => ?_)
  · refine ms_aload_n (pc := 10) S 0 rfl rfl (m_dec e11_unfound 6 rfl) ?_
    refine ms_iload_n (pc := 11) S 2 rfl rfl (m_dec e11_unfound 7 rfl) ?_
    refine ms_grd fun g4 => ?_
    refine ms_callVv (pc := 12) S hF (vals := [m_i v2]) (st := []) (hc := vw_11) (hci := by decide) (hcy := rfl) (ht := g4) (hC := (k11_longest _ _ v0 v2 h1)) (hM := lm_X11_611) (hfr := (Nat.le_trans (by decide) hFn)) (hstk := rfl) (hcat := Nat.le_of_ble_eq_true rfl) (hd := (m_dec e11_unfound 8 rfl)) (k1 := fun h5 => ?_)
    refine ms_iconst (pc := 15) S (m_dec e11_unfound 9 rfl) ?_
    refine ms_istore_n (pc := 16) S (L' := [(0, m_r v0), (1, m_i v1), (3, m_i 0)]) [1, 2, 0] rfl rfl (m_lt hN rfl) (m_dec e11_unfound 10 rfl) ?_
    refine ms_iconst (pc := 17) S (m_dec e11_unfound 11 rfl) ?_
    refine ms_istore (pc := 18) S (L' := [(0, m_r v0), (1, m_i v1), (3, m_i 0), (4, m_i 0)]) [1, 2, 3, 0] rfl (m_lt hN rfl) (m_dec e11_unfound 12 rfl) ?_
    exact s11_unfound_c20 S E hF hFn hN v0 v1 0 0 h5
  · refine ms_iconst (pc := 8) S (m_dec e11_unfound 4 rfl) ?_
    exact ms_ret (pc := 9) E (m_dec e11_unfound 5 rfl) rfl
theorem k11_unfound (l : Launch) (d : m_D) (v0 v1 v2 : Int) (h : m_H) : m_Con l d yX11_unfound cX11_unfound 5 (some .int) 4 (fun r => [m_i r]) [m_r v0, m_i v1, m_i v2] h (t11_unfound v0 v1 v2 h) :=
  m_con2 (by decide +kernel) (Nat.le_of_ble_eq_true rfl) (fun Y hN hRm hr hI S hfin => s11_unfound S (m_end_i S hr hfin) hRm (Nat.le_refl _) hN v0 v1 v2 h)
set_option maxRecDepth 100000 in
theorem e11_count : ∀ q ∈ ([(0, .aload_n 0, 1), (1, .iload_n 1, 1), (2, .bipush 20, 2), (4, .isub, 1), (5, .invokevirtual 511, 3), (8, .ifCond .eq 13, 3), (11, .aload_n 0, 1), (12, .getfield 84, 3), (15, .iload_n 1, 1), (16, .bipush 20, 2), (18, .isub, 1), (19, .iaload, 1), (20, .ireturn, 1), (21, .iconst 0, 1), (22, .istore_n 2, 1), (23, .iload_n 1, 1), (24, .tableswitch 157 0 10 #[60, 65, 70, 105, 110, 115, 120, 125, 130, 135, 140], 60), (84, .aload_n 0, 1), (85, .getfield 285, 3), (88, .ireturn, 1), (89, .aload_n 0, 1), (90, .getfield 265, 3), (93, .ireturn, 1), (94, .iconst 0, 1), (95, .istore_n 3, 1), (96, .iload_n 3, 1), (97, .aload_n 0, 1), (98, .getfield 265, 3), (101, .if_icmp .ge 26, 3), (104, .iload_n 2, 1), (105, .aload_n 0, 1), (106, .getfield 29, 3), (109, .iload_n 3, 1), (110, .iaload, 1), (111, .ifCond .ne 7, 3), (114, .iconst 1, 1), (115, .goto 4, 3), (118, .iconst 0, 1), (119, .iadd, 1), (120, .istore_n 2, 1), (121, .iinc 3 1, 3), (124, .goto (-28), 3), (127, .iload_n 2, 1), (128, .ireturn, 1), (129, .aload_n 0, 1), (130, .getfield 282, 3), (133, .ireturn, 1), (134, .aload_n 0, 1), (135, .getfield 275, 3), (138, .ireturn, 1), (139, .aload_n 0, 1), (140, .getfield 333, 3), (143, .ireturn, 1), (144, .aload_n 0, 1), (145, .getfield 457, 3), (148, .ireturn, 1), (149, .aload_n 0, 1), (150, .getfield 369, 3), (153, .ireturn, 1), (154, .aload_n 0, 1), (155, .getfield 565, 3), (158, .ireturn, 1), (159, .aload_n 0, 1), (160, .getfield 203, 3), (163, .ireturn, 1), (164, .aload_n 0, 1), (165, .getfield 203, 3), (168, .iconst (-1), 1), (169, .if_icmp .ne 7, 3), (172, .iconst (-1), 1), (173, .goto 7, 3), (176, .aload_n 0, 1), (177, .getfield 519, 3), (180, .ireturn, 1), (181, .iconst (-1), 1), (182, .ireturn, 1)] : List (Nat × Instr × Nat)), decode cX11_count q.1 = .ok q.2 := by decide +kernel
set_option maxHeartbeats 4000000 in
set_option maxRecDepth 20000 in
theorem s11_count_c96 {Y : m_Y Int} (S : m_Std Y RX11 cX11_count) (E : m_End Y cX11_count .ireturn (fun r => [m_i r])) {F : Nat} (hF : m_Rm Y F) (hFn : 2 ≤ F) (hN : Y.2.2.2.1 = 4) : ∀ (v0 v2 v3 : Int) (h : m_H), m_Sim Y 96 [(0, m_r v0), (2, m_i v2), (3, m_i v3)] [] h (t11_count_c96 v0 v2 v3 h) := by
  intro v0 v2 v3 h
  refine ms_all fun r e => ?_
  refine t11_count_c96.partial_correctness v0 h (motive := fun v2 v3 r => m_Sim Y 96 [(0, m_r v0), (2, m_i v2), (3, m_i v3)] [] h (some r)) ?_ v2 v3 r e
  intro f ih v2 v3 r e
  have ih : ∀ (v2 v3 : Int) , m_Sim Y 96 [(0, m_r v0), (2, m_i v2), (3, m_i v3)] [] h (f v2 v3 ) := fun v2 v3  => ms_all fun r e => ih v2 v3 r e
  refine ms_use ?_ e
  clear e r
  refine ms_iload_n (pc := 96) S 2 rfl rfl (m_dec e11_count 25 rfl) ?_
  refine ms_aload_n (pc := 97) S 0 rfl rfl (m_dec e11_count 26 rfl) ?_
  refine ms_grd fun g1 => ?_
  refine ms_getf (pc := 98) S lf_X11_265 rfl (m_dec e11_count 27 rfl) g1 ?_
  refine ms_icmp_ge (pc := 101) S (m_dec e11_count 28 rfl) rfl (fun q2 => ?_) (fun q2 => ?_)
  · refine ms_iload_n (pc := 104) S 1 rfl rfl (m_dec e11_count 29 rfl) ?_
    refine ms_aload_n (pc := 105) S 0 rfl rfl (m_dec e11_count 30 rfl) ?_
    refine ms_getf (pc := 106) S lf_X11_29 rfl (m_dec e11_count 31 rfl) g1 ?_
    refine ms_iload_n (pc := 109) S 2 rfl rfl (m_dec e11_count 32 rfl) ?_
    refine ms_grd fun g3 => ?_
    refine ms_iald (pc := 110) S g3 (m_dec e11_count 33 rfl) ?_
    refine ms_if_ne (pc := 111) S (m_dec e11_count 34 rfl) rfl (fun q4 => ?_) (fun q4 => ?_)
    · refine ms_iconst (pc := 114) S (m_dec e11_count 35 rfl) ?_
      refine ms_goto (pc := 115) S (m_dec e11_count 36 rfl) rfl ?_
      refine ms_iadd (pc := 119) S (m_dec e11_count 38 rfl) ?_
      refine ms_nm (st := fun x5 => [m_i x5]) fun x5 => ?_
      refine ms_istore_n (pc := 120) S (L' := [(0, m_r v0), (2, m_i x5), (3, m_i v3)]) [1, 0, 2] rfl rfl (m_lt hN rfl) (m_dec e11_count 39 rfl) ?_
      refine ms_iinc (pc := 121) S (L' := [(0, m_r v0), (2, m_i x5), (3, m_i (v3 + 1))]) 2 rfl [1, 2, 0] rfl (m_lt hN rfl) (m_dec e11_count 40 rfl) ?_
      refine ms_goto (pc := 124) S (m_dec e11_count 41 rfl) rfl ?_
      exact ih x5 (v3 + 1)
    · refine ms_iconst (pc := 118) S (m_dec e11_count 37 rfl) ?_
      refine ms_iadd (pc := 119) S (m_dec e11_count 38 rfl) ?_
      refine ms_nm (st := fun x6 => [m_i x6]) fun x6 => ?_
      refine ms_istore_n (pc := 120) S (L' := [(0, m_r v0), (2, m_i x6), (3, m_i v3)]) [1, 0, 2] rfl rfl (m_lt hN rfl) (m_dec e11_count 39 rfl) ?_
      refine ms_iinc (pc := 121) S (L' := [(0, m_r v0), (2, m_i x6), (3, m_i (v3 + 1))]) 2 rfl [1, 2, 0] rfl (m_lt hN rfl) (m_dec e11_count 40 rfl) ?_
      refine ms_goto (pc := 124) S (m_dec e11_count 41 rfl) rfl ?_
      exact ih x6 (v3 + 1)
  · refine ms_iload_n (pc := 127) S 1 rfl rfl (m_dec e11_count 42 rfl) ?_
    exact ms_ret (pc := 128) E (m_dec e11_count 43 rfl) rfl
set_option maxHeartbeats 4000000 in
set_option maxRecDepth 20000 in
theorem s11_count {Y : m_Y Int} (S : m_Std Y RX11 cX11_count) (E : m_End Y cX11_count .ireturn (fun r => [m_i r])) {F : Nat} (hF : m_Rm Y F) (hFn : 2 ≤ F) (hN : Y.2.2.2.1 = 4) (v0 v1 : Int) (h : m_H) : m_Sim Y 0 [(0, m_r v0), (1, m_i v1)] [] h (t11_count v0 v1 h) := by
  unfold t11_count
  refine ms_aload_n (pc := 0) S 0 rfl rfl (m_dec e11_count 0 rfl) ?_
  refine ms_iload_n (pc := 1) S 1 rfl rfl (m_dec e11_count 1 rfl) ?_
  refine ms_bipush (pc := 2) S (m_dec e11_count 2 rfl) rfl ?_
  refine ms_isub (pc := 4) S (m_dec e11_count 3 rfl) ?_
  refine ms_grd fun g1 => ?_
  refine ms_callVz (pc := 5) S hF (vals := [m_i (v1 - 20)]) (st := []) (hc := vw_11) (hci := by decide) (hcy := rfl) (ht := g1) (hC := (k11_isScore _ _ v0 (v1 - 20) h)) (hM := lm_X11_511) (hfr := (Nat.le_trans (by decide) hFn)) (hstk := rfl) (hcat := Nat.le_of_ble_eq_true rfl) (hd := (m_dec e11_count 4 rfl)) (k1 := fun r3 h2 => ?_)
  refine ms_ifb_eq (pc := 8) S (m_dec e11_count 5 rfl) rfl (fun q4 => ?_) (fun q4 => ?_)
  · refine ms_aload_n (pc := 11) S 0 rfl rfl (m_dec e11_count 6 rfl) ?_
    refine ms_grd fun g5 => ?_
    refine ms_getf (pc := 12) S lf_X11_84 rfl (m_dec e11_count 7 rfl) g5 ?_
    refine ms_iload_n (pc := 15) S 1 rfl rfl (m_dec e11_count 8 rfl) ?_
    refine ms_bipush (pc := 16) S (m_dec e11_count 9 rfl) rfl ?_
    refine ms_isub (pc := 18) S (m_dec e11_count 10 rfl) ?_
    refine ms_grd fun g6 => ?_
    refine ms_iald (pc := 19) S g6 (m_dec e11_count 11 rfl) ?_
    exact ms_ret (pc := 20) E (m_dec e11_count 12 rfl) rfl
  · refine ms_iconst (pc := 21) S (m_dec e11_count 13 rfl) ?_
    refine ms_istore_n (pc := 22) S (L' := [(0, m_r v0), (1, m_i v1), (2, m_i 0)]) [1, 2, 0] rfl rfl (m_lt hN rfl) (m_dec e11_count 14 rfl) ?_
    refine ms_iload_n (pc := 23) S 1 rfl rfl (m_dec e11_count 15 rfl) ?_
    refine ms_ite (fun q7 => ?_) (fun q7 => ?_)
    · refine ms_swIn (pc := 24) S (m_dec e11_count 16 rfl) 0 q7 (by decide) (by decide) rfl rfl ?_
      refine ms_aload_n (pc := 84) S 0 rfl rfl (m_dec e11_count 17 rfl) ?_
      refine ms_grd fun g8 => ?_
      refine ms_getf (pc := 85) S lf_X11_285 rfl (m_dec e11_count 18 rfl) g8 ?_
      exact ms_ret (pc := 88) E (m_dec e11_count 19 rfl) rfl
    · refine ms_ite (fun q9 => ?_) (fun q9 => ?_)
      · refine ms_swIn (pc := 24) S (m_dec e11_count 16 rfl) 1 q9 (by decide) (by decide) rfl rfl ?_
        refine ms_aload_n (pc := 89) S 0 rfl rfl (m_dec e11_count 20 rfl) ?_
        refine ms_grd fun g10 => ?_
        refine ms_getf (pc := 90) S lf_X11_265 rfl (m_dec e11_count 21 rfl) g10 ?_
        exact ms_ret (pc := 93) E (m_dec e11_count 22 rfl) rfl
      · refine ms_ite (fun q11 => ?_) (fun q11 => ?_)
        · refine ms_swIn (pc := 24) S (m_dec e11_count 16 rfl) 2 q11 (by decide) (by decide) rfl rfl ?_
          refine ms_iconst (pc := 94) S (m_dec e11_count 23 rfl) ?_
          refine ms_istore_n (pc := 95) S (L' := [(0, m_r v0), (2, m_i 0), (3, m_i 0)]) [1, 3, 0] rfl rfl (m_lt hN rfl) (m_dec e11_count 24 rfl) ?_
          exact s11_count_c96 S E hF hFn hN v0 0 0 h2
        · refine ms_ite (fun q12 => ?_) (fun q12 => ?_)
          · refine ms_swIn (pc := 24) S (m_dec e11_count 16 rfl) 3 q12 (by decide) (by decide) rfl rfl ?_
            refine ms_aload_n (pc := 129) S 0 rfl rfl (m_dec e11_count 44 rfl) ?_
            refine ms_grd fun g13 => ?_
            refine ms_getf (pc := 130) S lf_X11_282 rfl (m_dec e11_count 45 rfl) g13 ?_
            exact ms_ret (pc := 133) E (m_dec e11_count 46 rfl) rfl
          · refine ms_ite (fun q14 => ?_) (fun q14 => ?_)
            · refine ms_swIn (pc := 24) S (m_dec e11_count 16 rfl) 4 q14 (by decide) (by decide) rfl rfl ?_
              refine ms_aload_n (pc := 134) S 0 rfl rfl (m_dec e11_count 47 rfl) ?_
              refine ms_grd fun g15 => ?_
              refine ms_getf (pc := 135) S lf_X11_275 rfl (m_dec e11_count 48 rfl) g15 ?_
              exact ms_ret (pc := 138) E (m_dec e11_count 49 rfl) rfl
            · refine ms_ite (fun q16 => ?_) (fun q16 => ?_)
              · refine ms_swIn (pc := 24) S (m_dec e11_count 16 rfl) 5 q16 (by decide) (by decide) rfl rfl ?_
                refine ms_aload_n (pc := 139) S 0 rfl rfl (m_dec e11_count 50 rfl) ?_
                refine ms_grd fun g17 => ?_
                refine ms_getf (pc := 140) S lf_X11_333 rfl (m_dec e11_count 51 rfl) g17 ?_
                exact ms_ret (pc := 143) E (m_dec e11_count 52 rfl) rfl
              · refine ms_ite (fun q18 => ?_) (fun q18 => ?_)
                · refine ms_swIn (pc := 24) S (m_dec e11_count 16 rfl) 6 q18 (by decide) (by decide) rfl rfl ?_
                  refine ms_aload_n (pc := 144) S 0 rfl rfl (m_dec e11_count 53 rfl) ?_
                  refine ms_grd fun g19 => ?_
                  refine ms_getf (pc := 145) S lf_X11_457 rfl (m_dec e11_count 54 rfl) g19 ?_
                  exact ms_ret (pc := 148) E (m_dec e11_count 55 rfl) rfl
                · refine ms_ite (fun q20 => ?_) (fun q20 => ?_)
                  · refine ms_swIn (pc := 24) S (m_dec e11_count 16 rfl) 7 q20 (by decide) (by decide) rfl rfl ?_
                    refine ms_aload_n (pc := 149) S 0 rfl rfl (m_dec e11_count 56 rfl) ?_
                    refine ms_grd fun g21 => ?_
                    refine ms_getf (pc := 150) S lf_X11_369 rfl (m_dec e11_count 57 rfl) g21 ?_
                    exact ms_ret (pc := 153) E (m_dec e11_count 58 rfl) rfl
                  · refine ms_ite (fun q22 => ?_) (fun q22 => ?_)
                    · refine ms_swIn (pc := 24) S (m_dec e11_count 16 rfl) 8 q22 (by decide) (by decide) rfl rfl ?_
                      refine ms_aload_n (pc := 154) S 0 rfl rfl (m_dec e11_count 59 rfl) ?_
                      refine ms_grd fun g23 => ?_
                      refine ms_getf (pc := 155) S lf_X11_565 rfl (m_dec e11_count 60 rfl) g23 ?_
                      exact ms_ret (pc := 158) E (m_dec e11_count 61 rfl) rfl
                    · refine ms_ite (fun q24 => ?_) (fun q24 => ?_)
                      · refine ms_swIn (pc := 24) S (m_dec e11_count 16 rfl) 9 q24 (by decide) (by decide) rfl rfl ?_
                        refine ms_aload_n (pc := 159) S 0 rfl rfl (m_dec e11_count 62 rfl) ?_
                        refine ms_grd fun g25 => ?_
                        refine ms_getf (pc := 160) S lf_X11_203 rfl (m_dec e11_count 63 rfl) g25 ?_
                        exact ms_ret (pc := 163) E (m_dec e11_count 64 rfl) rfl
                      · refine ms_ite (fun q26 => ?_) (fun q26 => ?_)
                        · refine ms_swIn (pc := 24) S (m_dec e11_count 16 rfl) 10 q26 (by decide) (by decide) rfl rfl ?_
                          refine ms_aload_n (pc := 164) S 0 rfl rfl (m_dec e11_count 65 rfl) ?_
                          refine ms_grd fun g27 => ?_
                          refine ms_getf (pc := 165) S lf_X11_203 rfl (m_dec e11_count 66 rfl) g27 ?_
                          refine ms_iconst (pc := 168) S (m_dec e11_count 67 rfl) ?_
                          refine ms_icmp_ne (pc := 169) S (m_dec e11_count 68 rfl) rfl (fun q28 => ?_) (fun q28 => ?_)
                          · refine ms_iconst (pc := 172) S (m_dec e11_count 69 rfl) ?_
                            refine ms_goto (pc := 173) S (m_dec e11_count 70 rfl) rfl ?_
                            exact ms_ret (pc := 180) E (m_dec e11_count 73 rfl) rfl
                          · refine ms_aload_n (pc := 176) S 0 rfl rfl (m_dec e11_count 71 rfl) ?_
                            refine ms_getf (pc := 177) S lf_X11_519 rfl (m_dec e11_count 72 rfl) g27 ?_
                            exact ms_ret (pc := 180) E (m_dec e11_count 73 rfl) rfl
                        · refine ms_swOut (pc := 24) (a := v1) S (m_dec e11_count 16 rfl) (by omega) rfl ?_
                          refine ms_iconst (pc := 181) S (m_dec e11_count 74 rfl) ?_
                          exact ms_ret (pc := 182) E (m_dec e11_count 75 rfl) rfl
theorem k11_count (l : Launch) (d : m_D) (v0 v1 : Int) (h : m_H) : m_Con l d yX11_count cX11_count 4 (some .int) 2 (fun r => [m_i r]) [m_r v0, m_i v1] h (t11_count v0 v1 h) :=
  m_con2 (by decide +kernel) (Nat.le_of_ble_eq_true rfl) (fun Y hN hRm hr hI S hfin => s11_count S (m_end_i S hr hfin) hRm (Nat.le_refl _) hN v0 v1 h)
